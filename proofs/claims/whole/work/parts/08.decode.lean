theorem dX0_init_0 : decode cX0_init 0 = .ok (.aload_n 0, 1) := by decide +kernel
theorem dX0_init_1 : decode cX0_init 1 = .ok (.invokespecial 3, 3) := by decide +kernel
theorem dX0_init_4 : decode cX0_init 4 = .ok (.aload_n 0, 1) := by decide +kernel
theorem dX0_init_5 : decode cX0_init 5 = .ok (.bipush 8, 2) := by decide +kernel
theorem dX0_init_7 : decode cX0_init 7 = .ok (.newarray .int, 2) := by decide +kernel
theorem dX0_init_9 : decode cX0_init 9 = .ok (.putfield 9, 3) := by decide +kernel
theorem dX0_init_12 : decode cX0_init 12 = .ok (.aload_n 0, 1) := by decide +kernel
theorem dX0_init_13 : decode cX0_init 13 = .ok (.bipush 8, 2) := by decide +kernel
theorem dX0_init_15 : decode cX0_init 15 = .ok (.newarray .int, 2) := by decide +kernel
theorem dX0_init_17 : decode cX0_init 17 = .ok (.putfield 15, 3) := by decide +kernel
theorem dX0_init_20 : decode cX0_init 20 = .ok (.aload_n 0, 1) := by decide +kernel
theorem dX0_init_21 : decode cX0_init 21 = .ok (.bipush 8, 2) := by decide +kernel
theorem dX0_init_23 : decode cX0_init 23 = .ok (.newarray .int, 2) := by decide +kernel
theorem dX0_init_25 : decode cX0_init 25 = .ok (.putfield 18, 3) := by decide +kernel
theorem dX0_init_28 : decode cX0_init 28 = .ok (.aload_n 0, 1) := by decide +kernel
theorem dX0_init_29 : decode cX0_init 29 = .ok (.bipush 8, 2) := by decide +kernel
theorem dX0_init_31 : decode cX0_init 31 = .ok (.newarray .int, 2) := by decide +kernel
theorem dX0_init_33 : decode cX0_init 33 = .ok (.putfield 21, 3) := by decide +kernel
theorem dX0_init_36 : decode cX0_init 36 = .ok (.aload_n 0, 1) := by decide +kernel
theorem dX0_init_37 : decode cX0_init 37 = .ok (.bipush 8, 2) := by decide +kernel
theorem dX0_init_39 : decode cX0_init 39 = .ok (.newarray .int, 2) := by decide +kernel
theorem dX0_init_41 : decode cX0_init 41 = .ok (.putfield 24, 3) := by decide +kernel
theorem dX0_init_44 : decode cX0_init 44 = .ok (.aload_n 0, 1) := by decide +kernel
theorem dX0_init_45 : decode cX0_init 45 = .ok (.bipush 40, 2) := by decide +kernel
theorem dX0_init_47 : decode cX0_init 47 = .ok (.newarray .int, 2) := by decide +kernel
theorem dX0_init_49 : decode cX0_init 49 = .ok (.putfield 27, 3) := by decide +kernel
theorem dX0_init_52 : decode cX0_init 52 = .ok (.aload_n 0, 1) := by decide +kernel
theorem dX0_init_53 : decode cX0_init 53 = .ok (.iconst 0, 1) := by decide +kernel
theorem dX0_init_54 : decode cX0_init 54 = .ok (.putfield 30, 3) := by decide +kernel
theorem dX0_init_57 : decode cX0_init 57 = .ok (.aload_n 0, 1) := by decide +kernel
theorem dX0_init_58 : decode cX0_init 58 = .ok (.iconst 0, 1) := by decide +kernel
theorem dX0_init_59 : decode cX0_init 59 = .ok (.putfield 34, 3) := by decide +kernel
theorem dX0_init_62 : decode cX0_init 62 = .ok (.aload_n 0, 1) := by decide +kernel
theorem dX0_init_63 : decode cX0_init 63 = .ok (.iconst 0, 1) := by decide +kernel
theorem dX0_init_64 : decode cX0_init 64 = .ok (.putfield 37, 3) := by decide +kernel
theorem dX0_init_67 : decode cX0_init 67 = .ok (.aload_n 0, 1) := by decide +kernel
theorem dX0_init_68 : decode cX0_init 68 = .ok (.iconst 0, 1) := by decide +kernel
theorem dX0_init_69 : decode cX0_init 69 = .ok (.putfield 40, 3) := by decide +kernel
theorem dX0_init_72 : decode cX0_init 72 = .ok (.return_, 1) := by decide +kernel
theorem dX0_clear_0 : decode cX0_clear 0 = .ok (.aload_n 0, 1) := by decide +kernel
theorem dX0_clear_1 : decode cX0_clear 1 = .ok (.iconst 0, 1) := by decide +kernel
theorem dX0_clear_2 : decode cX0_clear 2 = .ok (.putfield 30, 3) := by decide +kernel
theorem dX0_clear_5 : decode cX0_clear 5 = .ok (.aload_n 0, 1) := by decide +kernel
theorem dX0_clear_6 : decode cX0_clear 6 = .ok (.iconst 0, 1) := by decide +kernel
theorem dX0_clear_7 : decode cX0_clear 7 = .ok (.putfield 34, 3) := by decide +kernel
theorem dX0_clear_10 : decode cX0_clear 10 = .ok (.aload_n 0, 1) := by decide +kernel
theorem dX0_clear_11 : decode cX0_clear 11 = .ok (.iconst 0, 1) := by decide +kernel
theorem dX0_clear_12 : decode cX0_clear 12 = .ok (.putfield 37, 3) := by decide +kernel
theorem dX0_clear_15 : decode cX0_clear 15 = .ok (.aload_n 0, 1) := by decide +kernel
theorem dX0_clear_16 : decode cX0_clear 16 = .ok (.iconst 0, 1) := by decide +kernel
theorem dX0_clear_17 : decode cX0_clear 17 = .ok (.putfield 40, 3) := by decide +kernel
theorem dX0_clear_20 : decode cX0_clear 20 = .ok (.return_, 1) := by decide +kernel
theorem dX0_add_0 : decode cX0_add 0 = .ok (.aload_n 0, 1) := by decide +kernel
theorem dX0_add_1 : decode cX0_add 1 = .ok (.getfield 30, 3) := by decide +kernel
theorem dX0_add_4 : decode cX0_add 4 = .ok (.bipush 8, 2) := by decide +kernel
theorem dX0_add_6 : decode cX0_add 6 = .ok (.if_icmp .ge 80, 3) := by decide +kernel
theorem dX0_add_9 : decode cX0_add 9 = .ok (.aload_n 0, 1) := by decide +kernel
theorem dX0_add_10 : decode cX0_add 10 = .ok (.getfield 9, 3) := by decide +kernel
theorem dX0_add_13 : decode cX0_add 13 = .ok (.aload_n 0, 1) := by decide +kernel
theorem dX0_add_14 : decode cX0_add 14 = .ok (.getfield 30, 3) := by decide +kernel
theorem dX0_add_17 : decode cX0_add 17 = .ok (.iload_n 1, 1) := by decide +kernel
theorem dX0_add_18 : decode cX0_add 18 = .ok (.iastore, 1) := by decide +kernel
theorem dX0_add_19 : decode cX0_add 19 = .ok (.aload_n 0, 1) := by decide +kernel
theorem dX0_add_20 : decode cX0_add 20 = .ok (.getfield 15, 3) := by decide +kernel
theorem dX0_add_23 : decode cX0_add 23 = .ok (.aload_n 0, 1) := by decide +kernel
theorem dX0_add_24 : decode cX0_add 24 = .ok (.getfield 30, 3) := by decide +kernel
theorem dX0_add_27 : decode cX0_add 27 = .ok (.iload_n 2, 1) := by decide +kernel
theorem dX0_add_28 : decode cX0_add 28 = .ok (.iastore, 1) := by decide +kernel
theorem dX0_add_29 : decode cX0_add 29 = .ok (.aload_n 0, 1) := by decide +kernel
theorem dX0_add_30 : decode cX0_add 30 = .ok (.getfield 18, 3) := by decide +kernel
theorem dX0_add_33 : decode cX0_add 33 = .ok (.aload_n 0, 1) := by decide +kernel
theorem dX0_add_34 : decode cX0_add 34 = .ok (.getfield 30, 3) := by decide +kernel
theorem dX0_add_37 : decode cX0_add 37 = .ok (.iload_n 3, 1) := by decide +kernel
theorem dX0_add_38 : decode cX0_add 38 = .ok (.iastore, 1) := by decide +kernel
theorem dX0_add_39 : decode cX0_add 39 = .ok (.aload_n 0, 1) := by decide +kernel
theorem dX0_add_40 : decode cX0_add 40 = .ok (.getfield 21, 3) := by decide +kernel
theorem dX0_add_43 : decode cX0_add 43 = .ok (.aload_n 0, 1) := by decide +kernel
theorem dX0_add_44 : decode cX0_add 44 = .ok (.getfield 30, 3) := by decide +kernel
theorem dX0_add_47 : decode cX0_add 47 = .ok (.iload 4, 2) := by decide +kernel
theorem dX0_add_49 : decode cX0_add 49 = .ok (.iastore, 1) := by decide +kernel
theorem dX0_add_50 : decode cX0_add 50 = .ok (.aload_n 0, 1) := by decide +kernel
theorem dX0_add_51 : decode cX0_add 51 = .ok (.getfield 24, 3) := by decide +kernel
theorem dX0_add_54 : decode cX0_add 54 = .ok (.aload_n 0, 1) := by decide +kernel
theorem dX0_add_55 : decode cX0_add 55 = .ok (.getfield 30, 3) := by decide +kernel
theorem dX0_add_58 : decode cX0_add 58 = .ok (.iload 5, 2) := by decide +kernel
theorem dX0_add_60 : decode cX0_add 60 = .ok (.iastore, 1) := by decide +kernel
theorem dX0_add_61 : decode cX0_add 61 = .ok (.aload_n 0, 1) := by decide +kernel
theorem dX0_add_62 : decode cX0_add 62 = .ok (.dup, 1) := by decide +kernel
theorem dX0_add_63 : decode cX0_add 63 = .ok (.getfield 34, 3) := by decide +kernel
theorem dX0_add_66 : decode cX0_add 66 = .ok (.iconst 1, 1) := by decide +kernel
theorem dX0_add_67 : decode cX0_add 67 = .ok (.aload_n 0, 1) := by decide +kernel
theorem dX0_add_68 : decode cX0_add 68 = .ok (.getfield 30, 3) := by decide +kernel
theorem dX0_add_71 : decode cX0_add 71 = .ok (.ishl, 1) := by decide +kernel
theorem dX0_add_72 : decode cX0_add 72 = .ok (.ior, 1) := by decide +kernel
theorem dX0_add_73 : decode cX0_add 73 = .ok (.putfield 34, 3) := by decide +kernel
theorem dX0_add_76 : decode cX0_add 76 = .ok (.aload_n 0, 1) := by decide +kernel
theorem dX0_add_77 : decode cX0_add 77 = .ok (.dup, 1) := by decide +kernel
theorem dX0_add_78 : decode cX0_add 78 = .ok (.getfield 30, 3) := by decide +kernel
theorem dX0_add_81 : decode cX0_add 81 = .ok (.iconst 1, 1) := by decide +kernel
theorem dX0_add_82 : decode cX0_add 82 = .ok (.iadd, 1) := by decide +kernel
theorem dX0_add_83 : decode cX0_add 83 = .ok (.putfield 30, 3) := by decide +kernel
theorem dX0_add_86 : decode cX0_add 86 = .ok (.return_, 1) := by decide +kernel
theorem dX0_become_0 : decode cX0_become 0 = .ok (.aload_n 1, 1) := by decide +kernel
theorem dX0_become_1 : decode cX0_become 1 = .ok (.ifnonnull 4, 3) := by decide +kernel
theorem dX0_become_4 : decode cX0_become 4 = .ok (.return_, 1) := by decide +kernel
theorem dX0_become_5 : decode cX0_become 5 = .ok (.aload_n 1, 1) := by decide +kernel
theorem dX0_become_6 : decode cX0_become 6 = .ok (.getfield 9, 3) := by decide +kernel
theorem dX0_become_9 : decode cX0_become 9 = .ok (.iconst 0, 1) := by decide +kernel
theorem dX0_become_10 : decode cX0_become 10 = .ok (.aload_n 0, 1) := by decide +kernel
theorem dX0_become_11 : decode cX0_become 11 = .ok (.getfield 9, 3) := by decide +kernel
theorem dX0_become_14 : decode cX0_become 14 = .ok (.iconst 0, 1) := by decide +kernel
theorem dX0_become_15 : decode cX0_become 15 = .ok (.bipush 8, 2) := by decide +kernel
theorem dX0_become_17 : decode cX0_become 17 = .ok (.invokestatic 43, 3) := by decide +kernel
theorem dX0_become_20 : decode cX0_become 20 = .ok (.aload_n 1, 1) := by decide +kernel
theorem dX0_become_21 : decode cX0_become 21 = .ok (.getfield 15, 3) := by decide +kernel
theorem dX0_become_24 : decode cX0_become 24 = .ok (.iconst 0, 1) := by decide +kernel
theorem dX0_become_25 : decode cX0_become 25 = .ok (.aload_n 0, 1) := by decide +kernel
theorem dX0_become_26 : decode cX0_become 26 = .ok (.getfield 15, 3) := by decide +kernel
theorem dX0_become_29 : decode cX0_become 29 = .ok (.iconst 0, 1) := by decide +kernel
theorem dX0_become_30 : decode cX0_become 30 = .ok (.bipush 8, 2) := by decide +kernel
theorem dX0_become_32 : decode cX0_become 32 = .ok (.invokestatic 43, 3) := by decide +kernel
theorem dX0_become_35 : decode cX0_become 35 = .ok (.aload_n 1, 1) := by decide +kernel
theorem dX0_become_36 : decode cX0_become 36 = .ok (.getfield 18, 3) := by decide +kernel
theorem dX0_become_39 : decode cX0_become 39 = .ok (.iconst 0, 1) := by decide +kernel
theorem dX0_become_40 : decode cX0_become 40 = .ok (.aload_n 0, 1) := by decide +kernel
theorem dX0_become_41 : decode cX0_become 41 = .ok (.getfield 18, 3) := by decide +kernel
theorem dX0_become_44 : decode cX0_become 44 = .ok (.iconst 0, 1) := by decide +kernel
theorem dX0_become_45 : decode cX0_become 45 = .ok (.bipush 8, 2) := by decide +kernel
theorem dX0_become_47 : decode cX0_become 47 = .ok (.invokestatic 43, 3) := by decide +kernel
theorem dX0_become_50 : decode cX0_become 50 = .ok (.aload_n 1, 1) := by decide +kernel
theorem dX0_become_51 : decode cX0_become 51 = .ok (.getfield 21, 3) := by decide +kernel
theorem dX0_become_54 : decode cX0_become 54 = .ok (.iconst 0, 1) := by decide +kernel
theorem dX0_become_55 : decode cX0_become 55 = .ok (.aload_n 0, 1) := by decide +kernel
theorem dX0_become_56 : decode cX0_become 56 = .ok (.getfield 21, 3) := by decide +kernel
theorem dX0_become_59 : decode cX0_become 59 = .ok (.iconst 0, 1) := by decide +kernel
theorem dX0_become_60 : decode cX0_become 60 = .ok (.bipush 8, 2) := by decide +kernel
theorem dX0_become_62 : decode cX0_become 62 = .ok (.invokestatic 43, 3) := by decide +kernel
theorem dX0_become_65 : decode cX0_become 65 = .ok (.aload_n 1, 1) := by decide +kernel
theorem dX0_become_66 : decode cX0_become 66 = .ok (.getfield 24, 3) := by decide +kernel
theorem dX0_become_69 : decode cX0_become 69 = .ok (.iconst 0, 1) := by decide +kernel
theorem dX0_become_70 : decode cX0_become 70 = .ok (.aload_n 0, 1) := by decide +kernel
theorem dX0_become_71 : decode cX0_become 71 = .ok (.getfield 24, 3) := by decide +kernel
theorem dX0_become_74 : decode cX0_become 74 = .ok (.iconst 0, 1) := by decide +kernel
theorem dX0_become_75 : decode cX0_become 75 = .ok (.bipush 8, 2) := by decide +kernel
theorem dX0_become_77 : decode cX0_become 77 = .ok (.invokestatic 43, 3) := by decide +kernel
theorem dX0_become_80 : decode cX0_become 80 = .ok (.aload_n 1, 1) := by decide +kernel
theorem dX0_become_81 : decode cX0_become 81 = .ok (.getfield 27, 3) := by decide +kernel
theorem dX0_become_84 : decode cX0_become 84 = .ok (.iconst 0, 1) := by decide +kernel
theorem dX0_become_85 : decode cX0_become 85 = .ok (.aload_n 0, 1) := by decide +kernel
theorem dX0_become_86 : decode cX0_become 86 = .ok (.getfield 27, 3) := by decide +kernel
theorem dX0_become_89 : decode cX0_become 89 = .ok (.iconst 0, 1) := by decide +kernel
theorem dX0_become_90 : decode cX0_become 90 = .ok (.bipush 40, 2) := by decide +kernel
theorem dX0_become_92 : decode cX0_become 92 = .ok (.invokestatic 43, 3) := by decide +kernel
theorem dX0_become_95 : decode cX0_become 95 = .ok (.aload_n 0, 1) := by decide +kernel
theorem dX0_become_96 : decode cX0_become 96 = .ok (.aload_n 1, 1) := by decide +kernel
theorem dX0_become_97 : decode cX0_become 97 = .ok (.getfield 30, 3) := by decide +kernel
theorem dX0_become_100 : decode cX0_become 100 = .ok (.putfield 30, 3) := by decide +kernel
theorem dX0_become_103 : decode cX0_become 103 = .ok (.aload_n 0, 1) := by decide +kernel
theorem dX0_become_104 : decode cX0_become 104 = .ok (.aload_n 1, 1) := by decide +kernel
theorem dX0_become_105 : decode cX0_become 105 = .ok (.getfield 34, 3) := by decide +kernel
theorem dX0_become_108 : decode cX0_become 108 = .ok (.putfield 34, 3) := by decide +kernel
theorem dX0_become_111 : decode cX0_become 111 = .ok (.aload_n 0, 1) := by decide +kernel
theorem dX0_become_112 : decode cX0_become 112 = .ok (.aload_n 1, 1) := by decide +kernel
theorem dX0_become_113 : decode cX0_become 113 = .ok (.getfield 37, 3) := by decide +kernel
theorem dX0_become_116 : decode cX0_become 116 = .ok (.putfield 37, 3) := by decide +kernel
theorem dX0_become_119 : decode cX0_become 119 = .ok (.aload_n 0, 1) := by decide +kernel
theorem dX0_become_120 : decode cX0_become 120 = .ok (.aload_n 1, 1) := by decide +kernel
theorem dX0_become_121 : decode cX0_become 121 = .ok (.getfield 40, 3) := by decide +kernel
theorem dX0_become_124 : decode cX0_become 124 = .ok (.putfield 40, 3) := by decide +kernel
theorem dX0_become_127 : decode cX0_become 127 = .ok (.return_, 1) := by decide +kernel
theorem dX0_size_0 : decode cX0_size 0 = .ok (.aload_n 0, 1) := by decide +kernel
theorem dX0_size_1 : decode cX0_size 1 = .ok (.getfield 30, 3) := by decide +kernel
theorem dX0_size_4 : decode cX0_size 4 = .ok (.ireturn, 1) := by decide +kernel
theorem dX0_thisNight_0 : decode cX0_thisNight 0 = .ok (.aload_n 0, 1) := by decide +kernel
theorem dX0_thisNight_1 : decode cX0_thisNight 1 = .ok (.getfield 37, 3) := by decide +kernel
theorem dX0_thisNight_4 : decode cX0_thisNight 4 = .ok (.ireturn, 1) := by decide +kernel
theorem dX0_deedsDone_0 : decode cX0_deedsDone 0 = .ok (.aload_n 0, 1) := by decide +kernel
theorem dX0_deedsDone_1 : decode cX0_deedsDone 1 = .ok (.getfield 40, 3) := by decide +kernel
theorem dX0_deedsDone_4 : decode cX0_deedsDone 4 = .ok (.ireturn, 1) := by decide +kernel
theorem dX0_litSet_0 : decode cX0_litSet 0 = .ok (.aload_n 0, 1) := by decide +kernel
theorem dX0_litSet_1 : decode cX0_litSet 1 = .ok (.getfield 34, 3) := by decide +kernel
theorem dX0_litSet_4 : decode cX0_litSet 4 = .ok (.ireturn, 1) := by decide +kernel
theorem dX0_has_0 : decode cX0_has 0 = .ok (.iload_n 1, 1) := by decide +kernel
theorem dX0_has_1 : decode cX0_has 1 = .ok (.ifCond .lt 15, 3) := by decide +kernel
theorem dX0_has_4 : decode cX0_has 4 = .ok (.iload_n 1, 1) := by decide +kernel
theorem dX0_has_5 : decode cX0_has 5 = .ok (.aload_n 0, 1) := by decide +kernel
theorem dX0_has_6 : decode cX0_has 6 = .ok (.getfield 30, 3) := by decide +kernel
theorem dX0_has_9 : decode cX0_has 9 = .ok (.if_icmp .ge 7, 3) := by decide +kernel
theorem dX0_has_12 : decode cX0_has 12 = .ok (.iconst 1, 1) := by decide +kernel
theorem dX0_has_13 : decode cX0_has 13 = .ok (.goto 4, 3) := by decide +kernel
theorem dX0_has_16 : decode cX0_has 16 = .ok (.iconst 0, 1) := by decide +kernel
theorem dX0_has_17 : decode cX0_has 17 = .ok (.ireturn, 1) := by decide +kernel
theorem dX0_isLit_0 : decode cX0_isLit 0 = .ok (.aload_n 0, 1) := by decide +kernel
theorem dX0_isLit_1 : decode cX0_isLit 1 = .ok (.iload_n 1, 1) := by decide +kernel
theorem dX0_isLit_2 : decode cX0_isLit 2 = .ok (.invokevirtual 49, 3) := by decide +kernel
theorem dX0_isLit_5 : decode cX0_isLit 5 = .ok (.ifCond .eq 19, 3) := by decide +kernel
theorem dX0_isLit_8 : decode cX0_isLit 8 = .ok (.aload_n 0, 1) := by decide +kernel
theorem dX0_isLit_9 : decode cX0_isLit 9 = .ok (.getfield 34, 3) := by decide +kernel
theorem dX0_isLit_12 : decode cX0_isLit 12 = .ok (.iload_n 1, 1) := by decide +kernel
theorem dX0_isLit_13 : decode cX0_isLit 13 = .ok (.ishr, 1) := by decide +kernel
theorem dX0_isLit_14 : decode cX0_isLit 14 = .ok (.iconst 1, 1) := by decide +kernel
theorem dX0_isLit_15 : decode cX0_isLit 15 = .ok (.iand, 1) := by decide +kernel
theorem dX0_isLit_16 : decode cX0_isLit 16 = .ok (.iconst 1, 1) := by decide +kernel
theorem dX0_isLit_17 : decode cX0_isLit 17 = .ok (.if_icmp .ne 7, 3) := by decide +kernel
theorem dX0_isLit_20 : decode cX0_isLit 20 = .ok (.iconst 1, 1) := by decide +kernel
theorem dX0_isLit_21 : decode cX0_isLit 21 = .ok (.goto 4, 3) := by decide +kernel
theorem dX0_isLit_24 : decode cX0_isLit 24 = .ok (.iconst 0, 1) := by decide +kernel
theorem dX0_isLit_25 : decode cX0_isLit 25 = .ok (.ireturn, 1) := by decide +kernel
theorem dX0_isOwing_0 : decode cX0_isOwing 0 = .ok (.aload_n 0, 1) := by decide +kernel
theorem dX0_isOwing_1 : decode cX0_isOwing 1 = .ok (.iload_n 1, 1) := by decide +kernel
theorem dX0_isOwing_2 : decode cX0_isOwing 2 = .ok (.invokevirtual 53, 3) := by decide +kernel
theorem dX0_isOwing_5 : decode cX0_isOwing 5 = .ok (.ifCond .eq 19, 3) := by decide +kernel
theorem dX0_isOwing_8 : decode cX0_isOwing 8 = .ok (.aload_n 0, 1) := by decide +kernel
theorem dX0_isOwing_9 : decode cX0_isOwing 9 = .ok (.iload_n 1, 1) := by decide +kernel
theorem dX0_isOwing_10 : decode cX0_isOwing 10 = .ok (.invokevirtual 56, 3) := by decide +kernel
theorem dX0_isOwing_13 : decode cX0_isOwing 13 = .ok (.iconst 3, 1) := by decide +kernel
theorem dX0_isOwing_14 : decode cX0_isOwing 14 = .ok (.invokestatic 60, 3) := by decide +kernel
theorem dX0_isOwing_17 : decode cX0_isOwing 17 = .ok (.ifCond .ne 7, 3) := by decide +kernel
theorem dX0_isOwing_20 : decode cX0_isOwing 20 = .ok (.iconst 1, 1) := by decide +kernel
theorem dX0_isOwing_21 : decode cX0_isOwing 21 = .ok (.goto 4, 3) := by decide +kernel
theorem dX0_isOwing_24 : decode cX0_isOwing 24 = .ok (.iconst 0, 1) := by decide +kernel
theorem dX0_isOwing_25 : decode cX0_isOwing 25 = .ok (.ireturn, 1) := by decide +kernel
theorem dX0_kindOf_0 : decode cX0_kindOf 0 = .ok (.aload_n 0, 1) := by decide +kernel
theorem dX0_kindOf_1 : decode cX0_kindOf 1 = .ok (.iload_n 1, 1) := by decide +kernel
theorem dX0_kindOf_2 : decode cX0_kindOf 2 = .ok (.invokevirtual 49, 3) := by decide +kernel
theorem dX0_kindOf_5 : decode cX0_kindOf 5 = .ok (.ifCond .eq 12, 3) := by decide +kernel
theorem dX0_kindOf_8 : decode cX0_kindOf 8 = .ok (.aload_n 0, 1) := by decide +kernel
theorem dX0_kindOf_9 : decode cX0_kindOf 9 = .ok (.getfield 9, 3) := by decide +kernel
theorem dX0_kindOf_12 : decode cX0_kindOf 12 = .ok (.iload_n 1, 1) := by decide +kernel
theorem dX0_kindOf_13 : decode cX0_kindOf 13 = .ok (.iaload, 1) := by decide +kernel
theorem dX0_kindOf_14 : decode cX0_kindOf 14 = .ok (.goto 5, 3) := by decide +kernel
theorem dX0_kindOf_17 : decode cX0_kindOf 17 = .ok (.bipush (-9), 2) := by decide +kernel
theorem dX0_kindOf_19 : decode cX0_kindOf 19 = .ok (.ireturn, 1) := by decide +kernel
theorem dX0_owerOf_0 : decode cX0_owerOf 0 = .ok (.aload_n 0, 1) := by decide +kernel
theorem dX0_owerOf_1 : decode cX0_owerOf 1 = .ok (.iload_n 1, 1) := by decide +kernel
theorem dX0_owerOf_2 : decode cX0_owerOf 2 = .ok (.invokevirtual 49, 3) := by decide +kernel
theorem dX0_owerOf_5 : decode cX0_owerOf 5 = .ok (.ifCond .eq 12, 3) := by decide +kernel
theorem dX0_owerOf_8 : decode cX0_owerOf 8 = .ok (.aload_n 0, 1) := by decide +kernel
theorem dX0_owerOf_9 : decode cX0_owerOf 9 = .ok (.getfield 15, 3) := by decide +kernel
theorem dX0_owerOf_12 : decode cX0_owerOf 12 = .ok (.iload_n 1, 1) := by decide +kernel
theorem dX0_owerOf_13 : decode cX0_owerOf 13 = .ok (.iaload, 1) := by decide +kernel
theorem dX0_owerOf_14 : decode cX0_owerOf 14 = .ok (.goto 5, 3) := by decide +kernel
theorem dX0_owerOf_17 : decode cX0_owerOf 17 = .ok (.bipush (-9), 2) := by decide +kernel
theorem dX0_owerOf_19 : decode cX0_owerOf 19 = .ok (.ireturn, 1) := by decide +kernel
theorem dX0_creditorOf_0 : decode cX0_creditorOf 0 = .ok (.aload_n 0, 1) := by decide +kernel
theorem dX0_creditorOf_1 : decode cX0_creditorOf 1 = .ok (.iload_n 1, 1) := by decide +kernel
theorem dX0_creditorOf_2 : decode cX0_creditorOf 2 = .ok (.invokevirtual 49, 3) := by decide +kernel
theorem dX0_creditorOf_5 : decode cX0_creditorOf 5 = .ok (.ifCond .eq 12, 3) := by decide +kernel
theorem dX0_creditorOf_8 : decode cX0_creditorOf 8 = .ok (.aload_n 0, 1) := by decide +kernel
theorem dX0_creditorOf_9 : decode cX0_creditorOf 9 = .ok (.getfield 18, 3) := by decide +kernel
theorem dX0_creditorOf_12 : decode cX0_creditorOf 12 = .ok (.iload_n 1, 1) := by decide +kernel
theorem dX0_creditorOf_13 : decode cX0_creditorOf 13 = .ok (.iaload, 1) := by decide +kernel
theorem dX0_creditorOf_14 : decode cX0_creditorOf 14 = .ok (.goto 5, 3) := by decide +kernel
theorem dX0_creditorOf_17 : decode cX0_creditorOf 17 = .ok (.bipush (-9), 2) := by decide +kernel
theorem dX0_creditorOf_19 : decode cX0_creditorOf 19 = .ok (.ireturn, 1) := by decide +kernel
theorem dX0_placeOf_0 : decode cX0_placeOf 0 = .ok (.aload_n 0, 1) := by decide +kernel
theorem dX0_placeOf_1 : decode cX0_placeOf 1 = .ok (.iload_n 1, 1) := by decide +kernel
theorem dX0_placeOf_2 : decode cX0_placeOf 2 = .ok (.invokevirtual 49, 3) := by decide +kernel
theorem dX0_placeOf_5 : decode cX0_placeOf 5 = .ok (.ifCond .eq 12, 3) := by decide +kernel
theorem dX0_placeOf_8 : decode cX0_placeOf 8 = .ok (.aload_n 0, 1) := by decide +kernel
theorem dX0_placeOf_9 : decode cX0_placeOf 9 = .ok (.getfield 21, 3) := by decide +kernel
theorem dX0_placeOf_12 : decode cX0_placeOf 12 = .ok (.iload_n 1, 1) := by decide +kernel
theorem dX0_placeOf_13 : decode cX0_placeOf 13 = .ok (.iaload, 1) := by decide +kernel
theorem dX0_placeOf_14 : decode cX0_placeOf 14 = .ok (.goto 5, 3) := by decide +kernel
theorem dX0_placeOf_17 : decode cX0_placeOf 17 = .ok (.bipush (-9), 2) := by decide +kernel
theorem dX0_placeOf_19 : decode cX0_placeOf 19 = .ok (.ireturn, 1) := by decide +kernel
theorem dX0_firstOf_0 : decode cX0_firstOf 0 = .ok (.aload_n 0, 1) := by decide +kernel
theorem dX0_firstOf_1 : decode cX0_firstOf 1 = .ok (.iload_n 1, 1) := by decide +kernel
theorem dX0_firstOf_2 : decode cX0_firstOf 2 = .ok (.invokevirtual 49, 3) := by decide +kernel
theorem dX0_firstOf_5 : decode cX0_firstOf 5 = .ok (.ifCond .eq 12, 3) := by decide +kernel
theorem dX0_firstOf_8 : decode cX0_firstOf 8 = .ok (.aload_n 0, 1) := by decide +kernel
theorem dX0_firstOf_9 : decode cX0_firstOf 9 = .ok (.getfield 24, 3) := by decide +kernel
theorem dX0_firstOf_12 : decode cX0_firstOf 12 = .ok (.iload_n 1, 1) := by decide +kernel
theorem dX0_firstOf_13 : decode cX0_firstOf 13 = .ok (.iaload, 1) := by decide +kernel
theorem dX0_firstOf_14 : decode cX0_firstOf 14 = .ok (.goto 5, 3) := by decide +kernel
theorem dX0_firstOf_17 : decode cX0_firstOf 17 = .ok (.bipush (-9), 2) := by decide +kernel
theorem dX0_firstOf_19 : decode cX0_firstOf 19 = .ok (.ireturn, 1) := by decide +kernel
theorem dX0_partOf_0 : decode cX0_partOf 0 = .ok (.iload_n 2, 1) := by decide +kernel
theorem dX0_partOf_1 : decode cX0_partOf 1 = .ok (.tableswitch 83 0 5 #[39, 45, 51, 57, 63, 69], 39) := by decide +kernel
theorem dX0_partOf_40 : decode cX0_partOf 40 = .ok (.aload_n 0, 1) := by decide +kernel
theorem dX0_partOf_41 : decode cX0_partOf 41 = .ok (.iload_n 1, 1) := by decide +kernel
theorem dX0_partOf_42 : decode cX0_partOf 42 = .ok (.invokevirtual 56, 3) := by decide +kernel
theorem dX0_partOf_45 : decode cX0_partOf 45 = .ok (.ireturn, 1) := by decide +kernel
theorem dX0_partOf_46 : decode cX0_partOf 46 = .ok (.aload_n 0, 1) := by decide +kernel
theorem dX0_partOf_47 : decode cX0_partOf 47 = .ok (.iload_n 1, 1) := by decide +kernel
theorem dX0_partOf_48 : decode cX0_partOf 48 = .ok (.invokevirtual 66, 3) := by decide +kernel
theorem dX0_partOf_51 : decode cX0_partOf 51 = .ok (.ireturn, 1) := by decide +kernel
theorem dX0_partOf_52 : decode cX0_partOf 52 = .ok (.aload_n 0, 1) := by decide +kernel
theorem dX0_partOf_53 : decode cX0_partOf 53 = .ok (.iload_n 1, 1) := by decide +kernel
theorem dX0_partOf_54 : decode cX0_partOf 54 = .ok (.invokevirtual 69, 3) := by decide +kernel
theorem dX0_partOf_57 : decode cX0_partOf 57 = .ok (.ireturn, 1) := by decide +kernel
theorem dX0_partOf_58 : decode cX0_partOf 58 = .ok (.aload_n 0, 1) := by decide +kernel
theorem dX0_partOf_59 : decode cX0_partOf 59 = .ok (.iload_n 1, 1) := by decide +kernel
theorem dX0_partOf_60 : decode cX0_partOf 60 = .ok (.invokevirtual 72, 3) := by decide +kernel
theorem dX0_partOf_63 : decode cX0_partOf 63 = .ok (.ireturn, 1) := by decide +kernel
theorem dX0_partOf_64 : decode cX0_partOf 64 = .ok (.aload_n 0, 1) := by decide +kernel
theorem dX0_partOf_65 : decode cX0_partOf 65 = .ok (.iload_n 1, 1) := by decide +kernel
theorem dX0_partOf_66 : decode cX0_partOf 66 = .ok (.invokevirtual 75, 3) := by decide +kernel
theorem dX0_partOf_69 : decode cX0_partOf 69 = .ok (.ireturn, 1) := by decide +kernel
theorem dX0_partOf_70 : decode cX0_partOf 70 = .ok (.aload_n 0, 1) := by decide +kernel
theorem dX0_partOf_71 : decode cX0_partOf 71 = .ok (.iload_n 1, 1) := by decide +kernel
theorem dX0_partOf_72 : decode cX0_partOf 72 = .ok (.invokevirtual 53, 3) := by decide +kernel
theorem dX0_partOf_75 : decode cX0_partOf 75 = .ok (.ifCond .eq 7, 3) := by decide +kernel
theorem dX0_partOf_78 : decode cX0_partOf 78 = .ok (.iconst 1, 1) := by decide +kernel
theorem dX0_partOf_79 : decode cX0_partOf 79 = .ok (.goto 4, 3) := by decide +kernel
theorem dX0_partOf_82 : decode cX0_partOf 82 = .ok (.iconst 0, 1) := by decide +kernel
theorem dX0_partOf_83 : decode cX0_partOf 83 = .ok (.ireturn, 1) := by decide +kernel
theorem dX0_partOf_84 : decode cX0_partOf 84 = .ok (.aload_n 0, 1) := by decide +kernel
theorem dX0_partOf_85 : decode cX0_partOf 85 = .ok (.iload_n 1, 1) := by decide +kernel
theorem dX0_partOf_86 : decode cX0_partOf 86 = .ok (.aload_n 0, 1) := by decide +kernel
theorem dX0_partOf_87 : decode cX0_partOf 87 = .ok (.getfield 37, 3) := by decide +kernel
theorem dX0_partOf_90 : decode cX0_partOf 90 = .ok (.invokevirtual 78, 3) := by decide +kernel
theorem dX0_partOf_93 : decode cX0_partOf 93 = .ok (.ireturn, 1) := by decide +kernel
theorem dX0_howManyOf_0 : decode cX0_howManyOf 0 = .ok (.iconst 0, 1) := by decide +kernel
theorem dX0_howManyOf_1 : decode cX0_howManyOf 1 = .ok (.istore_n 2, 1) := by decide +kernel
theorem dX0_howManyOf_2 : decode cX0_howManyOf 2 = .ok (.iconst 0, 1) := by decide +kernel
theorem dX0_howManyOf_3 : decode cX0_howManyOf 3 = .ok (.istore_n 3, 1) := by decide +kernel
theorem dX0_howManyOf_4 : decode cX0_howManyOf 4 = .ok (.iload_n 3, 1) := by decide +kernel
theorem dX0_howManyOf_5 : decode cX0_howManyOf 5 = .ok (.aload_n 0, 1) := by decide +kernel
theorem dX0_howManyOf_6 : decode cX0_howManyOf 6 = .ok (.getfield 30, 3) := by decide +kernel
theorem dX0_howManyOf_9 : decode cX0_howManyOf 9 = .ok (.if_icmp .ge 24, 3) := by decide +kernel
theorem dX0_howManyOf_12 : decode cX0_howManyOf 12 = .ok (.aload_n 0, 1) := by decide +kernel
theorem dX0_howManyOf_13 : decode cX0_howManyOf 13 = .ok (.iload_n 3, 1) := by decide +kernel
theorem dX0_howManyOf_14 : decode cX0_howManyOf 14 = .ok (.invokevirtual 56, 3) := by decide +kernel
theorem dX0_howManyOf_17 : decode cX0_howManyOf 17 = .ok (.iload_n 1, 1) := by decide +kernel
theorem dX0_howManyOf_18 : decode cX0_howManyOf 18 = .ok (.invokestatic 60, 3) := by decide +kernel
theorem dX0_howManyOf_21 : decode cX0_howManyOf 21 = .ok (.ifCond .eq 6, 3) := by decide +kernel
theorem dX0_howManyOf_24 : decode cX0_howManyOf 24 = .ok (.iinc 2 1, 3) := by decide +kernel
theorem dX0_howManyOf_27 : decode cX0_howManyOf 27 = .ok (.iinc 3 1, 3) := by decide +kernel
theorem dX0_howManyOf_30 : decode cX0_howManyOf 30 = .ok (.goto (-26), 3) := by decide +kernel
theorem dX0_howManyOf_33 : decode cX0_howManyOf 33 = .ok (.iload_n 2, 1) := by decide +kernel
theorem dX0_howManyOf_34 : decode cX0_howManyOf 34 = .ok (.ireturn, 1) := by decide +kernel
theorem dX0_glowOf_0 : decode cX0_glowOf 0 = .ok (.aload_n 0, 1) := by decide +kernel
theorem dX0_glowOf_1 : decode cX0_glowOf 1 = .ok (.iload_n 1, 1) := by decide +kernel
theorem dX0_glowOf_2 : decode cX0_glowOf 2 = .ok (.invokevirtual 56, 3) := by decide +kernel
theorem dX0_glowOf_5 : decode cX0_glowOf 5 = .ok (.aload_n 0, 1) := by decide +kernel
theorem dX0_glowOf_6 : decode cX0_glowOf 6 = .ok (.iload_n 1, 1) := by decide +kernel
theorem dX0_glowOf_7 : decode cX0_glowOf 7 = .ok (.invokevirtual 75, 3) := by decide +kernel
theorem dX0_glowOf_10 : decode cX0_glowOf 10 = .ok (.iload_n 2, 1) := by decide +kernel
theorem dX0_glowOf_11 : decode cX0_glowOf 11 = .ok (.invokestatic 82, 3) := by decide +kernel
theorem dX0_glowOf_14 : decode cX0_glowOf 14 = .ok (.ireturn, 1) := by decide +kernel
theorem dX0_litGlow_0 : decode cX0_litGlow 0 = .ok (.iconst 0, 1) := by decide +kernel
theorem dX0_litGlow_1 : decode cX0_litGlow 1 = .ok (.istore_n 1, 1) := by decide +kernel
theorem dX0_litGlow_2 : decode cX0_litGlow 2 = .ok (.iconst 0, 1) := by decide +kernel
theorem dX0_litGlow_3 : decode cX0_litGlow 3 = .ok (.istore_n 2, 1) := by decide +kernel
theorem dX0_litGlow_4 : decode cX0_litGlow 4 = .ok (.iload_n 2, 1) := by decide +kernel
theorem dX0_litGlow_5 : decode cX0_litGlow 5 = .ok (.aload_n 0, 1) := by decide +kernel
theorem dX0_litGlow_6 : decode cX0_litGlow 6 = .ok (.getfield 30, 3) := by decide +kernel
theorem dX0_litGlow_9 : decode cX0_litGlow 9 = .ok (.if_icmp .ge 29, 3) := by decide +kernel
theorem dX0_litGlow_12 : decode cX0_litGlow 12 = .ok (.aload_n 0, 1) := by decide +kernel
theorem dX0_litGlow_13 : decode cX0_litGlow 13 = .ok (.iload_n 2, 1) := by decide +kernel
theorem dX0_litGlow_14 : decode cX0_litGlow 14 = .ok (.invokevirtual 53, 3) := by decide +kernel
theorem dX0_litGlow_17 : decode cX0_litGlow 17 = .ok (.ifCond .eq 15, 3) := by decide +kernel
theorem dX0_litGlow_20 : decode cX0_litGlow 20 = .ok (.iload_n 1, 1) := by decide +kernel
theorem dX0_litGlow_21 : decode cX0_litGlow 21 = .ok (.aload_n 0, 1) := by decide +kernel
theorem dX0_litGlow_22 : decode cX0_litGlow 22 = .ok (.iload_n 2, 1) := by decide +kernel
theorem dX0_litGlow_23 : decode cX0_litGlow 23 = .ok (.aload_n 0, 1) := by decide +kernel
theorem dX0_litGlow_24 : decode cX0_litGlow 24 = .ok (.getfield 37, 3) := by decide +kernel
theorem dX0_litGlow_27 : decode cX0_litGlow 27 = .ok (.invokevirtual 78, 3) := by decide +kernel
theorem dX0_litGlow_30 : decode cX0_litGlow 30 = .ok (.iadd, 1) := by decide +kernel
theorem dX0_litGlow_31 : decode cX0_litGlow 31 = .ok (.istore_n 1, 1) := by decide +kernel
theorem dX0_litGlow_32 : decode cX0_litGlow 32 = .ok (.iinc 2 1, 3) := by decide +kernel
theorem dX0_litGlow_35 : decode cX0_litGlow 35 = .ok (.goto (-31), 3) := by decide +kernel
theorem dX0_litGlow_38 : decode cX0_litGlow 38 = .ok (.iload_n 1, 1) := by decide +kernel
theorem dX0_litGlow_39 : decode cX0_litGlow 39 = .ok (.ireturn, 1) := by decide +kernel
theorem dX0_faded_0 : decode cX0_faded 0 = .ok (.iconst 0, 1) := by decide +kernel
theorem dX0_faded_1 : decode cX0_faded 1 = .ok (.iload_n 0, 1) := by decide +kernel
theorem dX0_faded_2 : decode cX0_faded 2 = .ok (.iconst 2, 1) := by decide +kernel
theorem dX0_faded_3 : decode cX0_faded 3 = .ok (.iload_n 1, 1) := by decide +kernel
theorem dX0_faded_4 : decode cX0_faded 4 = .ok (.iload_n 2, 1) := by decide +kernel
theorem dX0_faded_5 : decode cX0_faded 5 = .ok (.isub, 1) := by decide +kernel
theorem dX0_faded_6 : decode cX0_faded 6 = .ok (.invokestatic 86, 3) := by decide +kernel
theorem dX0_faded_9 : decode cX0_faded 9 = .ok (.imul, 1) := by decide +kernel
theorem dX0_faded_10 : decode cX0_faded 10 = .ok (.isub, 1) := by decide +kernel
theorem dX0_faded_11 : decode cX0_faded 11 = .ok (.invokestatic 91, 3) := by decide +kernel
theorem dX0_faded_14 : decode cX0_faded 14 = .ok (.ireturn, 1) := by decide +kernel
theorem dX0_glowAt_0 : decode cX0_glowAt 0 = .ok (.aload_n 0, 1) := by decide +kernel
theorem dX0_glowAt_1 : decode cX0_glowAt 1 = .ok (.iload_n 1, 1) := by decide +kernel
theorem dX0_glowAt_2 : decode cX0_glowAt 2 = .ok (.iload_n 3, 1) := by decide +kernel
theorem dX0_glowAt_3 : decode cX0_glowAt 3 = .ok (.invokevirtual 78, 3) := by decide +kernel
theorem dX0_glowAt_6 : decode cX0_glowAt 6 = .ok (.aload_n 0, 1) := by decide +kernel
theorem dX0_glowAt_7 : decode cX0_glowAt 7 = .ok (.iload_n 1, 1) := by decide +kernel
theorem dX0_glowAt_8 : decode cX0_glowAt 8 = .ok (.invokevirtual 72, 3) := by decide +kernel
theorem dX0_glowAt_11 : decode cX0_glowAt 11 = .ok (.iload_n 2, 1) := by decide +kernel
theorem dX0_glowAt_12 : decode cX0_glowAt 12 = .ok (.invokestatic 94, 3) := by decide +kernel
theorem dX0_glowAt_15 : decode cX0_glowAt 15 = .ok (.ireturn, 1) := by decide +kernel
theorem dX0_brightAt_0 : decode cX0_brightAt 0 = .ok (.iconst 0, 1) := by decide +kernel
theorem dX0_brightAt_1 : decode cX0_brightAt 1 = .ok (.istore_n 3, 1) := by decide +kernel
theorem dX0_brightAt_2 : decode cX0_brightAt 2 = .ok (.iconst 0, 1) := by decide +kernel
theorem dX0_brightAt_3 : decode cX0_brightAt 3 = .ok (.istore 4, 2) := by decide +kernel
theorem dX0_brightAt_5 : decode cX0_brightAt 5 = .ok (.iload 4, 2) := by decide +kernel
theorem dX0_brightAt_7 : decode cX0_brightAt 7 = .ok (.aload_n 0, 1) := by decide +kernel
theorem dX0_brightAt_8 : decode cX0_brightAt 8 = .ok (.getfield 30, 3) := by decide +kernel
theorem dX0_brightAt_11 : decode cX0_brightAt 11 = .ok (.if_icmp .ge 29, 3) := by decide +kernel
theorem dX0_brightAt_14 : decode cX0_brightAt 14 = .ok (.aload_n 0, 1) := by decide +kernel
theorem dX0_brightAt_15 : decode cX0_brightAt 15 = .ok (.iload 4, 2) := by decide +kernel
theorem dX0_brightAt_17 : decode cX0_brightAt 17 = .ok (.invokevirtual 53, 3) := by decide +kernel
theorem dX0_brightAt_20 : decode cX0_brightAt 20 = .ok (.ifCond .eq 14, 3) := by decide +kernel
theorem dX0_brightAt_23 : decode cX0_brightAt 23 = .ok (.iload_n 3, 1) := by decide +kernel
theorem dX0_brightAt_24 : decode cX0_brightAt 24 = .ok (.aload_n 0, 1) := by decide +kernel
theorem dX0_brightAt_25 : decode cX0_brightAt 25 = .ok (.iload 4, 2) := by decide +kernel
theorem dX0_brightAt_27 : decode cX0_brightAt 27 = .ok (.iload_n 1, 1) := by decide +kernel
theorem dX0_brightAt_28 : decode cX0_brightAt 28 = .ok (.iload_n 2, 1) := by decide +kernel
theorem dX0_brightAt_29 : decode cX0_brightAt 29 = .ok (.invokevirtual 97, 3) := by decide +kernel
theorem dX0_brightAt_32 : decode cX0_brightAt 32 = .ok (.iadd, 1) := by decide +kernel
theorem dX0_brightAt_33 : decode cX0_brightAt 33 = .ok (.istore_n 3, 1) := by decide +kernel
theorem dX0_brightAt_34 : decode cX0_brightAt 34 = .ok (.iinc 4 1, 3) := by decide +kernel
theorem dX0_brightAt_37 : decode cX0_brightAt 37 = .ok (.goto (-32), 3) := by decide +kernel
theorem dX0_brightAt_40 : decode cX0_brightAt 40 = .ok (.iload_n 3, 1) := by decide +kernel
theorem dX0_brightAt_41 : decode cX0_brightAt 41 = .ok (.ireturn, 1) := by decide +kernel
theorem dX0_brightAlong_0 : decode cX0_brightAlong 0 = .ok (.iconst 0, 1) := by decide +kernel
theorem dX0_brightAlong_1 : decode cX0_brightAlong 1 = .ok (.istore_n 3, 1) := by decide +kernel
theorem dX0_brightAlong_2 : decode cX0_brightAlong 2 = .ok (.iconst 0, 1) := by decide +kernel
theorem dX0_brightAlong_3 : decode cX0_brightAlong 3 = .ok (.iload_n 1, 1) := by decide +kernel
theorem dX0_brightAlong_4 : decode cX0_brightAlong 4 = .ok (.invokestatic 91, 3) := by decide +kernel
theorem dX0_brightAlong_7 : decode cX0_brightAlong 7 = .ok (.istore 4, 2) := by decide +kernel
theorem dX0_brightAlong_9 : decode cX0_brightAlong 9 = .ok (.iload 4, 2) := by decide +kernel
theorem dX0_brightAlong_11 : decode cX0_brightAlong 11 = .ok (.iload_n 2, 1) := by decide +kernel
theorem dX0_brightAlong_12 : decode cX0_brightAlong 12 = .ok (.if_icmp .gt 29, 3) := by decide +kernel
theorem dX0_brightAlong_15 : decode cX0_brightAlong 15 = .ok (.iload 4, 2) := by decide +kernel
theorem dX0_brightAlong_17 : decode cX0_brightAlong 17 = .ok (.bipush 10, 2) := by decide +kernel
theorem dX0_brightAlong_19 : decode cX0_brightAlong 19 = .ok (.if_icmp .ge 22, 3) := by decide +kernel
theorem dX0_brightAlong_22 : decode cX0_brightAlong 22 = .ok (.iload_n 3, 1) := by decide +kernel
theorem dX0_brightAlong_23 : decode cX0_brightAlong 23 = .ok (.aload_n 0, 1) := by decide +kernel
theorem dX0_brightAlong_24 : decode cX0_brightAlong 24 = .ok (.iload 4, 2) := by decide +kernel
theorem dX0_brightAlong_26 : decode cX0_brightAlong 26 = .ok (.aload_n 0, 1) := by decide +kernel
theorem dX0_brightAlong_27 : decode cX0_brightAlong 27 = .ok (.getfield 37, 3) := by decide +kernel
theorem dX0_brightAlong_30 : decode cX0_brightAlong 30 = .ok (.invokevirtual 100, 3) := by decide +kernel
theorem dX0_brightAlong_33 : decode cX0_brightAlong 33 = .ok (.iadd, 1) := by decide +kernel
theorem dX0_brightAlong_34 : decode cX0_brightAlong 34 = .ok (.istore_n 3, 1) := by decide +kernel
theorem dX0_brightAlong_35 : decode cX0_brightAlong 35 = .ok (.iinc 4 1, 3) := by decide +kernel
theorem dX0_brightAlong_38 : decode cX0_brightAlong 38 = .ok (.goto (-29), 3) := by decide +kernel
theorem dX0_brightAlong_41 : decode cX0_brightAlong 41 = .ok (.iload_n 3, 1) := by decide +kernel
theorem dX0_brightAlong_42 : decode cX0_brightAlong 42 = .ok (.ireturn, 1) := by decide +kernel
theorem dX0_shareAlong_0 : decode cX0_shareAlong 0 = .ok (.aload_n 0, 1) := by decide +kernel
theorem dX0_shareAlong_1 : decode cX0_shareAlong 1 = .ok (.iload_n 1, 1) := by decide +kernel
theorem dX0_shareAlong_2 : decode cX0_shareAlong 2 = .ok (.invokevirtual 53, 3) := by decide +kernel
theorem dX0_shareAlong_5 : decode cX0_shareAlong 5 = .ok (.ifCond .ne 5, 3) := by decide +kernel
theorem dX0_shareAlong_8 : decode cX0_shareAlong 8 = .ok (.iconst 0, 1) := by decide +kernel
theorem dX0_shareAlong_9 : decode cX0_shareAlong 9 = .ok (.ireturn, 1) := by decide +kernel
theorem dX0_shareAlong_10 : decode cX0_shareAlong 10 = .ok (.aload_n 0, 1) := by decide +kernel
theorem dX0_shareAlong_11 : decode cX0_shareAlong 11 = .ok (.iload_n 1, 1) := by decide +kernel
theorem dX0_shareAlong_12 : decode cX0_shareAlong 12 = .ok (.aload_n 0, 1) := by decide +kernel
theorem dX0_shareAlong_13 : decode cX0_shareAlong 13 = .ok (.getfield 37, 3) := by decide +kernel
theorem dX0_shareAlong_16 : decode cX0_shareAlong 16 = .ok (.invokevirtual 78, 3) := by decide +kernel
theorem dX0_shareAlong_19 : decode cX0_shareAlong 19 = .ok (.istore 5, 2) := by decide +kernel
theorem dX0_shareAlong_21 : decode cX0_shareAlong 21 = .ok (.iconst 0, 1) := by decide +kernel
theorem dX0_shareAlong_22 : decode cX0_shareAlong 22 = .ok (.istore 6, 2) := by decide +kernel
theorem dX0_shareAlong_24 : decode cX0_shareAlong 24 = .ok (.iconst 0, 1) := by decide +kernel
theorem dX0_shareAlong_25 : decode cX0_shareAlong 25 = .ok (.iload_n 3, 1) := by decide +kernel
theorem dX0_shareAlong_26 : decode cX0_shareAlong 26 = .ok (.invokestatic 91, 3) := by decide +kernel
theorem dX0_shareAlong_29 : decode cX0_shareAlong 29 = .ok (.istore 7, 2) := by decide +kernel
theorem dX0_shareAlong_31 : decode cX0_shareAlong 31 = .ok (.iload 7, 2) := by decide +kernel
theorem dX0_shareAlong_33 : decode cX0_shareAlong 33 = .ok (.iload 4, 2) := by decide +kernel
theorem dX0_shareAlong_35 : decode cX0_shareAlong 35 = .ok (.if_icmp .gt 29, 3) := by decide +kernel
theorem dX0_shareAlong_38 : decode cX0_shareAlong 38 = .ok (.iload 7, 2) := by decide +kernel
theorem dX0_shareAlong_40 : decode cX0_shareAlong 40 = .ok (.bipush 10, 2) := by decide +kernel
theorem dX0_shareAlong_42 : decode cX0_shareAlong 42 = .ok (.if_icmp .ge 22, 3) := by decide +kernel
theorem dX0_shareAlong_45 : decode cX0_shareAlong 45 = .ok (.iload 6, 2) := by decide +kernel
theorem dX0_shareAlong_47 : decode cX0_shareAlong 47 = .ok (.iload 5, 2) := by decide +kernel
theorem dX0_shareAlong_49 : decode cX0_shareAlong 49 = .ok (.iload_n 2, 1) := by decide +kernel
theorem dX0_shareAlong_50 : decode cX0_shareAlong 50 = .ok (.iload 7, 2) := by decide +kernel
theorem dX0_shareAlong_52 : decode cX0_shareAlong 52 = .ok (.invokestatic 94, 3) := by decide +kernel
theorem dX0_shareAlong_55 : decode cX0_shareAlong 55 = .ok (.iadd, 1) := by decide +kernel
theorem dX0_shareAlong_56 : decode cX0_shareAlong 56 = .ok (.istore 6, 2) := by decide +kernel
theorem dX0_shareAlong_58 : decode cX0_shareAlong 58 = .ok (.iinc 7 1, 3) := by decide +kernel
theorem dX0_shareAlong_61 : decode cX0_shareAlong 61 = .ok (.goto (-30), 3) := by decide +kernel
theorem dX0_shareAlong_64 : decode cX0_shareAlong 64 = .ok (.iload 6, 2) := by decide +kernel
theorem dX0_shareAlong_66 : decode cX0_shareAlong 66 = .ok (.ireturn, 1) := by decide +kernel
theorem dX0_balanceOf_0 : decode cX0_balanceOf 0 = .ok (.bipush 100, 2) := by decide +kernel
theorem dX0_balanceOf_2 : decode cX0_balanceOf 2 = .ok (.istore_n 2, 1) := by decide +kernel
theorem dX0_balanceOf_3 : decode cX0_balanceOf 3 = .ok (.iconst 0, 1) := by decide +kernel
theorem dX0_balanceOf_4 : decode cX0_balanceOf 4 = .ok (.istore_n 3, 1) := by decide +kernel
theorem dX0_balanceOf_5 : decode cX0_balanceOf 5 = .ok (.iload_n 3, 1) := by decide +kernel
theorem dX0_balanceOf_6 : decode cX0_balanceOf 6 = .ok (.aload_n 0, 1) := by decide +kernel
theorem dX0_balanceOf_7 : decode cX0_balanceOf 7 = .ok (.getfield 30, 3) := by decide +kernel
theorem dX0_balanceOf_10 : decode cX0_balanceOf 10 = .ok (.if_icmp .ge 49, 3) := by decide +kernel
theorem dX0_balanceOf_13 : decode cX0_balanceOf 13 = .ok (.aload_n 0, 1) := by decide +kernel
theorem dX0_balanceOf_14 : decode cX0_balanceOf 14 = .ok (.iload_n 3, 1) := by decide +kernel
theorem dX0_balanceOf_15 : decode cX0_balanceOf 15 = .ok (.invokevirtual 103, 3) := by decide +kernel
theorem dX0_balanceOf_18 : decode cX0_balanceOf 18 = .ok (.ifCond .eq 15, 3) := by decide +kernel
theorem dX0_balanceOf_21 : decode cX0_balanceOf 21 = .ok (.aload_n 0, 1) := by decide +kernel
theorem dX0_balanceOf_22 : decode cX0_balanceOf 22 = .ok (.iload_n 3, 1) := by decide +kernel
theorem dX0_balanceOf_23 : decode cX0_balanceOf 23 = .ok (.invokevirtual 66, 3) := by decide +kernel
theorem dX0_balanceOf_26 : decode cX0_balanceOf 26 = .ok (.iload_n 1, 1) := by decide +kernel
theorem dX0_balanceOf_27 : decode cX0_balanceOf 27 = .ok (.if_icmp .ne 6, 3) := by decide +kernel
theorem dX0_balanceOf_30 : decode cX0_balanceOf 30 = .ok (.iinc 2 1, 3) := by decide +kernel
theorem dX0_balanceOf_33 : decode cX0_balanceOf 33 = .ok (.aload_n 0, 1) := by decide +kernel
theorem dX0_balanceOf_34 : decode cX0_balanceOf 34 = .ok (.iload_n 3, 1) := by decide +kernel
theorem dX0_balanceOf_35 : decode cX0_balanceOf 35 = .ok (.invokevirtual 103, 3) := by decide +kernel
theorem dX0_balanceOf_38 : decode cX0_balanceOf 38 = .ok (.ifCond .eq 15, 3) := by decide +kernel
theorem dX0_balanceOf_41 : decode cX0_balanceOf 41 = .ok (.aload_n 0, 1) := by decide +kernel
theorem dX0_balanceOf_42 : decode cX0_balanceOf 42 = .ok (.iload_n 3, 1) := by decide +kernel
theorem dX0_balanceOf_43 : decode cX0_balanceOf 43 = .ok (.invokevirtual 69, 3) := by decide +kernel
theorem dX0_balanceOf_46 : decode cX0_balanceOf 46 = .ok (.iload_n 1, 1) := by decide +kernel
theorem dX0_balanceOf_47 : decode cX0_balanceOf 47 = .ok (.if_icmp .ne 6, 3) := by decide +kernel
theorem dX0_balanceOf_50 : decode cX0_balanceOf 50 = .ok (.iinc 2 (-1), 3) := by decide +kernel
theorem dX0_balanceOf_53 : decode cX0_balanceOf 53 = .ok (.iinc 3 1, 3) := by decide +kernel
theorem dX0_balanceOf_56 : decode cX0_balanceOf 56 = .ok (.goto (-51), 3) := by decide +kernel
theorem dX0_balanceOf_59 : decode cX0_balanceOf 59 = .ok (.iload_n 2, 1) := by decide +kernel
theorem dX0_balanceOf_60 : decode cX0_balanceOf 60 = .ok (.ireturn, 1) := by decide +kernel
theorem dX0_passNight_0 : decode cX0_passNight 0 = .ok (.aload_n 0, 1) := by decide +kernel
theorem dX0_passNight_1 : decode cX0_passNight 1 = .ok (.iconst 0, 1) := by decide +kernel
theorem dX0_passNight_2 : decode cX0_passNight 2 = .ok (.iconst 0, 1) := by decide +kernel
theorem dX0_passNight_3 : decode cX0_passNight 3 = .ok (.iconst 0, 1) := by decide +kernel
theorem dX0_passNight_4 : decode cX0_passNight 4 = .ok (.invokevirtual 106, 3) := by decide +kernel
theorem dX0_passNight_7 : decode cX0_passNight 7 = .ok (.aload_n 0, 1) := by decide +kernel
theorem dX0_passNight_8 : decode cX0_passNight 8 = .ok (.dup, 1) := by decide +kernel
theorem dX0_passNight_9 : decode cX0_passNight 9 = .ok (.getfield 37, 3) := by decide +kernel
theorem dX0_passNight_12 : decode cX0_passNight 12 = .ok (.iconst 1, 1) := by decide +kernel
theorem dX0_passNight_13 : decode cX0_passNight 13 = .ok (.iadd, 1) := by decide +kernel
theorem dX0_passNight_14 : decode cX0_passNight 14 = .ok (.putfield 37, 3) := by decide +kernel
theorem dX0_passNight_17 : decode cX0_passNight 17 = .ok (.return_, 1) := by decide +kernel
theorem dX0_putOut_0 : decode cX0_putOut 0 = .ok (.aload_n 0, 1) := by decide +kernel
theorem dX0_putOut_1 : decode cX0_putOut 1 = .ok (.iload_n 1, 1) := by decide +kernel
theorem dX0_putOut_2 : decode cX0_putOut 2 = .ok (.invokevirtual 49, 3) := by decide +kernel
theorem dX0_putOut_5 : decode cX0_putOut 5 = .ok (.ifCond .eq 24, 3) := by decide +kernel
theorem dX0_putOut_8 : decode cX0_putOut 8 = .ok (.aload_n 0, 1) := by decide +kernel
theorem dX0_putOut_9 : decode cX0_putOut 9 = .ok (.iconst 1, 1) := by decide +kernel
theorem dX0_putOut_10 : decode cX0_putOut 10 = .ok (.iload_n 1, 1) := by decide +kernel
theorem dX0_putOut_11 : decode cX0_putOut 11 = .ok (.iconst 0, 1) := by decide +kernel
theorem dX0_putOut_12 : decode cX0_putOut 12 = .ok (.invokevirtual 106, 3) := by decide +kernel
theorem dX0_putOut_15 : decode cX0_putOut 15 = .ok (.aload_n 0, 1) := by decide +kernel
theorem dX0_putOut_16 : decode cX0_putOut 16 = .ok (.dup, 1) := by decide +kernel
theorem dX0_putOut_17 : decode cX0_putOut 17 = .ok (.getfield 34, 3) := by decide +kernel
theorem dX0_putOut_20 : decode cX0_putOut 20 = .ok (.iconst 1, 1) := by decide +kernel
theorem dX0_putOut_21 : decode cX0_putOut 21 = .ok (.iload_n 1, 1) := by decide +kernel
theorem dX0_putOut_22 : decode cX0_putOut 22 = .ok (.ishl, 1) := by decide +kernel
theorem dX0_putOut_23 : decode cX0_putOut 23 = .ok (.iconst (-1), 1) := by decide +kernel
theorem dX0_putOut_24 : decode cX0_putOut 24 = .ok (.ixor, 1) := by decide +kernel
theorem dX0_putOut_25 : decode cX0_putOut 25 = .ok (.iand, 1) := by decide +kernel
theorem dX0_putOut_26 : decode cX0_putOut 26 = .ok (.putfield 34, 3) := by decide +kernel
theorem dX0_putOut_29 : decode cX0_putOut 29 = .ok (.return_, 1) := by decide +kernel
theorem dX0_lightAgain_0 : decode cX0_lightAgain 0 = .ok (.aload_n 0, 1) := by decide +kernel
theorem dX0_lightAgain_1 : decode cX0_lightAgain 1 = .ok (.iload_n 1, 1) := by decide +kernel
theorem dX0_lightAgain_2 : decode cX0_lightAgain 2 = .ok (.invokevirtual 49, 3) := by decide +kernel
theorem dX0_lightAgain_5 : decode cX0_lightAgain 5 = .ok (.ifCond .eq 22, 3) := by decide +kernel
theorem dX0_lightAgain_8 : decode cX0_lightAgain 8 = .ok (.aload_n 0, 1) := by decide +kernel
theorem dX0_lightAgain_9 : decode cX0_lightAgain 9 = .ok (.iconst 2, 1) := by decide +kernel
theorem dX0_lightAgain_10 : decode cX0_lightAgain 10 = .ok (.iload_n 1, 1) := by decide +kernel
theorem dX0_lightAgain_11 : decode cX0_lightAgain 11 = .ok (.iconst 0, 1) := by decide +kernel
theorem dX0_lightAgain_12 : decode cX0_lightAgain 12 = .ok (.invokevirtual 106, 3) := by decide +kernel
theorem dX0_lightAgain_15 : decode cX0_lightAgain 15 = .ok (.aload_n 0, 1) := by decide +kernel
theorem dX0_lightAgain_16 : decode cX0_lightAgain 16 = .ok (.dup, 1) := by decide +kernel
theorem dX0_lightAgain_17 : decode cX0_lightAgain 17 = .ok (.getfield 34, 3) := by decide +kernel
theorem dX0_lightAgain_20 : decode cX0_lightAgain 20 = .ok (.iconst 1, 1) := by decide +kernel
theorem dX0_lightAgain_21 : decode cX0_lightAgain 21 = .ok (.iload_n 1, 1) := by decide +kernel
theorem dX0_lightAgain_22 : decode cX0_lightAgain 22 = .ok (.ishl, 1) := by decide +kernel
theorem dX0_lightAgain_23 : decode cX0_lightAgain 23 = .ok (.ior, 1) := by decide +kernel
theorem dX0_lightAgain_24 : decode cX0_lightAgain 24 = .ok (.putfield 34, 3) := by decide +kernel
theorem dX0_lightAgain_27 : decode cX0_lightAgain 27 = .ok (.return_, 1) := by decide +kernel
theorem dX0_carryTo_0 : decode cX0_carryTo 0 = .ok (.aload_n 0, 1) := by decide +kernel
theorem dX0_carryTo_1 : decode cX0_carryTo 1 = .ok (.iload_n 1, 1) := by decide +kernel
theorem dX0_carryTo_2 : decode cX0_carryTo 2 = .ok (.invokevirtual 49, 3) := by decide +kernel
theorem dX0_carryTo_5 : decode cX0_carryTo 5 = .ok (.ifCond .eq 22, 3) := by decide +kernel
theorem dX0_carryTo_8 : decode cX0_carryTo 8 = .ok (.aload_n 0, 1) := by decide +kernel
theorem dX0_carryTo_9 : decode cX0_carryTo 9 = .ok (.iconst 3, 1) := by decide +kernel
theorem dX0_carryTo_10 : decode cX0_carryTo 10 = .ok (.iload_n 1, 1) := by decide +kernel
theorem dX0_carryTo_11 : decode cX0_carryTo 11 = .ok (.aload_n 0, 1) := by decide +kernel
theorem dX0_carryTo_12 : decode cX0_carryTo 12 = .ok (.getfield 21, 3) := by decide +kernel
theorem dX0_carryTo_15 : decode cX0_carryTo 15 = .ok (.iload_n 1, 1) := by decide +kernel
theorem dX0_carryTo_16 : decode cX0_carryTo 16 = .ok (.iaload, 1) := by decide +kernel
theorem dX0_carryTo_17 : decode cX0_carryTo 17 = .ok (.invokevirtual 106, 3) := by decide +kernel
theorem dX0_carryTo_20 : decode cX0_carryTo 20 = .ok (.aload_n 0, 1) := by decide +kernel
theorem dX0_carryTo_21 : decode cX0_carryTo 21 = .ok (.getfield 21, 3) := by decide +kernel
theorem dX0_carryTo_24 : decode cX0_carryTo 24 = .ok (.iload_n 1, 1) := by decide +kernel
theorem dX0_carryTo_25 : decode cX0_carryTo 25 = .ok (.iload_n 2, 1) := by decide +kernel
theorem dX0_carryTo_26 : decode cX0_carryTo 26 = .ok (.iastore, 1) := by decide +kernel
theorem dX0_carryTo_27 : decode cX0_carryTo 27 = .ok (.return_, 1) := by decide +kernel
theorem dX0_doByLot_0 : decode cX0_doByLot 0 = .ok (.aload_n 0, 1) := by decide +kernel
theorem dX0_doByLot_1 : decode cX0_doByLot 1 = .ok (.getfield 30, 3) := by decide +kernel
theorem dX0_doByLot_4 : decode cX0_doByLot 4 = .ok (.ifCond .le 9, 3) := by decide +kernel
theorem dX0_doByLot_7 : decode cX0_doByLot 7 = .ok (.lload_n 1, 1) := by decide +kernel
theorem dX0_doByLot_8 : decode cX0_doByLot 8 = .ok (.lconst 0, 1) := by decide +kernel
theorem dX0_doByLot_9 : decode cX0_doByLot 9 = .ok (.lcmp, 1) := by decide +kernel
theorem dX0_doByLot_10 : decode cX0_doByLot 10 = .ok (.ifCond .ge 4, 3) := by decide +kernel
theorem dX0_doByLot_13 : decode cX0_doByLot 13 = .ok (.return_, 1) := by decide +kernel
theorem dX0_doByLot_14 : decode cX0_doByLot 14 = .ok (.lload_n 1, 1) := by decide +kernel
theorem dX0_doByLot_15 : decode cX0_doByLot 15 = .ok (.ldc2_w 110, 3) := by decide +kernel
theorem dX0_doByLot_18 : decode cX0_doByLot 18 = .ok (.ldiv, 1) := by decide +kernel
theorem dX0_doByLot_19 : decode cX0_doByLot 19 = .ok (.aload_n 0, 1) := by decide +kernel
theorem dX0_doByLot_20 : decode cX0_doByLot 20 = .ok (.getfield 30, 3) := by decide +kernel
theorem dX0_doByLot_23 : decode cX0_doByLot 23 = .ok (.i2l, 1) := by decide +kernel
theorem dX0_doByLot_24 : decode cX0_doByLot 24 = .ok (.lrem, 1) := by decide +kernel
theorem dX0_doByLot_25 : decode cX0_doByLot 25 = .ok (.l2i, 1) := by decide +kernel
theorem dX0_doByLot_26 : decode cX0_doByLot 26 = .ok (.istore_n 3, 1) := by decide +kernel
theorem dX0_doByLot_27 : decode cX0_doByLot 27 = .ok (.lload_n 1, 1) := by decide +kernel
theorem dX0_doByLot_28 : decode cX0_doByLot 28 = .ok (.ldc2_w 112, 3) := by decide +kernel
theorem dX0_doByLot_31 : decode cX0_doByLot 31 = .ok (.lrem, 1) := by decide +kernel
theorem dX0_doByLot_32 : decode cX0_doByLot 32 = .ok (.lconst 0, 1) := by decide +kernel
theorem dX0_doByLot_33 : decode cX0_doByLot 33 = .ok (.lcmp, 1) := by decide +kernel
theorem dX0_doByLot_34 : decode cX0_doByLot 34 = .ok (.ifCond .ne 19, 3) := by decide +kernel
theorem dX0_doByLot_37 : decode cX0_doByLot 37 = .ok (.aload_n 0, 1) := by decide +kernel
theorem dX0_doByLot_38 : decode cX0_doByLot 38 = .ok (.getfield 37, 3) := by decide +kernel
theorem dX0_doByLot_41 : decode cX0_doByLot 41 = .ok (.bipush 40, 2) := by decide +kernel
theorem dX0_doByLot_43 : decode cX0_doByLot 43 = .ok (.if_icmp .ge 10, 3) := by decide +kernel
theorem dX0_doByLot_46 : decode cX0_doByLot 46 = .ok (.aload_n 0, 1) := by decide +kernel
theorem dX0_doByLot_47 : decode cX0_doByLot 47 = .ok (.invokevirtual 114, 3) := by decide +kernel
theorem dX0_doByLot_50 : decode cX0_doByLot 50 = .ok (.goto 52, 3) := by decide +kernel
theorem dX0_doByLot_53 : decode cX0_doByLot 53 = .ok (.lload_n 1, 1) := by decide +kernel
theorem dX0_doByLot_54 : decode cX0_doByLot 54 = .ok (.ldc2_w 112, 3) := by decide +kernel
theorem dX0_doByLot_57 : decode cX0_doByLot 57 = .ok (.lrem, 1) := by decide +kernel
theorem dX0_doByLot_58 : decode cX0_doByLot 58 = .ok (.lconst 1, 1) := by decide +kernel
theorem dX0_doByLot_59 : decode cX0_doByLot 59 = .ok (.lcmp, 1) := by decide +kernel
theorem dX0_doByLot_60 : decode cX0_doByLot 60 = .ok (.ifCond .ne 21, 3) := by decide +kernel
theorem dX0_doByLot_63 : decode cX0_doByLot 63 = .ok (.aload_n 0, 1) := by decide +kernel
theorem dX0_doByLot_64 : decode cX0_doByLot 64 = .ok (.iload_n 3, 1) := by decide +kernel
theorem dX0_doByLot_65 : decode cX0_doByLot 65 = .ok (.lload_n 1, 1) := by decide +kernel
theorem dX0_doByLot_66 : decode cX0_doByLot 66 = .ok (.ldc2_w 117, 3) := by decide +kernel
theorem dX0_doByLot_69 : decode cX0_doByLot 69 = .ok (.ldiv, 1) := by decide +kernel
theorem dX0_doByLot_70 : decode cX0_doByLot 70 = .ok (.ldc2_w 119, 3) := by decide +kernel
theorem dX0_doByLot_73 : decode cX0_doByLot 73 = .ok (.lrem, 1) := by decide +kernel
theorem dX0_doByLot_74 : decode cX0_doByLot 74 = .ok (.l2i, 1) := by decide +kernel
theorem dX0_doByLot_75 : decode cX0_doByLot 75 = .ok (.invokevirtual 121, 3) := by decide +kernel
theorem dX0_doByLot_78 : decode cX0_doByLot 78 = .ok (.goto 24, 3) := by decide +kernel
theorem dX0_doByLot_81 : decode cX0_doByLot 81 = .ok (.aload_n 0, 1) := by decide +kernel
theorem dX0_doByLot_82 : decode cX0_doByLot 82 = .ok (.iload_n 3, 1) := by decide +kernel
theorem dX0_doByLot_83 : decode cX0_doByLot 83 = .ok (.invokevirtual 53, 3) := by decide +kernel
theorem dX0_doByLot_86 : decode cX0_doByLot 86 = .ok (.ifCond .eq 11, 3) := by decide +kernel
theorem dX0_doByLot_89 : decode cX0_doByLot 89 = .ok (.aload_n 0, 1) := by decide +kernel
theorem dX0_doByLot_90 : decode cX0_doByLot 90 = .ok (.iload_n 3, 1) := by decide +kernel
theorem dX0_doByLot_91 : decode cX0_doByLot 91 = .ok (.invokevirtual 125, 3) := by decide +kernel
theorem dX0_doByLot_94 : decode cX0_doByLot 94 = .ok (.goto 8, 3) := by decide +kernel
theorem dX0_doByLot_97 : decode cX0_doByLot 97 = .ok (.aload_n 0, 1) := by decide +kernel
theorem dX0_doByLot_98 : decode cX0_doByLot 98 = .ok (.iload_n 3, 1) := by decide +kernel
theorem dX0_doByLot_99 : decode cX0_doByLot 99 = .ok (.invokevirtual 129, 3) := by decide +kernel
theorem dX0_doByLot_102 : decode cX0_doByLot 102 = .ok (.return_, 1) := by decide +kernel
theorem dX0_write_0 : decode cX0_write 0 = .ok (.aload_n 0, 1) := by decide +kernel
theorem dX0_write_1 : decode cX0_write 1 = .ok (.getfield 40, 3) := by decide +kernel
theorem dX0_write_4 : decode cX0_write 4 = .ok (.bipush 40, 2) := by decide +kernel
theorem dX0_write_6 : decode cX0_write 6 = .ok (.if_icmp .ge 32, 3) := by decide +kernel
theorem dX0_write_9 : decode cX0_write 9 = .ok (.aload_n 0, 1) := by decide +kernel
theorem dX0_write_10 : decode cX0_write 10 = .ok (.getfield 27, 3) := by decide +kernel
theorem dX0_write_13 : decode cX0_write 13 = .ok (.aload_n 0, 1) := by decide +kernel
theorem dX0_write_14 : decode cX0_write 14 = .ok (.getfield 40, 3) := by decide +kernel
theorem dX0_write_17 : decode cX0_write 17 = .ok (.iload_n 1, 1) := by decide +kernel
theorem dX0_write_18 : decode cX0_write 18 = .ok (.iconst 4, 1) := by decide +kernel
theorem dX0_write_19 : decode cX0_write 19 = .ok (.iload_n 2, 1) := by decide +kernel
theorem dX0_write_20 : decode cX0_write 20 = .ok (.bipush 8, 2) := by decide +kernel
theorem dX0_write_22 : decode cX0_write 22 = .ok (.iload_n 3, 1) := by decide +kernel
theorem dX0_write_23 : decode cX0_write 23 = .ok (.imul, 1) := by decide +kernel
theorem dX0_write_24 : decode cX0_write 24 = .ok (.iadd, 1) := by decide +kernel
theorem dX0_write_25 : decode cX0_write 25 = .ok (.imul, 1) := by decide +kernel
theorem dX0_write_26 : decode cX0_write 26 = .ok (.iadd, 1) := by decide +kernel
theorem dX0_write_27 : decode cX0_write 27 = .ok (.iastore, 1) := by decide +kernel
theorem dX0_write_28 : decode cX0_write 28 = .ok (.aload_n 0, 1) := by decide +kernel
theorem dX0_write_29 : decode cX0_write 29 = .ok (.dup, 1) := by decide +kernel
theorem dX0_write_30 : decode cX0_write 30 = .ok (.getfield 40, 3) := by decide +kernel
theorem dX0_write_33 : decode cX0_write 33 = .ok (.iconst 1, 1) := by decide +kernel
theorem dX0_write_34 : decode cX0_write 34 = .ok (.iadd, 1) := by decide +kernel
theorem dX0_write_35 : decode cX0_write 35 = .ok (.putfield 40, 3) := by decide +kernel
theorem dX0_write_38 : decode cX0_write 38 = .ok (.return_, 1) := by decide +kernel
theorem dX0_takeBackFrom_0 : decode cX0_takeBackFrom 0 = .ok (.aload_n 0, 1) := by decide +kernel
theorem dX0_takeBackFrom_1 : decode cX0_takeBackFrom 1 = .ok (.getfield 40, 3) := by decide +kernel
theorem dX0_takeBackFrom_4 : decode cX0_takeBackFrom 4 = .ok (.iload_n 1, 1) := by decide +kernel
theorem dX0_takeBackFrom_5 : decode cX0_takeBackFrom 5 = .ok (.if_icmp .le 36, 3) := by decide +kernel
theorem dX0_takeBackFrom_8 : decode cX0_takeBackFrom 8 = .ok (.aload_n 0, 1) := by decide +kernel
theorem dX0_takeBackFrom_9 : decode cX0_takeBackFrom 9 = .ok (.getfield 40, 3) := by decide +kernel
theorem dX0_takeBackFrom_12 : decode cX0_takeBackFrom 12 = .ok (.ifCond .le 29, 3) := by decide +kernel
theorem dX0_takeBackFrom_15 : decode cX0_takeBackFrom 15 = .ok (.aload_n 0, 1) := by decide +kernel
theorem dX0_takeBackFrom_16 : decode cX0_takeBackFrom 16 = .ok (.dup, 1) := by decide +kernel
theorem dX0_takeBackFrom_17 : decode cX0_takeBackFrom 17 = .ok (.getfield 40, 3) := by decide +kernel
theorem dX0_takeBackFrom_20 : decode cX0_takeBackFrom 20 = .ok (.iconst 1, 1) := by decide +kernel
theorem dX0_takeBackFrom_21 : decode cX0_takeBackFrom 21 = .ok (.isub, 1) := by decide +kernel
theorem dX0_takeBackFrom_22 : decode cX0_takeBackFrom 22 = .ok (.putfield 40, 3) := by decide +kernel
theorem dX0_takeBackFrom_25 : decode cX0_takeBackFrom 25 = .ok (.aload_n 0, 1) := by decide +kernel
theorem dX0_takeBackFrom_26 : decode cX0_takeBackFrom 26 = .ok (.aload_n 0, 1) := by decide +kernel
theorem dX0_takeBackFrom_27 : decode cX0_takeBackFrom 27 = .ok (.getfield 27, 3) := by decide +kernel
theorem dX0_takeBackFrom_30 : decode cX0_takeBackFrom 30 = .ok (.aload_n 0, 1) := by decide +kernel
theorem dX0_takeBackFrom_31 : decode cX0_takeBackFrom 31 = .ok (.getfield 40, 3) := by decide +kernel
theorem dX0_takeBackFrom_34 : decode cX0_takeBackFrom 34 = .ok (.iaload, 1) := by decide +kernel
theorem dX0_takeBackFrom_35 : decode cX0_takeBackFrom 35 = .ok (.invokevirtual 132, 3) := by decide +kernel
theorem dX0_takeBackFrom_38 : decode cX0_takeBackFrom 38 = .ok (.goto (-38), 3) := by decide +kernel
theorem dX0_takeBackFrom_41 : decode cX0_takeBackFrom 41 = .ok (.return_, 1) := by decide +kernel
theorem dX0_takeBack_0 : decode cX0_takeBack 0 = .ok (.iload_n 1, 1) := by decide +kernel
theorem dX0_takeBack_1 : decode cX0_takeBack 1 = .ok (.iconst 4, 1) := by decide +kernel
theorem dX0_takeBack_2 : decode cX0_takeBack 2 = .ok (.idiv, 1) := by decide +kernel
theorem dX0_takeBack_3 : decode cX0_takeBack 3 = .ok (.bipush 8, 2) := by decide +kernel
theorem dX0_takeBack_5 : decode cX0_takeBack 5 = .ok (.irem, 1) := by decide +kernel
theorem dX0_takeBack_6 : decode cX0_takeBack 6 = .ok (.istore_n 2, 1) := by decide +kernel
theorem dX0_takeBack_7 : decode cX0_takeBack 7 = .ok (.iload_n 1, 1) := by decide +kernel
theorem dX0_takeBack_8 : decode cX0_takeBack 8 = .ok (.iconst 4, 1) := by decide +kernel
theorem dX0_takeBack_9 : decode cX0_takeBack 9 = .ok (.irem, 1) := by decide +kernel
theorem dX0_takeBack_10 : decode cX0_takeBack 10 = .ok (.tableswitch 71 0 2 #[26, 39, 54], 26) := by decide +kernel
theorem dX0_takeBack_36 : decode cX0_takeBack 36 = .ok (.aload_n 0, 1) := by decide +kernel
theorem dX0_takeBack_37 : decode cX0_takeBack 37 = .ok (.dup, 1) := by decide +kernel
theorem dX0_takeBack_38 : decode cX0_takeBack 38 = .ok (.getfield 37, 3) := by decide +kernel
theorem dX0_takeBack_41 : decode cX0_takeBack 41 = .ok (.iconst 1, 1) := by decide +kernel
theorem dX0_takeBack_42 : decode cX0_takeBack 42 = .ok (.isub, 1) := by decide +kernel
theorem dX0_takeBack_43 : decode cX0_takeBack 43 = .ok (.putfield 37, 3) := by decide +kernel
theorem dX0_takeBack_46 : decode cX0_takeBack 46 = .ok (.goto 55, 3) := by decide +kernel
theorem dX0_takeBack_49 : decode cX0_takeBack 49 = .ok (.aload_n 0, 1) := by decide +kernel
theorem dX0_takeBack_50 : decode cX0_takeBack 50 = .ok (.dup, 1) := by decide +kernel
theorem dX0_takeBack_51 : decode cX0_takeBack 51 = .ok (.getfield 34, 3) := by decide +kernel
theorem dX0_takeBack_54 : decode cX0_takeBack 54 = .ok (.iconst 1, 1) := by decide +kernel
theorem dX0_takeBack_55 : decode cX0_takeBack 55 = .ok (.iload_n 2, 1) := by decide +kernel
theorem dX0_takeBack_56 : decode cX0_takeBack 56 = .ok (.ishl, 1) := by decide +kernel
theorem dX0_takeBack_57 : decode cX0_takeBack 57 = .ok (.ior, 1) := by decide +kernel
theorem dX0_takeBack_58 : decode cX0_takeBack 58 = .ok (.putfield 34, 3) := by decide +kernel
theorem dX0_takeBack_61 : decode cX0_takeBack 61 = .ok (.goto 40, 3) := by decide +kernel
theorem dX0_takeBack_64 : decode cX0_takeBack 64 = .ok (.aload_n 0, 1) := by decide +kernel
theorem dX0_takeBack_65 : decode cX0_takeBack 65 = .ok (.dup, 1) := by decide +kernel
theorem dX0_takeBack_66 : decode cX0_takeBack 66 = .ok (.getfield 34, 3) := by decide +kernel
theorem dX0_takeBack_69 : decode cX0_takeBack 69 = .ok (.iconst 1, 1) := by decide +kernel
theorem dX0_takeBack_70 : decode cX0_takeBack 70 = .ok (.iload_n 2, 1) := by decide +kernel
theorem dX0_takeBack_71 : decode cX0_takeBack 71 = .ok (.ishl, 1) := by decide +kernel
theorem dX0_takeBack_72 : decode cX0_takeBack 72 = .ok (.iconst (-1), 1) := by decide +kernel
theorem dX0_takeBack_73 : decode cX0_takeBack 73 = .ok (.ixor, 1) := by decide +kernel
theorem dX0_takeBack_74 : decode cX0_takeBack 74 = .ok (.iand, 1) := by decide +kernel
theorem dX0_takeBack_75 : decode cX0_takeBack 75 = .ok (.putfield 34, 3) := by decide +kernel
theorem dX0_takeBack_78 : decode cX0_takeBack 78 = .ok (.goto 23, 3) := by decide +kernel
theorem dX0_takeBack_81 : decode cX0_takeBack 81 = .ok (.aload_n 0, 1) := by decide +kernel
theorem dX0_takeBack_82 : decode cX0_takeBack 82 = .ok (.iload_n 2, 1) := by decide +kernel
theorem dX0_takeBack_83 : decode cX0_takeBack 83 = .ok (.invokevirtual 49, 3) := by decide +kernel
theorem dX0_takeBack_86 : decode cX0_takeBack 86 = .ok (.ifCond .eq 15, 3) := by decide +kernel
theorem dX0_takeBack_89 : decode cX0_takeBack 89 = .ok (.aload_n 0, 1) := by decide +kernel
theorem dX0_takeBack_90 : decode cX0_takeBack 90 = .ok (.getfield 21, 3) := by decide +kernel
theorem dX0_takeBack_93 : decode cX0_takeBack 93 = .ok (.iload_n 2, 1) := by decide +kernel
theorem dX0_takeBack_94 : decode cX0_takeBack 94 = .ok (.iload_n 1, 1) := by decide +kernel
theorem dX0_takeBack_95 : decode cX0_takeBack 95 = .ok (.iconst 4, 1) := by decide +kernel
theorem dX0_takeBack_96 : decode cX0_takeBack 96 = .ok (.idiv, 1) := by decide +kernel
theorem dX0_takeBack_97 : decode cX0_takeBack 97 = .ok (.bipush 8, 2) := by decide +kernel
theorem dX0_takeBack_99 : decode cX0_takeBack 99 = .ok (.idiv, 1) := by decide +kernel
theorem dX0_takeBack_100 : decode cX0_takeBack 100 = .ok (.iastore, 1) := by decide +kernel
theorem dX0_takeBack_101 : decode cX0_takeBack 101 = .ok (.return_, 1) := by decide +kernel
theorem dX1_init_0 : decode cX1_init 0 = .ok (.aload_n 0, 1) := by decide +kernel
theorem dX1_init_1 : decode cX1_init 1 = .ok (.invokespecial 3, 3) := by decide +kernel
theorem dX1_init_4 : decode cX1_init 4 = .ok (.aload_n 0, 1) := by decide +kernel
theorem dX1_init_5 : decode cX1_init 5 = .ok (.bipush 6, 2) := by decide +kernel
theorem dX1_init_7 : decode cX1_init 7 = .ok (.newarray .int, 2) := by decide +kernel
theorem dX1_init_9 : decode cX1_init 9 = .ok (.putfield 9, 3) := by decide +kernel
theorem dX1_init_12 : decode cX1_init 12 = .ok (.return_, 1) := by decide +kernel
theorem dX1_shortest_0 : decode cX1_shortest 0 = .ok (.iconst 0, 1) := by decide +kernel
theorem dX1_shortest_1 : decode cX1_shortest 1 = .ok (.istore 4, 2) := by decide +kernel
theorem dX1_shortest_3 : decode cX1_shortest 3 = .ok (.iload 4, 2) := by decide +kernel
theorem dX1_shortest_5 : decode cX1_shortest 5 = .ok (.bipush 6, 2) := by decide +kernel
theorem dX1_shortest_7 : decode cX1_shortest 7 = .ok (.if_icmp .ge 28, 3) := by decide +kernel
theorem dX1_shortest_10 : decode cX1_shortest 10 = .ok (.aload_n 0, 1) := by decide +kernel
theorem dX1_shortest_11 : decode cX1_shortest 11 = .ok (.getfield 9, 3) := by decide +kernel
theorem dX1_shortest_14 : decode cX1_shortest 14 = .ok (.iload 4, 2) := by decide +kernel
theorem dX1_shortest_16 : decode cX1_shortest 16 = .ok (.iload 4, 2) := by decide +kernel
theorem dX1_shortest_18 : decode cX1_shortest 18 = .ok (.iload_n 3, 1) := by decide +kernel
theorem dX1_shortest_19 : decode cX1_shortest 19 = .ok (.if_icmp .ne 7, 3) := by decide +kernel
theorem dX1_shortest_22 : decode cX1_shortest 22 = .ok (.iconst 0, 1) := by decide +kernel
theorem dX1_shortest_23 : decode cX1_shortest 23 = .ok (.goto 5, 3) := by decide +kernel
theorem dX1_shortest_26 : decode cX1_shortest 26 = .ok (.bipush (-9), 2) := by decide +kernel
theorem dX1_shortest_28 : decode cX1_shortest 28 = .ok (.iastore, 1) := by decide +kernel
theorem dX1_shortest_29 : decode cX1_shortest 29 = .ok (.iinc 4 1, 3) := by decide +kernel
theorem dX1_shortest_32 : decode cX1_shortest 32 = .ok (.goto (-29), 3) := by decide +kernel
theorem dX1_shortest_35 : decode cX1_shortest 35 = .ok (.iconst 1, 1) := by decide +kernel
theorem dX1_shortest_36 : decode cX1_shortest 36 = .ok (.istore 4, 2) := by decide +kernel
theorem dX1_shortest_38 : decode cX1_shortest 38 = .ok (.iload 4, 2) := by decide +kernel
theorem dX1_shortest_40 : decode cX1_shortest 40 = .ok (.bipush 6, 2) := by decide +kernel
theorem dX1_shortest_42 : decode cX1_shortest 42 = .ok (.if_icmp .ge 90, 3) := by decide +kernel
theorem dX1_shortest_45 : decode cX1_shortest 45 = .ok (.iconst 0, 1) := by decide +kernel
theorem dX1_shortest_46 : decode cX1_shortest 46 = .ok (.istore 5, 2) := by decide +kernel
theorem dX1_shortest_48 : decode cX1_shortest 48 = .ok (.iload 5, 2) := by decide +kernel
theorem dX1_shortest_50 : decode cX1_shortest 50 = .ok (.aload_n 1, 1) := by decide +kernel
theorem dX1_shortest_51 : decode cX1_shortest 51 = .ok (.invokevirtual 15, 3) := by decide +kernel
theorem dX1_shortest_54 : decode cX1_shortest 54 = .ok (.if_icmp .ge 72, 3) := by decide +kernel
theorem dX1_shortest_57 : decode cX1_shortest 57 = .ok (.aload_n 1, 1) := by decide +kernel
theorem dX1_shortest_58 : decode cX1_shortest 58 = .ok (.iload 5, 2) := by decide +kernel
theorem dX1_shortest_60 : decode cX1_shortest 60 = .ok (.invokevirtual 21, 3) := by decide +kernel
theorem dX1_shortest_63 : decode cX1_shortest 63 = .ok (.istore 6, 2) := by decide +kernel
theorem dX1_shortest_65 : decode cX1_shortest 65 = .ok (.aload_n 1, 1) := by decide +kernel
theorem dX1_shortest_66 : decode cX1_shortest 66 = .ok (.iload 5, 2) := by decide +kernel
theorem dX1_shortest_68 : decode cX1_shortest 68 = .ok (.invokevirtual 25, 3) := by decide +kernel
theorem dX1_shortest_71 : decode cX1_shortest 71 = .ok (.ifCond .eq 49, 3) := by decide +kernel
theorem dX1_shortest_74 : decode cX1_shortest 74 = .ok (.iload 6, 2) := by decide +kernel
theorem dX1_shortest_76 : decode cX1_shortest 76 = .ok (.invokestatic 29, 3) := by decide +kernel
theorem dX1_shortest_79 : decode cX1_shortest 79 = .ok (.ifCond .eq 41, 3) := by decide +kernel
theorem dX1_shortest_82 : decode cX1_shortest 82 = .ok (.aload_n 0, 1) := by decide +kernel
theorem dX1_shortest_83 : decode cX1_shortest 83 = .ok (.getfield 9, 3) := by decide +kernel
theorem dX1_shortest_86 : decode cX1_shortest 86 = .ok (.iload 6, 2) := by decide +kernel
theorem dX1_shortest_88 : decode cX1_shortest 88 = .ok (.iaload, 1) := by decide +kernel
theorem dX1_shortest_89 : decode cX1_shortest 89 = .ok (.bipush (-9), 2) := by decide +kernel
theorem dX1_shortest_91 : decode cX1_shortest 91 = .ok (.if_icmp .ne 29, 3) := by decide +kernel
theorem dX1_shortest_94 : decode cX1_shortest 94 = .ok (.aload_n 0, 1) := by decide +kernel
theorem dX1_shortest_95 : decode cX1_shortest 95 = .ok (.aload_n 1, 1) := by decide +kernel
theorem dX1_shortest_96 : decode cX1_shortest 96 = .ok (.iload 5, 2) := by decide +kernel
theorem dX1_shortest_98 : decode cX1_shortest 98 = .ok (.invokevirtual 32, 3) := by decide +kernel
theorem dX1_shortest_101 : decode cX1_shortest 101 = .ok (.invokevirtual 35, 3) := by decide +kernel
theorem dX1_shortest_104 : decode cX1_shortest 104 = .ok (.iload 4, 2) := by decide +kernel
theorem dX1_shortest_106 : decode cX1_shortest 106 = .ok (.iconst 1, 1) := by decide +kernel
theorem dX1_shortest_107 : decode cX1_shortest 107 = .ok (.isub, 1) := by decide +kernel
theorem dX1_shortest_108 : decode cX1_shortest 108 = .ok (.if_icmp .ne 12, 3) := by decide +kernel
theorem dX1_shortest_111 : decode cX1_shortest 111 = .ok (.aload_n 0, 1) := by decide +kernel
theorem dX1_shortest_112 : decode cX1_shortest 112 = .ok (.getfield 9, 3) := by decide +kernel
theorem dX1_shortest_115 : decode cX1_shortest 115 = .ok (.iload 6, 2) := by decide +kernel
theorem dX1_shortest_117 : decode cX1_shortest 117 = .ok (.iload 4, 2) := by decide +kernel
theorem dX1_shortest_119 : decode cX1_shortest 119 = .ok (.iastore, 1) := by decide +kernel
theorem dX1_shortest_120 : decode cX1_shortest 120 = .ok (.iinc 5 1, 3) := by decide +kernel
theorem dX1_shortest_123 : decode cX1_shortest 123 = .ok (.goto (-75), 3) := by decide +kernel
theorem dX1_shortest_126 : decode cX1_shortest 126 = .ok (.iinc 4 1, 3) := by decide +kernel
theorem dX1_shortest_129 : decode cX1_shortest 129 = .ok (.goto (-91), 3) := by decide +kernel
theorem dX1_shortest_132 : decode cX1_shortest 132 = .ok (.aload_n 0, 1) := by decide +kernel
theorem dX1_shortest_133 : decode cX1_shortest 133 = .ok (.iload_n 2, 1) := by decide +kernel
theorem dX1_shortest_134 : decode cX1_shortest 134 = .ok (.invokevirtual 35, 3) := by decide +kernel
theorem dX1_shortest_137 : decode cX1_shortest 137 = .ok (.ireturn, 1) := by decide +kernel
theorem dX1_stepsOf_0 : decode cX1_stepsOf 0 = .ok (.iload_n 1, 1) := by decide +kernel
theorem dX1_stepsOf_1 : decode cX1_stepsOf 1 = .ok (.invokestatic 29, 3) := by decide +kernel
theorem dX1_stepsOf_4 : decode cX1_stepsOf 4 = .ok (.ifCond .eq 12, 3) := by decide +kernel
theorem dX1_stepsOf_7 : decode cX1_stepsOf 7 = .ok (.aload_n 0, 1) := by decide +kernel
theorem dX1_stepsOf_8 : decode cX1_stepsOf 8 = .ok (.getfield 9, 3) := by decide +kernel
theorem dX1_stepsOf_11 : decode cX1_stepsOf 11 = .ok (.iload_n 1, 1) := by decide +kernel
theorem dX1_stepsOf_12 : decode cX1_stepsOf 12 = .ok (.iaload, 1) := by decide +kernel
theorem dX1_stepsOf_13 : decode cX1_stepsOf 13 = .ok (.goto 5, 3) := by decide +kernel
theorem dX1_stepsOf_16 : decode cX1_stepsOf 16 = .ok (.bipush (-9), 2) := by decide +kernel
theorem dX1_stepsOf_18 : decode cX1_stepsOf 18 = .ok (.ireturn, 1) := by decide +kernel
theorem dX1_write_0 : decode cX1_write 0 = .ok (.aload_n 3, 1) := by decide +kernel
theorem dX1_write_1 : decode cX1_write 1 = .ok (.aload_n 0, 1) := by decide +kernel
theorem dX1_write_2 : decode cX1_write 2 = .ok (.iload_n 2, 1) := by decide +kernel
theorem dX1_write_3 : decode cX1_write 3 = .ok (.invokevirtual 35, 3) := by decide +kernel
theorem dX1_write_6 : decode cX1_write 6 = .ok (.iconst 0, 1) := by decide +kernel
theorem dX1_write_7 : decode cX1_write 7 = .ok (.invokevirtual 38, 3) := by decide +kernel
theorem dX1_write_10 : decode cX1_write 10 = .ok (.iload_n 2, 1) := by decide +kernel
theorem dX1_write_11 : decode cX1_write 11 = .ok (.istore 4, 2) := by decide +kernel
theorem dX1_write_13 : decode cX1_write 13 = .ok (.iconst 0, 1) := by decide +kernel
theorem dX1_write_14 : decode cX1_write 14 = .ok (.istore 5, 2) := by decide +kernel
theorem dX1_write_16 : decode cX1_write 16 = .ok (.iload 5, 2) := by decide +kernel
theorem dX1_write_18 : decode cX1_write 18 = .ok (.aload_n 3, 1) := by decide +kernel
theorem dX1_write_19 : decode cX1_write 19 = .ok (.invokevirtual 44, 3) := by decide +kernel
theorem dX1_write_22 : decode cX1_write 22 = .ok (.if_icmp .ge 34, 3) := by decide +kernel
theorem dX1_write_25 : decode cX1_write 25 = .ok (.aload_n 0, 1) := by decide +kernel
theorem dX1_write_26 : decode cX1_write 26 = .ok (.aload_n 1, 1) := by decide +kernel
theorem dX1_write_27 : decode cX1_write 27 = .ok (.iload 4, 2) := by decide +kernel
theorem dX1_write_29 : decode cX1_write 29 = .ok (.invokevirtual 45, 3) := by decide +kernel
theorem dX1_write_32 : decode cX1_write 32 = .ok (.istore 6, 2) := by decide +kernel
theorem dX1_write_34 : decode cX1_write 34 = .ok (.aload_n 3, 1) := by decide +kernel
theorem dX1_write_35 : decode cX1_write 35 = .ok (.iload 5, 2) := by decide +kernel
theorem dX1_write_37 : decode cX1_write 37 = .ok (.iload 6, 2) := by decide +kernel
theorem dX1_write_39 : decode cX1_write 39 = .ok (.invokevirtual 49, 3) := by decide +kernel
theorem dX1_write_42 : decode cX1_write 42 = .ok (.aload_n 1, 1) := by decide +kernel
theorem dX1_write_43 : decode cX1_write 43 = .ok (.iload 6, 2) := by decide +kernel
theorem dX1_write_45 : decode cX1_write 45 = .ok (.invokevirtual 32, 3) := by decide +kernel
theorem dX1_write_48 : decode cX1_write 48 = .ok (.istore 4, 2) := by decide +kernel
theorem dX1_write_50 : decode cX1_write 50 = .ok (.iinc 5 1, 3) := by decide +kernel
theorem dX1_write_53 : decode cX1_write 53 = .ok (.goto (-37), 3) := by decide +kernel
theorem dX1_write_56 : decode cX1_write 56 = .ok (.return_, 1) := by decide +kernel
theorem dX1_lowestNearer_0 : decode cX1_lowestNearer 0 = .ok (.iconst 0, 1) := by decide +kernel
theorem dX1_lowestNearer_1 : decode cX1_lowestNearer 1 = .ok (.istore_n 3, 1) := by decide +kernel
theorem dX1_lowestNearer_2 : decode cX1_lowestNearer 2 = .ok (.iload_n 3, 1) := by decide +kernel
theorem dX1_lowestNearer_3 : decode cX1_lowestNearer 3 = .ok (.aload_n 1, 1) := by decide +kernel
theorem dX1_lowestNearer_4 : decode cX1_lowestNearer 4 = .ok (.invokevirtual 15, 3) := by decide +kernel
theorem dX1_lowestNearer_7 : decode cX1_lowestNearer 7 = .ok (.if_icmp .ge 47, 3) := by decide +kernel
theorem dX1_lowestNearer_10 : decode cX1_lowestNearer 10 = .ok (.aload_n 1, 1) := by decide +kernel
theorem dX1_lowestNearer_11 : decode cX1_lowestNearer 11 = .ok (.iload_n 3, 1) := by decide +kernel
theorem dX1_lowestNearer_12 : decode cX1_lowestNearer 12 = .ok (.invokevirtual 25, 3) := by decide +kernel
theorem dX1_lowestNearer_15 : decode cX1_lowestNearer 15 = .ok (.ifCond .eq 33, 3) := by decide +kernel
theorem dX1_lowestNearer_18 : decode cX1_lowestNearer 18 = .ok (.aload_n 1, 1) := by decide +kernel
theorem dX1_lowestNearer_19 : decode cX1_lowestNearer 19 = .ok (.iload_n 3, 1) := by decide +kernel
theorem dX1_lowestNearer_20 : decode cX1_lowestNearer 20 = .ok (.invokevirtual 21, 3) := by decide +kernel
theorem dX1_lowestNearer_23 : decode cX1_lowestNearer 23 = .ok (.iload_n 2, 1) := by decide +kernel
theorem dX1_lowestNearer_24 : decode cX1_lowestNearer 24 = .ok (.if_icmp .ne 24, 3) := by decide +kernel
theorem dX1_lowestNearer_27 : decode cX1_lowestNearer 27 = .ok (.aload_n 0, 1) := by decide +kernel
theorem dX1_lowestNearer_28 : decode cX1_lowestNearer 28 = .ok (.aload_n 1, 1) := by decide +kernel
theorem dX1_lowestNearer_29 : decode cX1_lowestNearer 29 = .ok (.iload_n 3, 1) := by decide +kernel
theorem dX1_lowestNearer_30 : decode cX1_lowestNearer 30 = .ok (.invokevirtual 32, 3) := by decide +kernel
theorem dX1_lowestNearer_33 : decode cX1_lowestNearer 33 = .ok (.invokevirtual 35, 3) := by decide +kernel
theorem dX1_lowestNearer_36 : decode cX1_lowestNearer 36 = .ok (.aload_n 0, 1) := by decide +kernel
theorem dX1_lowestNearer_37 : decode cX1_lowestNearer 37 = .ok (.iload_n 2, 1) := by decide +kernel
theorem dX1_lowestNearer_38 : decode cX1_lowestNearer 38 = .ok (.invokevirtual 35, 3) := by decide +kernel
theorem dX1_lowestNearer_41 : decode cX1_lowestNearer 41 = .ok (.iconst 1, 1) := by decide +kernel
theorem dX1_lowestNearer_42 : decode cX1_lowestNearer 42 = .ok (.isub, 1) := by decide +kernel
theorem dX1_lowestNearer_43 : decode cX1_lowestNearer 43 = .ok (.if_icmp .ne 5, 3) := by decide +kernel
theorem dX1_lowestNearer_46 : decode cX1_lowestNearer 46 = .ok (.iload_n 3, 1) := by decide +kernel
theorem dX1_lowestNearer_47 : decode cX1_lowestNearer 47 = .ok (.ireturn, 1) := by decide +kernel
theorem dX1_lowestNearer_48 : decode cX1_lowestNearer 48 = .ok (.iinc 3 1, 3) := by decide +kernel
theorem dX1_lowestNearer_51 : decode cX1_lowestNearer 51 = .ok (.goto (-49), 3) := by decide +kernel
theorem dX1_lowestNearer_54 : decode cX1_lowestNearer 54 = .ok (.bipush (-9), 2) := by decide +kernel
theorem dX1_lowestNearer_56 : decode cX1_lowestNearer 56 = .ok (.ireturn, 1) := by decide +kernel
theorem dX2_ofLetter_0 : decode cX2_ofLetter 0 = .ok (.iconst 0, 1) := by decide +kernel
theorem dX2_ofLetter_1 : decode cX2_ofLetter 1 = .ok (.istore_n 1, 1) := by decide +kernel
theorem dX2_ofLetter_2 : decode cX2_ofLetter 2 = .ok (.iload_n 1, 1) := by decide +kernel
theorem dX2_ofLetter_3 : decode cX2_ofLetter 3 = .ok (.getstatic 9, 3) := by decide +kernel
theorem dX2_ofLetter_6 : decode cX2_ofLetter 6 = .ok (.arraylength, 1) := by decide +kernel
theorem dX2_ofLetter_7 : decode cX2_ofLetter 7 = .ok (.if_icmp .ge 20, 3) := by decide +kernel
theorem dX2_ofLetter_10 : decode cX2_ofLetter 10 = .ok (.getstatic 9, 3) := by decide +kernel
theorem dX2_ofLetter_13 : decode cX2_ofLetter 13 = .ok (.iload_n 1, 1) := by decide +kernel
theorem dX2_ofLetter_14 : decode cX2_ofLetter 14 = .ok (.iaload, 1) := by decide +kernel
theorem dX2_ofLetter_15 : decode cX2_ofLetter 15 = .ok (.iload_n 0, 1) := by decide +kernel
theorem dX2_ofLetter_16 : decode cX2_ofLetter 16 = .ok (.if_icmp .ne 5, 3) := by decide +kernel
theorem dX2_ofLetter_19 : decode cX2_ofLetter 19 = .ok (.iload_n 1, 1) := by decide +kernel
theorem dX2_ofLetter_20 : decode cX2_ofLetter 20 = .ok (.ireturn, 1) := by decide +kernel
theorem dX2_ofLetter_21 : decode cX2_ofLetter 21 = .ok (.iinc 1 1, 3) := by decide +kernel
theorem dX2_ofLetter_24 : decode cX2_ofLetter 24 = .ok (.goto (-22), 3) := by decide +kernel
theorem dX2_ofLetter_27 : decode cX2_ofLetter 27 = .ok (.bipush (-9), 2) := by decide +kernel
theorem dX2_ofLetter_29 : decode cX2_ofLetter 29 = .ok (.ireturn, 1) := by decide +kernel
theorem dX2_parentOf_0 : decode cX2_parentOf 0 = .ok (.iload_n 0, 1) := by decide +kernel
theorem dX2_parentOf_1 : decode cX2_parentOf 1 = .ok (.lookupswitch 31 #[(4, 27), (5, 29)], 27) := by decide +kernel
theorem dX2_parentOf_28 : decode cX2_parentOf 28 = .ok (.iconst 2, 1) := by decide +kernel
theorem dX2_parentOf_29 : decode cX2_parentOf 29 = .ok (.ireturn, 1) := by decide +kernel
theorem dX2_parentOf_30 : decode cX2_parentOf 30 = .ok (.iconst 3, 1) := by decide +kernel
theorem dX2_parentOf_31 : decode cX2_parentOf 31 = .ok (.ireturn, 1) := by decide +kernel
theorem dX2_parentOf_32 : decode cX2_parentOf 32 = .ok (.iconst 0, 1) := by decide +kernel
theorem dX2_parentOf_33 : decode cX2_parentOf 33 = .ok (.ireturn, 1) := by decide +kernel
theorem dX2_isOf_0 : decode cX2_isOf 0 = .ok (.iload_n 0, 1) := by decide +kernel
theorem dX2_isOf_1 : decode cX2_isOf 1 = .ok (.iload_n 1, 1) := by decide +kernel
theorem dX2_isOf_2 : decode cX2_isOf 2 = .ok (.if_icmp .eq 15, 3) := by decide +kernel
theorem dX2_isOf_5 : decode cX2_isOf 5 = .ok (.iload_n 0, 1) := by decide +kernel
theorem dX2_isOf_6 : decode cX2_isOf 6 = .ok (.invokestatic 15, 3) := by decide +kernel
theorem dX2_isOf_9 : decode cX2_isOf 9 = .ok (.iload_n 1, 1) := by decide +kernel
theorem dX2_isOf_10 : decode cX2_isOf 10 = .ok (.if_icmp .eq 7, 3) := by decide +kernel
theorem dX2_isOf_13 : decode cX2_isOf 13 = .ok (.iload_n 1, 1) := by decide +kernel
theorem dX2_isOf_14 : decode cX2_isOf 14 = .ok (.ifCond .ne 7, 3) := by decide +kernel
theorem dX2_isOf_17 : decode cX2_isOf 17 = .ok (.iconst 1, 1) := by decide +kernel
theorem dX2_isOf_18 : decode cX2_isOf 18 = .ok (.goto 4, 3) := by decide +kernel
theorem dX2_isOf_21 : decode cX2_isOf 21 = .ok (.iconst 0, 1) := by decide +kernel
theorem dX2_isOf_22 : decode cX2_isOf 22 = .ok (.ireturn, 1) := by decide +kernel
theorem dX2_glow_0 : decode cX2_glow 0 = .ok (.bipush 20, 2) := by decide +kernel
theorem dX2_glow_2 : decode cX2_glow 2 = .ok (.iload_n 1, 1) := by decide +kernel
theorem dX2_glow_3 : decode cX2_glow 3 = .ok (.iload_n 2, 1) := by decide +kernel
theorem dX2_glow_4 : decode cX2_glow 4 = .ok (.iadd, 1) := by decide +kernel
theorem dX2_glow_5 : decode cX2_glow 5 = .ok (.invokestatic 19, 3) := by decide +kernel
theorem dX2_glow_8 : decode cX2_glow 8 = .ok (.istore_n 3, 1) := by decide +kernel
theorem dX2_glow_9 : decode cX2_glow 9 = .ok (.bipush 9, 2) := by decide +kernel
theorem dX2_glow_11 : decode cX2_glow 11 = .ok (.iload_n 1, 1) := by decide +kernel
theorem dX2_glow_12 : decode cX2_glow 12 = .ok (.isub, 1) := by decide +kernel
theorem dX2_glow_13 : decode cX2_glow 13 = .ok (.iload_n 2, 1) := by decide +kernel
theorem dX2_glow_14 : decode cX2_glow 14 = .ok (.iconst 2, 1) := by decide +kernel
theorem dX2_glow_15 : decode cX2_glow 15 = .ok (.irem, 1) := by decide +kernel
theorem dX2_glow_16 : decode cX2_glow 16 = .ok (.iadd, 1) := by decide +kernel
theorem dX2_glow_17 : decode cX2_glow 17 = .ok (.istore 4, 2) := by decide +kernel
theorem dX2_glow_19 : decode cX2_glow 19 = .ok (.iload_n 0, 1) := by decide +kernel
theorem dX2_glow_20 : decode cX2_glow 20 = .ok (.tableswitch 67 1 5 #[36, 42, 44, 47, 60], 36) := by decide +kernel
theorem dX2_glow_56 : decode cX2_glow 56 = .ok (.iload_n 1, 1) := by decide +kernel
theorem dX2_glow_57 : decode cX2_glow 57 = .ok (.iconst 1, 1) := by decide +kernel
theorem dX2_glow_58 : decode cX2_glow 58 = .ok (.iadd, 1) := by decide +kernel
theorem dX2_glow_59 : decode cX2_glow 59 = .ok (.iconst 2, 1) := by decide +kernel
theorem dX2_glow_60 : decode cX2_glow 60 = .ok (.idiv, 1) := by decide +kernel
theorem dX2_glow_61 : decode cX2_glow 61 = .ok (.ireturn, 1) := by decide +kernel
theorem dX2_glow_62 : decode cX2_glow 62 = .ok (.iload_n 3, 1) := by decide +kernel
theorem dX2_glow_63 : decode cX2_glow 63 = .ok (.ireturn, 1) := by decide +kernel
theorem dX2_glow_64 : decode cX2_glow 64 = .ok (.iload 4, 2) := by decide +kernel
theorem dX2_glow_66 : decode cX2_glow 66 = .ok (.ireturn, 1) := by decide +kernel
theorem dX2_glow_67 : decode cX2_glow 67 = .ok (.iload_n 2, 1) := by decide +kernel
theorem dX2_glow_68 : decode cX2_glow 68 = .ok (.iconst 5, 1) := by decide +kernel
theorem dX2_glow_69 : decode cX2_glow 69 = .ok (.if_icmp .ge 7, 3) := by decide +kernel
theorem dX2_glow_72 : decode cX2_glow 72 = .ok (.iload_n 3, 1) := by decide +kernel
theorem dX2_glow_73 : decode cX2_glow 73 = .ok (.goto 6, 3) := by decide +kernel
theorem dX2_glow_76 : decode cX2_glow 76 = .ok (.iload_n 3, 1) := by decide +kernel
theorem dX2_glow_77 : decode cX2_glow 77 = .ok (.iconst 2, 1) := by decide +kernel
theorem dX2_glow_78 : decode cX2_glow 78 = .ok (.idiv, 1) := by decide +kernel
theorem dX2_glow_79 : decode cX2_glow 79 = .ok (.ireturn, 1) := by decide +kernel
theorem dX2_glow_80 : decode cX2_glow 80 = .ok (.iconst 5, 1) := by decide +kernel
theorem dX2_glow_81 : decode cX2_glow 81 = .ok (.iload 4, 2) := by decide +kernel
theorem dX2_glow_83 : decode cX2_glow 83 = .ok (.invokestatic 25, 3) := by decide +kernel
theorem dX2_glow_86 : decode cX2_glow 86 = .ok (.ireturn, 1) := by decide +kernel
theorem dX2_glow_87 : decode cX2_glow 87 = .ok (.iload_n 1, 1) := by decide +kernel
theorem dX2_glow_88 : decode cX2_glow 88 = .ok (.ireturn, 1) := by decide +kernel
theorem dX2_signOf_0 : decode cX2_signOf 0 = .ok (.iload_n 1, 1) := by decide +kernel
theorem dX2_signOf_1 : decode cX2_signOf 1 = .ok (.iload_n 2, 1) := by decide +kernel
theorem dX2_signOf_2 : decode cX2_signOf 2 = .ok (.iload_n 3, 1) := by decide +kernel
theorem dX2_signOf_3 : decode cX2_signOf 3 = .ok (.invokestatic 28, 3) := by decide +kernel
theorem dX2_signOf_6 : decode cX2_signOf 6 = .ok (.iload_n 0, 1) := by decide +kernel
theorem dX2_signOf_7 : decode cX2_signOf 7 = .ok (.invokestatic 15, 3) := by decide +kernel
theorem dX2_signOf_10 : decode cX2_signOf 10 = .ok (.iload_n 2, 1) := by decide +kernel
theorem dX2_signOf_11 : decode cX2_signOf 11 = .ok (.iload_n 3, 1) := by decide +kernel
theorem dX2_signOf_12 : decode cX2_signOf 12 = .ok (.invokestatic 28, 3) := by decide +kernel
theorem dX2_signOf_15 : decode cX2_signOf 15 = .ok (.isub, 1) := by decide +kernel
theorem dX2_signOf_16 : decode cX2_signOf 16 = .ok (.istore 4, 2) := by decide +kernel
theorem dX2_signOf_18 : decode cX2_signOf 18 = .ok (.iload_n 0, 1) := by decide +kernel
theorem dX2_signOf_19 : decode cX2_signOf 19 = .ok (.tableswitch 44 2 5 #[29, 35, 44, 41], 29) := by decide +kernel
theorem dX2_signOf_48 : decode cX2_signOf 48 = .ok (.iload 4, 2) := by decide +kernel
theorem dX2_signOf_50 : decode cX2_signOf 50 = .ok (.bipush 100, 2) := by decide +kernel
theorem dX2_signOf_52 : decode cX2_signOf 52 = .ok (.iadd, 1) := by decide +kernel
theorem dX2_signOf_53 : decode cX2_signOf 53 = .ok (.ireturn, 1) := by decide +kernel
theorem dX2_signOf_54 : decode cX2_signOf 54 = .ok (.bipush 100, 2) := by decide +kernel
theorem dX2_signOf_56 : decode cX2_signOf 56 = .ok (.iload 4, 2) := by decide +kernel
theorem dX2_signOf_58 : decode cX2_signOf 58 = .ok (.isub, 1) := by decide +kernel
theorem dX2_signOf_59 : decode cX2_signOf 59 = .ok (.ireturn, 1) := by decide +kernel
theorem dX2_signOf_60 : decode cX2_signOf 60 = .ok (.iload 4, 2) := by decide +kernel
theorem dX2_signOf_62 : decode cX2_signOf 62 = .ok (.ireturn, 1) := by decide +kernel
theorem dX2_signOf_63 : decode cX2_signOf 63 = .ok (.iload 4, 2) := by decide +kernel
theorem dX2_signOf_65 : decode cX2_signOf 65 = .ok (.ineg, 1) := by decide +kernel
theorem dX2_signOf_66 : decode cX2_signOf 66 = .ok (.ireturn, 1) := by decide +kernel
theorem dX3_arePairs_0 : decode cX3_arePairs 0 = .ok (.iconst 0, 1) := by decide +kernel
theorem dX3_arePairs_1 : decode cX3_arePairs 1 = .ok (.istore_n 1, 1) := by decide +kernel
theorem dX3_arePairs_2 : decode cX3_arePairs 2 = .ok (.iload_n 1, 1) := by decide +kernel
theorem dX3_arePairs_3 : decode cX3_arePairs 3 = .ok (.aload_n 0, 1) := by decide +kernel
theorem dX3_arePairs_4 : decode cX3_arePairs 4 = .ok (.invokevirtual 9, 3) := by decide +kernel
theorem dX3_arePairs_7 : decode cX3_arePairs 7 = .ok (.if_icmp .ge 29, 3) := by decide +kernel
theorem dX3_arePairs_10 : decode cX3_arePairs 10 = .ok (.aload_n 0, 1) := by decide +kernel
theorem dX3_arePairs_11 : decode cX3_arePairs 11 = .ok (.iload_n 1, 1) := by decide +kernel
theorem dX3_arePairs_12 : decode cX3_arePairs 12 = .ok (.invokevirtual 15, 3) := by decide +kernel
theorem dX3_arePairs_15 : decode cX3_arePairs 15 = .ok (.ifCond .lt 13, 3) := by decide +kernel
theorem dX3_arePairs_18 : decode cX3_arePairs 18 = .ok (.aload_n 0, 1) := by decide +kernel
theorem dX3_arePairs_19 : decode cX3_arePairs 19 = .ok (.iload_n 1, 1) := by decide +kernel
theorem dX3_arePairs_20 : decode cX3_arePairs 20 = .ok (.invokevirtual 15, 3) := by decide +kernel
theorem dX3_arePairs_23 : decode cX3_arePairs 23 = .ok (.bipush 99, 2) := by decide +kernel
theorem dX3_arePairs_25 : decode cX3_arePairs 25 = .ok (.if_icmp .le 5, 3) := by decide +kernel
theorem dX3_arePairs_28 : decode cX3_arePairs 28 = .ok (.iconst 0, 1) := by decide +kernel
theorem dX3_arePairs_29 : decode cX3_arePairs 29 = .ok (.ireturn, 1) := by decide +kernel
theorem dX3_arePairs_30 : decode cX3_arePairs 30 = .ok (.iinc 1 1, 3) := by decide +kernel
theorem dX3_arePairs_33 : decode cX3_arePairs 33 = .ok (.goto (-31), 3) := by decide +kernel
theorem dX3_arePairs_36 : decode cX3_arePairs 36 = .ok (.iconst 1, 1) := by decide +kernel
theorem dX3_arePairs_37 : decode cX3_arePairs 37 = .ok (.ireturn, 1) := by decide +kernel
theorem dX3_areTold_0 : decode cX3_areTold 0 = .ok (.iconst 0, 1) := by decide +kernel
theorem dX3_areTold_1 : decode cX3_areTold 1 = .ok (.istore_n 1, 1) := by decide +kernel
theorem dX3_areTold_2 : decode cX3_areTold 2 = .ok (.iload_n 1, 1) := by decide +kernel
theorem dX3_areTold_3 : decode cX3_areTold 3 = .ok (.aload_n 0, 1) := by decide +kernel
theorem dX3_areTold_4 : decode cX3_areTold 4 = .ok (.invokevirtual 9, 3) := by decide +kernel
theorem dX3_areTold_7 : decode cX3_areTold 7 = .ok (.if_icmp .ge 40, 3) := by decide +kernel
theorem dX3_areTold_10 : decode cX3_areTold 10 = .ok (.aload_n 0, 1) := by decide +kernel
theorem dX3_areTold_11 : decode cX3_areTold 11 = .ok (.iload_n 1, 1) := by decide +kernel
theorem dX3_areTold_12 : decode cX3_areTold 12 = .ok (.invokevirtual 15, 3) := by decide +kernel
theorem dX3_areTold_15 : decode cX3_areTold 15 = .ok (.bipush (-9), 2) := by decide +kernel
theorem dX3_areTold_17 : decode cX3_areTold 17 = .ok (.if_icmp .eq 24, 3) := by decide +kernel
theorem dX3_areTold_20 : decode cX3_areTold 20 = .ok (.aload_n 0, 1) := by decide +kernel
theorem dX3_areTold_21 : decode cX3_areTold 21 = .ok (.iload_n 1, 1) := by decide +kernel
theorem dX3_areTold_22 : decode cX3_areTold 22 = .ok (.invokevirtual 15, 3) := by decide +kernel
theorem dX3_areTold_25 : decode cX3_areTold 25 = .ok (.ifCond .lt 14, 3) := by decide +kernel
theorem dX3_areTold_28 : decode cX3_areTold 28 = .ok (.aload_n 0, 1) := by decide +kernel
theorem dX3_areTold_29 : decode cX3_areTold 29 = .ok (.iload_n 1, 1) := by decide +kernel
theorem dX3_areTold_30 : decode cX3_areTold 30 = .ok (.invokevirtual 15, 3) := by decide +kernel
theorem dX3_areTold_33 : decode cX3_areTold 33 = .ok (.sipush 200, 3) := by decide +kernel
theorem dX3_areTold_36 : decode cX3_areTold 36 = .ok (.if_icmp .le 5, 3) := by decide +kernel
theorem dX3_areTold_39 : decode cX3_areTold 39 = .ok (.iconst 0, 1) := by decide +kernel
theorem dX3_areTold_40 : decode cX3_areTold 40 = .ok (.ireturn, 1) := by decide +kernel
theorem dX3_areTold_41 : decode cX3_areTold 41 = .ok (.iinc 1 1, 3) := by decide +kernel
theorem dX3_areTold_44 : decode cX3_areTold 44 = .ok (.goto (-42), 3) := by decide +kernel
theorem dX3_areTold_47 : decode cX3_areTold 47 = .ok (.iconst 1, 1) := by decide +kernel
theorem dX3_areTold_48 : decode cX3_areTold 48 = .ok (.ireturn, 1) := by decide +kernel
theorem dX3_fit_0 : decode cX3_fit 0 = .ok (.iconst 0, 1) := by decide +kernel
theorem dX3_fit_1 : decode cX3_fit 1 = .ok (.istore_n 3, 1) := by decide +kernel
theorem dX3_fit_2 : decode cX3_fit 2 = .ok (.iload_n 3, 1) := by decide +kernel
theorem dX3_fit_3 : decode cX3_fit 3 = .ok (.iconst 1, 1) := by decide +kernel
theorem dX3_fit_4 : decode cX3_fit 4 = .ok (.iadd, 1) := by decide +kernel
theorem dX3_fit_5 : decode cX3_fit 5 = .ok (.aload_n 2, 1) := by decide +kernel
theorem dX3_fit_6 : decode cX3_fit 6 = .ok (.invokevirtual 9, 3) := by decide +kernel
theorem dX3_fit_9 : decode cX3_fit 9 = .ok (.if_icmp .ge 31, 3) := by decide +kernel
theorem dX3_fit_12 : decode cX3_fit 12 = .ok (.iload_n 0, 1) := by decide +kernel
theorem dX3_fit_13 : decode cX3_fit 13 = .ok (.iload_n 1, 1) := by decide +kernel
theorem dX3_fit_14 : decode cX3_fit 14 = .ok (.aload_n 2, 1) := by decide +kernel
theorem dX3_fit_15 : decode cX3_fit 15 = .ok (.iload_n 3, 1) := by decide +kernel
theorem dX3_fit_16 : decode cX3_fit 16 = .ok (.invokevirtual 15, 3) := by decide +kernel
theorem dX3_fit_19 : decode cX3_fit 19 = .ok (.invokestatic 19, 3) := by decide +kernel
theorem dX3_fit_22 : decode cX3_fit 22 = .ok (.aload_n 2, 1) := by decide +kernel
theorem dX3_fit_23 : decode cX3_fit 23 = .ok (.iload_n 3, 1) := by decide +kernel
theorem dX3_fit_24 : decode cX3_fit 24 = .ok (.iconst 1, 1) := by decide +kernel
theorem dX3_fit_25 : decode cX3_fit 25 = .ok (.iadd, 1) := by decide +kernel
theorem dX3_fit_26 : decode cX3_fit 26 = .ok (.invokevirtual 15, 3) := by decide +kernel
theorem dX3_fit_29 : decode cX3_fit 29 = .ok (.if_icmp .eq 5, 3) := by decide +kernel
theorem dX3_fit_32 : decode cX3_fit 32 = .ok (.iconst 0, 1) := by decide +kernel
theorem dX3_fit_33 : decode cX3_fit 33 = .ok (.ireturn, 1) := by decide +kernel
theorem dX3_fit_34 : decode cX3_fit 34 = .ok (.iinc 3 2, 3) := by decide +kernel
theorem dX3_fit_37 : decode cX3_fit 37 = .ok (.goto (-35), 3) := by decide +kernel
theorem dX3_fit_40 : decode cX3_fit 40 = .ok (.iconst 1, 1) := by decide +kernel
theorem dX3_fit_41 : decode cX3_fit 41 = .ok (.ireturn, 1) := by decide +kernel
theorem dX3_fittingFirsts_0 : decode cX3_fittingFirsts 0 = .ok (.iconst 0, 1) := by decide +kernel
theorem dX3_fittingFirsts_1 : decode cX3_fittingFirsts 1 = .ok (.istore_n 2, 1) := by decide +kernel
theorem dX3_fittingFirsts_2 : decode cX3_fittingFirsts 2 = .ok (.iconst 0, 1) := by decide +kernel
theorem dX3_fittingFirsts_3 : decode cX3_fittingFirsts 3 = .ok (.istore_n 3, 1) := by decide +kernel
theorem dX3_fittingFirsts_4 : decode cX3_fittingFirsts 4 = .ok (.iload_n 3, 1) := by decide +kernel
theorem dX3_fittingFirsts_5 : decode cX3_fittingFirsts 5 = .ok (.bipush 10, 2) := by decide +kernel
theorem dX3_fittingFirsts_7 : decode cX3_fittingFirsts 7 = .ok (.if_icmp .ge 24, 3) := by decide +kernel
theorem dX3_fittingFirsts_10 : decode cX3_fittingFirsts 10 = .ok (.iload_n 0, 1) := by decide +kernel
theorem dX3_fittingFirsts_11 : decode cX3_fittingFirsts 11 = .ok (.iload_n 3, 1) := by decide +kernel
theorem dX3_fittingFirsts_12 : decode cX3_fittingFirsts 12 = .ok (.aload_n 1, 1) := by decide +kernel
theorem dX3_fittingFirsts_13 : decode cX3_fittingFirsts 13 = .ok (.invokestatic 25, 3) := by decide +kernel
theorem dX3_fittingFirsts_16 : decode cX3_fittingFirsts 16 = .ok (.ifCond .eq 9, 3) := by decide +kernel
theorem dX3_fittingFirsts_19 : decode cX3_fittingFirsts 19 = .ok (.iload_n 2, 1) := by decide +kernel
theorem dX3_fittingFirsts_20 : decode cX3_fittingFirsts 20 = .ok (.iconst 1, 1) := by decide +kernel
theorem dX3_fittingFirsts_21 : decode cX3_fittingFirsts 21 = .ok (.iload_n 3, 1) := by decide +kernel
theorem dX3_fittingFirsts_22 : decode cX3_fittingFirsts 22 = .ok (.ishl, 1) := by decide +kernel
theorem dX3_fittingFirsts_23 : decode cX3_fittingFirsts 23 = .ok (.ior, 1) := by decide +kernel
theorem dX3_fittingFirsts_24 : decode cX3_fittingFirsts 24 = .ok (.istore_n 2, 1) := by decide +kernel
theorem dX3_fittingFirsts_25 : decode cX3_fittingFirsts 25 = .ok (.iinc 3 1, 3) := by decide +kernel
theorem dX3_fittingFirsts_28 : decode cX3_fittingFirsts 28 = .ok (.goto (-24), 3) := by decide +kernel
theorem dX3_fittingFirsts_31 : decode cX3_fittingFirsts 31 = .ok (.iload_n 2, 1) := by decide +kernel
theorem dX3_fittingFirsts_32 : decode cX3_fittingFirsts 32 = .ok (.ireturn, 1) := by decide +kernel
theorem dX3_fittingKinds_0 : decode cX3_fittingKinds 0 = .ok (.iconst 0, 1) := by decide +kernel
theorem dX3_fittingKinds_1 : decode cX3_fittingKinds 1 = .ok (.istore_n 2, 1) := by decide +kernel
theorem dX3_fittingKinds_2 : decode cX3_fittingKinds 2 = .ok (.iconst 0, 1) := by decide +kernel
theorem dX3_fittingKinds_3 : decode cX3_fittingKinds 3 = .ok (.istore_n 3, 1) := by decide +kernel
theorem dX3_fittingKinds_4 : decode cX3_fittingKinds 4 = .ok (.iload_n 3, 1) := by decide +kernel
theorem dX3_fittingKinds_5 : decode cX3_fittingKinds 5 = .ok (.bipush 6, 2) := by decide +kernel
theorem dX3_fittingKinds_7 : decode cX3_fittingKinds 7 = .ok (.if_icmp .ge 24, 3) := by decide +kernel
theorem dX3_fittingKinds_10 : decode cX3_fittingKinds 10 = .ok (.iload_n 3, 1) := by decide +kernel
theorem dX3_fittingKinds_11 : decode cX3_fittingKinds 11 = .ok (.iload_n 0, 1) := by decide +kernel
theorem dX3_fittingKinds_12 : decode cX3_fittingKinds 12 = .ok (.aload_n 1, 1) := by decide +kernel
theorem dX3_fittingKinds_13 : decode cX3_fittingKinds 13 = .ok (.invokestatic 25, 3) := by decide +kernel
theorem dX3_fittingKinds_16 : decode cX3_fittingKinds 16 = .ok (.ifCond .eq 9, 3) := by decide +kernel
theorem dX3_fittingKinds_19 : decode cX3_fittingKinds 19 = .ok (.iload_n 2, 1) := by decide +kernel
theorem dX3_fittingKinds_20 : decode cX3_fittingKinds 20 = .ok (.iconst 1, 1) := by decide +kernel
theorem dX3_fittingKinds_21 : decode cX3_fittingKinds 21 = .ok (.iload_n 3, 1) := by decide +kernel
theorem dX3_fittingKinds_22 : decode cX3_fittingKinds 22 = .ok (.ishl, 1) := by decide +kernel
theorem dX3_fittingKinds_23 : decode cX3_fittingKinds 23 = .ok (.ior, 1) := by decide +kernel
theorem dX3_fittingKinds_24 : decode cX3_fittingKinds 24 = .ok (.istore_n 2, 1) := by decide +kernel
theorem dX3_fittingKinds_25 : decode cX3_fittingKinds 25 = .ok (.iinc 3 1, 3) := by decide +kernel
theorem dX3_fittingKinds_28 : decode cX3_fittingKinds 28 = .ok (.goto (-24), 3) := by decide +kernel
theorem dX3_fittingKinds_31 : decode cX3_fittingKinds 31 = .ok (.iload_n 2, 1) := by decide +kernel
theorem dX3_fittingKinds_32 : decode cX3_fittingKinds 32 = .ok (.ireturn, 1) := by decide +kernel
theorem dX3_tellingNight_0 : decode cX3_tellingNight 0 = .ok (.iconst 0, 1) := by decide +kernel
theorem dX3_tellingNight_1 : decode cX3_tellingNight 1 = .ok (.istore_n 2, 1) := by decide +kernel
theorem dX3_tellingNight_2 : decode cX3_tellingNight 2 = .ok (.iload_n 0, 1) := by decide +kernel
theorem dX3_tellingNight_3 : decode cX3_tellingNight 3 = .ok (.iload_n 1, 1) := by decide +kernel
theorem dX3_tellingNight_4 : decode cX3_tellingNight 4 = .ok (.iconst 0, 1) := by decide +kernel
theorem dX3_tellingNight_5 : decode cX3_tellingNight 5 = .ok (.invokestatic 31, 3) := by decide +kernel
theorem dX3_tellingNight_8 : decode cX3_tellingNight 8 = .ok (.istore_n 3, 1) := by decide +kernel
theorem dX3_tellingNight_9 : decode cX3_tellingNight 9 = .ok (.iconst 1, 1) := by decide +kernel
theorem dX3_tellingNight_10 : decode cX3_tellingNight 10 = .ok (.istore 4, 2) := by decide +kernel
theorem dX3_tellingNight_12 : decode cX3_tellingNight 12 = .ok (.iload 4, 2) := by decide +kernel
theorem dX3_tellingNight_14 : decode cX3_tellingNight 14 = .ok (.bipush 20, 2) := by decide +kernel
theorem dX3_tellingNight_16 : decode cX3_tellingNight 16 = .ok (.if_icmp .gt 30, 3) := by decide +kernel
theorem dX3_tellingNight_19 : decode cX3_tellingNight 19 = .ok (.iload_n 0, 1) := by decide +kernel
theorem dX3_tellingNight_20 : decode cX3_tellingNight 20 = .ok (.iload_n 1, 1) := by decide +kernel
theorem dX3_tellingNight_21 : decode cX3_tellingNight 21 = .ok (.iload 4, 2) := by decide +kernel
theorem dX3_tellingNight_23 : decode cX3_tellingNight 23 = .ok (.invokestatic 31, 3) := by decide +kernel
theorem dX3_tellingNight_26 : decode cX3_tellingNight 26 = .ok (.istore 5, 2) := by decide +kernel
theorem dX3_tellingNight_28 : decode cX3_tellingNight 28 = .ok (.iload 5, 2) := by decide +kernel
theorem dX3_tellingNight_30 : decode cX3_tellingNight 30 = .ok (.iload_n 3, 1) := by decide +kernel
theorem dX3_tellingNight_31 : decode cX3_tellingNight 31 = .ok (.if_icmp .ge 9, 3) := by decide +kernel
theorem dX3_tellingNight_34 : decode cX3_tellingNight 34 = .ok (.iload 5, 2) := by decide +kernel
theorem dX3_tellingNight_36 : decode cX3_tellingNight 36 = .ok (.istore_n 3, 1) := by decide +kernel
theorem dX3_tellingNight_37 : decode cX3_tellingNight 37 = .ok (.iload 4, 2) := by decide +kernel
theorem dX3_tellingNight_39 : decode cX3_tellingNight 39 = .ok (.istore_n 2, 1) := by decide +kernel
theorem dX3_tellingNight_40 : decode cX3_tellingNight 40 = .ok (.iinc 4 1, 3) := by decide +kernel
theorem dX3_tellingNight_43 : decode cX3_tellingNight 43 = .ok (.goto (-31), 3) := by decide +kernel
theorem dX3_tellingNight_46 : decode cX3_tellingNight 46 = .ok (.iload_n 2, 1) := by decide +kernel
theorem dX3_tellingNight_47 : decode cX3_tellingNight 47 = .ok (.ireturn, 1) := by decide +kernel
theorem dX3_largestPart_0 : decode cX3_largestPart 0 = .ok (.iconst 0, 1) := by decide +kernel
theorem dX3_largestPart_1 : decode cX3_largestPart 1 = .ok (.istore_n 3, 1) := by decide +kernel
theorem dX3_largestPart_2 : decode cX3_largestPart 2 = .ok (.iconst 0, 1) := by decide +kernel
theorem dX3_largestPart_3 : decode cX3_largestPart 3 = .ok (.istore 4, 2) := by decide +kernel
theorem dX3_largestPart_5 : decode cX3_largestPart 5 = .ok (.iload 4, 2) := by decide +kernel
theorem dX3_largestPart_7 : decode cX3_largestPart 7 = .ok (.bipush 6, 2) := by decide +kernel
theorem dX3_largestPart_9 : decode cX3_largestPart 9 = .ok (.if_icmp .ge 37, 3) := by decide +kernel
theorem dX3_largestPart_12 : decode cX3_largestPart 12 = .ok (.iload_n 0, 1) := by decide +kernel
theorem dX3_largestPart_13 : decode cX3_largestPart 13 = .ok (.iload 4, 2) := by decide +kernel
theorem dX3_largestPart_15 : decode cX3_largestPart 15 = .ok (.ishr, 1) := by decide +kernel
theorem dX3_largestPart_16 : decode cX3_largestPart 16 = .ok (.iconst 1, 1) := by decide +kernel
theorem dX3_largestPart_17 : decode cX3_largestPart 17 = .ok (.iand, 1) := by decide +kernel
theorem dX3_largestPart_18 : decode cX3_largestPart 18 = .ok (.iconst 1, 1) := by decide +kernel
theorem dX3_largestPart_19 : decode cX3_largestPart 19 = .ok (.if_icmp .ne 21, 3) := by decide +kernel
theorem dX3_largestPart_22 : decode cX3_largestPart 22 = .ok (.iload_n 3, 1) := by decide +kernel
theorem dX3_largestPart_23 : decode cX3_largestPart 23 = .ok (.iload_n 0, 1) := by decide +kernel
theorem dX3_largestPart_24 : decode cX3_largestPart 24 = .ok (.iload_n 1, 1) := by decide +kernel
theorem dX3_largestPart_25 : decode cX3_largestPart 25 = .ok (.iload_n 2, 1) := by decide +kernel
theorem dX3_largestPart_26 : decode cX3_largestPart 26 = .ok (.iload 4, 2) := by decide +kernel
theorem dX3_largestPart_28 : decode cX3_largestPart 28 = .ok (.iload_n 1, 1) := by decide +kernel
theorem dX3_largestPart_29 : decode cX3_largestPart 29 = .ok (.iload_n 2, 1) := by decide +kernel
theorem dX3_largestPart_30 : decode cX3_largestPart 30 = .ok (.invokestatic 19, 3) := by decide +kernel
theorem dX3_largestPart_33 : decode cX3_largestPart 33 = .ok (.invokestatic 34, 3) := by decide +kernel
theorem dX3_largestPart_36 : decode cX3_largestPart 36 = .ok (.invokestatic 38, 3) := by decide +kernel
theorem dX3_largestPart_39 : decode cX3_largestPart 39 = .ok (.istore_n 3, 1) := by decide +kernel
theorem dX3_largestPart_40 : decode cX3_largestPart 40 = .ok (.iinc 4 1, 3) := by decide +kernel
theorem dX3_largestPart_43 : decode cX3_largestPart 43 = .ok (.goto (-38), 3) := by decide +kernel
theorem dX3_largestPart_46 : decode cX3_largestPart 46 = .ok (.iload_n 3, 1) := by decide +kernel
theorem dX3_largestPart_47 : decode cX3_largestPart 47 = .ok (.ireturn, 1) := by decide +kernel
theorem dX3_howManyGlow_0 : decode cX3_howManyGlow 0 = .ok (.iconst 0, 1) := by decide +kernel
theorem dX3_howManyGlow_1 : decode cX3_howManyGlow 1 = .ok (.istore 4, 2) := by decide +kernel
theorem dX3_howManyGlow_3 : decode cX3_howManyGlow 3 = .ok (.iconst 0, 1) := by decide +kernel
theorem dX3_howManyGlow_4 : decode cX3_howManyGlow 4 = .ok (.istore 5, 2) := by decide +kernel
theorem dX3_howManyGlow_6 : decode cX3_howManyGlow 6 = .ok (.iload 5, 2) := by decide +kernel
theorem dX3_howManyGlow_8 : decode cX3_howManyGlow 8 = .ok (.bipush 6, 2) := by decide +kernel
theorem dX3_howManyGlow_10 : decode cX3_howManyGlow 10 = .ok (.if_icmp .ge 33, 3) := by decide +kernel
theorem dX3_howManyGlow_13 : decode cX3_howManyGlow 13 = .ok (.iload_n 0, 1) := by decide +kernel
theorem dX3_howManyGlow_14 : decode cX3_howManyGlow 14 = .ok (.iload 5, 2) := by decide +kernel
theorem dX3_howManyGlow_16 : decode cX3_howManyGlow 16 = .ok (.ishr, 1) := by decide +kernel
theorem dX3_howManyGlow_17 : decode cX3_howManyGlow 17 = .ok (.iconst 1, 1) := by decide +kernel
theorem dX3_howManyGlow_18 : decode cX3_howManyGlow 18 = .ok (.iand, 1) := by decide +kernel
theorem dX3_howManyGlow_19 : decode cX3_howManyGlow 19 = .ok (.iconst 1, 1) := by decide +kernel
theorem dX3_howManyGlow_20 : decode cX3_howManyGlow 20 = .ok (.if_icmp .ne 17, 3) := by decide +kernel
theorem dX3_howManyGlow_23 : decode cX3_howManyGlow 23 = .ok (.iload 5, 2) := by decide +kernel
theorem dX3_howManyGlow_25 : decode cX3_howManyGlow 25 = .ok (.iload_n 1, 1) := by decide +kernel
theorem dX3_howManyGlow_26 : decode cX3_howManyGlow 26 = .ok (.iload_n 2, 1) := by decide +kernel
theorem dX3_howManyGlow_27 : decode cX3_howManyGlow 27 = .ok (.invokestatic 19, 3) := by decide +kernel
theorem dX3_howManyGlow_30 : decode cX3_howManyGlow 30 = .ok (.iload_n 3, 1) := by decide +kernel
theorem dX3_howManyGlow_31 : decode cX3_howManyGlow 31 = .ok (.if_icmp .ne 6, 3) := by decide +kernel
theorem dX3_howManyGlow_34 : decode cX3_howManyGlow 34 = .ok (.iinc 4 1, 3) := by decide +kernel
theorem dX3_howManyGlow_37 : decode cX3_howManyGlow 37 = .ok (.iinc 5 1, 3) := by decide +kernel
theorem dX3_howManyGlow_40 : decode cX3_howManyGlow 40 = .ok (.goto (-34), 3) := by decide +kernel
theorem dX3_howManyGlow_43 : decode cX3_howManyGlow 43 = .ok (.iload 4, 2) := by decide +kernel
theorem dX3_howManyGlow_45 : decode cX3_howManyGlow 45 = .ok (.ireturn, 1) := by decide +kernel
theorem dX3_fittingOwers_0 : decode cX3_fittingOwers 0 = .ok (.iconst 0, 1) := by decide +kernel
theorem dX3_fittingOwers_1 : decode cX3_fittingOwers 1 = .ok (.istore_n 3, 1) := by decide +kernel
theorem dX3_fittingOwers_2 : decode cX3_fittingOwers 2 = .ok (.iconst 0, 1) := by decide +kernel
theorem dX3_fittingOwers_3 : decode cX3_fittingOwers 3 = .ok (.istore 4, 2) := by decide +kernel
theorem dX3_fittingOwers_5 : decode cX3_fittingOwers 5 = .ok (.iload 4, 2) := by decide +kernel
theorem dX3_fittingOwers_7 : decode cX3_fittingOwers 7 = .ok (.bipush 6, 2) := by decide +kernel
theorem dX3_fittingOwers_9 : decode cX3_fittingOwers 9 = .ok (.if_icmp .ge 37, 3) := by decide +kernel
theorem dX3_fittingOwers_12 : decode cX3_fittingOwers 12 = .ok (.iload 4, 2) := by decide +kernel
theorem dX3_fittingOwers_14 : decode cX3_fittingOwers 14 = .ok (.aload_n 0, 1) := by decide +kernel
theorem dX3_fittingOwers_15 : decode cX3_fittingOwers 15 = .ok (.iload_n 1, 1) := by decide +kernel
theorem dX3_fittingOwers_16 : decode cX3_fittingOwers 16 = .ok (.invokevirtual 44, 3) := by decide +kernel
theorem dX3_fittingOwers_19 : decode cX3_fittingOwers 19 = .ok (.if_icmp .eq 21, 3) := by decide +kernel
theorem dX3_fittingOwers_22 : decode cX3_fittingOwers 22 = .ok (.aload_n 0, 1) := by decide +kernel
theorem dX3_fittingOwers_23 : decode cX3_fittingOwers 23 = .ok (.iload_n 1, 1) := by decide +kernel
theorem dX3_fittingOwers_24 : decode cX3_fittingOwers 24 = .ok (.iload 4, 2) := by decide +kernel
theorem dX3_fittingOwers_26 : decode cX3_fittingOwers 26 = .ok (.aload_n 2, 1) := by decide +kernel
theorem dX3_fittingOwers_27 : decode cX3_fittingOwers 27 = .ok (.invokestatic 49, 3) := by decide +kernel
theorem dX3_fittingOwers_30 : decode cX3_fittingOwers 30 = .ok (.ifCond .eq 10, 3) := by decide +kernel
theorem dX3_fittingOwers_33 : decode cX3_fittingOwers 33 = .ok (.iload_n 3, 1) := by decide +kernel
theorem dX3_fittingOwers_34 : decode cX3_fittingOwers 34 = .ok (.iconst 1, 1) := by decide +kernel
theorem dX3_fittingOwers_35 : decode cX3_fittingOwers 35 = .ok (.iload 4, 2) := by decide +kernel
theorem dX3_fittingOwers_37 : decode cX3_fittingOwers 37 = .ok (.ishl, 1) := by decide +kernel
theorem dX3_fittingOwers_38 : decode cX3_fittingOwers 38 = .ok (.ior, 1) := by decide +kernel
theorem dX3_fittingOwers_39 : decode cX3_fittingOwers 39 = .ok (.istore_n 3, 1) := by decide +kernel
theorem dX3_fittingOwers_40 : decode cX3_fittingOwers 40 = .ok (.iinc 4 1, 3) := by decide +kernel
theorem dX3_fittingOwers_43 : decode cX3_fittingOwers 43 = .ok (.goto (-38), 3) := by decide +kernel
theorem dX3_fittingOwers_46 : decode cX3_fittingOwers 46 = .ok (.iload_n 3, 1) := by decide +kernel
theorem dX3_fittingOwers_47 : decode cX3_fittingOwers 47 = .ok (.ireturn, 1) := by decide +kernel
theorem dX3_fitsOwer_0 : decode cX3_fitsOwer 0 = .ok (.aload_n 0, 1) := by decide +kernel
theorem dX3_fitsOwer_1 : decode cX3_fitsOwer 1 = .ok (.iload_n 1, 1) := by decide +kernel
theorem dX3_fitsOwer_2 : decode cX3_fitsOwer 2 = .ok (.invokevirtual 53, 3) := by decide +kernel
theorem dX3_fitsOwer_5 : decode cX3_fitsOwer 5 = .ok (.ifCond .eq 7, 3) := by decide +kernel
theorem dX3_fitsOwer_8 : decode cX3_fitsOwer 8 = .ok (.iconst 1, 1) := by decide +kernel
theorem dX3_fitsOwer_9 : decode cX3_fitsOwer 9 = .ok (.goto 4, 3) := by decide +kernel
theorem dX3_fitsOwer_12 : decode cX3_fitsOwer 12 = .ok (.iconst 0, 1) := by decide +kernel
theorem dX3_fitsOwer_13 : decode cX3_fitsOwer 13 = .ok (.istore 4, 2) := by decide +kernel
theorem dX3_fitsOwer_15 : decode cX3_fitsOwer 15 = .ok (.iconst 0, 1) := by decide +kernel
theorem dX3_fitsOwer_16 : decode cX3_fitsOwer 16 = .ok (.istore 5, 2) := by decide +kernel
theorem dX3_fitsOwer_18 : decode cX3_fitsOwer 18 = .ok (.iload 5, 2) := by decide +kernel
theorem dX3_fitsOwer_20 : decode cX3_fitsOwer 20 = .ok (.bipush 6, 2) := by decide +kernel
theorem dX3_fitsOwer_22 : decode cX3_fitsOwer 22 = .ok (.if_icmp .ge 71, 3) := by decide +kernel
theorem dX3_fitsOwer_25 : decode cX3_fitsOwer 25 = .ok (.aload_n 0, 1) := by decide +kernel
theorem dX3_fitsOwer_26 : decode cX3_fitsOwer 26 = .ok (.iload 5, 2) := by decide +kernel
theorem dX3_fitsOwer_28 : decode cX3_fitsOwer 28 = .ok (.invokevirtual 57, 3) := by decide +kernel
theorem dX3_fitsOwer_31 : decode cX3_fitsOwer 31 = .ok (.istore 6, 2) := by decide +kernel
theorem dX3_fitsOwer_33 : decode cX3_fitsOwer 33 = .ok (.iload 5, 2) := by decide +kernel
theorem dX3_fitsOwer_35 : decode cX3_fitsOwer 35 = .ok (.aload_n 0, 1) := by decide +kernel
theorem dX3_fitsOwer_36 : decode cX3_fitsOwer 36 = .ok (.iload_n 1, 1) := by decide +kernel
theorem dX3_fitsOwer_37 : decode cX3_fitsOwer 37 = .ok (.invokevirtual 60, 3) := by decide +kernel
theorem dX3_fitsOwer_40 : decode cX3_fitsOwer 40 = .ok (.if_icmp .ne 10, 3) := by decide +kernel
theorem dX3_fitsOwer_43 : decode cX3_fitsOwer 43 = .ok (.iload 6, 2) := by decide +kernel
theorem dX3_fitsOwer_45 : decode cX3_fitsOwer 45 = .ok (.iload 4, 2) := by decide +kernel
theorem dX3_fitsOwer_47 : decode cX3_fitsOwer 47 = .ok (.isub, 1) := by decide +kernel
theorem dX3_fitsOwer_48 : decode cX3_fitsOwer 48 = .ok (.istore 6, 2) := by decide +kernel
theorem dX3_fitsOwer_50 : decode cX3_fitsOwer 50 = .ok (.iload 5, 2) := by decide +kernel
theorem dX3_fitsOwer_52 : decode cX3_fitsOwer 52 = .ok (.iload_n 2, 1) := by decide +kernel
theorem dX3_fitsOwer_53 : decode cX3_fitsOwer 53 = .ok (.if_icmp .ne 10, 3) := by decide +kernel
theorem dX3_fitsOwer_56 : decode cX3_fitsOwer 56 = .ok (.iload 6, 2) := by decide +kernel
theorem dX3_fitsOwer_58 : decode cX3_fitsOwer 58 = .ok (.iload 4, 2) := by decide +kernel
theorem dX3_fitsOwer_60 : decode cX3_fitsOwer 60 = .ok (.iadd, 1) := by decide +kernel
theorem dX3_fitsOwer_61 : decode cX3_fitsOwer 61 = .ok (.istore 6, 2) := by decide +kernel
theorem dX3_fitsOwer_63 : decode cX3_fitsOwer 63 = .ok (.aload_n 3, 1) := by decide +kernel
theorem dX3_fitsOwer_64 : decode cX3_fitsOwer 64 = .ok (.iload 5, 2) := by decide +kernel
theorem dX3_fitsOwer_66 : decode cX3_fitsOwer 66 = .ok (.invokevirtual 15, 3) := by decide +kernel
theorem dX3_fitsOwer_69 : decode cX3_fitsOwer 69 = .ok (.bipush (-9), 2) := by decide +kernel
theorem dX3_fitsOwer_71 : decode cX3_fitsOwer 71 = .ok (.if_icmp .eq 16, 3) := by decide +kernel
theorem dX3_fitsOwer_74 : decode cX3_fitsOwer 74 = .ok (.aload_n 3, 1) := by decide +kernel
theorem dX3_fitsOwer_75 : decode cX3_fitsOwer 75 = .ok (.iload 5, 2) := by decide +kernel
theorem dX3_fitsOwer_77 : decode cX3_fitsOwer 77 = .ok (.invokevirtual 15, 3) := by decide +kernel
theorem dX3_fitsOwer_80 : decode cX3_fitsOwer 80 = .ok (.iload 6, 2) := by decide +kernel
theorem dX3_fitsOwer_82 : decode cX3_fitsOwer 82 = .ok (.if_icmp .eq 5, 3) := by decide +kernel
theorem dX3_fitsOwer_85 : decode cX3_fitsOwer 85 = .ok (.iconst 0, 1) := by decide +kernel
theorem dX3_fitsOwer_86 : decode cX3_fitsOwer 86 = .ok (.ireturn, 1) := by decide +kernel
theorem dX3_fitsOwer_87 : decode cX3_fitsOwer 87 = .ok (.iinc 5 1, 3) := by decide +kernel
theorem dX3_fitsOwer_90 : decode cX3_fitsOwer 90 = .ok (.goto (-72), 3) := by decide +kernel
theorem dX3_fitsOwer_93 : decode cX3_fitsOwer 93 = .ok (.iconst 1, 1) := by decide +kernel
theorem dX3_fitsOwer_94 : decode cX3_fitsOwer 94 = .ok (.ireturn, 1) := by decide +kernel
theorem dX4_init_0 : decode cX4_init 0 = .ok (.aload_n 0, 1) := by decide +kernel
theorem dX4_init_1 : decode cX4_init 1 = .ok (.invokespecial 3, 3) := by decide +kernel
theorem dX4_init_4 : decode cX4_init 4 = .ok (.aload_n 0, 1) := by decide +kernel
theorem dX4_init_5 : decode cX4_init 5 = .ok (.bipush 8, 2) := by decide +kernel
theorem dX4_init_7 : decode cX4_init 7 = .ok (.newarray .int, 2) := by decide +kernel
theorem dX4_init_9 : decode cX4_init 9 = .ok (.putfield 9, 3) := by decide +kernel
theorem dX4_init_12 : decode cX4_init 12 = .ok (.aload_n 0, 1) := by decide +kernel
theorem dX4_init_13 : decode cX4_init 13 = .ok (.sipush 256, 3) := by decide +kernel
theorem dX4_init_16 : decode cX4_init 16 = .ok (.newarray .int, 2) := by decide +kernel
theorem dX4_init_18 : decode cX4_init 18 = .ok (.putfield 15, 3) := by decide +kernel
theorem dX4_init_21 : decode cX4_init 21 = .ok (.return_, 1) := by decide +kernel
theorem dX4_setsOf_0 : decode cX4_setsOf 0 = .ok (.iconst 1, 1) := by decide +kernel
theorem dX4_setsOf_1 : decode cX4_setsOf 1 = .ok (.aload_n 0, 1) := by decide +kernel
theorem dX4_setsOf_2 : decode cX4_setsOf 2 = .ok (.invokevirtual 18, 3) := by decide +kernel
theorem dX4_setsOf_5 : decode cX4_setsOf 5 = .ok (.bipush 8, 2) := by decide +kernel
theorem dX4_setsOf_7 : decode cX4_setsOf 7 = .ok (.invokestatic 24, 3) := by decide +kernel
theorem dX4_setsOf_10 : decode cX4_setsOf 10 = .ok (.ishl, 1) := by decide +kernel
theorem dX4_setsOf_11 : decode cX4_setsOf 11 = .ok (.ireturn, 1) := by decide +kernel
theorem dX4_isWithin_0 : decode cX4_isWithin 0 = .ok (.iload_n 0, 1) := by decide +kernel
theorem dX4_isWithin_1 : decode cX4_isWithin 1 = .ok (.iload_n 1, 1) := by decide +kernel
theorem dX4_isWithin_2 : decode cX4_isWithin 2 = .ok (.iconst (-1), 1) := by decide +kernel
theorem dX4_isWithin_3 : decode cX4_isWithin 3 = .ok (.ixor, 1) := by decide +kernel
theorem dX4_isWithin_4 : decode cX4_isWithin 4 = .ok (.iand, 1) := by decide +kernel
theorem dX4_isWithin_5 : decode cX4_isWithin 5 = .ok (.ifCond .ne 7, 3) := by decide +kernel
theorem dX4_isWithin_8 : decode cX4_isWithin 8 = .ok (.iconst 1, 1) := by decide +kernel
theorem dX4_isWithin_9 : decode cX4_isWithin 9 = .ok (.goto 4, 3) := by decide +kernel
theorem dX4_isWithin_12 : decode cX4_isWithin 12 = .ok (.iconst 0, 1) := by decide +kernel
theorem dX4_isWithin_13 : decode cX4_isWithin 13 = .ok (.ireturn, 1) := by decide +kernel
theorem dX4_sumUp_0 : decode cX4_sumUp 0 = .ok (.aload_n 0, 1) := by decide +kernel
theorem dX4_sumUp_1 : decode cX4_sumUp 1 = .ok (.getfield 15, 3) := by decide +kernel
theorem dX4_sumUp_4 : decode cX4_sumUp 4 = .ok (.iconst 0, 1) := by decide +kernel
theorem dX4_sumUp_5 : decode cX4_sumUp 5 = .ok (.iconst 0, 1) := by decide +kernel
theorem dX4_sumUp_6 : decode cX4_sumUp 6 = .ok (.iastore, 1) := by decide +kernel
theorem dX4_sumUp_7 : decode cX4_sumUp 7 = .ok (.iconst 0, 1) := by decide +kernel
theorem dX4_sumUp_8 : decode cX4_sumUp 8 = .ok (.istore_n 1, 1) := by decide +kernel
theorem dX4_sumUp_9 : decode cX4_sumUp 9 = .ok (.iload_n 1, 1) := by decide +kernel
theorem dX4_sumUp_10 : decode cX4_sumUp 10 = .ok (.bipush 8, 2) := by decide +kernel
theorem dX4_sumUp_12 : decode cX4_sumUp 12 = .ok (.if_icmp .ge 47, 3) := by decide +kernel
theorem dX4_sumUp_15 : decode cX4_sumUp 15 = .ok (.iconst 1, 1) := by decide +kernel
theorem dX4_sumUp_16 : decode cX4_sumUp 16 = .ok (.iload_n 1, 1) := by decide +kernel
theorem dX4_sumUp_17 : decode cX4_sumUp 17 = .ok (.ishl, 1) := by decide +kernel
theorem dX4_sumUp_18 : decode cX4_sumUp 18 = .ok (.istore_n 2, 1) := by decide +kernel
theorem dX4_sumUp_19 : decode cX4_sumUp 19 = .ok (.iconst 0, 1) := by decide +kernel
theorem dX4_sumUp_20 : decode cX4_sumUp 20 = .ok (.istore_n 3, 1) := by decide +kernel
theorem dX4_sumUp_21 : decode cX4_sumUp 21 = .ok (.iload_n 3, 1) := by decide +kernel
theorem dX4_sumUp_22 : decode cX4_sumUp 22 = .ok (.iload_n 2, 1) := by decide +kernel
theorem dX4_sumUp_23 : decode cX4_sumUp 23 = .ok (.if_icmp .ge 30, 3) := by decide +kernel
theorem dX4_sumUp_26 : decode cX4_sumUp 26 = .ok (.aload_n 0, 1) := by decide +kernel
theorem dX4_sumUp_27 : decode cX4_sumUp 27 = .ok (.getfield 15, 3) := by decide +kernel
theorem dX4_sumUp_30 : decode cX4_sumUp 30 = .ok (.iload_n 3, 1) := by decide +kernel
theorem dX4_sumUp_31 : decode cX4_sumUp 31 = .ok (.iload_n 2, 1) := by decide +kernel
theorem dX4_sumUp_32 : decode cX4_sumUp 32 = .ok (.iadd, 1) := by decide +kernel
theorem dX4_sumUp_33 : decode cX4_sumUp 33 = .ok (.aload_n 0, 1) := by decide +kernel
theorem dX4_sumUp_34 : decode cX4_sumUp 34 = .ok (.getfield 15, 3) := by decide +kernel
theorem dX4_sumUp_37 : decode cX4_sumUp 37 = .ok (.iload_n 3, 1) := by decide +kernel
theorem dX4_sumUp_38 : decode cX4_sumUp 38 = .ok (.iaload, 1) := by decide +kernel
theorem dX4_sumUp_39 : decode cX4_sumUp 39 = .ok (.aload_n 0, 1) := by decide +kernel
theorem dX4_sumUp_40 : decode cX4_sumUp 40 = .ok (.getfield 9, 3) := by decide +kernel
theorem dX4_sumUp_43 : decode cX4_sumUp 43 = .ok (.iload_n 1, 1) := by decide +kernel
theorem dX4_sumUp_44 : decode cX4_sumUp 44 = .ok (.iaload, 1) := by decide +kernel
theorem dX4_sumUp_45 : decode cX4_sumUp 45 = .ok (.iadd, 1) := by decide +kernel
theorem dX4_sumUp_46 : decode cX4_sumUp 46 = .ok (.iastore, 1) := by decide +kernel
theorem dX4_sumUp_47 : decode cX4_sumUp 47 = .ok (.iinc 3 1, 3) := by decide +kernel
theorem dX4_sumUp_50 : decode cX4_sumUp 50 = .ok (.goto (-29), 3) := by decide +kernel
theorem dX4_sumUp_53 : decode cX4_sumUp 53 = .ok (.iinc 1 1, 3) := by decide +kernel
theorem dX4_sumUp_56 : decode cX4_sumUp 56 = .ok (.goto (-47), 3) := by decide +kernel
theorem dX4_sumUp_59 : decode cX4_sumUp 59 = .ok (.return_, 1) := by decide +kernel
theorem dX4_sumGlow_0 : decode cX4_sumGlow 0 = .ok (.iconst 0, 1) := by decide +kernel
theorem dX4_sumGlow_1 : decode cX4_sumGlow 1 = .ok (.istore_n 3, 1) := by decide +kernel
theorem dX4_sumGlow_2 : decode cX4_sumGlow 2 = .ok (.iload_n 3, 1) := by decide +kernel
theorem dX4_sumGlow_3 : decode cX4_sumGlow 3 = .ok (.bipush 8, 2) := by decide +kernel
theorem dX4_sumGlow_5 : decode cX4_sumGlow 5 = .ok (.if_icmp .ge 37, 3) := by decide +kernel
theorem dX4_sumGlow_8 : decode cX4_sumGlow 8 = .ok (.aload_n 0, 1) := by decide +kernel
theorem dX4_sumGlow_9 : decode cX4_sumGlow 9 = .ok (.getfield 9, 3) := by decide +kernel
theorem dX4_sumGlow_12 : decode cX4_sumGlow 12 = .ok (.iload_n 3, 1) := by decide +kernel
theorem dX4_sumGlow_13 : decode cX4_sumGlow 13 = .ok (.aload_n 1, 1) := by decide +kernel
theorem dX4_sumGlow_14 : decode cX4_sumGlow 14 = .ok (.iload_n 3, 1) := by decide +kernel
theorem dX4_sumGlow_15 : decode cX4_sumGlow 15 = .ok (.invokevirtual 30, 3) := by decide +kernel
theorem dX4_sumGlow_18 : decode cX4_sumGlow 18 = .ok (.ifCond .eq 16, 3) := by decide +kernel
theorem dX4_sumGlow_21 : decode cX4_sumGlow 21 = .ok (.aload_n 1, 1) := by decide +kernel
theorem dX4_sumGlow_22 : decode cX4_sumGlow 22 = .ok (.iload_n 3, 1) := by decide +kernel
theorem dX4_sumGlow_23 : decode cX4_sumGlow 23 = .ok (.iload_n 2, 1) := by decide +kernel
theorem dX4_sumGlow_24 : decode cX4_sumGlow 24 = .ok (.aload_n 1, 1) := by decide +kernel
theorem dX4_sumGlow_25 : decode cX4_sumGlow 25 = .ok (.invokevirtual 34, 3) := by decide +kernel
theorem dX4_sumGlow_28 : decode cX4_sumGlow 28 = .ok (.invokevirtual 37, 3) := by decide +kernel
theorem dX4_sumGlow_31 : decode cX4_sumGlow 31 = .ok (.goto 4, 3) := by decide +kernel
theorem dX4_sumGlow_34 : decode cX4_sumGlow 34 = .ok (.iconst 0, 1) := by decide +kernel
theorem dX4_sumGlow_35 : decode cX4_sumGlow 35 = .ok (.iastore, 1) := by decide +kernel
theorem dX4_sumGlow_36 : decode cX4_sumGlow 36 = .ok (.iinc 3 1, 3) := by decide +kernel
theorem dX4_sumGlow_39 : decode cX4_sumGlow 39 = .ok (.goto (-37), 3) := by decide +kernel
theorem dX4_sumGlow_42 : decode cX4_sumGlow 42 = .ok (.aload_n 0, 1) := by decide +kernel
theorem dX4_sumGlow_43 : decode cX4_sumGlow 43 = .ok (.invokevirtual 41, 3) := by decide +kernel
theorem dX4_sumGlow_46 : decode cX4_sumGlow 46 = .ok (.return_, 1) := by decide +kernel
theorem dX4_sumDebts_0 : decode cX4_sumDebts 0 = .ok (.iconst 0, 1) := by decide +kernel
theorem dX4_sumDebts_1 : decode cX4_sumDebts 1 = .ok (.istore_n 2, 1) := by decide +kernel
theorem dX4_sumDebts_2 : decode cX4_sumDebts 2 = .ok (.iconst 0, 1) := by decide +kernel
theorem dX4_sumDebts_3 : decode cX4_sumDebts 3 = .ok (.istore_n 3, 1) := by decide +kernel
theorem dX4_sumDebts_4 : decode cX4_sumDebts 4 = .ok (.iload_n 3, 1) := by decide +kernel
theorem dX4_sumDebts_5 : decode cX4_sumDebts 5 = .ok (.bipush 8, 2) := by decide +kernel
theorem dX4_sumDebts_7 : decode cX4_sumDebts 7 = .ok (.if_icmp .ge 55, 3) := by decide +kernel
theorem dX4_sumDebts_10 : decode cX4_sumDebts 10 = .ok (.aload_n 0, 1) := by decide +kernel
theorem dX4_sumDebts_11 : decode cX4_sumDebts 11 = .ok (.getfield 9, 3) := by decide +kernel
theorem dX4_sumDebts_14 : decode cX4_sumDebts 14 = .ok (.iload_n 3, 1) := by decide +kernel
theorem dX4_sumDebts_15 : decode cX4_sumDebts 15 = .ok (.iconst 0, 1) := by decide +kernel
theorem dX4_sumDebts_16 : decode cX4_sumDebts 16 = .ok (.iastore, 1) := by decide +kernel
theorem dX4_sumDebts_17 : decode cX4_sumDebts 17 = .ok (.aload_n 1, 1) := by decide +kernel
theorem dX4_sumDebts_18 : decode cX4_sumDebts 18 = .ok (.iload_n 3, 1) := by decide +kernel
theorem dX4_sumDebts_19 : decode cX4_sumDebts 19 = .ok (.invokevirtual 44, 3) := by decide +kernel
theorem dX4_sumDebts_22 : decode cX4_sumDebts 22 = .ok (.ifCond .eq 34, 3) := by decide +kernel
theorem dX4_sumDebts_25 : decode cX4_sumDebts 25 = .ok (.aload_n 0, 1) := by decide +kernel
theorem dX4_sumDebts_26 : decode cX4_sumDebts 26 = .ok (.getfield 9, 3) := by decide +kernel
theorem dX4_sumDebts_29 : decode cX4_sumDebts 29 = .ok (.iload_n 3, 1) := by decide +kernel
theorem dX4_sumDebts_30 : decode cX4_sumDebts 30 = .ok (.iconst 1, 1) := by decide +kernel
theorem dX4_sumDebts_31 : decode cX4_sumDebts 31 = .ok (.iconst 5, 1) := by decide +kernel
theorem dX4_sumDebts_32 : decode cX4_sumDebts 32 = .ok (.aload_n 1, 1) := by decide +kernel
theorem dX4_sumDebts_33 : decode cX4_sumDebts 33 = .ok (.iload_n 3, 1) := by decide +kernel
theorem dX4_sumDebts_34 : decode cX4_sumDebts 34 = .ok (.invokevirtual 47, 3) := by decide +kernel
theorem dX4_sumDebts_37 : decode cX4_sumDebts 37 = .ok (.imul, 1) := by decide +kernel
theorem dX4_sumDebts_38 : decode cX4_sumDebts 38 = .ok (.ishl, 1) := by decide +kernel
theorem dX4_sumDebts_39 : decode cX4_sumDebts 39 = .ok (.iconst 1, 1) := by decide +kernel
theorem dX4_sumDebts_40 : decode cX4_sumDebts 40 = .ok (.iconst 5, 1) := by decide +kernel
theorem dX4_sumDebts_41 : decode cX4_sumDebts 41 = .ok (.aload_n 1, 1) := by decide +kernel
theorem dX4_sumDebts_42 : decode cX4_sumDebts 42 = .ok (.iload_n 3, 1) := by decide +kernel
theorem dX4_sumDebts_43 : decode cX4_sumDebts 43 = .ok (.invokevirtual 51, 3) := by decide +kernel
theorem dX4_sumDebts_46 : decode cX4_sumDebts 46 = .ok (.imul, 1) := by decide +kernel
theorem dX4_sumDebts_47 : decode cX4_sumDebts 47 = .ok (.ishl, 1) := by decide +kernel
theorem dX4_sumDebts_48 : decode cX4_sumDebts 48 = .ok (.isub, 1) := by decide +kernel
theorem dX4_sumDebts_49 : decode cX4_sumDebts 49 = .ok (.iastore, 1) := by decide +kernel
theorem dX4_sumDebts_50 : decode cX4_sumDebts 50 = .ok (.iload_n 2, 1) := by decide +kernel
theorem dX4_sumDebts_51 : decode cX4_sumDebts 51 = .ok (.iconst 1, 1) := by decide +kernel
theorem dX4_sumDebts_52 : decode cX4_sumDebts 52 = .ok (.iload_n 3, 1) := by decide +kernel
theorem dX4_sumDebts_53 : decode cX4_sumDebts 53 = .ok (.ishl, 1) := by decide +kernel
theorem dX4_sumDebts_54 : decode cX4_sumDebts 54 = .ok (.ior, 1) := by decide +kernel
theorem dX4_sumDebts_55 : decode cX4_sumDebts 55 = .ok (.istore_n 2, 1) := by decide +kernel
theorem dX4_sumDebts_56 : decode cX4_sumDebts 56 = .ok (.iinc 3 1, 3) := by decide +kernel
theorem dX4_sumDebts_59 : decode cX4_sumDebts 59 = .ok (.goto (-55), 3) := by decide +kernel
theorem dX4_sumDebts_62 : decode cX4_sumDebts 62 = .ok (.aload_n 0, 1) := by decide +kernel
theorem dX4_sumDebts_63 : decode cX4_sumDebts 63 = .ok (.invokevirtual 41, 3) := by decide +kernel
theorem dX4_sumDebts_66 : decode cX4_sumDebts 66 = .ok (.iload_n 2, 1) := by decide +kernel
theorem dX4_sumDebts_67 : decode cX4_sumDebts 67 = .ok (.ireturn, 1) := by decide +kernel
theorem dX4_largestRing_0 : decode cX4_largestRing 0 = .ok (.aload_n 0, 1) := by decide +kernel
theorem dX4_largestRing_1 : decode cX4_largestRing 1 = .ok (.aload_n 1, 1) := by decide +kernel
theorem dX4_largestRing_2 : decode cX4_largestRing 2 = .ok (.invokevirtual 54, 3) := by decide +kernel
theorem dX4_largestRing_5 : decode cX4_largestRing 5 = .ok (.istore_n 2, 1) := by decide +kernel
theorem dX4_largestRing_6 : decode cX4_largestRing 6 = .ok (.iconst 0, 1) := by decide +kernel
theorem dX4_largestRing_7 : decode cX4_largestRing 7 = .ok (.istore_n 3, 1) := by decide +kernel
theorem dX4_largestRing_8 : decode cX4_largestRing 8 = .ok (.iconst 0, 1) := by decide +kernel
theorem dX4_largestRing_9 : decode cX4_largestRing 9 = .ok (.istore 4, 2) := by decide +kernel
theorem dX4_largestRing_11 : decode cX4_largestRing 11 = .ok (.iload 4, 2) := by decide +kernel
theorem dX4_largestRing_13 : decode cX4_largestRing 13 = .ok (.aload_n 1, 1) := by decide +kernel
theorem dX4_largestRing_14 : decode cX4_largestRing 14 = .ok (.invokestatic 58, 3) := by decide +kernel
theorem dX4_largestRing_17 : decode cX4_largestRing 17 = .ok (.if_icmp .ge 43, 3) := by decide +kernel
theorem dX4_largestRing_20 : decode cX4_largestRing 20 = .ok (.iload 4, 2) := by decide +kernel
theorem dX4_largestRing_22 : decode cX4_largestRing 22 = .ok (.iload_n 2, 1) := by decide +kernel
theorem dX4_largestRing_23 : decode cX4_largestRing 23 = .ok (.invokestatic 61, 3) := by decide +kernel
theorem dX4_largestRing_26 : decode cX4_largestRing 26 = .ok (.ifCond .eq 28, 3) := by decide +kernel
theorem dX4_largestRing_29 : decode cX4_largestRing 29 = .ok (.aload_n 0, 1) := by decide +kernel
theorem dX4_largestRing_30 : decode cX4_largestRing 30 = .ok (.getfield 15, 3) := by decide +kernel
theorem dX4_largestRing_33 : decode cX4_largestRing 33 = .ok (.iload 4, 2) := by decide +kernel
theorem dX4_largestRing_35 : decode cX4_largestRing 35 = .ok (.iaload, 1) := by decide +kernel
theorem dX4_largestRing_36 : decode cX4_largestRing 36 = .ok (.ifCond .ne 18, 3) := by decide +kernel
theorem dX4_largestRing_39 : decode cX4_largestRing 39 = .ok (.iload 4, 2) := by decide +kernel
theorem dX4_largestRing_41 : decode cX4_largestRing 41 = .ok (.invokestatic 65, 3) := by decide +kernel
theorem dX4_largestRing_44 : decode cX4_largestRing 44 = .ok (.iload_n 3, 1) := by decide +kernel
theorem dX4_largestRing_45 : decode cX4_largestRing 45 = .ok (.invokestatic 65, 3) := by decide +kernel
theorem dX4_largestRing_48 : decode cX4_largestRing 48 = .ok (.if_icmp .le 6, 3) := by decide +kernel
theorem dX4_largestRing_51 : decode cX4_largestRing 51 = .ok (.iload 4, 2) := by decide +kernel
theorem dX4_largestRing_53 : decode cX4_largestRing 53 = .ok (.istore_n 3, 1) := by decide +kernel
theorem dX4_largestRing_54 : decode cX4_largestRing 54 = .ok (.iinc 4 1, 3) := by decide +kernel
theorem dX4_largestRing_57 : decode cX4_largestRing 57 = .ok (.goto (-46), 3) := by decide +kernel
theorem dX4_largestRing_60 : decode cX4_largestRing 60 = .ok (.iload_n 3, 1) := by decide +kernel
theorem dX4_largestRing_61 : decode cX4_largestRing 61 = .ok (.ireturn, 1) := by decide +kernel
theorem dX4_ringsWith_0 : decode cX4_ringsWith 0 = .ok (.aload_n 0, 1) := by decide +kernel
theorem dX4_ringsWith_1 : decode cX4_ringsWith 1 = .ok (.aload_n 1, 1) := by decide +kernel
theorem dX4_ringsWith_2 : decode cX4_ringsWith 2 = .ok (.invokevirtual 54, 3) := by decide +kernel
theorem dX4_ringsWith_5 : decode cX4_ringsWith 5 = .ok (.istore_n 3, 1) := by decide +kernel
theorem dX4_ringsWith_6 : decode cX4_ringsWith 6 = .ok (.iconst 0, 1) := by decide +kernel
theorem dX4_ringsWith_7 : decode cX4_ringsWith 7 = .ok (.istore 4, 2) := by decide +kernel
theorem dX4_ringsWith_9 : decode cX4_ringsWith 9 = .ok (.iconst 0, 1) := by decide +kernel
theorem dX4_ringsWith_10 : decode cX4_ringsWith 10 = .ok (.istore 5, 2) := by decide +kernel
theorem dX4_ringsWith_12 : decode cX4_ringsWith 12 = .ok (.iload 5, 2) := by decide +kernel
theorem dX4_ringsWith_14 : decode cX4_ringsWith 14 = .ok (.aload_n 1, 1) := by decide +kernel
theorem dX4_ringsWith_15 : decode cX4_ringsWith 15 = .ok (.invokestatic 58, 3) := by decide +kernel
theorem dX4_ringsWith_18 : decode cX4_ringsWith 18 = .ok (.if_icmp .ge 41, 3) := by decide +kernel
theorem dX4_ringsWith_21 : decode cX4_ringsWith 21 = .ok (.iload 5, 2) := by decide +kernel
theorem dX4_ringsWith_23 : decode cX4_ringsWith 23 = .ok (.iload_n 3, 1) := by decide +kernel
theorem dX4_ringsWith_24 : decode cX4_ringsWith 24 = .ok (.invokestatic 61, 3) := by decide +kernel
theorem dX4_ringsWith_27 : decode cX4_ringsWith 27 = .ok (.ifCond .eq 26, 3) := by decide +kernel
theorem dX4_ringsWith_30 : decode cX4_ringsWith 30 = .ok (.aload_n 0, 1) := by decide +kernel
theorem dX4_ringsWith_31 : decode cX4_ringsWith 31 = .ok (.getfield 15, 3) := by decide +kernel
theorem dX4_ringsWith_34 : decode cX4_ringsWith 34 = .ok (.iload 5, 2) := by decide +kernel
theorem dX4_ringsWith_36 : decode cX4_ringsWith 36 = .ok (.iaload, 1) := by decide +kernel
theorem dX4_ringsWith_37 : decode cX4_ringsWith 37 = .ok (.ifCond .ne 16, 3) := by decide +kernel
theorem dX4_ringsWith_40 : decode cX4_ringsWith 40 = .ok (.iload 5, 2) := by decide +kernel
theorem dX4_ringsWith_42 : decode cX4_ringsWith 42 = .ok (.iload_n 2, 1) := by decide +kernel
theorem dX4_ringsWith_43 : decode cX4_ringsWith 43 = .ok (.ishr, 1) := by decide +kernel
theorem dX4_ringsWith_44 : decode cX4_ringsWith 44 = .ok (.iconst 1, 1) := by decide +kernel
theorem dX4_ringsWith_45 : decode cX4_ringsWith 45 = .ok (.iand, 1) := by decide +kernel
theorem dX4_ringsWith_46 : decode cX4_ringsWith 46 = .ok (.iconst 1, 1) := by decide +kernel
theorem dX4_ringsWith_47 : decode cX4_ringsWith 47 = .ok (.if_icmp .ne 6, 3) := by decide +kernel
theorem dX4_ringsWith_50 : decode cX4_ringsWith 50 = .ok (.iinc 4 1, 3) := by decide +kernel
theorem dX4_ringsWith_53 : decode cX4_ringsWith 53 = .ok (.iinc 5 1, 3) := by decide +kernel
theorem dX4_ringsWith_56 : decode cX4_ringsWith 56 = .ok (.goto (-44), 3) := by decide +kernel
theorem dX4_ringsWith_59 : decode cX4_ringsWith 59 = .ok (.iload 4, 2) := by decide +kernel
theorem dX4_ringsWith_61 : decode cX4_ringsWith 61 = .ok (.ireturn, 1) := by decide +kernel
theorem dX4_smallestRingWith_0 : decode cX4_smallestRingWith 0 = .ok (.aload_n 0, 1) := by decide +kernel
theorem dX4_smallestRingWith_1 : decode cX4_smallestRingWith 1 = .ok (.aload_n 1, 1) := by decide +kernel
theorem dX4_smallestRingWith_2 : decode cX4_smallestRingWith 2 = .ok (.invokevirtual 54, 3) := by decide +kernel
theorem dX4_smallestRingWith_5 : decode cX4_smallestRingWith 5 = .ok (.istore_n 3, 1) := by decide +kernel
theorem dX4_smallestRingWith_6 : decode cX4_smallestRingWith 6 = .ok (.iconst 0, 1) := by decide +kernel
theorem dX4_smallestRingWith_7 : decode cX4_smallestRingWith 7 = .ok (.istore 4, 2) := by decide +kernel
theorem dX4_smallestRingWith_9 : decode cX4_smallestRingWith 9 = .ok (.iconst 0, 1) := by decide +kernel
theorem dX4_smallestRingWith_10 : decode cX4_smallestRingWith 10 = .ok (.istore 5, 2) := by decide +kernel
theorem dX4_smallestRingWith_12 : decode cX4_smallestRingWith 12 = .ok (.iload 5, 2) := by decide +kernel
theorem dX4_smallestRingWith_14 : decode cX4_smallestRingWith 14 = .ok (.aload_n 1, 1) := by decide +kernel
theorem dX4_smallestRingWith_15 : decode cX4_smallestRingWith 15 = .ok (.invokestatic 58, 3) := by decide +kernel
theorem dX4_smallestRingWith_18 : decode cX4_smallestRingWith 18 = .ok (.if_icmp .ge 72, 3) := by decide +kernel
theorem dX4_smallestRingWith_21 : decode cX4_smallestRingWith 21 = .ok (.iload 4, 2) := by decide +kernel
theorem dX4_smallestRingWith_23 : decode cX4_smallestRingWith 23 = .ok (.ifCond .eq 16, 3) := by decide +kernel
theorem dX4_smallestRingWith_26 : decode cX4_smallestRingWith 26 = .ok (.iload 5, 2) := by decide +kernel
theorem dX4_smallestRingWith_28 : decode cX4_smallestRingWith 28 = .ok (.invokestatic 65, 3) := by decide +kernel
theorem dX4_smallestRingWith_31 : decode cX4_smallestRingWith 31 = .ok (.iload 4, 2) := by decide +kernel
theorem dX4_smallestRingWith_33 : decode cX4_smallestRingWith 33 = .ok (.invokestatic 65, 3) := by decide +kernel
theorem dX4_smallestRingWith_36 : decode cX4_smallestRingWith 36 = .ok (.if_icmp .ge 7, 3) := by decide +kernel
theorem dX4_smallestRingWith_39 : decode cX4_smallestRingWith 39 = .ok (.iconst 1, 1) := by decide +kernel
theorem dX4_smallestRingWith_40 : decode cX4_smallestRingWith 40 = .ok (.goto 4, 3) := by decide +kernel
theorem dX4_smallestRingWith_43 : decode cX4_smallestRingWith 43 = .ok (.iconst 0, 1) := by decide +kernel
theorem dX4_smallestRingWith_44 : decode cX4_smallestRingWith 44 = .ok (.istore 6, 2) := by decide +kernel
theorem dX4_smallestRingWith_46 : decode cX4_smallestRingWith 46 = .ok (.iload 6, 2) := by decide +kernel
theorem dX4_smallestRingWith_48 : decode cX4_smallestRingWith 48 = .ok (.ifCond .eq 36, 3) := by decide +kernel
theorem dX4_smallestRingWith_51 : decode cX4_smallestRingWith 51 = .ok (.iload 5, 2) := by decide +kernel
theorem dX4_smallestRingWith_53 : decode cX4_smallestRingWith 53 = .ok (.iload_n 3, 1) := by decide +kernel
theorem dX4_smallestRingWith_54 : decode cX4_smallestRingWith 54 = .ok (.invokestatic 61, 3) := by decide +kernel
theorem dX4_smallestRingWith_57 : decode cX4_smallestRingWith 57 = .ok (.ifCond .eq 27, 3) := by decide +kernel
theorem dX4_smallestRingWith_60 : decode cX4_smallestRingWith 60 = .ok (.aload_n 0, 1) := by decide +kernel
theorem dX4_smallestRingWith_61 : decode cX4_smallestRingWith 61 = .ok (.getfield 15, 3) := by decide +kernel
theorem dX4_smallestRingWith_64 : decode cX4_smallestRingWith 64 = .ok (.iload 5, 2) := by decide +kernel
theorem dX4_smallestRingWith_66 : decode cX4_smallestRingWith 66 = .ok (.iaload, 1) := by decide +kernel
theorem dX4_smallestRingWith_67 : decode cX4_smallestRingWith 67 = .ok (.ifCond .ne 17, 3) := by decide +kernel
theorem dX4_smallestRingWith_70 : decode cX4_smallestRingWith 70 = .ok (.iload 5, 2) := by decide +kernel
theorem dX4_smallestRingWith_72 : decode cX4_smallestRingWith 72 = .ok (.iload_n 2, 1) := by decide +kernel
theorem dX4_smallestRingWith_73 : decode cX4_smallestRingWith 73 = .ok (.ishr, 1) := by decide +kernel
theorem dX4_smallestRingWith_74 : decode cX4_smallestRingWith 74 = .ok (.iconst 1, 1) := by decide +kernel
theorem dX4_smallestRingWith_75 : decode cX4_smallestRingWith 75 = .ok (.iand, 1) := by decide +kernel
theorem dX4_smallestRingWith_76 : decode cX4_smallestRingWith 76 = .ok (.iconst 1, 1) := by decide +kernel
theorem dX4_smallestRingWith_77 : decode cX4_smallestRingWith 77 = .ok (.if_icmp .ne 7, 3) := by decide +kernel
theorem dX4_smallestRingWith_80 : decode cX4_smallestRingWith 80 = .ok (.iload 5, 2) := by decide +kernel
theorem dX4_smallestRingWith_82 : decode cX4_smallestRingWith 82 = .ok (.istore 4, 2) := by decide +kernel
theorem dX4_smallestRingWith_84 : decode cX4_smallestRingWith 84 = .ok (.iinc 5 1, 3) := by decide +kernel
theorem dX4_smallestRingWith_87 : decode cX4_smallestRingWith 87 = .ok (.goto (-75), 3) := by decide +kernel
theorem dX4_smallestRingWith_90 : decode cX4_smallestRingWith 90 = .ok (.iload 4, 2) := by decide +kernel
theorem dX4_smallestRingWith_92 : decode cX4_smallestRingWith 92 = .ok (.ireturn, 1) := by decide +kernel
theorem dX4_fewestToAnswer_0 : decode cX4_fewestToAnswer 0 = .ok (.aload_n 0, 1) := by decide +kernel
theorem dX4_fewestToAnswer_1 : decode cX4_fewestToAnswer 1 = .ok (.aload_n 1, 1) := by decide +kernel
theorem dX4_fewestToAnswer_2 : decode cX4_fewestToAnswer 2 = .ok (.iload_n 2, 1) := by decide +kernel
theorem dX4_fewestToAnswer_3 : decode cX4_fewestToAnswer 3 = .ok (.invokevirtual 70, 3) := by decide +kernel
theorem dX4_fewestToAnswer_6 : decode cX4_fewestToAnswer 6 = .ok (.aload_n 1, 1) := by decide +kernel
theorem dX4_fewestToAnswer_7 : decode cX4_fewestToAnswer 7 = .ok (.invokevirtual 74, 3) := by decide +kernel
theorem dX4_fewestToAnswer_10 : decode cX4_fewestToAnswer 10 = .ok (.istore 4, 2) := by decide +kernel
theorem dX4_fewestToAnswer_12 : decode cX4_fewestToAnswer 12 = .ok (.aload_n 1, 1) := by decide +kernel
theorem dX4_fewestToAnswer_13 : decode cX4_fewestToAnswer 13 = .ok (.iload_n 2, 1) := by decide +kernel
theorem dX4_fewestToAnswer_14 : decode cX4_fewestToAnswer 14 = .ok (.aload_n 1, 1) := by decide +kernel
theorem dX4_fewestToAnswer_15 : decode cX4_fewestToAnswer 15 = .ok (.invokevirtual 34, 3) := by decide +kernel
theorem dX4_fewestToAnswer_18 : decode cX4_fewestToAnswer 18 = .ok (.invokevirtual 77, 3) := by decide +kernel
theorem dX4_fewestToAnswer_21 : decode cX4_fewestToAnswer 21 = .ok (.istore 5, 2) := by decide +kernel
theorem dX4_fewestToAnswer_23 : decode cX4_fewestToAnswer 23 = .ok (.iload 4, 2) := by decide +kernel
theorem dX4_fewestToAnswer_25 : decode cX4_fewestToAnswer 25 = .ok (.istore 6, 2) := by decide +kernel
theorem dX4_fewestToAnswer_27 : decode cX4_fewestToAnswer 27 = .ok (.iconst 0, 1) := by decide +kernel
theorem dX4_fewestToAnswer_28 : decode cX4_fewestToAnswer 28 = .ok (.istore 7, 2) := by decide +kernel
theorem dX4_fewestToAnswer_30 : decode cX4_fewestToAnswer 30 = .ok (.iload 7, 2) := by decide +kernel
theorem dX4_fewestToAnswer_32 : decode cX4_fewestToAnswer 32 = .ok (.aload_n 1, 1) := by decide +kernel
theorem dX4_fewestToAnswer_33 : decode cX4_fewestToAnswer 33 = .ok (.invokestatic 58, 3) := by decide +kernel
theorem dX4_fewestToAnswer_36 : decode cX4_fewestToAnswer 36 = .ok (.if_icmp .ge 62, 3) := by decide +kernel
theorem dX4_fewestToAnswer_39 : decode cX4_fewestToAnswer 39 = .ok (.iload 7, 2) := by decide +kernel
theorem dX4_fewestToAnswer_41 : decode cX4_fewestToAnswer 41 = .ok (.invokestatic 65, 3) := by decide +kernel
theorem dX4_fewestToAnswer_44 : decode cX4_fewestToAnswer 44 = .ok (.iload 6, 2) := by decide +kernel
theorem dX4_fewestToAnswer_46 : decode cX4_fewestToAnswer 46 = .ok (.invokestatic 65, 3) := by decide +kernel
theorem dX4_fewestToAnswer_49 : decode cX4_fewestToAnswer 49 = .ok (.if_icmp .ge 7, 3) := by decide +kernel
theorem dX4_fewestToAnswer_52 : decode cX4_fewestToAnswer 52 = .ok (.iconst 1, 1) := by decide +kernel
theorem dX4_fewestToAnswer_53 : decode cX4_fewestToAnswer 53 = .ok (.goto 4, 3) := by decide +kernel
theorem dX4_fewestToAnswer_56 : decode cX4_fewestToAnswer 56 = .ok (.iconst 0, 1) := by decide +kernel
theorem dX4_fewestToAnswer_57 : decode cX4_fewestToAnswer 57 = .ok (.istore 8, 2) := by decide +kernel
theorem dX4_fewestToAnswer_59 : decode cX4_fewestToAnswer 59 = .ok (.iload 8, 2) := by decide +kernel
theorem dX4_fewestToAnswer_61 : decode cX4_fewestToAnswer 61 = .ok (.ifCond .eq 31, 3) := by decide +kernel
theorem dX4_fewestToAnswer_64 : decode cX4_fewestToAnswer 64 = .ok (.iload 7, 2) := by decide +kernel
theorem dX4_fewestToAnswer_66 : decode cX4_fewestToAnswer 66 = .ok (.iload 4, 2) := by decide +kernel
theorem dX4_fewestToAnswer_68 : decode cX4_fewestToAnswer 68 = .ok (.invokestatic 61, 3) := by decide +kernel
theorem dX4_fewestToAnswer_71 : decode cX4_fewestToAnswer 71 = .ok (.ifCond .eq 21, 3) := by decide +kernel
theorem dX4_fewestToAnswer_74 : decode cX4_fewestToAnswer 74 = .ok (.iload 5, 2) := by decide +kernel
theorem dX4_fewestToAnswer_76 : decode cX4_fewestToAnswer 76 = .ok (.aload_n 0, 1) := by decide +kernel
theorem dX4_fewestToAnswer_77 : decode cX4_fewestToAnswer 77 = .ok (.getfield 15, 3) := by decide +kernel
theorem dX4_fewestToAnswer_80 : decode cX4_fewestToAnswer 80 = .ok (.iload 7, 2) := by decide +kernel
theorem dX4_fewestToAnswer_82 : decode cX4_fewestToAnswer 82 = .ok (.iaload, 1) := by decide +kernel
theorem dX4_fewestToAnswer_83 : decode cX4_fewestToAnswer 83 = .ok (.isub, 1) := by decide +kernel
theorem dX4_fewestToAnswer_84 : decode cX4_fewestToAnswer 84 = .ok (.iload_n 3, 1) := by decide +kernel
theorem dX4_fewestToAnswer_85 : decode cX4_fewestToAnswer 85 = .ok (.if_icmp .gt 7, 3) := by decide +kernel
theorem dX4_fewestToAnswer_88 : decode cX4_fewestToAnswer 88 = .ok (.iload 7, 2) := by decide +kernel
theorem dX4_fewestToAnswer_90 : decode cX4_fewestToAnswer 90 = .ok (.istore 6, 2) := by decide +kernel
theorem dX4_fewestToAnswer_92 : decode cX4_fewestToAnswer 92 = .ok (.iinc 7 1, 3) := by decide +kernel
theorem dX4_fewestToAnswer_95 : decode cX4_fewestToAnswer 95 = .ok (.goto (-65), 3) := by decide +kernel
theorem dX4_fewestToAnswer_98 : decode cX4_fewestToAnswer 98 = .ok (.iload 6, 2) := by decide +kernel
theorem dX4_fewestToAnswer_100 : decode cX4_fewestToAnswer 100 = .ok (.ireturn, 1) := by decide +kernel
theorem dX4_afterTurns_0 : decode cX4_afterTurns 0 = .ok (.aload_n 0, 1) := by decide +kernel
theorem dX4_afterTurns_1 : decode cX4_afterTurns 1 = .ok (.aload_n 1, 1) := by decide +kernel
theorem dX4_afterTurns_2 : decode cX4_afterTurns 2 = .ok (.iload_n 2, 1) := by decide +kernel
theorem dX4_afterTurns_3 : decode cX4_afterTurns 3 = .ok (.invokevirtual 70, 3) := by decide +kernel
theorem dX4_afterTurns_6 : decode cX4_afterTurns 6 = .ok (.aload_n 1, 1) := by decide +kernel
theorem dX4_afterTurns_7 : decode cX4_afterTurns 7 = .ok (.invokevirtual 74, 3) := by decide +kernel
theorem dX4_afterTurns_10 : decode cX4_afterTurns 10 = .ok (.istore 4, 2) := by decide +kernel
theorem dX4_afterTurns_12 : decode cX4_afterTurns 12 = .ok (.aload_n 1, 1) := by decide +kernel
theorem dX4_afterTurns_13 : decode cX4_afterTurns 13 = .ok (.invokestatic 58, 3) := by decide +kernel
theorem dX4_afterTurns_16 : decode cX4_afterTurns 16 = .ok (.istore 5, 2) := by decide +kernel
theorem dX4_afterTurns_18 : decode cX4_afterTurns 18 = .ok (.iload_n 3, 1) := by decide +kernel
theorem dX4_afterTurns_19 : decode cX4_afterTurns 19 = .ok (.iconst 4, 1) := by decide +kernel
theorem dX4_afterTurns_20 : decode cX4_afterTurns 20 = .ok (.invokestatic 24, 3) := by decide +kernel
theorem dX4_afterTurns_23 : decode cX4_afterTurns 23 = .ok (.iconst 1, 1) := by decide +kernel
theorem dX4_afterTurns_24 : decode cX4_afterTurns 24 = .ok (.isub, 1) := by decide +kernel
theorem dX4_afterTurns_25 : decode cX4_afterTurns 25 = .ok (.istore 6, 2) := by decide +kernel
theorem dX4_afterTurns_27 : decode cX4_afterTurns 27 = .ok (.iload 6, 2) := by decide +kernel
theorem dX4_afterTurns_29 : decode cX4_afterTurns 29 = .ok (.ifCond .lt 39, 3) := by decide +kernel
theorem dX4_afterTurns_32 : decode cX4_afterTurns 32 = .ok (.iload 6, 2) := by decide +kernel
theorem dX4_afterTurns_34 : decode cX4_afterTurns 34 = .ok (.iconst 2, 1) := by decide +kernel
theorem dX4_afterTurns_35 : decode cX4_afterTurns 35 = .ok (.irem, 1) := by decide +kernel
theorem dX4_afterTurns_36 : decode cX4_afterTurns 36 = .ok (.ifCond .ne 16, 3) := by decide +kernel
theorem dX4_afterTurns_39 : decode cX4_afterTurns 39 = .ok (.aload_n 0, 1) := by decide +kernel
theorem dX4_afterTurns_40 : decode cX4_afterTurns 40 = .ok (.iload 5, 2) := by decide +kernel
theorem dX4_afterTurns_42 : decode cX4_afterTurns 42 = .ok (.iload 4, 2) := by decide +kernel
theorem dX4_afterTurns_44 : decode cX4_afterTurns 44 = .ok (.iload 6, 2) := by decide +kernel
theorem dX4_afterTurns_46 : decode cX4_afterTurns 46 = .ok (.invokevirtual 80, 3) := by decide +kernel
theorem dX4_afterTurns_49 : decode cX4_afterTurns 49 = .ok (.goto 13, 3) := by decide +kernel
theorem dX4_afterTurns_52 : decode cX4_afterTurns 52 = .ok (.aload_n 0, 1) := by decide +kernel
theorem dX4_afterTurns_53 : decode cX4_afterTurns 53 = .ok (.iload 5, 2) := by decide +kernel
theorem dX4_afterTurns_55 : decode cX4_afterTurns 55 = .ok (.iload 4, 2) := by decide +kernel
theorem dX4_afterTurns_57 : decode cX4_afterTurns 57 = .ok (.iload 6, 2) := by decide +kernel
theorem dX4_afterTurns_59 : decode cX4_afterTurns 59 = .ok (.invokevirtual 84, 3) := by decide +kernel
theorem dX4_afterTurns_62 : decode cX4_afterTurns 62 = .ok (.iinc 6 (-1), 3) := by decide +kernel
theorem dX4_afterTurns_65 : decode cX4_afterTurns 65 = .ok (.goto (-38), 3) := by decide +kernel
theorem dX4_afterTurns_68 : decode cX4_afterTurns 68 = .ok (.iload 4, 2) := by decide +kernel
theorem dX4_afterTurns_70 : decode cX4_afterTurns 70 = .ok (.ifCond .lt 23, 3) := by decide +kernel
theorem dX4_afterTurns_73 : decode cX4_afterTurns 73 = .ok (.iload 4, 2) := by decide +kernel
theorem dX4_afterTurns_75 : decode cX4_afterTurns 75 = .ok (.aload_n 0, 1) := by decide +kernel
theorem dX4_afterTurns_76 : decode cX4_afterTurns 76 = .ok (.getfield 15, 3) := by decide +kernel
theorem dX4_afterTurns_79 : decode cX4_afterTurns 79 = .ok (.arraylength, 1) := by decide +kernel
theorem dX4_afterTurns_80 : decode cX4_afterTurns 80 = .ok (.if_icmp .ge 13, 3) := by decide +kernel
theorem dX4_afterTurns_83 : decode cX4_afterTurns 83 = .ok (.aload_n 0, 1) := by decide +kernel
theorem dX4_afterTurns_84 : decode cX4_afterTurns 84 = .ok (.getfield 15, 3) := by decide +kernel
theorem dX4_afterTurns_87 : decode cX4_afterTurns 87 = .ok (.iload 4, 2) := by decide +kernel
theorem dX4_afterTurns_89 : decode cX4_afterTurns 89 = .ok (.iaload, 1) := by decide +kernel
theorem dX4_afterTurns_90 : decode cX4_afterTurns 90 = .ok (.goto 4, 3) := by decide +kernel
theorem dX4_afterTurns_93 : decode cX4_afterTurns 93 = .ok (.iconst 0, 1) := by decide +kernel
theorem dX4_afterTurns_94 : decode cX4_afterTurns 94 = .ok (.ireturn, 1) := by decide +kernel
theorem dX4_letOneAnswer_0 : decode cX4_letOneAnswer 0 = .ok (.iload_n 1, 1) := by decide +kernel
theorem dX4_letOneAnswer_1 : decode cX4_letOneAnswer 1 = .ok (.iconst 1, 1) := by decide +kernel
theorem dX4_letOneAnswer_2 : decode cX4_letOneAnswer 2 = .ok (.isub, 1) := by decide +kernel
theorem dX4_letOneAnswer_3 : decode cX4_letOneAnswer 3 = .ok (.istore 4, 2) := by decide +kernel
theorem dX4_letOneAnswer_5 : decode cX4_letOneAnswer 5 = .ok (.iload 4, 2) := by decide +kernel
theorem dX4_letOneAnswer_7 : decode cX4_letOneAnswer 7 = .ok (.ifCond .lt 74, 3) := by decide +kernel
theorem dX4_letOneAnswer_10 : decode cX4_letOneAnswer 10 = .ok (.iload 4, 2) := by decide +kernel
theorem dX4_letOneAnswer_12 : decode cX4_letOneAnswer 12 = .ok (.iload_n 2, 1) := by decide +kernel
theorem dX4_letOneAnswer_13 : decode cX4_letOneAnswer 13 = .ok (.ixor, 1) := by decide +kernel
theorem dX4_letOneAnswer_14 : decode cX4_letOneAnswer 14 = .ok (.invokestatic 65, 3) := by decide +kernel
theorem dX4_letOneAnswer_17 : decode cX4_letOneAnswer 17 = .ok (.iload_n 3, 1) := by decide +kernel
theorem dX4_letOneAnswer_18 : decode cX4_letOneAnswer 18 = .ok (.if_icmp .gt 57, 3) := by decide +kernel
theorem dX4_letOneAnswer_21 : decode cX4_letOneAnswer 21 = .ok (.iconst 1, 1) := by decide +kernel
theorem dX4_letOneAnswer_22 : decode cX4_letOneAnswer 22 = .ok (.istore 5, 2) := by decide +kernel
theorem dX4_letOneAnswer_24 : decode cX4_letOneAnswer 24 = .ok (.iload 5, 2) := by decide +kernel
theorem dX4_letOneAnswer_26 : decode cX4_letOneAnswer 26 = .ok (.iload_n 1, 1) := by decide +kernel
theorem dX4_letOneAnswer_27 : decode cX4_letOneAnswer 27 = .ok (.if_icmp .ge 48, 3) := by decide +kernel
theorem dX4_letOneAnswer_30 : decode cX4_letOneAnswer 30 = .ok (.iload 4, 2) := by decide +kernel
theorem dX4_letOneAnswer_32 : decode cX4_letOneAnswer 32 = .ok (.iload 5, 2) := by decide +kernel
theorem dX4_letOneAnswer_34 : decode cX4_letOneAnswer 34 = .ok (.iand, 1) := by decide +kernel
theorem dX4_letOneAnswer_35 : decode cX4_letOneAnswer 35 = .ok (.ifCond .eq 30, 3) := by decide +kernel
theorem dX4_letOneAnswer_38 : decode cX4_letOneAnswer 38 = .ok (.aload_n 0, 1) := by decide +kernel
theorem dX4_letOneAnswer_39 : decode cX4_letOneAnswer 39 = .ok (.getfield 15, 3) := by decide +kernel
theorem dX4_letOneAnswer_42 : decode cX4_letOneAnswer 42 = .ok (.iload 4, 2) := by decide +kernel
theorem dX4_letOneAnswer_44 : decode cX4_letOneAnswer 44 = .ok (.aload_n 0, 1) := by decide +kernel
theorem dX4_letOneAnswer_45 : decode cX4_letOneAnswer 45 = .ok (.getfield 15, 3) := by decide +kernel
theorem dX4_letOneAnswer_48 : decode cX4_letOneAnswer 48 = .ok (.iload 4, 2) := by decide +kernel
theorem dX4_letOneAnswer_50 : decode cX4_letOneAnswer 50 = .ok (.iaload, 1) := by decide +kernel
theorem dX4_letOneAnswer_51 : decode cX4_letOneAnswer 51 = .ok (.aload_n 0, 1) := by decide +kernel
theorem dX4_letOneAnswer_52 : decode cX4_letOneAnswer 52 = .ok (.getfield 15, 3) := by decide +kernel
theorem dX4_letOneAnswer_55 : decode cX4_letOneAnswer 55 = .ok (.iload 4, 2) := by decide +kernel
theorem dX4_letOneAnswer_57 : decode cX4_letOneAnswer 57 = .ok (.iload 5, 2) := by decide +kernel
theorem dX4_letOneAnswer_59 : decode cX4_letOneAnswer 59 = .ok (.isub, 1) := by decide +kernel
theorem dX4_letOneAnswer_60 : decode cX4_letOneAnswer 60 = .ok (.iaload, 1) := by decide +kernel
theorem dX4_letOneAnswer_61 : decode cX4_letOneAnswer 61 = .ok (.invokestatic 24, 3) := by decide +kernel
theorem dX4_letOneAnswer_64 : decode cX4_letOneAnswer 64 = .ok (.iastore, 1) := by decide +kernel
theorem dX4_letOneAnswer_65 : decode cX4_letOneAnswer 65 = .ok (.iload 5, 2) := by decide +kernel
theorem dX4_letOneAnswer_67 : decode cX4_letOneAnswer 67 = .ok (.iload 5, 2) := by decide +kernel
theorem dX4_letOneAnswer_69 : decode cX4_letOneAnswer 69 = .ok (.iadd, 1) := by decide +kernel
theorem dX4_letOneAnswer_70 : decode cX4_letOneAnswer 70 = .ok (.istore 5, 2) := by decide +kernel
theorem dX4_letOneAnswer_72 : decode cX4_letOneAnswer 72 = .ok (.goto (-48), 3) := by decide +kernel
theorem dX4_letOneAnswer_75 : decode cX4_letOneAnswer 75 = .ok (.iinc 4 (-1), 3) := by decide +kernel
theorem dX4_letOneAnswer_78 : decode cX4_letOneAnswer 78 = .ok (.goto (-73), 3) := by decide +kernel
theorem dX4_letOneAnswer_81 : decode cX4_letOneAnswer 81 = .ok (.return_, 1) := by decide +kernel
theorem dX4_letOneLight_0 : decode cX4_letOneLight 0 = .ok (.iconst 0, 1) := by decide +kernel
theorem dX4_letOneLight_1 : decode cX4_letOneLight 1 = .ok (.istore 4, 2) := by decide +kernel
theorem dX4_letOneLight_3 : decode cX4_letOneLight 3 = .ok (.iload 4, 2) := by decide +kernel
theorem dX4_letOneLight_5 : decode cX4_letOneLight 5 = .ok (.iload_n 1, 1) := by decide +kernel
theorem dX4_letOneLight_6 : decode cX4_letOneLight 6 = .ok (.if_icmp .ge 74, 3) := by decide +kernel
theorem dX4_letOneLight_9 : decode cX4_letOneLight 9 = .ok (.iload 4, 2) := by decide +kernel
theorem dX4_letOneLight_11 : decode cX4_letOneLight 11 = .ok (.iload_n 2, 1) := by decide +kernel
theorem dX4_letOneLight_12 : decode cX4_letOneLight 12 = .ok (.ixor, 1) := by decide +kernel
theorem dX4_letOneLight_13 : decode cX4_letOneLight 13 = .ok (.invokestatic 65, 3) := by decide +kernel
theorem dX4_letOneLight_16 : decode cX4_letOneLight 16 = .ok (.iload_n 3, 1) := by decide +kernel
theorem dX4_letOneLight_17 : decode cX4_letOneLight 17 = .ok (.if_icmp .gt 57, 3) := by decide +kernel
theorem dX4_letOneLight_20 : decode cX4_letOneLight 20 = .ok (.iconst 1, 1) := by decide +kernel
theorem dX4_letOneLight_21 : decode cX4_letOneLight 21 = .ok (.istore 5, 2) := by decide +kernel
theorem dX4_letOneLight_23 : decode cX4_letOneLight 23 = .ok (.iload 5, 2) := by decide +kernel
theorem dX4_letOneLight_25 : decode cX4_letOneLight 25 = .ok (.iload_n 1, 1) := by decide +kernel
theorem dX4_letOneLight_26 : decode cX4_letOneLight 26 = .ok (.if_icmp .ge 48, 3) := by decide +kernel
theorem dX4_letOneLight_29 : decode cX4_letOneLight 29 = .ok (.iload 4, 2) := by decide +kernel
theorem dX4_letOneLight_31 : decode cX4_letOneLight 31 = .ok (.iload 5, 2) := by decide +kernel
theorem dX4_letOneLight_33 : decode cX4_letOneLight 33 = .ok (.iand, 1) := by decide +kernel
theorem dX4_letOneLight_34 : decode cX4_letOneLight 34 = .ok (.ifCond .ne 30, 3) := by decide +kernel
theorem dX4_letOneLight_37 : decode cX4_letOneLight 37 = .ok (.aload_n 0, 1) := by decide +kernel
theorem dX4_letOneLight_38 : decode cX4_letOneLight 38 = .ok (.getfield 15, 3) := by decide +kernel
theorem dX4_letOneLight_41 : decode cX4_letOneLight 41 = .ok (.iload 4, 2) := by decide +kernel
theorem dX4_letOneLight_43 : decode cX4_letOneLight 43 = .ok (.aload_n 0, 1) := by decide +kernel
theorem dX4_letOneLight_44 : decode cX4_letOneLight 44 = .ok (.getfield 15, 3) := by decide +kernel
theorem dX4_letOneLight_47 : decode cX4_letOneLight 47 = .ok (.iload 4, 2) := by decide +kernel
theorem dX4_letOneLight_49 : decode cX4_letOneLight 49 = .ok (.iaload, 1) := by decide +kernel
theorem dX4_letOneLight_50 : decode cX4_letOneLight 50 = .ok (.aload_n 0, 1) := by decide +kernel
theorem dX4_letOneLight_51 : decode cX4_letOneLight 51 = .ok (.getfield 15, 3) := by decide +kernel
theorem dX4_letOneLight_54 : decode cX4_letOneLight 54 = .ok (.iload 4, 2) := by decide +kernel
theorem dX4_letOneLight_56 : decode cX4_letOneLight 56 = .ok (.iload 5, 2) := by decide +kernel
theorem dX4_letOneLight_58 : decode cX4_letOneLight 58 = .ok (.iadd, 1) := by decide +kernel
theorem dX4_letOneLight_59 : decode cX4_letOneLight 59 = .ok (.iaload, 1) := by decide +kernel
theorem dX4_letOneLight_60 : decode cX4_letOneLight 60 = .ok (.invokestatic 87, 3) := by decide +kernel
theorem dX4_letOneLight_63 : decode cX4_letOneLight 63 = .ok (.iastore, 1) := by decide +kernel
theorem dX4_letOneLight_64 : decode cX4_letOneLight 64 = .ok (.iload 5, 2) := by decide +kernel
theorem dX4_letOneLight_66 : decode cX4_letOneLight 66 = .ok (.iload 5, 2) := by decide +kernel
theorem dX4_letOneLight_68 : decode cX4_letOneLight 68 = .ok (.iadd, 1) := by decide +kernel
theorem dX4_letOneLight_69 : decode cX4_letOneLight 69 = .ok (.istore 5, 2) := by decide +kernel
theorem dX4_letOneLight_71 : decode cX4_letOneLight 71 = .ok (.goto (-48), 3) := by decide +kernel
theorem dX4_letOneLight_74 : decode cX4_letOneLight 74 = .ok (.iinc 4 1, 3) := by decide +kernel
theorem dX4_letOneLight_77 : decode cX4_letOneLight 77 = .ok (.goto (-74), 3) := by decide +kernel
theorem dX4_letOneLight_80 : decode cX4_letOneLight 80 = .ok (.return_, 1) := by decide +kernel
theorem dX4_waysToBeDark_0 : decode cX4_waysToBeDark 0 = .ok (.aload_n 0, 1) := by decide +kernel
theorem dX4_waysToBeDark_1 : decode cX4_waysToBeDark 1 = .ok (.aload_n 1, 1) := by decide +kernel
theorem dX4_waysToBeDark_2 : decode cX4_waysToBeDark 2 = .ok (.iload_n 2, 1) := by decide +kernel
theorem dX4_waysToBeDark_3 : decode cX4_waysToBeDark 3 = .ok (.invokevirtual 70, 3) := by decide +kernel
theorem dX4_waysToBeDark_6 : decode cX4_waysToBeDark 6 = .ok (.aload_n 1, 1) := by decide +kernel
theorem dX4_waysToBeDark_7 : decode cX4_waysToBeDark 7 = .ok (.invokevirtual 74, 3) := by decide +kernel
theorem dX4_waysToBeDark_10 : decode cX4_waysToBeDark 10 = .ok (.istore 5, 2) := by decide +kernel
theorem dX4_waysToBeDark_12 : decode cX4_waysToBeDark 12 = .ok (.lconst 0, 1) := by decide +kernel
theorem dX4_waysToBeDark_13 : decode cX4_waysToBeDark 13 = .ok (.lstore 6, 2) := by decide +kernel
theorem dX4_waysToBeDark_15 : decode cX4_waysToBeDark 15 = .ok (.iconst 0, 1) := by decide +kernel
theorem dX4_waysToBeDark_16 : decode cX4_waysToBeDark 16 = .ok (.istore 8, 2) := by decide +kernel
theorem dX4_waysToBeDark_18 : decode cX4_waysToBeDark 18 = .ok (.iload 8, 2) := by decide +kernel
theorem dX4_waysToBeDark_20 : decode cX4_waysToBeDark 20 = .ok (.aload_n 1, 1) := by decide +kernel
theorem dX4_waysToBeDark_21 : decode cX4_waysToBeDark 21 = .ok (.invokestatic 58, 3) := by decide +kernel
theorem dX4_waysToBeDark_24 : decode cX4_waysToBeDark 24 = .ok (.if_icmp .ge 66, 3) := by decide +kernel
theorem dX4_waysToBeDark_27 : decode cX4_waysToBeDark 27 = .ok (.iload 8, 2) := by decide +kernel
theorem dX4_waysToBeDark_29 : decode cX4_waysToBeDark 29 = .ok (.iload 5, 2) := by decide +kernel
theorem dX4_waysToBeDark_31 : decode cX4_waysToBeDark 31 = .ok (.invokestatic 61, 3) := by decide +kernel
theorem dX4_waysToBeDark_34 : decode cX4_waysToBeDark 34 = .ok (.ifCond .eq 50, 3) := by decide +kernel
theorem dX4_waysToBeDark_37 : decode cX4_waysToBeDark 37 = .ok (.aload_n 0, 1) := by decide +kernel
theorem dX4_waysToBeDark_38 : decode cX4_waysToBeDark 38 = .ok (.getfield 15, 3) := by decide +kernel
theorem dX4_waysToBeDark_41 : decode cX4_waysToBeDark 41 = .ok (.iload 8, 2) := by decide +kernel
theorem dX4_waysToBeDark_43 : decode cX4_waysToBeDark 43 = .ok (.iaload, 1) := by decide +kernel
theorem dX4_waysToBeDark_44 : decode cX4_waysToBeDark 44 = .ok (.iload_n 3, 1) := by decide +kernel
theorem dX4_waysToBeDark_45 : decode cX4_waysToBeDark 45 = .ok (.if_icmp .gt 39, 3) := by decide +kernel
theorem dX4_waysToBeDark_48 : decode cX4_waysToBeDark 48 = .ok (.iload 5, 2) := by decide +kernel
theorem dX4_waysToBeDark_50 : decode cX4_waysToBeDark 50 = .ok (.iload 8, 2) := by decide +kernel
theorem dX4_waysToBeDark_52 : decode cX4_waysToBeDark 52 = .ok (.isub, 1) := by decide +kernel
theorem dX4_waysToBeDark_53 : decode cX4_waysToBeDark 53 = .ok (.invokestatic 65, 3) := by decide +kernel
theorem dX4_waysToBeDark_56 : decode cX4_waysToBeDark 56 = .ok (.istore 9, 2) := by decide +kernel
theorem dX4_waysToBeDark_58 : decode cX4_waysToBeDark 58 = .ok (.lload 6, 2) := by decide +kernel
theorem dX4_waysToBeDark_60 : decode cX4_waysToBeDark 60 = .ok (.iload 4, 2) := by decide +kernel
theorem dX4_waysToBeDark_62 : decode cX4_waysToBeDark 62 = .ok (.iload 9, 2) := by decide +kernel
theorem dX4_waysToBeDark_64 : decode cX4_waysToBeDark 64 = .ok (.invokestatic 90, 3) := by decide +kernel
theorem dX4_waysToBeDark_67 : decode cX4_waysToBeDark 67 = .ok (.bipush 12, 2) := by decide +kernel
theorem dX4_waysToBeDark_69 : decode cX4_waysToBeDark 69 = .ok (.iload 4, 2) := by decide +kernel
theorem dX4_waysToBeDark_71 : decode cX4_waysToBeDark 71 = .ok (.isub, 1) := by decide +kernel
theorem dX4_waysToBeDark_72 : decode cX4_waysToBeDark 72 = .ok (.iload 8, 2) := by decide +kernel
theorem dX4_waysToBeDark_74 : decode cX4_waysToBeDark 74 = .ok (.invokestatic 65, 3) := by decide +kernel
theorem dX4_waysToBeDark_77 : decode cX4_waysToBeDark 77 = .ok (.invokestatic 90, 3) := by decide +kernel
theorem dX4_waysToBeDark_80 : decode cX4_waysToBeDark 80 = .ok (.lmul, 1) := by decide +kernel
theorem dX4_waysToBeDark_81 : decode cX4_waysToBeDark 81 = .ok (.ladd, 1) := by decide +kernel
theorem dX4_waysToBeDark_82 : decode cX4_waysToBeDark 82 = .ok (.lstore 6, 2) := by decide +kernel
theorem dX4_waysToBeDark_84 : decode cX4_waysToBeDark 84 = .ok (.iinc 8 1, 3) := by decide +kernel
theorem dX4_waysToBeDark_87 : decode cX4_waysToBeDark 87 = .ok (.goto (-69), 3) := by decide +kernel
theorem dX4_waysToBeDark_90 : decode cX4_waysToBeDark 90 = .ok (.lload 6, 2) := by decide +kernel
theorem dX4_waysToBeDark_92 : decode cX4_waysToBeDark 92 = .ok (.lreturn, 1) := by decide +kernel
theorem dX4_power_0 : decode cX4_power 0 = .ok (.lconst 1, 1) := by decide +kernel
theorem dX4_power_1 : decode cX4_power 1 = .ok (.lstore_n 2, 1) := by decide +kernel
theorem dX4_power_2 : decode cX4_power 2 = .ok (.iconst 0, 1) := by decide +kernel
theorem dX4_power_3 : decode cX4_power 3 = .ok (.istore 4, 2) := by decide +kernel
theorem dX4_power_5 : decode cX4_power 5 = .ok (.iload 4, 2) := by decide +kernel
theorem dX4_power_7 : decode cX4_power 7 = .ok (.iload_n 1, 1) := by decide +kernel
theorem dX4_power_8 : decode cX4_power 8 = .ok (.if_icmp .ge 21, 3) := by decide +kernel
theorem dX4_power_11 : decode cX4_power 11 = .ok (.iload 4, 2) := by decide +kernel
theorem dX4_power_13 : decode cX4_power 13 = .ok (.bipush 8, 2) := by decide +kernel
theorem dX4_power_15 : decode cX4_power 15 = .ok (.if_icmp .ge 14, 3) := by decide +kernel
theorem dX4_power_18 : decode cX4_power 18 = .ok (.lload_n 2, 1) := by decide +kernel
theorem dX4_power_19 : decode cX4_power 19 = .ok (.iload_n 0, 1) := by decide +kernel
theorem dX4_power_20 : decode cX4_power 20 = .ok (.i2l, 1) := by decide +kernel
theorem dX4_power_21 : decode cX4_power 21 = .ok (.lmul, 1) := by decide +kernel
theorem dX4_power_22 : decode cX4_power 22 = .ok (.lstore_n 2, 1) := by decide +kernel
theorem dX4_power_23 : decode cX4_power 23 = .ok (.iinc 4 1, 3) := by decide +kernel
theorem dX4_power_26 : decode cX4_power 26 = .ok (.goto (-21), 3) := by decide +kernel
theorem dX4_power_29 : decode cX4_power 29 = .ok (.lload_n 2, 1) := by decide +kernel
theorem dX4_power_30 : decode cX4_power 30 = .ok (.lreturn, 1) := by decide +kernel
theorem dX5_init_0 : decode cX5_init 0 = .ok (.aload_n 0, 1) := by decide +kernel
theorem dX5_init_1 : decode cX5_init 1 = .ok (.invokespecial 1, 3) := by decide +kernel
theorem dX5_init_4 : decode cX5_init 4 = .ok (.aload_n 0, 1) := by decide +kernel
theorem dX5_init_5 : decode cX5_init 5 = .ok (.iconst (-1), 1) := by decide +kernel
theorem dX5_init_6 : decode cX5_init 6 = .ok (.putfield 9, 3) := by decide +kernel
theorem dX5_init_9 : decode cX5_init 9 = .ok (.aload_n 0, 1) := by decide +kernel
theorem dX5_init_10 : decode cX5_init 10 = .ok (.iconst 0, 1) := by decide +kernel
theorem dX5_init_11 : decode cX5_init 11 = .ok (.iload_n 1, 1) := by decide +kernel
theorem dX5_init_12 : decode cX5_init 12 = .ok (.invokestatic 13, 3) := by decide +kernel
theorem dX5_init_15 : decode cX5_init 15 = .ok (.newarray .int, 2) := by decide +kernel
theorem dX5_init_17 : decode cX5_init 17 = .ok (.putfield 19, 3) := by decide +kernel
theorem dX5_init_20 : decode cX5_init 20 = .ok (.return_, 1) := by decide +kernel
theorem dX5_room_0 : decode cX5_room 0 = .ok (.aload_n 0, 1) := by decide +kernel
theorem dX5_room_1 : decode cX5_room 1 = .ok (.getfield 19, 3) := by decide +kernel
theorem dX5_room_4 : decode cX5_room 4 = .ok (.arraylength, 1) := by decide +kernel
theorem dX5_room_5 : decode cX5_room 5 = .ok (.ireturn, 1) := by decide +kernel
theorem dX5_size_0 : decode cX5_size 0 = .ok (.aload_n 0, 1) := by decide +kernel
theorem dX5_size_1 : decode cX5_size 1 = .ok (.getfield 9, 3) := by decide +kernel
theorem dX5_size_4 : decode cX5_size 4 = .ok (.ireturn, 1) := by decide +kernel
theorem dX5_isMissing_0 : decode cX5_isMissing 0 = .ok (.aload_n 0, 1) := by decide +kernel
theorem dX5_isMissing_1 : decode cX5_isMissing 1 = .ok (.getfield 9, 3) := by decide +kernel
theorem dX5_isMissing_4 : decode cX5_isMissing 4 = .ok (.ifCond .ge 7, 3) := by decide +kernel
theorem dX5_isMissing_7 : decode cX5_isMissing 7 = .ok (.iconst 1, 1) := by decide +kernel
theorem dX5_isMissing_8 : decode cX5_isMissing 8 = .ok (.goto 4, 3) := by decide +kernel
theorem dX5_isMissing_11 : decode cX5_isMissing 11 = .ok (.iconst 0, 1) := by decide +kernel
theorem dX5_isMissing_12 : decode cX5_isMissing 12 = .ok (.ireturn, 1) := by decide +kernel
theorem dX5_remove_0 : decode cX5_remove 0 = .ok (.aload_n 0, 1) := by decide +kernel
theorem dX5_remove_1 : decode cX5_remove 1 = .ok (.iconst (-1), 1) := by decide +kernel
theorem dX5_remove_2 : decode cX5_remove 2 = .ok (.putfield 9, 3) := by decide +kernel
theorem dX5_remove_5 : decode cX5_remove 5 = .ok (.return_, 1) := by decide +kernel
theorem dX5_renew_0 : decode cX5_renew 0 = .ok (.aload_n 0, 1) := by decide +kernel
theorem dX5_renew_1 : decode cX5_renew 1 = .ok (.iconst 0, 1) := by decide +kernel
theorem dX5_renew_2 : decode cX5_renew 2 = .ok (.iload_n 1, 1) := by decide +kernel
theorem dX5_renew_3 : decode cX5_renew 3 = .ok (.aload_n 0, 1) := by decide +kernel
theorem dX5_renew_4 : decode cX5_renew 4 = .ok (.getfield 19, 3) := by decide +kernel
theorem dX5_renew_7 : decode cX5_renew 7 = .ok (.arraylength, 1) := by decide +kernel
theorem dX5_renew_8 : decode cX5_renew 8 = .ok (.invokestatic 23, 3) := by decide +kernel
theorem dX5_renew_11 : decode cX5_renew 11 = .ok (.invokestatic 13, 3) := by decide +kernel
theorem dX5_renew_14 : decode cX5_renew 14 = .ok (.putfield 9, 3) := by decide +kernel
theorem dX5_renew_17 : decode cX5_renew 17 = .ok (.iconst 0, 1) := by decide +kernel
theorem dX5_renew_18 : decode cX5_renew 18 = .ok (.istore_n 3, 1) := by decide +kernel
theorem dX5_renew_19 : decode cX5_renew 19 = .ok (.iload_n 3, 1) := by decide +kernel
theorem dX5_renew_20 : decode cX5_renew 20 = .ok (.aload_n 0, 1) := by decide +kernel
theorem dX5_renew_21 : decode cX5_renew 21 = .ok (.getfield 9, 3) := by decide +kernel
theorem dX5_renew_24 : decode cX5_renew 24 = .ok (.if_icmp .ge 16, 3) := by decide +kernel
theorem dX5_renew_27 : decode cX5_renew 27 = .ok (.aload_n 0, 1) := by decide +kernel
theorem dX5_renew_28 : decode cX5_renew 28 = .ok (.getfield 19, 3) := by decide +kernel
theorem dX5_renew_31 : decode cX5_renew 31 = .ok (.iload_n 3, 1) := by decide +kernel
theorem dX5_renew_32 : decode cX5_renew 32 = .ok (.iload_n 2, 1) := by decide +kernel
theorem dX5_renew_33 : decode cX5_renew 33 = .ok (.iastore, 1) := by decide +kernel
theorem dX5_renew_34 : decode cX5_renew 34 = .ok (.iinc 3 1, 3) := by decide +kernel
theorem dX5_renew_37 : decode cX5_renew 37 = .ok (.goto (-18), 3) := by decide +kernel
theorem dX5_renew_40 : decode cX5_renew 40 = .ok (.return_, 1) := by decide +kernel
theorem dX5_holds_0 : decode cX5_holds 0 = .ok (.iload_n 1, 1) := by decide +kernel
theorem dX5_holds_1 : decode cX5_holds 1 = .ok (.ifCond .lt 15, 3) := by decide +kernel
theorem dX5_holds_4 : decode cX5_holds 4 = .ok (.iload_n 1, 1) := by decide +kernel
theorem dX5_holds_5 : decode cX5_holds 5 = .ok (.aload_n 0, 1) := by decide +kernel
theorem dX5_holds_6 : decode cX5_holds 6 = .ok (.getfield 9, 3) := by decide +kernel
theorem dX5_holds_9 : decode cX5_holds 9 = .ok (.if_icmp .ge 7, 3) := by decide +kernel
theorem dX5_holds_12 : decode cX5_holds 12 = .ok (.iconst 1, 1) := by decide +kernel
theorem dX5_holds_13 : decode cX5_holds 13 = .ok (.goto 4, 3) := by decide +kernel
theorem dX5_holds_16 : decode cX5_holds 16 = .ok (.iconst 0, 1) := by decide +kernel
theorem dX5_holds_17 : decode cX5_holds 17 = .ok (.ireturn, 1) := by decide +kernel
theorem dX5_get_0 : decode cX5_get 0 = .ok (.aload_n 0, 1) := by decide +kernel
theorem dX5_get_1 : decode cX5_get 1 = .ok (.iload_n 1, 1) := by decide +kernel
theorem dX5_get_2 : decode cX5_get 2 = .ok (.invokevirtual 26, 3) := by decide +kernel
theorem dX5_get_5 : decode cX5_get 5 = .ok (.ifCond .eq 12, 3) := by decide +kernel
theorem dX5_get_8 : decode cX5_get 8 = .ok (.aload_n 0, 1) := by decide +kernel
theorem dX5_get_9 : decode cX5_get 9 = .ok (.getfield 19, 3) := by decide +kernel
theorem dX5_get_12 : decode cX5_get 12 = .ok (.iload_n 1, 1) := by decide +kernel
theorem dX5_get_13 : decode cX5_get 13 = .ok (.iaload, 1) := by decide +kernel
theorem dX5_get_14 : decode cX5_get 14 = .ok (.goto 4, 3) := by decide +kernel
theorem dX5_get_17 : decode cX5_get 17 = .ok (.iconst 0, 1) := by decide +kernel
theorem dX5_get_18 : decode cX5_get 18 = .ok (.ireturn, 1) := by decide +kernel
theorem dX5_set_0 : decode cX5_set 0 = .ok (.aload_n 0, 1) := by decide +kernel
theorem dX5_set_1 : decode cX5_set 1 = .ok (.iload_n 1, 1) := by decide +kernel
theorem dX5_set_2 : decode cX5_set 2 = .ok (.invokevirtual 26, 3) := by decide +kernel
theorem dX5_set_5 : decode cX5_set 5 = .ok (.ifCond .eq 10, 3) := by decide +kernel
theorem dX5_set_8 : decode cX5_set 8 = .ok (.aload_n 0, 1) := by decide +kernel
theorem dX5_set_9 : decode cX5_set 9 = .ok (.getfield 19, 3) := by decide +kernel
theorem dX5_set_12 : decode cX5_set 12 = .ok (.iload_n 1, 1) := by decide +kernel
theorem dX5_set_13 : decode cX5_set 13 = .ok (.iload_n 2, 1) := by decide +kernel
theorem dX5_set_14 : decode cX5_set 14 = .ok (.iastore, 1) := by decide +kernel
theorem dX5_set_15 : decode cX5_set 15 = .ok (.return_, 1) := by decide +kernel
theorem dX5_holdsRun_0 : decode cX5_holdsRun 0 = .ok (.aload_n 0, 1) := by decide +kernel
theorem dX5_holdsRun_1 : decode cX5_holdsRun 1 = .ok (.getfield 9, 3) := by decide +kernel
theorem dX5_holdsRun_4 : decode cX5_holdsRun 4 = .ok (.ifCond .lt 25, 3) := by decide +kernel
theorem dX5_holdsRun_7 : decode cX5_holdsRun 7 = .ok (.iload_n 2, 1) := by decide +kernel
theorem dX5_holdsRun_8 : decode cX5_holdsRun 8 = .ok (.ifCond .lt 21, 3) := by decide +kernel
theorem dX5_holdsRun_11 : decode cX5_holdsRun 11 = .ok (.iload_n 1, 1) := by decide +kernel
theorem dX5_holdsRun_12 : decode cX5_holdsRun 12 = .ok (.ifCond .lt 17, 3) := by decide +kernel
theorem dX5_holdsRun_15 : decode cX5_holdsRun 15 = .ok (.iload_n 1, 1) := by decide +kernel
theorem dX5_holdsRun_16 : decode cX5_holdsRun 16 = .ok (.aload_n 0, 1) := by decide +kernel
theorem dX5_holdsRun_17 : decode cX5_holdsRun 17 = .ok (.getfield 9, 3) := by decide +kernel
theorem dX5_holdsRun_20 : decode cX5_holdsRun 20 = .ok (.iload_n 2, 1) := by decide +kernel
theorem dX5_holdsRun_21 : decode cX5_holdsRun 21 = .ok (.isub, 1) := by decide +kernel
theorem dX5_holdsRun_22 : decode cX5_holdsRun 22 = .ok (.if_icmp .gt 7, 3) := by decide +kernel
theorem dX5_holdsRun_25 : decode cX5_holdsRun 25 = .ok (.iconst 1, 1) := by decide +kernel
theorem dX5_holdsRun_26 : decode cX5_holdsRun 26 = .ok (.goto 4, 3) := by decide +kernel
theorem dX5_holdsRun_29 : decode cX5_holdsRun 29 = .ok (.iconst 0, 1) := by decide +kernel
theorem dX5_holdsRun_30 : decode cX5_holdsRun 30 = .ok (.ireturn, 1) := by decide +kernel
theorem dX5_takeRun_0 : decode cX5_takeRun 0 = .ok (.aload_n 2, 1) := by decide +kernel
theorem dX5_takeRun_1 : decode cX5_takeRun 1 = .ok (.ifnull 38, 3) := by decide +kernel
theorem dX5_takeRun_4 : decode cX5_takeRun 4 = .ok (.aload_n 2, 1) := by decide +kernel
theorem dX5_takeRun_5 : decode cX5_takeRun 5 = .ok (.iload_n 3, 1) := by decide +kernel
theorem dX5_takeRun_6 : decode cX5_takeRun 6 = .ok (.iload 4, 2) := by decide +kernel
theorem dX5_takeRun_8 : decode cX5_takeRun 8 = .ok (.invokevirtual 30, 3) := by decide +kernel
theorem dX5_takeRun_11 : decode cX5_takeRun 11 = .ok (.ifCond .eq 28, 3) := by decide +kernel
theorem dX5_takeRun_14 : decode cX5_takeRun 14 = .ok (.aload_n 0, 1) := by decide +kernel
theorem dX5_takeRun_15 : decode cX5_takeRun 15 = .ok (.iload_n 1, 1) := by decide +kernel
theorem dX5_takeRun_16 : decode cX5_takeRun 16 = .ok (.iload 4, 2) := by decide +kernel
theorem dX5_takeRun_18 : decode cX5_takeRun 18 = .ok (.invokevirtual 30, 3) := by decide +kernel
theorem dX5_takeRun_21 : decode cX5_takeRun 21 = .ok (.ifCond .eq 18, 3) := by decide +kernel
theorem dX5_takeRun_24 : decode cX5_takeRun 24 = .ok (.aload_n 2, 1) := by decide +kernel
theorem dX5_takeRun_25 : decode cX5_takeRun 25 = .ok (.getfield 19, 3) := by decide +kernel
theorem dX5_takeRun_28 : decode cX5_takeRun 28 = .ok (.iload_n 3, 1) := by decide +kernel
theorem dX5_takeRun_29 : decode cX5_takeRun 29 = .ok (.aload_n 0, 1) := by decide +kernel
theorem dX5_takeRun_30 : decode cX5_takeRun 30 = .ok (.getfield 19, 3) := by decide +kernel
theorem dX5_takeRun_33 : decode cX5_takeRun 33 = .ok (.iload_n 1, 1) := by decide +kernel
theorem dX5_takeRun_34 : decode cX5_takeRun 34 = .ok (.iload 4, 2) := by decide +kernel
theorem dX5_takeRun_36 : decode cX5_takeRun 36 = .ok (.invokestatic 34, 3) := by decide +kernel
theorem dX5_takeRun_39 : decode cX5_takeRun 39 = .ok (.return_, 1) := by decide +kernel
theorem dX5_total_0 : decode cX5_total 0 = .ok (.lconst 0, 1) := by decide +kernel
theorem dX5_total_1 : decode cX5_total 1 = .ok (.lstore_n 1, 1) := by decide +kernel
theorem dX5_total_2 : decode cX5_total 2 = .ok (.iconst 0, 1) := by decide +kernel
theorem dX5_total_3 : decode cX5_total 3 = .ok (.istore_n 3, 1) := by decide +kernel
theorem dX5_total_4 : decode cX5_total 4 = .ok (.iload_n 3, 1) := by decide +kernel
theorem dX5_total_5 : decode cX5_total 5 = .ok (.aload_n 0, 1) := by decide +kernel
theorem dX5_total_6 : decode cX5_total 6 = .ok (.getfield 9, 3) := by decide +kernel
theorem dX5_total_9 : decode cX5_total 9 = .ok (.if_icmp .ge 19, 3) := by decide +kernel
theorem dX5_total_12 : decode cX5_total 12 = .ok (.lload_n 1, 1) := by decide +kernel
theorem dX5_total_13 : decode cX5_total 13 = .ok (.aload_n 0, 1) := by decide +kernel
theorem dX5_total_14 : decode cX5_total 14 = .ok (.getfield 19, 3) := by decide +kernel
theorem dX5_total_17 : decode cX5_total 17 = .ok (.iload_n 3, 1) := by decide +kernel
theorem dX5_total_18 : decode cX5_total 18 = .ok (.iaload, 1) := by decide +kernel
theorem dX5_total_19 : decode cX5_total 19 = .ok (.i2l, 1) := by decide +kernel
theorem dX5_total_20 : decode cX5_total 20 = .ok (.ladd, 1) := by decide +kernel
theorem dX5_total_21 : decode cX5_total 21 = .ok (.lstore_n 1, 1) := by decide +kernel
theorem dX5_total_22 : decode cX5_total 22 = .ok (.iinc 3 1, 3) := by decide +kernel
theorem dX5_total_25 : decode cX5_total 25 = .ok (.goto (-21), 3) := by decide +kernel
theorem dX5_total_28 : decode cX5_total 28 = .ok (.lload_n 1, 1) := by decide +kernel
theorem dX5_total_29 : decode cX5_total 29 = .ok (.lreturn, 1) := by decide +kernel
theorem dX6_darkest_0 : decode cX6_darkest 0 = .ok (.iconst 0, 1) := by decide +kernel
theorem dX6_darkest_1 : decode cX6_darkest 1 = .ok (.istore_n 1, 1) := by decide +kernel
theorem dX6_darkest_2 : decode cX6_darkest 2 = .ok (.iconst 0, 1) := by decide +kernel
theorem dX6_darkest_3 : decode cX6_darkest 3 = .ok (.istore_n 2, 1) := by decide +kernel
theorem dX6_darkest_4 : decode cX6_darkest 4 = .ok (.iconst 0, 1) := by decide +kernel
theorem dX6_darkest_5 : decode cX6_darkest 5 = .ok (.istore_n 3, 1) := by decide +kernel
theorem dX6_darkest_6 : decode cX6_darkest 6 = .ok (.iload_n 3, 1) := by decide +kernel
theorem dX6_darkest_7 : decode cX6_darkest 7 = .ok (.bipush 10, 2) := by decide +kernel
theorem dX6_darkest_9 : decode cX6_darkest 9 = .ok (.if_icmp .ge 68, 3) := by decide +kernel
theorem dX6_darkest_12 : decode cX6_darkest 12 = .ok (.aload_n 0, 1) := by decide +kernel
theorem dX6_darkest_13 : decode cX6_darkest 13 = .ok (.iload_n 3, 1) := by decide +kernel
theorem dX6_darkest_14 : decode cX6_darkest 14 = .ok (.aload_n 0, 1) := by decide +kernel
theorem dX6_darkest_15 : decode cX6_darkest 15 = .ok (.invokevirtual 11, 3) := by decide +kernel
theorem dX6_darkest_18 : decode cX6_darkest 18 = .ok (.invokevirtual 17, 3) := by decide +kernel
theorem dX6_darkest_21 : decode cX6_darkest 21 = .ok (.istore 4, 2) := by decide +kernel
theorem dX6_darkest_23 : decode cX6_darkest 23 = .ok (.iload_n 1, 1) := by decide +kernel
theorem dX6_darkest_24 : decode cX6_darkest 24 = .ok (.iload_n 2, 1) := by decide +kernel
theorem dX6_darkest_25 : decode cX6_darkest 25 = .ok (.sipush 3072, 3) := by decide +kernel
theorem dX6_darkest_28 : decode cX6_darkest 28 = .ok (.iadd, 1) := by decide +kernel
theorem dX6_darkest_29 : decode cX6_darkest 29 = .ok (.invokestatic 21, 3) := by decide +kernel
theorem dX6_darkest_32 : decode cX6_darkest 32 = .ok (.iload 4, 2) := by decide +kernel
theorem dX6_darkest_34 : decode cX6_darkest 34 = .ok (.sipush 1024, 3) := by decide +kernel
theorem dX6_darkest_37 : decode cX6_darkest 37 = .ok (.imul, 1) := by decide +kernel
theorem dX6_darkest_38 : decode cX6_darkest 38 = .ok (.iadd, 1) := by decide +kernel
theorem dX6_darkest_39 : decode cX6_darkest 39 = .ok (.istore 5, 2) := by decide +kernel
theorem dX6_darkest_41 : decode cX6_darkest 41 = .ok (.iload_n 2, 1) := by decide +kernel
theorem dX6_darkest_42 : decode cX6_darkest 42 = .ok (.iload_n 1, 1) := by decide +kernel
theorem dX6_darkest_43 : decode cX6_darkest 43 = .ok (.sipush 3072, 3) := by decide +kernel
theorem dX6_darkest_46 : decode cX6_darkest 46 = .ok (.iadd, 1) := by decide +kernel
theorem dX6_darkest_47 : decode cX6_darkest 47 = .ok (.invokestatic 21, 3) := by decide +kernel
theorem dX6_darkest_50 : decode cX6_darkest 50 = .ok (.iload 4, 2) := by decide +kernel
theorem dX6_darkest_52 : decode cX6_darkest 52 = .ok (.iconst 2, 1) := by decide +kernel
theorem dX6_darkest_53 : decode cX6_darkest 53 = .ok (.idiv, 1) := by decide +kernel
theorem dX6_darkest_54 : decode cX6_darkest 54 = .ok (.sipush 1024, 3) := by decide +kernel
theorem dX6_darkest_57 : decode cX6_darkest 57 = .ok (.imul, 1) := by decide +kernel
theorem dX6_darkest_58 : decode cX6_darkest 58 = .ok (.iadd, 1) := by decide +kernel
theorem dX6_darkest_59 : decode cX6_darkest 59 = .ok (.iconst 1, 1) := by decide +kernel
theorem dX6_darkest_60 : decode cX6_darkest 60 = .ok (.iload_n 3, 1) := by decide +kernel
theorem dX6_darkest_61 : decode cX6_darkest 61 = .ok (.ishl, 1) := by decide +kernel
theorem dX6_darkest_62 : decode cX6_darkest 62 = .ok (.iadd, 1) := by decide +kernel
theorem dX6_darkest_63 : decode cX6_darkest 63 = .ok (.istore 6, 2) := by decide +kernel
theorem dX6_darkest_65 : decode cX6_darkest 65 = .ok (.iload 5, 2) := by decide +kernel
theorem dX6_darkest_67 : decode cX6_darkest 67 = .ok (.istore_n 1, 1) := by decide +kernel
theorem dX6_darkest_68 : decode cX6_darkest 68 = .ok (.iload 6, 2) := by decide +kernel
theorem dX6_darkest_70 : decode cX6_darkest 70 = .ok (.istore_n 2, 1) := by decide +kernel
theorem dX6_darkest_71 : decode cX6_darkest 71 = .ok (.iinc 3 1, 3) := by decide +kernel
theorem dX6_darkest_74 : decode cX6_darkest 74 = .ok (.goto (-68), 3) := by decide +kernel
theorem dX6_darkest_77 : decode cX6_darkest 77 = .ok (.iload_n 1, 1) := by decide +kernel
theorem dX6_darkest_78 : decode cX6_darkest 78 = .ok (.iload_n 2, 1) := by decide +kernel
theorem dX6_darkest_79 : decode cX6_darkest 79 = .ok (.invokestatic 21, 3) := by decide +kernel
theorem dX6_darkest_82 : decode cX6_darkest 82 = .ok (.ireturn, 1) := by decide +kernel
theorem dX6_brightness_0 : decode cX6_brightness 0 = .ok (.iload_n 0, 1) := by decide +kernel
theorem dX6_brightness_1 : decode cX6_brightness 1 = .ok (.sipush 1024, 3) := by decide +kernel
theorem dX6_brightness_4 : decode cX6_brightness 4 = .ok (.idiv, 1) := by decide +kernel
theorem dX6_brightness_5 : decode cX6_brightness 5 = .ok (.ireturn, 1) := by decide +kernel
theorem dX6_placesOnRoad_0 : decode cX6_placesOnRoad 0 = .ok (.iload_n 0, 1) := by decide +kernel
theorem dX6_placesOnRoad_1 : decode cX6_placesOnRoad 1 = .ok (.sipush 1024, 3) := by decide +kernel
theorem dX6_placesOnRoad_4 : decode cX6_placesOnRoad 4 = .ok (.irem, 1) := by decide +kernel
theorem dX6_placesOnRoad_5 : decode cX6_placesOnRoad 5 = .ok (.ireturn, 1) := by decide +kernel
theorem dX7_firstFault_0 : decode cX7_firstFault 0 = .ok (.iconst 0, 1) := by decide +kernel
theorem dX7_firstFault_1 : decode cX7_firstFault 1 = .ok (.istore_n 1, 1) := by decide +kernel
theorem dX7_firstFault_2 : decode cX7_firstFault 2 = .ok (.iconst 0, 1) := by decide +kernel
theorem dX7_firstFault_3 : decode cX7_firstFault 3 = .ok (.istore_n 2, 1) := by decide +kernel
theorem dX7_firstFault_4 : decode cX7_firstFault 4 = .ok (.iload_n 2, 1) := by decide +kernel
theorem dX7_firstFault_5 : decode cX7_firstFault 5 = .ok (.aload_n 0, 1) := by decide +kernel
theorem dX7_firstFault_6 : decode cX7_firstFault 6 = .ok (.invokevirtual 9, 3) := by decide +kernel
theorem dX7_firstFault_9 : decode cX7_firstFault 9 = .ok (.if_icmp .ge 52, 3) := by decide +kernel
theorem dX7_firstFault_12 : decode cX7_firstFault 12 = .ok (.aload_n 0, 1) := by decide +kernel
theorem dX7_firstFault_13 : decode cX7_firstFault 13 = .ok (.iload_n 2, 1) := by decide +kernel
theorem dX7_firstFault_14 : decode cX7_firstFault 14 = .ok (.invokevirtual 15, 3) := by decide +kernel
theorem dX7_firstFault_17 : decode cX7_firstFault 17 = .ok (.bipush 32, 2) := by decide +kernel
theorem dX7_firstFault_19 : decode cX7_firstFault 19 = .ok (.if_icmp .ne 9, 3) := by decide +kernel
theorem dX7_firstFault_22 : decode cX7_firstFault 22 = .ok (.iinc 2 1, 3) := by decide +kernel
theorem dX7_firstFault_25 : decode cX7_firstFault 25 = .ok (.goto (-21), 3) := by decide +kernel
theorem dX7_firstFault_28 : decode cX7_firstFault 28 = .ok (.iload_n 1, 1) := by decide +kernel
theorem dX7_firstFault_29 : decode cX7_firstFault 29 = .ok (.bipush 8, 2) := by decide +kernel
theorem dX7_firstFault_31 : decode cX7_firstFault 31 = .ok (.if_icmp .lt 7, 3) := by decide +kernel
theorem dX7_firstFault_34 : decode cX7_firstFault 34 = .ok (.iload_n 2, 1) := by decide +kernel
theorem dX7_firstFault_35 : decode cX7_firstFault 35 = .ok (.goto 8, 3) := by decide +kernel
theorem dX7_firstFault_38 : decode cX7_firstFault 38 = .ok (.aload_n 0, 1) := by decide +kernel
theorem dX7_firstFault_39 : decode cX7_firstFault 39 = .ok (.iload_n 2, 1) := by decide +kernel
theorem dX7_firstFault_40 : decode cX7_firstFault 40 = .ok (.invokestatic 19, 3) := by decide +kernel
theorem dX7_firstFault_43 : decode cX7_firstFault 43 = .ok (.istore_n 3, 1) := by decide +kernel
theorem dX7_firstFault_44 : decode cX7_firstFault 44 = .ok (.iload_n 3, 1) := by decide +kernel
theorem dX7_firstFault_45 : decode cX7_firstFault 45 = .ok (.bipush (-9), 2) := by decide +kernel
theorem dX7_firstFault_47 : decode cX7_firstFault 47 = .ok (.if_icmp .eq 5, 3) := by decide +kernel
theorem dX7_firstFault_50 : decode cX7_firstFault 50 = .ok (.iload_n 3, 1) := by decide +kernel
theorem dX7_firstFault_51 : decode cX7_firstFault 51 = .ok (.ireturn, 1) := by decide +kernel
theorem dX7_firstFault_52 : decode cX7_firstFault 52 = .ok (.iinc 1 1, 3) := by decide +kernel
theorem dX7_firstFault_55 : decode cX7_firstFault 55 = .ok (.iinc 2 5, 3) := by decide +kernel
theorem dX7_firstFault_58 : decode cX7_firstFault 58 = .ok (.goto (-54), 3) := by decide +kernel
theorem dX7_firstFault_61 : decode cX7_firstFault 61 = .ok (.iload_n 1, 1) := by decide +kernel
theorem dX7_firstFault_62 : decode cX7_firstFault 62 = .ok (.ifCond .ne 10, 3) := by decide +kernel
theorem dX7_firstFault_65 : decode cX7_firstFault 65 = .ok (.aload_n 0, 1) := by decide +kernel
theorem dX7_firstFault_66 : decode cX7_firstFault 66 = .ok (.invokevirtual 9, 3) := by decide +kernel
theorem dX7_firstFault_69 : decode cX7_firstFault 69 = .ok (.goto 5, 3) := by decide +kernel
theorem dX7_firstFault_72 : decode cX7_firstFault 72 = .ok (.bipush (-9), 2) := by decide +kernel
theorem dX7_firstFault_74 : decode cX7_firstFault 74 = .ok (.ireturn, 1) := by decide +kernel
theorem dX7_itemFault_0 : decode cX7_itemFault 0 = .ok (.aload_n 0, 1) := by decide +kernel
theorem dX7_itemFault_1 : decode cX7_itemFault 1 = .ok (.iload_n 1, 1) := by decide +kernel
theorem dX7_itemFault_2 : decode cX7_itemFault 2 = .ok (.invokevirtual 15, 3) := by decide +kernel
theorem dX7_itemFault_5 : decode cX7_itemFault 5 = .ok (.invokestatic 25, 3) := by decide +kernel
theorem dX7_itemFault_8 : decode cX7_itemFault 8 = .ok (.bipush (-9), 2) := by decide +kernel
theorem dX7_itemFault_10 : decode cX7_itemFault 10 = .ok (.if_icmp .ne 5, 3) := by decide +kernel
theorem dX7_itemFault_13 : decode cX7_itemFault 13 = .ok (.iload_n 1, 1) := by decide +kernel
theorem dX7_itemFault_14 : decode cX7_itemFault 14 = .ok (.ireturn, 1) := by decide +kernel
theorem dX7_itemFault_15 : decode cX7_itemFault 15 = .ok (.iload_n 1, 1) := by decide +kernel
theorem dX7_itemFault_16 : decode cX7_itemFault 16 = .ok (.iconst 1, 1) := by decide +kernel
theorem dX7_itemFault_17 : decode cX7_itemFault 17 = .ok (.iadd, 1) := by decide +kernel
theorem dX7_itemFault_18 : decode cX7_itemFault 18 = .ok (.istore_n 2, 1) := by decide +kernel
theorem dX7_itemFault_19 : decode cX7_itemFault 19 = .ok (.iload_n 2, 1) := by decide +kernel
theorem dX7_itemFault_20 : decode cX7_itemFault 20 = .ok (.iload_n 1, 1) := by decide +kernel
theorem dX7_itemFault_21 : decode cX7_itemFault 21 = .ok (.iconst 5, 1) := by decide +kernel
theorem dX7_itemFault_22 : decode cX7_itemFault 22 = .ok (.iadd, 1) := by decide +kernel
theorem dX7_itemFault_23 : decode cX7_itemFault 23 = .ok (.if_icmp .ge 35, 3) := by decide +kernel
theorem dX7_itemFault_26 : decode cX7_itemFault 26 = .ok (.iload_n 2, 1) := by decide +kernel
theorem dX7_itemFault_27 : decode cX7_itemFault 27 = .ok (.aload_n 0, 1) := by decide +kernel
theorem dX7_itemFault_28 : decode cX7_itemFault 28 = .ok (.invokevirtual 9, 3) := by decide +kernel
theorem dX7_itemFault_31 : decode cX7_itemFault 31 = .ok (.if_icmp .lt 8, 3) := by decide +kernel
theorem dX7_itemFault_34 : decode cX7_itemFault 34 = .ok (.aload_n 0, 1) := by decide +kernel
theorem dX7_itemFault_35 : decode cX7_itemFault 35 = .ok (.invokevirtual 9, 3) := by decide +kernel
theorem dX7_itemFault_38 : decode cX7_itemFault 38 = .ok (.ireturn, 1) := by decide +kernel
theorem dX7_itemFault_39 : decode cX7_itemFault 39 = .ok (.aload_n 0, 1) := by decide +kernel
theorem dX7_itemFault_40 : decode cX7_itemFault 40 = .ok (.iload_n 1, 1) := by decide +kernel
theorem dX7_itemFault_41 : decode cX7_itemFault 41 = .ok (.iload_n 2, 1) := by decide +kernel
theorem dX7_itemFault_42 : decode cX7_itemFault 42 = .ok (.iload_n 1, 1) := by decide +kernel
theorem dX7_itemFault_43 : decode cX7_itemFault 43 = .ok (.isub, 1) := by decide +kernel
theorem dX7_itemFault_44 : decode cX7_itemFault 44 = .ok (.invokestatic 30, 3) := by decide +kernel
theorem dX7_itemFault_47 : decode cX7_itemFault 47 = .ok (.ifCond .ne 5, 3) := by decide +kernel
theorem dX7_itemFault_50 : decode cX7_itemFault 50 = .ok (.iload_n 2, 1) := by decide +kernel
theorem dX7_itemFault_51 : decode cX7_itemFault 51 = .ok (.ireturn, 1) := by decide +kernel
theorem dX7_itemFault_52 : decode cX7_itemFault 52 = .ok (.iinc 2 1, 3) := by decide +kernel
theorem dX7_itemFault_55 : decode cX7_itemFault 55 = .ok (.goto (-36), 3) := by decide +kernel
theorem dX7_itemFault_58 : decode cX7_itemFault 58 = .ok (.bipush (-9), 2) := by decide +kernel
theorem dX7_itemFault_60 : decode cX7_itemFault 60 = .ok (.ireturn, 1) := by decide +kernel
theorem dX7_isFigureOf_0 : decode cX7_isFigureOf 0 = .ok (.aload_n 0, 1) := by decide +kernel
theorem dX7_isFigureOf_1 : decode cX7_isFigureOf 1 = .ok (.iload_n 1, 1) := by decide +kernel
theorem dX7_isFigureOf_2 : decode cX7_isFigureOf 2 = .ok (.iload_n 2, 1) := by decide +kernel
theorem dX7_isFigureOf_3 : decode cX7_isFigureOf 3 = .ok (.iadd, 1) := by decide +kernel
theorem dX7_isFigureOf_4 : decode cX7_isFigureOf 4 = .ok (.invokestatic 34, 3) := by decide +kernel
theorem dX7_isFigureOf_7 : decode cX7_isFigureOf 7 = .ok (.istore_n 3, 1) := by decide +kernel
theorem dX7_isFigureOf_8 : decode cX7_isFigureOf 8 = .ok (.iload_n 2, 1) := by decide +kernel
theorem dX7_isFigureOf_9 : decode cX7_isFigureOf 9 = .ok (.iconst 2, 1) := by decide +kernel
theorem dX7_isFigureOf_10 : decode cX7_isFigureOf 10 = .ok (.if_icmp .gt 8, 3) := by decide +kernel
theorem dX7_isFigureOf_13 : decode cX7_isFigureOf 13 = .ok (.bipush 6, 2) := by decide +kernel
theorem dX7_isFigureOf_15 : decode cX7_isFigureOf 15 = .ok (.goto 5, 3) := by decide +kernel
theorem dX7_isFigureOf_18 : decode cX7_isFigureOf 18 = .ok (.bipush 10, 2) := by decide +kernel
theorem dX7_isFigureOf_20 : decode cX7_isFigureOf 20 = .ok (.istore 4, 2) := by decide +kernel
theorem dX7_isFigureOf_22 : decode cX7_isFigureOf 22 = .ok (.iload_n 2, 1) := by decide +kernel
theorem dX7_isFigureOf_23 : decode cX7_isFigureOf 23 = .ok (.iconst 2, 1) := by decide +kernel
theorem dX7_isFigureOf_24 : decode cX7_isFigureOf 24 = .ok (.if_icmp .ne 18, 3) := by decide +kernel
theorem dX7_isFigureOf_27 : decode cX7_isFigureOf 27 = .ok (.iload_n 3, 1) := by decide +kernel
theorem dX7_isFigureOf_28 : decode cX7_isFigureOf 28 = .ok (.aload_n 0, 1) := by decide +kernel
theorem dX7_isFigureOf_29 : decode cX7_isFigureOf 29 = .ok (.iload_n 1, 1) := by decide +kernel
theorem dX7_isFigureOf_30 : decode cX7_isFigureOf 30 = .ok (.iconst 1, 1) := by decide +kernel
theorem dX7_isFigureOf_31 : decode cX7_isFigureOf 31 = .ok (.iadd, 1) := by decide +kernel
theorem dX7_isFigureOf_32 : decode cX7_isFigureOf 32 = .ok (.invokestatic 34, 3) := by decide +kernel
theorem dX7_isFigureOf_35 : decode cX7_isFigureOf 35 = .ok (.if_icmp .ne 7, 3) := by decide +kernel
theorem dX7_isFigureOf_38 : decode cX7_isFigureOf 38 = .ok (.iconst 1, 1) := by decide +kernel
theorem dX7_isFigureOf_39 : decode cX7_isFigureOf 39 = .ok (.goto 4, 3) := by decide +kernel
theorem dX7_isFigureOf_42 : decode cX7_isFigureOf 42 = .ok (.iconst 0, 1) := by decide +kernel
theorem dX7_isFigureOf_43 : decode cX7_isFigureOf 43 = .ok (.istore 5, 2) := by decide +kernel
theorem dX7_isFigureOf_45 : decode cX7_isFigureOf 45 = .ok (.iload_n 3, 1) := by decide +kernel
theorem dX7_isFigureOf_46 : decode cX7_isFigureOf 46 = .ok (.ifCond .lt 18, 3) := by decide +kernel
theorem dX7_isFigureOf_49 : decode cX7_isFigureOf 49 = .ok (.iload_n 3, 1) := by decide +kernel
theorem dX7_isFigureOf_50 : decode cX7_isFigureOf 50 = .ok (.iload 4, 2) := by decide +kernel
theorem dX7_isFigureOf_52 : decode cX7_isFigureOf 52 = .ok (.if_icmp .ge 12, 3) := by decide +kernel
theorem dX7_isFigureOf_55 : decode cX7_isFigureOf 55 = .ok (.iload 5, 2) := by decide +kernel
theorem dX7_isFigureOf_57 : decode cX7_isFigureOf 57 = .ok (.ifCond .ne 7, 3) := by decide +kernel
theorem dX7_isFigureOf_60 : decode cX7_isFigureOf 60 = .ok (.iconst 1, 1) := by decide +kernel
theorem dX7_isFigureOf_61 : decode cX7_isFigureOf 61 = .ok (.goto 4, 3) := by decide +kernel
theorem dX7_isFigureOf_64 : decode cX7_isFigureOf 64 = .ok (.iconst 0, 1) := by decide +kernel
theorem dX7_isFigureOf_65 : decode cX7_isFigureOf 65 = .ok (.ireturn, 1) := by decide +kernel
theorem dX7_figureAt_0 : decode cX7_figureAt 0 = .ok (.aload_n 0, 1) := by decide +kernel
theorem dX7_figureAt_1 : decode cX7_figureAt 1 = .ok (.iload_n 1, 1) := by decide +kernel
theorem dX7_figureAt_2 : decode cX7_figureAt 2 = .ok (.invokevirtual 15, 3) := by decide +kernel
theorem dX7_figureAt_5 : decode cX7_figureAt 5 = .ok (.bipush 48, 2) := by decide +kernel
theorem dX7_figureAt_7 : decode cX7_figureAt 7 = .ok (.isub, 1) := by decide +kernel
theorem dX7_figureAt_8 : decode cX7_figureAt 8 = .ok (.ireturn, 1) := by decide +kernel
theorem dX7_readInto_0 : decode cX7_readInto 0 = .ok (.aload_n 0, 1) := by decide +kernel
theorem dX7_readInto_1 : decode cX7_readInto 1 = .ok (.invokevirtual 37, 3) := by decide +kernel
theorem dX7_readInto_4 : decode cX7_readInto 4 = .ok (.iconst 0, 1) := by decide +kernel
theorem dX7_readInto_5 : decode cX7_readInto 5 = .ok (.istore_n 2, 1) := by decide +kernel
theorem dX7_readInto_6 : decode cX7_readInto 6 = .ok (.iload_n 2, 1) := by decide +kernel
theorem dX7_readInto_7 : decode cX7_readInto 7 = .ok (.aload_n 1, 1) := by decide +kernel
theorem dX7_readInto_8 : decode cX7_readInto 8 = .ok (.invokevirtual 9, 3) := by decide +kernel
theorem dX7_readInto_11 : decode cX7_readInto 11 = .ok (.if_icmp .ge 65, 3) := by decide +kernel
theorem dX7_readInto_14 : decode cX7_readInto 14 = .ok (.aload_n 1, 1) := by decide +kernel
theorem dX7_readInto_15 : decode cX7_readInto 15 = .ok (.iload_n 2, 1) := by decide +kernel
theorem dX7_readInto_16 : decode cX7_readInto 16 = .ok (.invokevirtual 15, 3) := by decide +kernel
theorem dX7_readInto_19 : decode cX7_readInto 19 = .ok (.bipush 32, 2) := by decide +kernel
theorem dX7_readInto_21 : decode cX7_readInto 21 = .ok (.if_icmp .ne 9, 3) := by decide +kernel
theorem dX7_readInto_24 : decode cX7_readInto 24 = .ok (.iinc 2 1, 3) := by decide +kernel
theorem dX7_readInto_27 : decode cX7_readInto 27 = .ok (.goto (-21), 3) := by decide +kernel
theorem dX7_readInto_30 : decode cX7_readInto 30 = .ok (.aload_n 0, 1) := by decide +kernel
theorem dX7_readInto_31 : decode cX7_readInto 31 = .ok (.aload_n 1, 1) := by decide +kernel
theorem dX7_readInto_32 : decode cX7_readInto 32 = .ok (.iload_n 2, 1) := by decide +kernel
theorem dX7_readInto_33 : decode cX7_readInto 33 = .ok (.invokevirtual 15, 3) := by decide +kernel
theorem dX7_readInto_36 : decode cX7_readInto 36 = .ok (.invokestatic 25, 3) := by decide +kernel
theorem dX7_readInto_39 : decode cX7_readInto 39 = .ok (.aload_n 1, 1) := by decide +kernel
theorem dX7_readInto_40 : decode cX7_readInto 40 = .ok (.iload_n 2, 1) := by decide +kernel
theorem dX7_readInto_41 : decode cX7_readInto 41 = .ok (.iconst 1, 1) := by decide +kernel
theorem dX7_readInto_42 : decode cX7_readInto 42 = .ok (.iadd, 1) := by decide +kernel
theorem dX7_readInto_43 : decode cX7_readInto 43 = .ok (.invokestatic 34, 3) := by decide +kernel
theorem dX7_readInto_46 : decode cX7_readInto 46 = .ok (.aload_n 1, 1) := by decide +kernel
theorem dX7_readInto_47 : decode cX7_readInto 47 = .ok (.iload_n 2, 1) := by decide +kernel
theorem dX7_readInto_48 : decode cX7_readInto 48 = .ok (.iconst 2, 1) := by decide +kernel
theorem dX7_readInto_49 : decode cX7_readInto 49 = .ok (.iadd, 1) := by decide +kernel
theorem dX7_readInto_50 : decode cX7_readInto 50 = .ok (.invokestatic 34, 3) := by decide +kernel
theorem dX7_readInto_53 : decode cX7_readInto 53 = .ok (.aload_n 1, 1) := by decide +kernel
theorem dX7_readInto_54 : decode cX7_readInto 54 = .ok (.iload_n 2, 1) := by decide +kernel
theorem dX7_readInto_55 : decode cX7_readInto 55 = .ok (.iconst 3, 1) := by decide +kernel
theorem dX7_readInto_56 : decode cX7_readInto 56 = .ok (.iadd, 1) := by decide +kernel
theorem dX7_readInto_57 : decode cX7_readInto 57 = .ok (.invokestatic 34, 3) := by decide +kernel
theorem dX7_readInto_60 : decode cX7_readInto 60 = .ok (.aload_n 1, 1) := by decide +kernel
theorem dX7_readInto_61 : decode cX7_readInto 61 = .ok (.iload_n 2, 1) := by decide +kernel
theorem dX7_readInto_62 : decode cX7_readInto 62 = .ok (.iconst 4, 1) := by decide +kernel
theorem dX7_readInto_63 : decode cX7_readInto 63 = .ok (.iadd, 1) := by decide +kernel
theorem dX7_readInto_64 : decode cX7_readInto 64 = .ok (.invokestatic 34, 3) := by decide +kernel
theorem dX7_readInto_67 : decode cX7_readInto 67 = .ok (.invokevirtual 42, 3) := by decide +kernel
theorem dX7_readInto_70 : decode cX7_readInto 70 = .ok (.iinc 2 5, 3) := by decide +kernel
theorem dX7_readInto_73 : decode cX7_readInto 73 = .ok (.goto (-67), 3) := by decide +kernel
theorem dX7_readInto_76 : decode cX7_readInto 76 = .ok (.return_, 1) := by decide +kernel
theorem dX8_init_0 : decode cX8_init 0 = .ok (.aload_n 0, 1) := by decide +kernel
theorem dX8_init_1 : decode cX8_init 1 = .ok (.invokespecial 1, 3) := by decide +kernel
theorem dX8_init_4 : decode cX8_init 4 = .ok (.aload_n 0, 1) := by decide +kernel
theorem dX8_init_5 : decode cX8_init 5 = .ok (.bipush 6, 2) := by decide +kernel
theorem dX8_init_7 : decode cX8_init 7 = .ok (.anewarray 9, 3) := by decide +kernel
theorem dX8_init_10 : decode cX8_init 10 = .ok (.putfield 11, 3) := by decide +kernel
theorem dX8_init_13 : decode cX8_init 13 = .ok (.aload_n 0, 1) := by decide +kernel
theorem dX8_init_14 : decode cX8_init 14 = .ok (.iconst 4, 1) := by decide +kernel
theorem dX8_init_15 : decode cX8_init 15 = .ok (.anewarray 9, 3) := by decide +kernel
theorem dX8_init_18 : decode cX8_init 18 = .ok (.putfield 15, 3) := by decide +kernel
theorem dX8_init_21 : decode cX8_init 21 = .ok (.aload_n 0, 1) := by decide +kernel
theorem dX8_init_22 : decode cX8_init 22 = .ok (.new 18, 3) := by decide +kernel
theorem dX8_init_25 : decode cX8_init 25 = .ok (.dup, 1) := by decide +kernel
theorem dX8_init_26 : decode cX8_init 26 = .ok (.invokespecial 20, 3) := by decide +kernel
theorem dX8_init_29 : decode cX8_init 29 = .ok (.putfield 21, 3) := by decide +kernel
theorem dX8_init_32 : decode cX8_init 32 = .ok (.aload_n 0, 1) := by decide +kernel
theorem dX8_init_33 : decode cX8_init 33 = .ok (.iconst 3, 1) := by decide +kernel
theorem dX8_init_34 : decode cX8_init 34 = .ok (.anewarray 18, 3) := by decide +kernel
theorem dX8_init_37 : decode cX8_init 37 = .ok (.putfield 25, 3) := by decide +kernel
theorem dX8_init_40 : decode cX8_init 40 = .ok (.aload_n 0, 1) := by decide +kernel
theorem dX8_init_41 : decode cX8_init 41 = .ok (.new 29, 3) := by decide +kernel
theorem dX8_init_44 : decode cX8_init 44 = .ok (.dup, 1) := by decide +kernel
theorem dX8_init_45 : decode cX8_init 45 = .ok (.invokespecial 31, 3) := by decide +kernel
theorem dX8_init_48 : decode cX8_init 48 = .ok (.putfield 32, 3) := by decide +kernel
theorem dX8_init_51 : decode cX8_init 51 = .ok (.aload_n 0, 1) := by decide +kernel
theorem dX8_init_52 : decode cX8_init 52 = .ok (.new 36, 3) := by decide +kernel
theorem dX8_init_55 : decode cX8_init 55 = .ok (.dup, 1) := by decide +kernel
theorem dX8_init_56 : decode cX8_init 56 = .ok (.invokespecial 38, 3) := by decide +kernel
theorem dX8_init_59 : decode cX8_init 59 = .ok (.putfield 39, 3) := by decide +kernel
theorem dX8_init_62 : decode cX8_init 62 = .ok (.aload_n 0, 1) := by decide +kernel
theorem dX8_init_63 : decode cX8_init 63 = .ok (.bipush 6, 2) := by decide +kernel
theorem dX8_init_65 : decode cX8_init 65 = .ok (.newarray .int, 2) := by decide +kernel
theorem dX8_init_67 : decode cX8_init 67 = .ok (.putfield 43, 3) := by decide +kernel
theorem dX8_init_70 : decode cX8_init 70 = .ok (.aload_n 0, 1) := by decide +kernel
theorem dX8_init_71 : decode cX8_init 71 = .ok (.iconst 0, 1) := by decide +kernel
theorem dX8_init_72 : decode cX8_init 72 = .ok (.putfield 47, 3) := by decide +kernel
theorem dX8_init_75 : decode cX8_init 75 = .ok (.aload_n 0, 1) := by decide +kernel
theorem dX8_init_76 : decode cX8_init 76 = .ok (.iconst 0, 1) := by decide +kernel
theorem dX8_init_77 : decode cX8_init 77 = .ok (.putfield 51, 3) := by decide +kernel
theorem dX8_init_80 : decode cX8_init 80 = .ok (.aload_n 0, 1) := by decide +kernel
theorem dX8_init_81 : decode cX8_init 81 = .ok (.lconst 0, 1) := by decide +kernel
theorem dX8_init_82 : decode cX8_init 82 = .ok (.putfield 54, 3) := by decide +kernel
theorem dX8_init_85 : decode cX8_init 85 = .ok (.aload_n 0, 1) := by decide +kernel
theorem dX8_init_86 : decode cX8_init 86 = .ok (.lconst 1, 1) := by decide +kernel
theorem dX8_init_87 : decode cX8_init 87 = .ok (.putfield 58, 3) := by decide +kernel
theorem dX8_init_90 : decode cX8_init 90 = .ok (.iconst 0, 1) := by decide +kernel
theorem dX8_init_91 : decode cX8_init 91 = .ok (.istore_n 1, 1) := by decide +kernel
theorem dX8_init_92 : decode cX8_init 92 = .ok (.iload_n 1, 1) := by decide +kernel
theorem dX8_init_93 : decode cX8_init 93 = .ok (.aload_n 0, 1) := by decide +kernel
theorem dX8_init_94 : decode cX8_init 94 = .ok (.getfield 11, 3) := by decide +kernel
theorem dX8_init_97 : decode cX8_init 97 = .ok (.arraylength, 1) := by decide +kernel
theorem dX8_init_98 : decode cX8_init 98 = .ok (.if_icmp .ge 24, 3) := by decide +kernel
theorem dX8_init_101 : decode cX8_init 101 = .ok (.aload_n 0, 1) := by decide +kernel
theorem dX8_init_102 : decode cX8_init 102 = .ok (.getfield 11, 3) := by decide +kernel
theorem dX8_init_105 : decode cX8_init 105 = .ok (.iload_n 1, 1) := by decide +kernel
theorem dX8_init_106 : decode cX8_init 106 = .ok (.new 9, 3) := by decide +kernel
theorem dX8_init_109 : decode cX8_init 109 = .ok (.dup, 1) := by decide +kernel
theorem dX8_init_110 : decode cX8_init 110 = .ok (.bipush 40, 2) := by decide +kernel
theorem dX8_init_112 : decode cX8_init 112 = .ok (.invokespecial 61, 3) := by decide +kernel
theorem dX8_init_115 : decode cX8_init 115 = .ok (.aastore, 1) := by decide +kernel
theorem dX8_init_116 : decode cX8_init 116 = .ok (.iinc 1 1, 3) := by decide +kernel
theorem dX8_init_119 : decode cX8_init 119 = .ok (.goto (-27), 3) := by decide +kernel
theorem dX8_init_122 : decode cX8_init 122 = .ok (.iconst 0, 1) := by decide +kernel
theorem dX8_init_123 : decode cX8_init 123 = .ok (.istore_n 1, 1) := by decide +kernel
theorem dX8_init_124 : decode cX8_init 124 = .ok (.iload_n 1, 1) := by decide +kernel
theorem dX8_init_125 : decode cX8_init 125 = .ok (.aload_n 0, 1) := by decide +kernel
theorem dX8_init_126 : decode cX8_init 126 = .ok (.getfield 15, 3) := by decide +kernel
theorem dX8_init_129 : decode cX8_init 129 = .ok (.arraylength, 1) := by decide +kernel
theorem dX8_init_130 : decode cX8_init 130 = .ok (.if_icmp .ge 24, 3) := by decide +kernel
theorem dX8_init_133 : decode cX8_init 133 = .ok (.aload_n 0, 1) := by decide +kernel
theorem dX8_init_134 : decode cX8_init 134 = .ok (.getfield 15, 3) := by decide +kernel
theorem dX8_init_137 : decode cX8_init 137 = .ok (.iload_n 1, 1) := by decide +kernel
theorem dX8_init_138 : decode cX8_init 138 = .ok (.new 9, 3) := by decide +kernel
theorem dX8_init_141 : decode cX8_init 141 = .ok (.dup, 1) := by decide +kernel
theorem dX8_init_142 : decode cX8_init 142 = .ok (.bipush 60, 2) := by decide +kernel
theorem dX8_init_144 : decode cX8_init 144 = .ok (.invokespecial 61, 3) := by decide +kernel
theorem dX8_init_147 : decode cX8_init 147 = .ok (.aastore, 1) := by decide +kernel
theorem dX8_init_148 : decode cX8_init 148 = .ok (.iinc 1 1, 3) := by decide +kernel
theorem dX8_init_151 : decode cX8_init 151 = .ok (.goto (-27), 3) := by decide +kernel
theorem dX8_init_154 : decode cX8_init 154 = .ok (.iconst 0, 1) := by decide +kernel
theorem dX8_init_155 : decode cX8_init 155 = .ok (.istore_n 1, 1) := by decide +kernel
theorem dX8_init_156 : decode cX8_init 156 = .ok (.iload_n 1, 1) := by decide +kernel
theorem dX8_init_157 : decode cX8_init 157 = .ok (.aload_n 0, 1) := by decide +kernel
theorem dX8_init_158 : decode cX8_init 158 = .ok (.getfield 25, 3) := by decide +kernel
theorem dX8_init_161 : decode cX8_init 161 = .ok (.arraylength, 1) := by decide +kernel
theorem dX8_init_162 : decode cX8_init 162 = .ok (.if_icmp .ge 22, 3) := by decide +kernel
theorem dX8_init_165 : decode cX8_init 165 = .ok (.aload_n 0, 1) := by decide +kernel
theorem dX8_init_166 : decode cX8_init 166 = .ok (.getfield 25, 3) := by decide +kernel
theorem dX8_init_169 : decode cX8_init 169 = .ok (.iload_n 1, 1) := by decide +kernel
theorem dX8_init_170 : decode cX8_init 170 = .ok (.new 18, 3) := by decide +kernel
theorem dX8_init_173 : decode cX8_init 173 = .ok (.dup, 1) := by decide +kernel
theorem dX8_init_174 : decode cX8_init 174 = .ok (.invokespecial 20, 3) := by decide +kernel
theorem dX8_init_177 : decode cX8_init 177 = .ok (.aastore, 1) := by decide +kernel
theorem dX8_init_178 : decode cX8_init 178 = .ok (.iinc 1 1, 3) := by decide +kernel
theorem dX8_init_181 : decode cX8_init 181 = .ok (.goto (-25), 3) := by decide +kernel
theorem dX8_init_184 : decode cX8_init 184 = .ok (.return_, 1) := by decide +kernel
theorem dX8_row_0 : decode cX8_row 0 = .ok (.aload_n 0, 1) := by decide +kernel
theorem dX8_row_1 : decode cX8_row 1 = .ok (.aload_n 0, 1) := by decide +kernel
theorem dX8_row_2 : decode cX8_row 2 = .ok (.iload_n 1, 1) := by decide +kernel
theorem dX8_row_3 : decode cX8_row 3 = .ok (.invokevirtual 64, 3) := by decide +kernel
theorem dX8_row_6 : decode cX8_row 6 = .ok (.iload_n 2, 1) := by decide +kernel
theorem dX8_row_7 : decode cX8_row 7 = .ok (.iconst 0, 1) := by decide +kernel
theorem dX8_row_8 : decode cX8_row 8 = .ok (.invokevirtual 68, 3) := by decide +kernel
theorem dX8_row_11 : decode cX8_row 11 = .ok (.ireturn, 1) := by decide +kernel
theorem dX8_lay_0 : decode cX8_lay 0 = .ok (.aload_n 0, 1) := by decide +kernel
theorem dX8_lay_1 : decode cX8_lay 1 = .ok (.iload_n 1, 1) := by decide +kernel
theorem dX8_lay_2 : decode cX8_lay 2 = .ok (.invokevirtual 64, 3) := by decide +kernel
theorem dX8_lay_5 : decode cX8_lay 5 = .ok (.astore 4, 2) := by decide +kernel
theorem dX8_lay_7 : decode cX8_lay 7 = .ok (.aload_n 0, 1) := by decide +kernel
theorem dX8_lay_8 : decode cX8_lay 8 = .ok (.aload 4, 2) := by decide +kernel
theorem dX8_lay_10 : decode cX8_lay 10 = .ok (.iload_n 2, 1) := by decide +kernel
theorem dX8_lay_11 : decode cX8_lay 11 = .ok (.invokevirtual 72, 3) := by decide +kernel
theorem dX8_lay_14 : decode cX8_lay 14 = .ok (.istore 5, 2) := by decide +kernel
theorem dX8_lay_16 : decode cX8_lay 16 = .ok (.aload 4, 2) := by decide +kernel
theorem dX8_lay_18 : decode cX8_lay 18 = .ok (.ifnull 8, 3) := by decide +kernel
theorem dX8_lay_21 : decode cX8_lay 21 = .ok (.iload 5, 2) := by decide +kernel
theorem dX8_lay_23 : decode cX8_lay 23 = .ok (.ifCond .eq 6, 3) := by decide +kernel
theorem dX8_lay_26 : decode cX8_lay 26 = .ok (.iload 5, 2) := by decide +kernel
theorem dX8_lay_28 : decode cX8_lay 28 = .ok (.ireturn, 1) := by decide +kernel
theorem dX8_lay_29 : decode cX8_lay 29 = .ok (.aload_n 0, 1) := by decide +kernel
theorem dX8_lay_30 : decode cX8_lay 30 = .ok (.aload 4, 2) := by decide +kernel
theorem dX8_lay_32 : decode cX8_lay 32 = .ok (.iload_n 2, 1) := by decide +kernel
theorem dX8_lay_33 : decode cX8_lay 33 = .ok (.invokevirtual 76, 3) := by decide +kernel
theorem dX8_lay_36 : decode cX8_lay 36 = .ok (.putfield 51, 3) := by decide +kernel
theorem dX8_lay_39 : decode cX8_lay 39 = .ok (.aload 4, 2) := by decide +kernel
theorem dX8_lay_41 : decode cX8_lay 41 = .ok (.iload_n 2, 1) := by decide +kernel
theorem dX8_lay_42 : decode cX8_lay 42 = .ok (.iload_n 3, 1) := by decide +kernel
theorem dX8_lay_43 : decode cX8_lay 43 = .ok (.invokevirtual 80, 3) := by decide +kernel
theorem dX8_lay_46 : decode cX8_lay 46 = .ok (.iconst 1, 1) := by decide +kernel
theorem dX8_lay_47 : decode cX8_lay 47 = .ok (.ireturn, 1) := by decide +kernel
theorem dX8_at_0 : decode cX8_at 0 = .ok (.aload_n 0, 1) := by decide +kernel
theorem dX8_at_1 : decode cX8_at 1 = .ok (.iload_n 1, 1) := by decide +kernel
theorem dX8_at_2 : decode cX8_at 2 = .ok (.invokevirtual 64, 3) := by decide +kernel
theorem dX8_at_5 : decode cX8_at 5 = .ok (.astore_n 3, 1) := by decide +kernel
theorem dX8_at_6 : decode cX8_at 6 = .ok (.aload_n 0, 1) := by decide +kernel
theorem dX8_at_7 : decode cX8_at 7 = .ok (.aload_n 3, 1) := by decide +kernel
theorem dX8_at_8 : decode cX8_at 8 = .ok (.iload_n 2, 1) := by decide +kernel
theorem dX8_at_9 : decode cX8_at 9 = .ok (.invokevirtual 72, 3) := by decide +kernel
theorem dX8_at_12 : decode cX8_at 12 = .ok (.istore 4, 2) := by decide +kernel
theorem dX8_at_14 : decode cX8_at 14 = .ok (.aload_n 3, 1) := by decide +kernel
theorem dX8_at_15 : decode cX8_at 15 = .ok (.ifnull 8, 3) := by decide +kernel
theorem dX8_at_18 : decode cX8_at 18 = .ok (.iload 4, 2) := by decide +kernel
theorem dX8_at_20 : decode cX8_at 20 = .ok (.ifCond .eq 6, 3) := by decide +kernel
theorem dX8_at_23 : decode cX8_at 23 = .ok (.iload 4, 2) := by decide +kernel
theorem dX8_at_25 : decode cX8_at 25 = .ok (.ireturn, 1) := by decide +kernel
theorem dX8_at_26 : decode cX8_at 26 = .ok (.aload_n 0, 1) := by decide +kernel
theorem dX8_at_27 : decode cX8_at 27 = .ok (.aload_n 3, 1) := by decide +kernel
theorem dX8_at_28 : decode cX8_at 28 = .ok (.iload_n 2, 1) := by decide +kernel
theorem dX8_at_29 : decode cX8_at 29 = .ok (.invokevirtual 76, 3) := by decide +kernel
theorem dX8_at_32 : decode cX8_at 32 = .ok (.putfield 51, 3) := by decide +kernel
theorem dX8_at_35 : decode cX8_at 35 = .ok (.iconst 1, 1) := by decide +kernel
theorem dX8_at_36 : decode cX8_at 36 = .ok (.ireturn, 1) := by decide +kernel
theorem dX8_tear_0 : decode cX8_tear 0 = .ok (.aload_n 0, 1) := by decide +kernel
theorem dX8_tear_1 : decode cX8_tear 1 = .ok (.iload_n 1, 1) := by decide +kernel
theorem dX8_tear_2 : decode cX8_tear 2 = .ok (.invokevirtual 64, 3) := by decide +kernel
theorem dX8_tear_5 : decode cX8_tear 5 = .ok (.astore_n 2, 1) := by decide +kernel
theorem dX8_tear_6 : decode cX8_tear 6 = .ok (.aload_n 0, 1) := by decide +kernel
theorem dX8_tear_7 : decode cX8_tear 7 = .ok (.aload_n 2, 1) := by decide +kernel
theorem dX8_tear_8 : decode cX8_tear 8 = .ok (.invokevirtual 84, 3) := by decide +kernel
theorem dX8_tear_11 : decode cX8_tear 11 = .ok (.istore_n 3, 1) := by decide +kernel
theorem dX8_tear_12 : decode cX8_tear 12 = .ok (.aload_n 2, 1) := by decide +kernel
theorem dX8_tear_13 : decode cX8_tear 13 = .ok (.ifnull 7, 3) := by decide +kernel
theorem dX8_tear_16 : decode cX8_tear 16 = .ok (.iload_n 3, 1) := by decide +kernel
theorem dX8_tear_17 : decode cX8_tear 17 = .ok (.ifCond .eq 5, 3) := by decide +kernel
theorem dX8_tear_20 : decode cX8_tear 20 = .ok (.iload_n 3, 1) := by decide +kernel
theorem dX8_tear_21 : decode cX8_tear 21 = .ok (.ireturn, 1) := by decide +kernel
theorem dX8_tear_22 : decode cX8_tear 22 = .ok (.aload_n 2, 1) := by decide +kernel
theorem dX8_tear_23 : decode cX8_tear 23 = .ok (.invokevirtual 88, 3) := by decide +kernel
theorem dX8_tear_26 : decode cX8_tear 26 = .ok (.iconst 1, 1) := by decide +kernel
theorem dX8_tear_27 : decode cX8_tear 27 = .ok (.ireturn, 1) := by decide +kernel
theorem dX8_copy_0 : decode cX8_copy 0 = .ok (.aload_n 0, 1) := by decide +kernel
theorem dX8_copy_1 : decode cX8_copy 1 = .ok (.iload_n 1, 1) := by decide +kernel
theorem dX8_copy_2 : decode cX8_copy 2 = .ok (.invokevirtual 64, 3) := by decide +kernel
theorem dX8_copy_5 : decode cX8_copy 5 = .ok (.astore 6, 2) := by decide +kernel
theorem dX8_copy_7 : decode cX8_copy 7 = .ok (.aload_n 0, 1) := by decide +kernel
theorem dX8_copy_8 : decode cX8_copy 8 = .ok (.iload_n 3, 1) := by decide +kernel
theorem dX8_copy_9 : decode cX8_copy 9 = .ok (.invokevirtual 64, 3) := by decide +kernel
theorem dX8_copy_12 : decode cX8_copy 12 = .ok (.astore 7, 2) := by decide +kernel
theorem dX8_copy_14 : decode cX8_copy 14 = .ok (.aload 6, 2) := by decide +kernel
theorem dX8_copy_16 : decode cX8_copy 16 = .ok (.ifnull 8, 3) := by decide +kernel
theorem dX8_copy_19 : decode cX8_copy 19 = .ok (.aload 7, 2) := by decide +kernel
theorem dX8_copy_21 : decode cX8_copy 21 = .ok (.ifnonnull 5, 3) := by decide +kernel
theorem dX8_copy_24 : decode cX8_copy 24 = .ok (.iconst (-1), 1) := by decide +kernel
theorem dX8_copy_25 : decode cX8_copy 25 = .ok (.ireturn, 1) := by decide +kernel
theorem dX8_copy_26 : decode cX8_copy 26 = .ok (.iload 5, 2) := by decide +kernel
theorem dX8_copy_28 : decode cX8_copy 28 = .ok (.ifCond .ge 9, 3) := by decide +kernel
theorem dX8_copy_31 : decode cX8_copy 31 = .ok (.aload_n 0, 1) := by decide +kernel
theorem dX8_copy_32 : decode cX8_copy 32 = .ok (.iconst 5, 1) := by decide +kernel
theorem dX8_copy_33 : decode cX8_copy 33 = .ok (.invokevirtual 91, 3) := by decide +kernel
theorem dX8_copy_36 : decode cX8_copy 36 = .ok (.ireturn, 1) := by decide +kernel
theorem dX8_copy_37 : decode cX8_copy 37 = .ok (.aload 6, 2) := by decide +kernel
theorem dX8_copy_39 : decode cX8_copy 39 = .ok (.invokevirtual 94, 3) := by decide +kernel
theorem dX8_copy_42 : decode cX8_copy 42 = .ok (.ifCond .ne 11, 3) := by decide +kernel
theorem dX8_copy_45 : decode cX8_copy 45 = .ok (.aload 7, 2) := by decide +kernel
theorem dX8_copy_47 : decode cX8_copy 47 = .ok (.invokevirtual 94, 3) := by decide +kernel
theorem dX8_copy_50 : decode cX8_copy 50 = .ok (.ifCond .eq 9, 3) := by decide +kernel
theorem dX8_copy_53 : decode cX8_copy 53 = .ok (.aload_n 0, 1) := by decide +kernel
theorem dX8_copy_54 : decode cX8_copy 54 = .ok (.iconst 1, 1) := by decide +kernel
theorem dX8_copy_55 : decode cX8_copy 55 = .ok (.invokevirtual 91, 3) := by decide +kernel
theorem dX8_copy_58 : decode cX8_copy 58 = .ok (.ireturn, 1) := by decide +kernel
theorem dX8_copy_59 : decode cX8_copy 59 = .ok (.aload 6, 2) := by decide +kernel
theorem dX8_copy_61 : decode cX8_copy 61 = .ok (.iload_n 2, 1) := by decide +kernel
theorem dX8_copy_62 : decode cX8_copy 62 = .ok (.iload 5, 2) := by decide +kernel
theorem dX8_copy_64 : decode cX8_copy 64 = .ok (.invokevirtual 98, 3) := by decide +kernel
theorem dX8_copy_67 : decode cX8_copy 67 = .ok (.ifCond .eq 15, 3) := by decide +kernel
theorem dX8_copy_70 : decode cX8_copy 70 = .ok (.aload 7, 2) := by decide +kernel
theorem dX8_copy_72 : decode cX8_copy 72 = .ok (.iload 4, 2) := by decide +kernel
theorem dX8_copy_74 : decode cX8_copy 74 = .ok (.iload 5, 2) := by decide +kernel
theorem dX8_copy_76 : decode cX8_copy 76 = .ok (.invokevirtual 98, 3) := by decide +kernel
theorem dX8_copy_79 : decode cX8_copy 79 = .ok (.ifCond .ne 9, 3) := by decide +kernel
theorem dX8_copy_82 : decode cX8_copy 82 = .ok (.aload_n 0, 1) := by decide +kernel
theorem dX8_copy_83 : decode cX8_copy 83 = .ok (.iconst 2, 1) := by decide +kernel
theorem dX8_copy_84 : decode cX8_copy 84 = .ok (.invokevirtual 91, 3) := by decide +kernel
theorem dX8_copy_87 : decode cX8_copy 87 = .ok (.ireturn, 1) := by decide +kernel
theorem dX8_copy_88 : decode cX8_copy 88 = .ok (.aload 7, 2) := by decide +kernel
theorem dX8_copy_90 : decode cX8_copy 90 = .ok (.iload 4, 2) := by decide +kernel
theorem dX8_copy_92 : decode cX8_copy 92 = .ok (.aload 6, 2) := by decide +kernel
theorem dX8_copy_94 : decode cX8_copy 94 = .ok (.iload_n 2, 1) := by decide +kernel
theorem dX8_copy_95 : decode cX8_copy 95 = .ok (.iload 5, 2) := by decide +kernel
theorem dX8_copy_97 : decode cX8_copy 97 = .ok (.invokevirtual 102, 3) := by decide +kernel
theorem dX8_copy_100 : decode cX8_copy 100 = .ok (.iconst 1, 1) := by decide +kernel
theorem dX8_copy_101 : decode cX8_copy 101 = .ok (.ireturn, 1) := by decide +kernel
theorem dX8_mean_0 : decode cX8_mean 0 = .ok (.aload_n 0, 1) := by decide +kernel
theorem dX8_mean_1 : decode cX8_mean 1 = .ok (.iload_n 1, 1) := by decide +kernel
theorem dX8_mean_2 : decode cX8_mean 2 = .ok (.invokevirtual 64, 3) := by decide +kernel
theorem dX8_mean_5 : decode cX8_mean 5 = .ok (.astore_n 2, 1) := by decide +kernel
theorem dX8_mean_6 : decode cX8_mean 6 = .ok (.aload_n 0, 1) := by decide +kernel
theorem dX8_mean_7 : decode cX8_mean 7 = .ok (.aload_n 2, 1) := by decide +kernel
theorem dX8_mean_8 : decode cX8_mean 8 = .ok (.invokevirtual 84, 3) := by decide +kernel
theorem dX8_mean_11 : decode cX8_mean 11 = .ok (.istore_n 3, 1) := by decide +kernel
theorem dX8_mean_12 : decode cX8_mean 12 = .ok (.aload_n 2, 1) := by decide +kernel
theorem dX8_mean_13 : decode cX8_mean 13 = .ok (.ifnull 7, 3) := by decide +kernel
theorem dX8_mean_16 : decode cX8_mean 16 = .ok (.iload_n 3, 1) := by decide +kernel
theorem dX8_mean_17 : decode cX8_mean 17 = .ok (.ifCond .eq 5, 3) := by decide +kernel
theorem dX8_mean_20 : decode cX8_mean 20 = .ok (.iload_n 3, 1) := by decide +kernel
theorem dX8_mean_21 : decode cX8_mean 21 = .ok (.ireturn, 1) := by decide +kernel
theorem dX8_mean_22 : decode cX8_mean 22 = .ok (.aload_n 2, 1) := by decide +kernel
theorem dX8_mean_23 : decode cX8_mean 23 = .ok (.invokevirtual 106, 3) := by decide +kernel
theorem dX8_mean_26 : decode cX8_mean 26 = .ok (.istore 4, 2) := by decide +kernel
theorem dX8_mean_28 : decode cX8_mean 28 = .ok (.iload 4, 2) := by decide +kernel
theorem dX8_mean_30 : decode cX8_mean 30 = .ok (.ifCond .ne 9, 3) := by decide +kernel
theorem dX8_mean_33 : decode cX8_mean 33 = .ok (.aload_n 0, 1) := by decide +kernel
theorem dX8_mean_34 : decode cX8_mean 34 = .ok (.iconst 4, 1) := by decide +kernel
theorem dX8_mean_35 : decode cX8_mean 35 = .ok (.invokevirtual 91, 3) := by decide +kernel
theorem dX8_mean_38 : decode cX8_mean 38 = .ok (.ireturn, 1) := by decide +kernel
theorem dX8_mean_39 : decode cX8_mean 39 = .ok (.aload_n 0, 1) := by decide +kernel
theorem dX8_mean_40 : decode cX8_mean 40 = .ok (.aload_n 2, 1) := by decide +kernel
theorem dX8_mean_41 : decode cX8_mean 41 = .ok (.invokevirtual 110, 3) := by decide +kernel
theorem dX8_mean_44 : decode cX8_mean 44 = .ok (.iload 4, 2) := by decide +kernel
theorem dX8_mean_46 : decode cX8_mean 46 = .ok (.i2l, 1) := by decide +kernel
theorem dX8_mean_47 : decode cX8_mean 47 = .ok (.ldiv, 1) := by decide +kernel
theorem dX8_mean_48 : decode cX8_mean 48 = .ok (.l2i, 1) := by decide +kernel
theorem dX8_mean_49 : decode cX8_mean 49 = .ok (.putfield 51, 3) := by decide +kernel
theorem dX8_mean_52 : decode cX8_mean 52 = .ok (.iconst 1, 1) := by decide +kernel
theorem dX8_mean_53 : decode cX8_mean 53 = .ok (.ireturn, 1) := by decide +kernel
theorem dX8_text_0 : decode cX8_text 0 = .ok (.aload_n 0, 1) := by decide +kernel
theorem dX8_text_1 : decode cX8_text 1 = .ok (.aload_n 0, 1) := by decide +kernel
theorem dX8_text_2 : decode cX8_text 2 = .ok (.iload_n 1, 1) := by decide +kernel
theorem dX8_text_3 : decode cX8_text 3 = .ok (.invokevirtual 114, 3) := by decide +kernel
theorem dX8_text_6 : decode cX8_text 6 = .ok (.iload_n 2, 1) := by decide +kernel
theorem dX8_text_7 : decode cX8_text 7 = .ok (.bipush 32, 2) := by decide +kernel
theorem dX8_text_9 : decode cX8_text 9 = .ok (.invokevirtual 68, 3) := by decide +kernel
theorem dX8_text_12 : decode cX8_text 12 = .ok (.ireturn, 1) := by decide +kernel
theorem dX8_put_0 : decode cX8_put 0 = .ok (.aload_n 0, 1) := by decide +kernel
theorem dX8_put_1 : decode cX8_put 1 = .ok (.iload_n 1, 1) := by decide +kernel
theorem dX8_put_2 : decode cX8_put 2 = .ok (.invokevirtual 114, 3) := by decide +kernel
theorem dX8_put_5 : decode cX8_put 5 = .ok (.astore 4, 2) := by decide +kernel
theorem dX8_put_7 : decode cX8_put 7 = .ok (.aload_n 0, 1) := by decide +kernel
theorem dX8_put_8 : decode cX8_put 8 = .ok (.aload 4, 2) := by decide +kernel
theorem dX8_put_10 : decode cX8_put 10 = .ok (.iload_n 2, 1) := by decide +kernel
theorem dX8_put_11 : decode cX8_put 11 = .ok (.invokevirtual 72, 3) := by decide +kernel
theorem dX8_put_14 : decode cX8_put 14 = .ok (.istore 5, 2) := by decide +kernel
theorem dX8_put_16 : decode cX8_put 16 = .ok (.aload 4, 2) := by decide +kernel
theorem dX8_put_18 : decode cX8_put 18 = .ok (.ifnull 8, 3) := by decide +kernel
theorem dX8_put_21 : decode cX8_put 21 = .ok (.iload 5, 2) := by decide +kernel
theorem dX8_put_23 : decode cX8_put 23 = .ok (.ifCond .eq 6, 3) := by decide +kernel
theorem dX8_put_26 : decode cX8_put 26 = .ok (.iload 5, 2) := by decide +kernel
theorem dX8_put_28 : decode cX8_put 28 = .ok (.ireturn, 1) := by decide +kernel
theorem dX8_put_29 : decode cX8_put 29 = .ok (.aload 4, 2) := by decide +kernel
theorem dX8_put_31 : decode cX8_put 31 = .ok (.iload_n 2, 1) := by decide +kernel
theorem dX8_put_32 : decode cX8_put 32 = .ok (.invokevirtual 76, 3) := by decide +kernel
theorem dX8_put_35 : decode cX8_put 35 = .ok (.istore 6, 2) := by decide +kernel
theorem dX8_put_37 : decode cX8_put 37 = .ok (.aload 4, 2) := by decide +kernel
theorem dX8_put_39 : decode cX8_put 39 = .ok (.iload_n 2, 1) := by decide +kernel
theorem dX8_put_40 : decode cX8_put 40 = .ok (.iload_n 3, 1) := by decide +kernel
theorem dX8_put_41 : decode cX8_put 41 = .ok (.i2b, 1) := by decide +kernel
theorem dX8_put_42 : decode cX8_put 42 = .ok (.invokevirtual 80, 3) := by decide +kernel
theorem dX8_put_45 : decode cX8_put 45 = .ok (.iload 6, 2) := by decide +kernel
theorem dX8_put_47 : decode cX8_put 47 = .ok (.sipush 1000, 3) := by decide +kernel
theorem dX8_put_50 : decode cX8_put 50 = .ok (.iadd, 1) := by decide +kernel
theorem dX8_put_51 : decode cX8_put 51 = .ok (.ireturn, 1) := by decide +kernel
theorem dX8_fault_0 : decode cX8_fault 0 = .ok (.aload_n 0, 1) := by decide +kernel
theorem dX8_fault_1 : decode cX8_fault 1 = .ok (.iload_n 1, 1) := by decide +kernel
theorem dX8_fault_2 : decode cX8_fault 2 = .ok (.invokevirtual 114, 3) := by decide +kernel
theorem dX8_fault_5 : decode cX8_fault 5 = .ok (.astore_n 2, 1) := by decide +kernel
theorem dX8_fault_6 : decode cX8_fault 6 = .ok (.aload_n 0, 1) := by decide +kernel
theorem dX8_fault_7 : decode cX8_fault 7 = .ok (.aload_n 2, 1) := by decide +kernel
theorem dX8_fault_8 : decode cX8_fault 8 = .ok (.invokevirtual 84, 3) := by decide +kernel
theorem dX8_fault_11 : decode cX8_fault 11 = .ok (.istore_n 3, 1) := by decide +kernel
theorem dX8_fault_12 : decode cX8_fault 12 = .ok (.aload_n 2, 1) := by decide +kernel
theorem dX8_fault_13 : decode cX8_fault 13 = .ok (.ifnull 7, 3) := by decide +kernel
theorem dX8_fault_16 : decode cX8_fault 16 = .ok (.iload_n 3, 1) := by decide +kernel
theorem dX8_fault_17 : decode cX8_fault 17 = .ok (.ifCond .eq 5, 3) := by decide +kernel
theorem dX8_fault_20 : decode cX8_fault 20 = .ok (.iload_n 3, 1) := by decide +kernel
theorem dX8_fault_21 : decode cX8_fault 21 = .ok (.ireturn, 1) := by decide +kernel
theorem dX8_fault_22 : decode cX8_fault 22 = .ok (.aload_n 2, 1) := by decide +kernel
theorem dX8_fault_23 : decode cX8_fault 23 = .ok (.invokestatic 117, 3) := by decide +kernel
theorem dX8_fault_26 : decode cX8_fault 26 = .ok (.ireturn, 1) := by decide +kernel
theorem dX8_bank_0 : decode cX8_bank 0 = .ok (.aload_n 0, 1) := by decide +kernel
theorem dX8_bank_1 : decode cX8_bank 1 = .ok (.iload_n 1, 1) := by decide +kernel
theorem dX8_bank_2 : decode cX8_bank 2 = .ok (.invokevirtual 114, 3) := by decide +kernel
theorem dX8_bank_5 : decode cX8_bank 5 = .ok (.astore_n 2, 1) := by decide +kernel
theorem dX8_bank_6 : decode cX8_bank 6 = .ok (.aload_n 0, 1) := by decide +kernel
theorem dX8_bank_7 : decode cX8_bank 7 = .ok (.aload_n 2, 1) := by decide +kernel
theorem dX8_bank_8 : decode cX8_bank 8 = .ok (.invokevirtual 84, 3) := by decide +kernel
theorem dX8_bank_11 : decode cX8_bank 11 = .ok (.istore_n 3, 1) := by decide +kernel
theorem dX8_bank_12 : decode cX8_bank 12 = .ok (.aload_n 2, 1) := by decide +kernel
theorem dX8_bank_13 : decode cX8_bank 13 = .ok (.ifnull 7, 3) := by decide +kernel
theorem dX8_bank_16 : decode cX8_bank 16 = .ok (.iload_n 3, 1) := by decide +kernel
theorem dX8_bank_17 : decode cX8_bank 17 = .ok (.ifCond .eq 5, 3) := by decide +kernel
theorem dX8_bank_20 : decode cX8_bank 20 = .ok (.iload_n 3, 1) := by decide +kernel
theorem dX8_bank_21 : decode cX8_bank 21 = .ok (.ireturn, 1) := by decide +kernel
theorem dX8_bank_22 : decode cX8_bank 22 = .ok (.aload_n 2, 1) := by decide +kernel
theorem dX8_bank_23 : decode cX8_bank 23 = .ok (.invokestatic 117, 3) := by decide +kernel
theorem dX8_bank_26 : decode cX8_bank 26 = .ok (.bipush (-9), 2) := by decide +kernel
theorem dX8_bank_28 : decode cX8_bank 28 = .ok (.if_icmp .eq 6, 3) := by decide +kernel
theorem dX8_bank_31 : decode cX8_bank 31 = .ok (.bipush (-4), 2) := by decide +kernel
theorem dX8_bank_33 : decode cX8_bank 33 = .ok (.ireturn, 1) := by decide +kernel
theorem dX8_bank_34 : decode cX8_bank 34 = .ok (.aload_n 0, 1) := by decide +kernel
theorem dX8_bank_35 : decode cX8_bank 35 = .ok (.getfield 21, 3) := by decide +kernel
theorem dX8_bank_38 : decode cX8_bank 38 = .ok (.aload_n 2, 1) := by decide +kernel
theorem dX8_bank_39 : decode cX8_bank 39 = .ok (.invokestatic 122, 3) := by decide +kernel
theorem dX8_bank_42 : decode cX8_bank 42 = .ok (.iconst 0, 1) := by decide +kernel
theorem dX8_bank_43 : decode cX8_bank 43 = .ok (.istore 4, 2) := by decide +kernel
theorem dX8_bank_45 : decode cX8_bank 45 = .ok (.iload 4, 2) := by decide +kernel
theorem dX8_bank_47 : decode cX8_bank 47 = .ok (.aload_n 0, 1) := by decide +kernel
theorem dX8_bank_48 : decode cX8_bank 48 = .ok (.getfield 25, 3) := by decide +kernel
theorem dX8_bank_51 : decode cX8_bank 51 = .ok (.arraylength, 1) := by decide +kernel
theorem dX8_bank_52 : decode cX8_bank 52 = .ok (.if_icmp .ge 27, 3) := by decide +kernel
theorem dX8_bank_55 : decode cX8_bank 55 = .ok (.aload_n 0, 1) := by decide +kernel
theorem dX8_bank_56 : decode cX8_bank 56 = .ok (.iload 4, 2) := by decide +kernel
theorem dX8_bank_58 : decode cX8_bank 58 = .ok (.invokevirtual 126, 3) := by decide +kernel
theorem dX8_bank_61 : decode cX8_bank 61 = .ok (.astore 5, 2) := by decide +kernel
theorem dX8_bank_63 : decode cX8_bank 63 = .ok (.aload 5, 2) := by decide +kernel
theorem dX8_bank_65 : decode cX8_bank 65 = .ok (.ifnull 8, 3) := by decide +kernel
theorem dX8_bank_68 : decode cX8_bank 68 = .ok (.aload 5, 2) := by decide +kernel
theorem dX8_bank_70 : decode cX8_bank 70 = .ok (.invokevirtual 130, 3) := by decide +kernel
theorem dX8_bank_73 : decode cX8_bank 73 = .ok (.iinc 4 1, 3) := by decide +kernel
theorem dX8_bank_76 : decode cX8_bank 76 = .ok (.goto (-31), 3) := by decide +kernel
theorem dX8_bank_79 : decode cX8_bank 79 = .ok (.aload_n 0, 1) := by decide +kernel
theorem dX8_bank_80 : decode cX8_bank 80 = .ok (.getfield 21, 3) := by decide +kernel
theorem dX8_bank_83 : decode cX8_bank 83 = .ok (.invokevirtual 133, 3) := by decide +kernel
theorem dX8_bank_86 : decode cX8_bank 86 = .ok (.ireturn, 1) := by decide +kernel
theorem dX8_light_0 : decode cX8_light 0 = .ok (.aload_n 0, 1) := by decide +kernel
theorem dX8_light_1 : decode cX8_light 1 = .ok (.getfield 21, 3) := by decide +kernel
theorem dX8_light_4 : decode cX8_light 4 = .ok (.iload_n 1, 1) := by decide +kernel
theorem dX8_light_5 : decode cX8_light 5 = .ok (.invokevirtual 134, 3) := by decide +kernel
theorem dX8_light_8 : decode cX8_light 8 = .ok (.ifCond .eq 13, 3) := by decide +kernel
theorem dX8_light_11 : decode cX8_light 11 = .ok (.iload_n 2, 1) := by decide +kernel
theorem dX8_light_12 : decode cX8_light 12 = .ok (.ifCond .lt 9, 3) := by decide +kernel
theorem dX8_light_15 : decode cX8_light 15 = .ok (.iload_n 2, 1) := by decide +kernel
theorem dX8_light_16 : decode cX8_light 16 = .ok (.bipush 6, 2) := by decide +kernel
theorem dX8_light_18 : decode cX8_light 18 = .ok (.if_icmp .le 5, 3) := by decide +kernel
theorem dX8_light_21 : decode cX8_light 21 = .ok (.iconst (-1), 1) := by decide +kernel
theorem dX8_light_22 : decode cX8_light 22 = .ok (.ireturn, 1) := by decide +kernel
theorem dX8_light_23 : decode cX8_light 23 = .ok (.aload_n 0, 1) := by decide +kernel
theorem dX8_light_24 : decode cX8_light 24 = .ok (.aload_n 0, 1) := by decide +kernel
theorem dX8_light_25 : decode cX8_light 25 = .ok (.getfield 21, 3) := by decide +kernel
theorem dX8_light_28 : decode cX8_light 28 = .ok (.iload_n 1, 1) := by decide +kernel
theorem dX8_light_29 : decode cX8_light 29 = .ok (.iload_n 2, 1) := by decide +kernel
theorem dX8_light_30 : decode cX8_light 30 = .ok (.invokevirtual 138, 3) := by decide +kernel
theorem dX8_light_33 : decode cX8_light 33 = .ok (.putfield 51, 3) := by decide +kernel
theorem dX8_light_36 : decode cX8_light 36 = .ok (.iconst 1, 1) := by decide +kernel
theorem dX8_light_37 : decode cX8_light 37 = .ok (.ireturn, 1) := by decide +kernel
theorem dX8_mark_0 : decode cX8_mark 0 = .ok (.aload_n 0, 1) := by decide +kernel
theorem dX8_mark_1 : decode cX8_mark 1 = .ok (.getfield 21, 3) := by decide +kernel
theorem dX8_mark_4 : decode cX8_mark 4 = .ok (.iload_n 1, 1) := by decide +kernel
theorem dX8_mark_5 : decode cX8_mark 5 = .ok (.invokevirtual 134, 3) := by decide +kernel
theorem dX8_mark_8 : decode cX8_mark 8 = .ok (.ifCond .eq 13, 3) := by decide +kernel
theorem dX8_mark_11 : decode cX8_mark 11 = .ok (.iload_n 2, 1) := by decide +kernel
theorem dX8_mark_12 : decode cX8_mark 12 = .ok (.ifCond .le 9, 3) := by decide +kernel
theorem dX8_mark_15 : decode cX8_mark 15 = .ok (.iload_n 2, 1) := by decide +kernel
theorem dX8_mark_16 : decode cX8_mark 16 = .ok (.bipush 6, 2) := by decide +kernel
theorem dX8_mark_18 : decode cX8_mark 18 = .ok (.if_icmp .lt 5, 3) := by decide +kernel
theorem dX8_mark_21 : decode cX8_mark 21 = .ok (.iconst (-1), 1) := by decide +kernel
theorem dX8_mark_22 : decode cX8_mark 22 = .ok (.ireturn, 1) := by decide +kernel
theorem dX8_mark_23 : decode cX8_mark 23 = .ok (.aload_n 0, 1) := by decide +kernel
theorem dX8_mark_24 : decode cX8_mark 24 = .ok (.getfield 21, 3) := by decide +kernel
theorem dX8_mark_27 : decode cX8_mark 27 = .ok (.iload_n 1, 1) := by decide +kernel
theorem dX8_mark_28 : decode cX8_mark 28 = .ok (.invokevirtual 142, 3) := by decide +kernel
theorem dX8_mark_31 : decode cX8_mark 31 = .ok (.iload_n 2, 1) := by decide +kernel
theorem dX8_mark_32 : decode cX8_mark 32 = .ok (.invokestatic 145, 3) := by decide +kernel
theorem dX8_mark_35 : decode cX8_mark 35 = .ok (.ifCond .ne 9, 3) := by decide +kernel
theorem dX8_mark_38 : decode cX8_mark 38 = .ok (.aload_n 0, 1) := by decide +kernel
theorem dX8_mark_39 : decode cX8_mark 39 = .ok (.iconst 3, 1) := by decide +kernel
theorem dX8_mark_40 : decode cX8_mark 40 = .ok (.invokevirtual 91, 3) := by decide +kernel
theorem dX8_mark_43 : decode cX8_mark 43 = .ok (.ireturn, 1) := by decide +kernel
theorem dX8_mark_44 : decode cX8_mark 44 = .ok (.iload_n 2, 1) := by decide +kernel
theorem dX8_mark_45 : decode cX8_mark 45 = .ok (.aload_n 0, 1) := by decide +kernel
theorem dX8_mark_46 : decode cX8_mark 46 = .ok (.getfield 21, 3) := by decide +kernel
theorem dX8_mark_49 : decode cX8_mark 49 = .ok (.iload_n 1, 1) := by decide +kernel
theorem dX8_mark_50 : decode cX8_mark 50 = .ok (.invokevirtual 142, 3) := by decide +kernel
theorem dX8_mark_53 : decode cX8_mark 53 = .ok (.aload_n 0, 1) := by decide +kernel
theorem dX8_mark_54 : decode cX8_mark 54 = .ok (.getfield 21, 3) := by decide +kernel
theorem dX8_mark_57 : decode cX8_mark 57 = .ok (.iload_n 1, 1) := by decide +kernel
theorem dX8_mark_58 : decode cX8_mark 58 = .ok (.invokevirtual 150, 3) := by decide +kernel
theorem dX8_mark_61 : decode cX8_mark 61 = .ok (.aload_n 0, 1) := by decide +kernel
theorem dX8_mark_62 : decode cX8_mark 62 = .ok (.getfield 21, 3) := by decide +kernel
theorem dX8_mark_65 : decode cX8_mark 65 = .ok (.invokevirtual 153, 3) := by decide +kernel
theorem dX8_mark_68 : decode cX8_mark 68 = .ok (.invokestatic 156, 3) := by decide +kernel
theorem dX8_mark_71 : decode cX8_mark 71 = .ok (.ireturn, 1) := by decide +kernel
theorem dX8_glows_0 : decode cX8_glows 0 = .ok (.aload_n 0, 1) := by decide +kernel
theorem dX8_glows_1 : decode cX8_glows 1 = .ok (.getfield 21, 3) := by decide +kernel
theorem dX8_glows_4 : decode cX8_glows 4 = .ok (.iload_n 1, 1) := by decide +kernel
theorem dX8_glows_5 : decode cX8_glows 5 = .ok (.invokevirtual 134, 3) := by decide +kernel
theorem dX8_glows_8 : decode cX8_glows 8 = .ok (.ifCond .eq 13, 3) := by decide +kernel
theorem dX8_glows_11 : decode cX8_glows 11 = .ok (.iload_n 2, 1) := by decide +kernel
theorem dX8_glows_12 : decode cX8_glows 12 = .ok (.ifCond .lt 9, 3) := by decide +kernel
theorem dX8_glows_15 : decode cX8_glows 15 = .ok (.iload_n 2, 1) := by decide +kernel
theorem dX8_glows_16 : decode cX8_glows 16 = .ok (.bipush 99, 2) := by decide +kernel
theorem dX8_glows_18 : decode cX8_glows 18 = .ok (.if_icmp .le 5, 3) := by decide +kernel
theorem dX8_glows_21 : decode cX8_glows 21 = .ok (.iconst (-1), 1) := by decide +kernel
theorem dX8_glows_22 : decode cX8_glows 22 = .ok (.ireturn, 1) := by decide +kernel
theorem dX8_glows_23 : decode cX8_glows 23 = .ok (.aload_n 0, 1) := by decide +kernel
theorem dX8_glows_24 : decode cX8_glows 24 = .ok (.getfield 21, 3) := by decide +kernel
theorem dX8_glows_27 : decode cX8_glows 27 = .ok (.iload_n 1, 1) := by decide +kernel
theorem dX8_glows_28 : decode cX8_glows 28 = .ok (.iload_n 2, 1) := by decide +kernel
theorem dX8_glows_29 : decode cX8_glows 29 = .ok (.invokevirtual 160, 3) := by decide +kernel
theorem dX8_glows_32 : decode cX8_glows 32 = .ok (.ireturn, 1) := by decide +kernel
theorem dX8_night_0 : decode cX8_night 0 = .ok (.aload_n 0, 1) := by decide +kernel
theorem dX8_night_1 : decode cX8_night 1 = .ok (.getfield 21, 3) := by decide +kernel
theorem dX8_night_4 : decode cX8_night 4 = .ok (.invokevirtual 133, 3) := by decide +kernel
theorem dX8_night_7 : decode cX8_night 7 = .ok (.ifCond .eq 15, 3) := by decide +kernel
theorem dX8_night_10 : decode cX8_night 10 = .ok (.aload_n 0, 1) := by decide +kernel
theorem dX8_night_11 : decode cX8_night 11 = .ok (.getfield 21, 3) := by decide +kernel
theorem dX8_night_14 : decode cX8_night 14 = .ok (.invokevirtual 153, 3) := by decide +kernel
theorem dX8_night_17 : decode cX8_night 17 = .ok (.bipush 40, 2) := by decide +kernel
theorem dX8_night_19 : decode cX8_night 19 = .ok (.if_icmp .lt 6, 3) := by decide +kernel
theorem dX8_night_22 : decode cX8_night 22 = .ok (.bipush (-4), 2) := by decide +kernel
theorem dX8_night_24 : decode cX8_night 24 = .ok (.ireturn, 1) := by decide +kernel
theorem dX8_night_25 : decode cX8_night 25 = .ok (.aload_n 0, 1) := by decide +kernel
theorem dX8_night_26 : decode cX8_night 26 = .ok (.getfield 21, 3) := by decide +kernel
theorem dX8_night_29 : decode cX8_night 29 = .ok (.invokevirtual 163, 3) := by decide +kernel
theorem dX8_night_32 : decode cX8_night 32 = .ok (.bipush 40, 2) := by decide +kernel
theorem dX8_night_34 : decode cX8_night 34 = .ok (.if_icmp .lt 6, 3) := by decide +kernel
theorem dX8_night_37 : decode cX8_night 37 = .ok (.bipush (-2), 2) := by decide +kernel
theorem dX8_night_39 : decode cX8_night 39 = .ok (.ireturn, 1) := by decide +kernel
theorem dX8_night_40 : decode cX8_night 40 = .ok (.aload_n 0, 1) := by decide +kernel
theorem dX8_night_41 : decode cX8_night 41 = .ok (.getfield 21, 3) := by decide +kernel
theorem dX8_night_44 : decode cX8_night 44 = .ok (.invokevirtual 166, 3) := by decide +kernel
theorem dX8_night_47 : decode cX8_night 47 = .ok (.aload_n 0, 1) := by decide +kernel
theorem dX8_night_48 : decode cX8_night 48 = .ok (.getfield 21, 3) := by decide +kernel
theorem dX8_night_51 : decode cX8_night 51 = .ok (.invokevirtual 169, 3) := by decide +kernel
theorem dX8_night_54 : decode cX8_night 54 = .ok (.ireturn, 1) := by decide +kernel
theorem dX8_answer_0 : decode cX8_answer 0 = .ok (.aload_n 0, 1) := by decide +kernel
theorem dX8_answer_1 : decode cX8_answer 1 = .ok (.getfield 21, 3) := by decide +kernel
theorem dX8_answer_4 : decode cX8_answer 4 = .ok (.iload_n 1, 1) := by decide +kernel
theorem dX8_answer_5 : decode cX8_answer 5 = .ok (.invokevirtual 134, 3) := by decide +kernel
theorem dX8_answer_8 : decode cX8_answer 8 = .ok (.ifCond .ne 5, 3) := by decide +kernel
theorem dX8_answer_11 : decode cX8_answer 11 = .ok (.iconst (-1), 1) := by decide +kernel
theorem dX8_answer_12 : decode cX8_answer 12 = .ok (.ireturn, 1) := by decide +kernel
theorem dX8_answer_13 : decode cX8_answer 13 = .ok (.aload_n 0, 1) := by decide +kernel
theorem dX8_answer_14 : decode cX8_answer 14 = .ok (.getfield 21, 3) := by decide +kernel
theorem dX8_answer_17 : decode cX8_answer 17 = .ok (.iload_n 1, 1) := by decide +kernel
theorem dX8_answer_18 : decode cX8_answer 18 = .ok (.invokevirtual 172, 3) := by decide +kernel
theorem dX8_answer_21 : decode cX8_answer 21 = .ok (.ifCond .ne 6, 3) := by decide +kernel
theorem dX8_answer_24 : decode cX8_answer 24 = .ok (.bipush (-4), 2) := by decide +kernel
theorem dX8_answer_26 : decode cX8_answer 26 = .ok (.ireturn, 1) := by decide +kernel
theorem dX8_answer_27 : decode cX8_answer 27 = .ok (.aload_n 0, 1) := by decide +kernel
theorem dX8_answer_28 : decode cX8_answer 28 = .ok (.getfield 21, 3) := by decide +kernel
theorem dX8_answer_31 : decode cX8_answer 31 = .ok (.invokevirtual 163, 3) := by decide +kernel
theorem dX8_answer_34 : decode cX8_answer 34 = .ok (.bipush 40, 2) := by decide +kernel
theorem dX8_answer_36 : decode cX8_answer 36 = .ok (.if_icmp .lt 6, 3) := by decide +kernel
theorem dX8_answer_39 : decode cX8_answer 39 = .ok (.bipush (-2), 2) := by decide +kernel
theorem dX8_answer_41 : decode cX8_answer 41 = .ok (.ireturn, 1) := by decide +kernel
theorem dX8_answer_42 : decode cX8_answer 42 = .ok (.aload_n 0, 1) := by decide +kernel
theorem dX8_answer_43 : decode cX8_answer 43 = .ok (.getfield 21, 3) := by decide +kernel
theorem dX8_answer_46 : decode cX8_answer 46 = .ok (.iload_n 1, 1) := by decide +kernel
theorem dX8_answer_47 : decode cX8_answer 47 = .ok (.invokevirtual 175, 3) := by decide +kernel
theorem dX8_answer_50 : decode cX8_answer 50 = .ok (.aload_n 0, 1) := by decide +kernel
theorem dX8_answer_51 : decode cX8_answer 51 = .ok (.getfield 21, 3) := by decide +kernel
theorem dX8_answer_54 : decode cX8_answer 54 = .ok (.iload_n 1, 1) := by decide +kernel
theorem dX8_answer_55 : decode cX8_answer 55 = .ok (.aload_n 0, 1) := by decide +kernel
theorem dX8_answer_56 : decode cX8_answer 56 = .ok (.getfield 21, 3) := by decide +kernel
theorem dX8_answer_59 : decode cX8_answer 59 = .ok (.invokevirtual 153, 3) := by decide +kernel
theorem dX8_answer_62 : decode cX8_answer 62 = .ok (.invokevirtual 160, 3) := by decide +kernel
theorem dX8_answer_65 : decode cX8_answer 65 = .ok (.ireturn, 1) := by decide +kernel
theorem dX8_relight_0 : decode cX8_relight 0 = .ok (.aload_n 0, 1) := by decide +kernel
theorem dX8_relight_1 : decode cX8_relight 1 = .ok (.getfield 21, 3) := by decide +kernel
theorem dX8_relight_4 : decode cX8_relight 4 = .ok (.iload_n 1, 1) := by decide +kernel
theorem dX8_relight_5 : decode cX8_relight 5 = .ok (.invokevirtual 134, 3) := by decide +kernel
theorem dX8_relight_8 : decode cX8_relight 8 = .ok (.ifCond .ne 5, 3) := by decide +kernel
theorem dX8_relight_11 : decode cX8_relight 11 = .ok (.iconst (-1), 1) := by decide +kernel
theorem dX8_relight_12 : decode cX8_relight 12 = .ok (.ireturn, 1) := by decide +kernel
theorem dX8_relight_13 : decode cX8_relight 13 = .ok (.aload_n 0, 1) := by decide +kernel
theorem dX8_relight_14 : decode cX8_relight 14 = .ok (.getfield 21, 3) := by decide +kernel
theorem dX8_relight_17 : decode cX8_relight 17 = .ok (.iload_n 1, 1) := by decide +kernel
theorem dX8_relight_18 : decode cX8_relight 18 = .ok (.invokevirtual 172, 3) := by decide +kernel
theorem dX8_relight_21 : decode cX8_relight 21 = .ok (.ifCond .eq 6, 3) := by decide +kernel
theorem dX8_relight_24 : decode cX8_relight 24 = .ok (.bipush (-4), 2) := by decide +kernel
theorem dX8_relight_26 : decode cX8_relight 26 = .ok (.ireturn, 1) := by decide +kernel
theorem dX8_relight_27 : decode cX8_relight 27 = .ok (.aload_n 0, 1) := by decide +kernel
theorem dX8_relight_28 : decode cX8_relight 28 = .ok (.getfield 21, 3) := by decide +kernel
theorem dX8_relight_31 : decode cX8_relight 31 = .ok (.invokevirtual 163, 3) := by decide +kernel
theorem dX8_relight_34 : decode cX8_relight 34 = .ok (.bipush 40, 2) := by decide +kernel
theorem dX8_relight_36 : decode cX8_relight 36 = .ok (.if_icmp .lt 6, 3) := by decide +kernel
theorem dX8_relight_39 : decode cX8_relight 39 = .ok (.bipush (-2), 2) := by decide +kernel
theorem dX8_relight_41 : decode cX8_relight 41 = .ok (.ireturn, 1) := by decide +kernel
theorem dX8_relight_42 : decode cX8_relight 42 = .ok (.aload_n 0, 1) := by decide +kernel
theorem dX8_relight_43 : decode cX8_relight 43 = .ok (.getfield 21, 3) := by decide +kernel
theorem dX8_relight_46 : decode cX8_relight 46 = .ok (.iload_n 1, 1) := by decide +kernel
theorem dX8_relight_47 : decode cX8_relight 47 = .ok (.invokevirtual 178, 3) := by decide +kernel
theorem dX8_relight_50 : decode cX8_relight 50 = .ok (.aload_n 0, 1) := by decide +kernel
theorem dX8_relight_51 : decode cX8_relight 51 = .ok (.getfield 21, 3) := by decide +kernel
theorem dX8_relight_54 : decode cX8_relight 54 = .ok (.iload_n 1, 1) := by decide +kernel
theorem dX8_relight_55 : decode cX8_relight 55 = .ok (.aload_n 0, 1) := by decide +kernel
theorem dX8_relight_56 : decode cX8_relight 56 = .ok (.getfield 21, 3) := by decide +kernel
theorem dX8_relight_59 : decode cX8_relight 59 = .ok (.invokevirtual 153, 3) := by decide +kernel
theorem dX8_relight_62 : decode cX8_relight 62 = .ok (.invokevirtual 160, 3) := by decide +kernel
theorem dX8_relight_65 : decode cX8_relight 65 = .ok (.ireturn, 1) := by decide +kernel
theorem dX8_carry_0 : decode cX8_carry 0 = .ok (.aload_n 0, 1) := by decide +kernel
theorem dX8_carry_1 : decode cX8_carry 1 = .ok (.getfield 21, 3) := by decide +kernel
theorem dX8_carry_4 : decode cX8_carry 4 = .ok (.iload_n 1, 1) := by decide +kernel
theorem dX8_carry_5 : decode cX8_carry 5 = .ok (.invokevirtual 134, 3) := by decide +kernel
theorem dX8_carry_8 : decode cX8_carry 8 = .ok (.ifCond .eq 10, 3) := by decide +kernel
theorem dX8_carry_11 : decode cX8_carry 11 = .ok (.iload_n 2, 1) := by decide +kernel
theorem dX8_carry_12 : decode cX8_carry 12 = .ok (.invokestatic 181, 3) := by decide +kernel
theorem dX8_carry_15 : decode cX8_carry 15 = .ok (.ifCond .ne 5, 3) := by decide +kernel
theorem dX8_carry_18 : decode cX8_carry 18 = .ok (.iconst (-1), 1) := by decide +kernel
theorem dX8_carry_19 : decode cX8_carry 19 = .ok (.ireturn, 1) := by decide +kernel
theorem dX8_carry_20 : decode cX8_carry 20 = .ok (.aload_n 0, 1) := by decide +kernel
theorem dX8_carry_21 : decode cX8_carry 21 = .ok (.getfield 21, 3) := by decide +kernel
theorem dX8_carry_24 : decode cX8_carry 24 = .ok (.iload_n 1, 1) := by decide +kernel
theorem dX8_carry_25 : decode cX8_carry 25 = .ok (.invokevirtual 184, 3) := by decide +kernel
theorem dX8_carry_28 : decode cX8_carry 28 = .ok (.istore_n 3, 1) := by decide +kernel
theorem dX8_carry_29 : decode cX8_carry 29 = .ok (.iload_n 3, 1) := by decide +kernel
theorem dX8_carry_30 : decode cX8_carry 30 = .ok (.iload_n 2, 1) := by decide +kernel
theorem dX8_carry_31 : decode cX8_carry 31 = .ok (.if_icmp .ne 6, 3) := by decide +kernel
theorem dX8_carry_34 : decode cX8_carry 34 = .ok (.bipush (-4), 2) := by decide +kernel
theorem dX8_carry_36 : decode cX8_carry 36 = .ok (.ireturn, 1) := by decide +kernel
theorem dX8_carry_37 : decode cX8_carry 37 = .ok (.aload_n 0, 1) := by decide +kernel
theorem dX8_carry_38 : decode cX8_carry 38 = .ok (.getfield 21, 3) := by decide +kernel
theorem dX8_carry_41 : decode cX8_carry 41 = .ok (.invokevirtual 163, 3) := by decide +kernel
theorem dX8_carry_44 : decode cX8_carry 44 = .ok (.bipush 40, 2) := by decide +kernel
theorem dX8_carry_46 : decode cX8_carry 46 = .ok (.if_icmp .lt 6, 3) := by decide +kernel
theorem dX8_carry_49 : decode cX8_carry 49 = .ok (.bipush (-2), 2) := by decide +kernel
theorem dX8_carry_51 : decode cX8_carry 51 = .ok (.ireturn, 1) := by decide +kernel
theorem dX8_carry_52 : decode cX8_carry 52 = .ok (.aload_n 0, 1) := by decide +kernel
theorem dX8_carry_53 : decode cX8_carry 53 = .ok (.getfield 21, 3) := by decide +kernel
theorem dX8_carry_56 : decode cX8_carry 56 = .ok (.iload_n 1, 1) := by decide +kernel
theorem dX8_carry_57 : decode cX8_carry 57 = .ok (.iload_n 2, 1) := by decide +kernel
theorem dX8_carry_58 : decode cX8_carry 58 = .ok (.invokevirtual 187, 3) := by decide +kernel
theorem dX8_carry_61 : decode cX8_carry 61 = .ok (.iload_n 3, 1) := by decide +kernel
theorem dX8_carry_62 : decode cX8_carry 62 = .ok (.ireturn, 1) := by decide +kernel
theorem dX8_undo_0 : decode cX8_undo 0 = .ok (.iload_n 1, 1) := by decide +kernel
theorem dX8_undo_1 : decode cX8_undo 1 = .ok (.ifCond .lt 14, 3) := by decide +kernel
theorem dX8_undo_4 : decode cX8_undo 4 = .ok (.iload_n 1, 1) := by decide +kernel
theorem dX8_undo_5 : decode cX8_undo 5 = .ok (.aload_n 0, 1) := by decide +kernel
theorem dX8_undo_6 : decode cX8_undo 6 = .ok (.getfield 21, 3) := by decide +kernel
theorem dX8_undo_9 : decode cX8_undo 9 = .ok (.invokevirtual 163, 3) := by decide +kernel
theorem dX8_undo_12 : decode cX8_undo 12 = .ok (.if_icmp .le 5, 3) := by decide +kernel
theorem dX8_undo_15 : decode cX8_undo 15 = .ok (.iconst (-1), 1) := by decide +kernel
theorem dX8_undo_16 : decode cX8_undo 16 = .ok (.ireturn, 1) := by decide +kernel
theorem dX8_undo_17 : decode cX8_undo 17 = .ok (.aload_n 0, 1) := by decide +kernel
theorem dX8_undo_18 : decode cX8_undo 18 = .ok (.getfield 21, 3) := by decide +kernel
theorem dX8_undo_21 : decode cX8_undo 21 = .ok (.invokevirtual 163, 3) := by decide +kernel
theorem dX8_undo_24 : decode cX8_undo 24 = .ok (.iload_n 1, 1) := by decide +kernel
theorem dX8_undo_25 : decode cX8_undo 25 = .ok (.isub, 1) := by decide +kernel
theorem dX8_undo_26 : decode cX8_undo 26 = .ok (.istore_n 2, 1) := by decide +kernel
theorem dX8_undo_27 : decode cX8_undo 27 = .ok (.aload_n 0, 1) := by decide +kernel
theorem dX8_undo_28 : decode cX8_undo 28 = .ok (.getfield 21, 3) := by decide +kernel
theorem dX8_undo_31 : decode cX8_undo 31 = .ok (.iload_n 1, 1) := by decide +kernel
theorem dX8_undo_32 : decode cX8_undo 32 = .ok (.invokevirtual 190, 3) := by decide +kernel
theorem dX8_undo_35 : decode cX8_undo 35 = .ok (.iload_n 2, 1) := by decide +kernel
theorem dX8_undo_36 : decode cX8_undo 36 = .ok (.ireturn, 1) := by decide +kernel
theorem dX8_keep_0 : decode cX8_keep 0 = .ok (.aload_n 0, 1) := by decide +kernel
theorem dX8_keep_1 : decode cX8_keep 1 = .ok (.iload_n 1, 1) := by decide +kernel
theorem dX8_keep_2 : decode cX8_keep 2 = .ok (.invokevirtual 126, 3) := by decide +kernel
theorem dX8_keep_5 : decode cX8_keep 5 = .ok (.astore_n 2, 1) := by decide +kernel
theorem dX8_keep_6 : decode cX8_keep 6 = .ok (.aload_n 2, 1) := by decide +kernel
theorem dX8_keep_7 : decode cX8_keep 7 = .ok (.ifnonnull 5, 3) := by decide +kernel
theorem dX8_keep_10 : decode cX8_keep 10 = .ok (.iconst (-1), 1) := by decide +kernel
theorem dX8_keep_11 : decode cX8_keep 11 = .ok (.ireturn, 1) := by decide +kernel
theorem dX8_keep_12 : decode cX8_keep 12 = .ok (.aload_n 0, 1) := by decide +kernel
theorem dX8_keep_13 : decode cX8_keep 13 = .ok (.getfield 21, 3) := by decide +kernel
theorem dX8_keep_16 : decode cX8_keep 16 = .ok (.invokevirtual 133, 3) := by decide +kernel
theorem dX8_keep_19 : decode cX8_keep 19 = .ok (.ifCond .ne 6, 3) := by decide +kernel
theorem dX8_keep_22 : decode cX8_keep 22 = .ok (.bipush (-4), 2) := by decide +kernel
theorem dX8_keep_24 : decode cX8_keep 24 = .ok (.ireturn, 1) := by decide +kernel
theorem dX8_keep_25 : decode cX8_keep 25 = .ok (.aload_n 2, 1) := by decide +kernel
theorem dX8_keep_26 : decode cX8_keep 26 = .ok (.aload_n 0, 1) := by decide +kernel
theorem dX8_keep_27 : decode cX8_keep 27 = .ok (.getfield 21, 3) := by decide +kernel
theorem dX8_keep_30 : decode cX8_keep 30 = .ok (.invokevirtual 193, 3) := by decide +kernel
theorem dX8_keep_33 : decode cX8_keep 33 = .ok (.aload_n 2, 1) := by decide +kernel
theorem dX8_keep_34 : decode cX8_keep 34 = .ok (.invokevirtual 163, 3) := by decide +kernel
theorem dX8_keep_37 : decode cX8_keep 37 = .ok (.ireturn, 1) := by decide +kernel
theorem dX8_on_0 : decode cX8_on 0 = .ok (.aload_n 0, 1) := by decide +kernel
theorem dX8_on_1 : decode cX8_on 1 = .ok (.iload_n 1, 1) := by decide +kernel
theorem dX8_on_2 : decode cX8_on 2 = .ok (.invokevirtual 126, 3) := by decide +kernel
theorem dX8_on_5 : decode cX8_on 5 = .ok (.astore_n 2, 1) := by decide +kernel
theorem dX8_on_6 : decode cX8_on 6 = .ok (.aload_n 2, 1) := by decide +kernel
theorem dX8_on_7 : decode cX8_on 7 = .ok (.ifnonnull 5, 3) := by decide +kernel
theorem dX8_on_10 : decode cX8_on 10 = .ok (.iconst (-1), 1) := by decide +kernel
theorem dX8_on_11 : decode cX8_on 11 = .ok (.ireturn, 1) := by decide +kernel
theorem dX8_on_12 : decode cX8_on 12 = .ok (.aload_n 2, 1) := by decide +kernel
theorem dX8_on_13 : decode cX8_on 13 = .ok (.invokevirtual 133, 3) := by decide +kernel
theorem dX8_on_16 : decode cX8_on 16 = .ok (.ifCond .ne 9, 3) := by decide +kernel
theorem dX8_on_19 : decode cX8_on 19 = .ok (.aload_n 0, 1) := by decide +kernel
theorem dX8_on_20 : decode cX8_on 20 = .ok (.iconst 1, 1) := by decide +kernel
theorem dX8_on_21 : decode cX8_on 21 = .ok (.invokevirtual 91, 3) := by decide +kernel
theorem dX8_on_24 : decode cX8_on 24 = .ok (.ireturn, 1) := by decide +kernel
theorem dX8_on_25 : decode cX8_on 25 = .ok (.aload_n 0, 1) := by decide +kernel
theorem dX8_on_26 : decode cX8_on 26 = .ok (.getfield 21, 3) := by decide +kernel
theorem dX8_on_29 : decode cX8_on 29 = .ok (.aload_n 2, 1) := by decide +kernel
theorem dX8_on_30 : decode cX8_on 30 = .ok (.invokevirtual 193, 3) := by decide +kernel
theorem dX8_on_33 : decode cX8_on 33 = .ok (.aload_n 0, 1) := by decide +kernel
theorem dX8_on_34 : decode cX8_on 34 = .ok (.getfield 21, 3) := by decide +kernel
theorem dX8_on_37 : decode cX8_on 37 = .ok (.invokevirtual 163, 3) := by decide +kernel
theorem dX8_on_40 : decode cX8_on 40 = .ok (.ireturn, 1) := by decide +kernel
theorem dX8_bright_0 : decode cX8_bright 0 = .ok (.iload_n 1, 1) := by decide +kernel
theorem dX8_bright_1 : decode cX8_bright 1 = .ok (.invokestatic 181, 3) := by decide +kernel
theorem dX8_bright_4 : decode cX8_bright 4 = .ok (.ifCond .eq 21, 3) := by decide +kernel
theorem dX8_bright_7 : decode cX8_bright 7 = .ok (.aload_n 0, 1) := by decide +kernel
theorem dX8_bright_8 : decode cX8_bright 8 = .ok (.getfield 21, 3) := by decide +kernel
theorem dX8_bright_11 : decode cX8_bright 11 = .ok (.iload_n 1, 1) := by decide +kernel
theorem dX8_bright_12 : decode cX8_bright 12 = .ok (.aload_n 0, 1) := by decide +kernel
theorem dX8_bright_13 : decode cX8_bright 13 = .ok (.getfield 21, 3) := by decide +kernel
theorem dX8_bright_16 : decode cX8_bright 16 = .ok (.invokevirtual 153, 3) := by decide +kernel
theorem dX8_bright_19 : decode cX8_bright 19 = .ok (.invokevirtual 197, 3) := by decide +kernel
theorem dX8_bright_22 : decode cX8_bright 22 = .ok (.goto 4, 3) := by decide +kernel
theorem dX8_bright_25 : decode cX8_bright 25 = .ok (.iconst (-1), 1) := by decide +kernel
theorem dX8_bright_26 : decode cX8_bright 26 = .ok (.ireturn, 1) := by decide +kernel
theorem dX8_along_0 : decode cX8_along 0 = .ok (.iload_n 1, 1) := by decide +kernel
theorem dX8_along_1 : decode cX8_along 1 = .ok (.iload_n 2, 1) := by decide +kernel
theorem dX8_along_2 : decode cX8_along 2 = .ok (.invokestatic 200, 3) := by decide +kernel
theorem dX8_along_5 : decode cX8_along 5 = .ok (.ifCond .eq 15, 3) := by decide +kernel
theorem dX8_along_8 : decode cX8_along 8 = .ok (.aload_n 0, 1) := by decide +kernel
theorem dX8_along_9 : decode cX8_along 9 = .ok (.getfield 21, 3) := by decide +kernel
theorem dX8_along_12 : decode cX8_along 12 = .ok (.iload_n 1, 1) := by decide +kernel
theorem dX8_along_13 : decode cX8_along 13 = .ok (.iload_n 2, 1) := by decide +kernel
theorem dX8_along_14 : decode cX8_along 14 = .ok (.invokevirtual 203, 3) := by decide +kernel
theorem dX8_along_17 : decode cX8_along 17 = .ok (.goto 4, 3) := by decide +kernel
theorem dX8_along_20 : decode cX8_along 20 = .ok (.iconst (-1), 1) := by decide +kernel
theorem dX8_along_21 : decode cX8_along 21 = .ok (.ireturn, 1) := by decide +kernel
theorem dX8_when_0 : decode cX8_when 0 = .ok (.iload_n 1, 1) := by decide +kernel
theorem dX8_when_1 : decode cX8_when 1 = .ok (.invokestatic 181, 3) := by decide +kernel
theorem dX8_when_4 : decode cX8_when 4 = .ok (.ifCond .eq 14, 3) := by decide +kernel
theorem dX8_when_7 : decode cX8_when 7 = .ok (.iload_n 2, 1) := by decide +kernel
theorem dX8_when_8 : decode cX8_when 8 = .ok (.ifCond .lt 10, 3) := by decide +kernel
theorem dX8_when_11 : decode cX8_when 11 = .ok (.iload_n 2, 1) := by decide +kernel
theorem dX8_when_12 : decode cX8_when 12 = .ok (.sipush 200, 3) := by decide +kernel
theorem dX8_when_15 : decode cX8_when 15 = .ok (.if_icmp .le 5, 3) := by decide +kernel
theorem dX8_when_18 : decode cX8_when 18 = .ok (.iconst (-1), 1) := by decide +kernel
theorem dX8_when_19 : decode cX8_when 19 = .ok (.ireturn, 1) := by decide +kernel
theorem dX8_when_20 : decode cX8_when 20 = .ok (.iconst 0, 1) := by decide +kernel
theorem dX8_when_21 : decode cX8_when 21 = .ok (.istore_n 3, 1) := by decide +kernel
theorem dX8_when_22 : decode cX8_when 22 = .ok (.iload_n 3, 1) := by decide +kernel
theorem dX8_when_23 : decode cX8_when 23 = .ok (.bipush 40, 2) := by decide +kernel
theorem dX8_when_25 : decode cX8_when 25 = .ok (.if_icmp .gt 42, 3) := by decide +kernel
theorem dX8_when_28 : decode cX8_when 28 = .ok (.aload_n 0, 1) := by decide +kernel
theorem dX8_when_29 : decode cX8_when 29 = .ok (.getfield 21, 3) := by decide +kernel
theorem dX8_when_32 : decode cX8_when 32 = .ok (.iload_n 1, 1) := by decide +kernel
theorem dX8_when_33 : decode cX8_when 33 = .ok (.aload_n 0, 1) := by decide +kernel
theorem dX8_when_34 : decode cX8_when 34 = .ok (.getfield 21, 3) := by decide +kernel
theorem dX8_when_37 : decode cX8_when 37 = .ok (.invokevirtual 153, 3) := by decide +kernel
theorem dX8_when_40 : decode cX8_when 40 = .ok (.iload_n 3, 1) := by decide +kernel
theorem dX8_when_41 : decode cX8_when 41 = .ok (.iadd, 1) := by decide +kernel
theorem dX8_when_42 : decode cX8_when 42 = .ok (.invokevirtual 197, 3) := by decide +kernel
theorem dX8_when_45 : decode cX8_when 45 = .ok (.istore 4, 2) := by decide +kernel
theorem dX8_when_47 : decode cX8_when 47 = .ok (.iload 4, 2) := by decide +kernel
theorem dX8_when_49 : decode cX8_when 49 = .ok (.iload_n 2, 1) := by decide +kernel
theorem dX8_when_50 : decode cX8_when 50 = .ok (.if_icmp .lt 11, 3) := by decide +kernel
theorem dX8_when_53 : decode cX8_when 53 = .ok (.aload_n 0, 1) := by decide +kernel
theorem dX8_when_54 : decode cX8_when 54 = .ok (.iload 4, 2) := by decide +kernel
theorem dX8_when_56 : decode cX8_when 56 = .ok (.putfield 51, 3) := by decide +kernel
theorem dX8_when_59 : decode cX8_when 59 = .ok (.iload_n 3, 1) := by decide +kernel
theorem dX8_when_60 : decode cX8_when 60 = .ok (.ireturn, 1) := by decide +kernel
theorem dX8_when_61 : decode cX8_when 61 = .ok (.iinc 3 1, 3) := by decide +kernel
theorem dX8_when_64 : decode cX8_when 64 = .ok (.goto (-42), 3) := by decide +kernel
theorem dX8_when_67 : decode cX8_when 67 = .ok (.bipush (-9), 2) := by decide +kernel
theorem dX8_when_69 : decode cX8_when 69 = .ok (.ireturn, 1) := by decide +kernel
theorem dX8_stow_0 : decode cX8_stow 0 = .ok (.aload_n 0, 1) := by decide +kernel
theorem dX8_stow_1 : decode cX8_stow 1 = .ok (.getfield 21, 3) := by decide +kernel
theorem dX8_stow_4 : decode cX8_stow 4 = .ok (.iload_n 1, 1) := by decide +kernel
theorem dX8_stow_5 : decode cX8_stow 5 = .ok (.invokevirtual 134, 3) := by decide +kernel
theorem dX8_stow_8 : decode cX8_stow 8 = .ok (.ifCond .eq 11, 3) := by decide +kernel
theorem dX8_stow_11 : decode cX8_stow 11 = .ok (.iload_n 2, 1) := by decide +kernel
theorem dX8_stow_12 : decode cX8_stow 12 = .ok (.iload_n 3, 1) := by decide +kernel
theorem dX8_stow_13 : decode cX8_stow 13 = .ok (.invokestatic 200, 3) := by decide +kernel
theorem dX8_stow_16 : decode cX8_stow 16 = .ok (.ifCond .ne 5, 3) := by decide +kernel
theorem dX8_stow_19 : decode cX8_stow 19 = .ok (.iconst (-1), 1) := by decide +kernel
theorem dX8_stow_20 : decode cX8_stow 20 = .ok (.ireturn, 1) := by decide +kernel
theorem dX8_stow_21 : decode cX8_stow 21 = .ok (.aload_n 0, 1) := by decide +kernel
theorem dX8_stow_22 : decode cX8_stow 22 = .ok (.getfield 21, 3) := by decide +kernel
theorem dX8_stow_25 : decode cX8_stow 25 = .ok (.iload_n 2, 1) := by decide +kernel
theorem dX8_stow_26 : decode cX8_stow 26 = .ok (.iload_n 3, 1) := by decide +kernel
theorem dX8_stow_27 : decode cX8_stow 27 = .ok (.invokevirtual 203, 3) := by decide +kernel
theorem dX8_stow_30 : decode cX8_stow 30 = .ok (.aload_n 0, 1) := by decide +kernel
theorem dX8_stow_31 : decode cX8_stow 31 = .ok (.getfield 21, 3) := by decide +kernel
theorem dX8_stow_34 : decode cX8_stow 34 = .ok (.iload_n 1, 1) := by decide +kernel
theorem dX8_stow_35 : decode cX8_stow 35 = .ok (.aload_n 0, 1) := by decide +kernel
theorem dX8_stow_36 : decode cX8_stow 36 = .ok (.getfield 21, 3) := by decide +kernel
theorem dX8_stow_39 : decode cX8_stow 39 = .ok (.iload_n 1, 1) := by decide +kernel
theorem dX8_stow_40 : decode cX8_stow 40 = .ok (.invokevirtual 184, 3) := by decide +kernel
theorem dX8_stow_43 : decode cX8_stow 43 = .ok (.iload_n 2, 1) := by decide +kernel
theorem dX8_stow_44 : decode cX8_stow 44 = .ok (.iload_n 3, 1) := by decide +kernel
theorem dX8_stow_45 : decode cX8_stow 45 = .ok (.invokevirtual 206, 3) := by decide +kernel
theorem dX8_stow_48 : decode cX8_stow 48 = .ok (.isub, 1) := by decide +kernel
theorem dX8_stow_49 : decode cX8_stow 49 = .ok (.istore 4, 2) := by decide +kernel
theorem dX8_stow_51 : decode cX8_stow 51 = .ok (.iconst 0, 1) := by decide +kernel
theorem dX8_stow_52 : decode cX8_stow 52 = .ok (.istore 5, 2) := by decide +kernel
theorem dX8_stow_54 : decode cX8_stow 54 = .ok (.aload_n 0, 1) := by decide +kernel
theorem dX8_stow_55 : decode cX8_stow 55 = .ok (.getfield 21, 3) := by decide +kernel
theorem dX8_stow_58 : decode cX8_stow 58 = .ok (.iload_n 1, 1) := by decide +kernel
theorem dX8_stow_59 : decode cX8_stow 59 = .ok (.iconst 0, 1) := by decide +kernel
theorem dX8_stow_60 : decode cX8_stow 60 = .ok (.iload_n 2, 1) := by decide +kernel
theorem dX8_stow_61 : decode cX8_stow 61 = .ok (.iload_n 3, 1) := by decide +kernel
theorem dX8_stow_62 : decode cX8_stow 62 = .ok (.invokevirtual 206, 3) := by decide +kernel
theorem dX8_stow_65 : decode cX8_stow 65 = .ok (.istore 6, 2) := by decide +kernel
theorem dX8_stow_67 : decode cX8_stow 67 = .ok (.iconst 1, 1) := by decide +kernel
theorem dX8_stow_68 : decode cX8_stow 68 = .ok (.istore 7, 2) := by decide +kernel
theorem dX8_stow_70 : decode cX8_stow 70 = .ok (.iload 7, 2) := by decide +kernel
theorem dX8_stow_72 : decode cX8_stow 72 = .ok (.bipush 10, 2) := by decide +kernel
theorem dX8_stow_74 : decode cX8_stow 74 = .ok (.if_icmp .ge 38, 3) := by decide +kernel
theorem dX8_stow_77 : decode cX8_stow 77 = .ok (.aload_n 0, 1) := by decide +kernel
theorem dX8_stow_78 : decode cX8_stow 78 = .ok (.getfield 21, 3) := by decide +kernel
theorem dX8_stow_81 : decode cX8_stow 81 = .ok (.iload_n 1, 1) := by decide +kernel
theorem dX8_stow_82 : decode cX8_stow 82 = .ok (.iload 7, 2) := by decide +kernel
theorem dX8_stow_84 : decode cX8_stow 84 = .ok (.iload_n 2, 1) := by decide +kernel
theorem dX8_stow_85 : decode cX8_stow 85 = .ok (.iload_n 3, 1) := by decide +kernel
theorem dX8_stow_86 : decode cX8_stow 86 = .ok (.invokevirtual 206, 3) := by decide +kernel
theorem dX8_stow_89 : decode cX8_stow 89 = .ok (.istore 8, 2) := by decide +kernel
theorem dX8_stow_91 : decode cX8_stow 91 = .ok (.iload 8, 2) := by decide +kernel
theorem dX8_stow_93 : decode cX8_stow 93 = .ok (.iload 6, 2) := by decide +kernel
theorem dX8_stow_95 : decode cX8_stow 95 = .ok (.if_icmp .ge 11, 3) := by decide +kernel
theorem dX8_stow_98 : decode cX8_stow 98 = .ok (.iload 8, 2) := by decide +kernel
theorem dX8_stow_100 : decode cX8_stow 100 = .ok (.istore 6, 2) := by decide +kernel
theorem dX8_stow_102 : decode cX8_stow 102 = .ok (.iload 7, 2) := by decide +kernel
theorem dX8_stow_104 : decode cX8_stow 104 = .ok (.istore 5, 2) := by decide +kernel
theorem dX8_stow_106 : decode cX8_stow 106 = .ok (.iinc 7 1, 3) := by decide +kernel
theorem dX8_stow_109 : decode cX8_stow 109 = .ok (.goto (-39), 3) := by decide +kernel
theorem dX8_stow_112 : decode cX8_stow 112 = .ok (.aload_n 0, 1) := by decide +kernel
theorem dX8_stow_113 : decode cX8_stow 113 = .ok (.iload 4, 2) := by decide +kernel
theorem dX8_stow_115 : decode cX8_stow 115 = .ok (.iload 6, 2) := by decide +kernel
theorem dX8_stow_117 : decode cX8_stow 117 = .ok (.iadd, 1) := by decide +kernel
theorem dX8_stow_118 : decode cX8_stow 118 = .ok (.putfield 51, 3) := by decide +kernel
theorem dX8_stow_121 : decode cX8_stow 121 = .ok (.iload 5, 2) := by decide +kernel
theorem dX8_stow_123 : decode cX8_stow 123 = .ok (.ireturn, 1) := by decide +kernel
theorem dX8_dark_0 : decode cX8_dark 0 = .ok (.iload_n 1, 1) := by decide +kernel
theorem dX8_dark_1 : decode cX8_dark 1 = .ok (.iconst 1, 1) := by decide +kernel
theorem dX8_dark_2 : decode cX8_dark 2 = .ok (.if_icmp .lt 9, 3) := by decide +kernel
theorem dX8_dark_5 : decode cX8_dark 5 = .ok (.iload_n 1, 1) := by decide +kernel
theorem dX8_dark_6 : decode cX8_dark 6 = .ok (.bipush 10, 2) := by decide +kernel
theorem dX8_dark_8 : decode cX8_dark 8 = .ok (.if_icmp .le 5, 3) := by decide +kernel
theorem dX8_dark_11 : decode cX8_dark 11 = .ok (.iconst (-1), 1) := by decide +kernel
theorem dX8_dark_12 : decode cX8_dark 12 = .ok (.ireturn, 1) := by decide +kernel
theorem dX8_dark_13 : decode cX8_dark 13 = .ok (.aload_n 0, 1) := by decide +kernel
theorem dX8_dark_14 : decode cX8_dark 14 = .ok (.getfield 21, 3) := by decide +kernel
theorem dX8_dark_17 : decode cX8_dark 17 = .ok (.invokevirtual 133, 3) := by decide +kernel
theorem dX8_dark_20 : decode cX8_dark 20 = .ok (.ifCond .ne 6, 3) := by decide +kernel
theorem dX8_dark_23 : decode cX8_dark 23 = .ok (.bipush (-4), 2) := by decide +kernel
theorem dX8_dark_25 : decode cX8_dark 25 = .ok (.ireturn, 1) := by decide +kernel
theorem dX8_dark_26 : decode cX8_dark 26 = .ok (.iconst 0, 1) := by decide +kernel
theorem dX8_dark_27 : decode cX8_dark 27 = .ok (.istore_n 2, 1) := by decide +kernel
theorem dX8_dark_28 : decode cX8_dark 28 = .ok (.aload_n 0, 1) := by decide +kernel
theorem dX8_dark_29 : decode cX8_dark 29 = .ok (.getfield 21, 3) := by decide +kernel
theorem dX8_dark_32 : decode cX8_dark 32 = .ok (.iconst 0, 1) := by decide +kernel
theorem dX8_dark_33 : decode cX8_dark 33 = .ok (.iload_n 1, 1) := by decide +kernel
theorem dX8_dark_34 : decode cX8_dark 34 = .ok (.iconst 1, 1) := by decide +kernel
theorem dX8_dark_35 : decode cX8_dark 35 = .ok (.isub, 1) := by decide +kernel
theorem dX8_dark_36 : decode cX8_dark 36 = .ok (.invokevirtual 203, 3) := by decide +kernel
theorem dX8_dark_39 : decode cX8_dark 39 = .ok (.istore_n 3, 1) := by decide +kernel
theorem dX8_dark_40 : decode cX8_dark 40 = .ok (.iconst 1, 1) := by decide +kernel
theorem dX8_dark_41 : decode cX8_dark 41 = .ok (.istore 4, 2) := by decide +kernel
theorem dX8_dark_43 : decode cX8_dark 43 = .ok (.iload 4, 2) := by decide +kernel
theorem dX8_dark_45 : decode cX8_dark 45 = .ok (.iload_n 1, 1) := by decide +kernel
theorem dX8_dark_46 : decode cX8_dark 46 = .ok (.iadd, 1) := by decide +kernel
theorem dX8_dark_47 : decode cX8_dark 47 = .ok (.bipush 10, 2) := by decide +kernel
theorem dX8_dark_49 : decode cX8_dark 49 = .ok (.if_icmp .gt 38, 3) := by decide +kernel
theorem dX8_dark_52 : decode cX8_dark 52 = .ok (.aload_n 0, 1) := by decide +kernel
theorem dX8_dark_53 : decode cX8_dark 53 = .ok (.getfield 21, 3) := by decide +kernel
theorem dX8_dark_56 : decode cX8_dark 56 = .ok (.iload 4, 2) := by decide +kernel
theorem dX8_dark_58 : decode cX8_dark 58 = .ok (.iload 4, 2) := by decide +kernel
theorem dX8_dark_60 : decode cX8_dark 60 = .ok (.iload_n 1, 1) := by decide +kernel
theorem dX8_dark_61 : decode cX8_dark 61 = .ok (.iadd, 1) := by decide +kernel
theorem dX8_dark_62 : decode cX8_dark 62 = .ok (.iconst 1, 1) := by decide +kernel
theorem dX8_dark_63 : decode cX8_dark 63 = .ok (.isub, 1) := by decide +kernel
theorem dX8_dark_64 : decode cX8_dark 64 = .ok (.invokevirtual 203, 3) := by decide +kernel
theorem dX8_dark_67 : decode cX8_dark 67 = .ok (.istore 5, 2) := by decide +kernel
theorem dX8_dark_69 : decode cX8_dark 69 = .ok (.iload 5, 2) := by decide +kernel
theorem dX8_dark_71 : decode cX8_dark 71 = .ok (.iload_n 3, 1) := by decide +kernel
theorem dX8_dark_72 : decode cX8_dark 72 = .ok (.if_icmp .ge 9, 3) := by decide +kernel
theorem dX8_dark_75 : decode cX8_dark 75 = .ok (.iload 5, 2) := by decide +kernel
theorem dX8_dark_77 : decode cX8_dark 77 = .ok (.istore_n 3, 1) := by decide +kernel
theorem dX8_dark_78 : decode cX8_dark 78 = .ok (.iload 4, 2) := by decide +kernel
theorem dX8_dark_80 : decode cX8_dark 80 = .ok (.istore_n 2, 1) := by decide +kernel
theorem dX8_dark_81 : decode cX8_dark 81 = .ok (.iinc 4 1, 3) := by decide +kernel
theorem dX8_dark_84 : decode cX8_dark 84 = .ok (.goto (-41), 3) := by decide +kernel
theorem dX8_dark_87 : decode cX8_dark 87 = .ok (.aload_n 0, 1) := by decide +kernel
theorem dX8_dark_88 : decode cX8_dark 88 = .ok (.iload_n 3, 1) := by decide +kernel
theorem dX8_dark_89 : decode cX8_dark 89 = .ok (.putfield 51, 3) := by decide +kernel
theorem dX8_dark_92 : decode cX8_dark 92 = .ok (.iload_n 2, 1) := by decide +kernel
theorem dX8_dark_93 : decode cX8_dark 93 = .ok (.ireturn, 1) := by decide +kernel
theorem dX8_road_0 : decode cX8_road 0 = .ok (.aload_n 0, 1) := by decide +kernel
theorem dX8_road_1 : decode cX8_road 1 = .ok (.getfield 21, 3) := by decide +kernel
theorem dX8_road_4 : decode cX8_road 4 = .ok (.invokevirtual 133, 3) := by decide +kernel
theorem dX8_road_7 : decode cX8_road 7 = .ok (.ifCond .ne 6, 3) := by decide +kernel
theorem dX8_road_10 : decode cX8_road 10 = .ok (.bipush (-4), 2) := by decide +kernel
theorem dX8_road_12 : decode cX8_road 12 = .ok (.ireturn, 1) := by decide +kernel
theorem dX8_road_13 : decode cX8_road 13 = .ok (.aload_n 0, 1) := by decide +kernel
theorem dX8_road_14 : decode cX8_road 14 = .ok (.getfield 21, 3) := by decide +kernel
theorem dX8_road_17 : decode cX8_road 17 = .ok (.invokestatic 209, 3) := by decide +kernel
theorem dX8_road_20 : decode cX8_road 20 = .ok (.istore_n 1, 1) := by decide +kernel
theorem dX8_road_21 : decode cX8_road 21 = .ok (.aload_n 0, 1) := by decide +kernel
theorem dX8_road_22 : decode cX8_road 22 = .ok (.iload_n 1, 1) := by decide +kernel
theorem dX8_road_23 : decode cX8_road 23 = .ok (.invokestatic 215, 3) := by decide +kernel
theorem dX8_road_26 : decode cX8_road 26 = .ok (.putfield 51, 3) := by decide +kernel
theorem dX8_road_29 : decode cX8_road 29 = .ok (.iload_n 1, 1) := by decide +kernel
theorem dX8_road_30 : decode cX8_road 30 = .ok (.invokestatic 218, 3) := by decide +kernel
theorem dX8_road_33 : decode cX8_road 33 = .ok (.ireturn, 1) := by decide +kernel
theorem dX8_owes_0 : decode cX8_owes 0 = .ok (.iload_n 1, 1) := by decide +kernel
theorem dX8_owes_1 : decode cX8_owes 1 = .ok (.invokestatic 221, 3) := by decide +kernel
theorem dX8_owes_4 : decode cX8_owes 4 = .ok (.ifCond .eq 14, 3) := by decide +kernel
theorem dX8_owes_7 : decode cX8_owes 7 = .ok (.aload_n 0, 1) := by decide +kernel
theorem dX8_owes_8 : decode cX8_owes 8 = .ok (.getfield 21, 3) := by decide +kernel
theorem dX8_owes_11 : decode cX8_owes 11 = .ok (.iload_n 1, 1) := by decide +kernel
theorem dX8_owes_12 : decode cX8_owes 12 = .ok (.invokevirtual 224, 3) := by decide +kernel
theorem dX8_owes_15 : decode cX8_owes 15 = .ok (.goto 4, 3) := by decide +kernel
theorem dX8_owes_18 : decode cX8_owes 18 = .ok (.iconst (-1), 1) := by decide +kernel
theorem dX8_owes_19 : decode cX8_owes 19 = .ok (.ireturn, 1) := by decide +kernel
theorem dX8_ring_0 : decode cX8_ring 0 = .ok (.aload_n 0, 1) := by decide +kernel
theorem dX8_ring_1 : decode cX8_ring 1 = .ok (.getfield 21, 3) := by decide +kernel
theorem dX8_ring_4 : decode cX8_ring 4 = .ok (.invokevirtual 133, 3) := by decide +kernel
theorem dX8_ring_7 : decode cX8_ring 7 = .ok (.ifCond .ne 6, 3) := by decide +kernel
theorem dX8_ring_10 : decode cX8_ring 10 = .ok (.bipush (-4), 2) := by decide +kernel
theorem dX8_ring_12 : decode cX8_ring 12 = .ok (.ireturn, 1) := by decide +kernel
theorem dX8_ring_13 : decode cX8_ring 13 = .ok (.aload_n 0, 1) := by decide +kernel
theorem dX8_ring_14 : decode cX8_ring 14 = .ok (.getfield 32, 3) := by decide +kernel
theorem dX8_ring_17 : decode cX8_ring 17 = .ok (.aload_n 0, 1) := by decide +kernel
theorem dX8_ring_18 : decode cX8_ring 18 = .ok (.getfield 21, 3) := by decide +kernel
theorem dX8_ring_21 : decode cX8_ring 21 = .ok (.invokevirtual 227, 3) := by decide +kernel
theorem dX8_ring_24 : decode cX8_ring 24 = .ok (.istore_n 1, 1) := by decide +kernel
theorem dX8_ring_25 : decode cX8_ring 25 = .ok (.aload_n 0, 1) := by decide +kernel
theorem dX8_ring_26 : decode cX8_ring 26 = .ok (.iload_n 1, 1) := by decide +kernel
theorem dX8_ring_27 : decode cX8_ring 27 = .ok (.putfield 51, 3) := by decide +kernel
theorem dX8_ring_30 : decode cX8_ring 30 = .ok (.iload_n 1, 1) := by decide +kernel
theorem dX8_ring_31 : decode cX8_ring 31 = .ok (.invokestatic 230, 3) := by decide +kernel
theorem dX8_ring_34 : decode cX8_ring 34 = .ok (.ireturn, 1) := by decide +kernel
theorem dX8_rings_0 : decode cX8_rings 0 = .ok (.aload_n 0, 1) := by decide +kernel
theorem dX8_rings_1 : decode cX8_rings 1 = .ok (.getfield 21, 3) := by decide +kernel
theorem dX8_rings_4 : decode cX8_rings 4 = .ok (.iload_n 1, 1) := by decide +kernel
theorem dX8_rings_5 : decode cX8_rings 5 = .ok (.invokevirtual 134, 3) := by decide +kernel
theorem dX8_rings_8 : decode cX8_rings 8 = .ok (.ifCond .eq 18, 3) := by decide +kernel
theorem dX8_rings_11 : decode cX8_rings 11 = .ok (.aload_n 0, 1) := by decide +kernel
theorem dX8_rings_12 : decode cX8_rings 12 = .ok (.getfield 32, 3) := by decide +kernel
theorem dX8_rings_15 : decode cX8_rings 15 = .ok (.aload_n 0, 1) := by decide +kernel
theorem dX8_rings_16 : decode cX8_rings 16 = .ok (.getfield 21, 3) := by decide +kernel
theorem dX8_rings_19 : decode cX8_rings 19 = .ok (.iload_n 1, 1) := by decide +kernel
theorem dX8_rings_20 : decode cX8_rings 20 = .ok (.invokevirtual 235, 3) := by decide +kernel
theorem dX8_rings_23 : decode cX8_rings 23 = .ok (.goto 4, 3) := by decide +kernel
theorem dX8_rings_26 : decode cX8_rings 26 = .ok (.iconst (-1), 1) := by decide +kernel
theorem dX8_rings_27 : decode cX8_rings 27 = .ok (.ireturn, 1) := by decide +kernel
theorem dX8_least_0 : decode cX8_least 0 = .ok (.aload_n 0, 1) := by decide +kernel
theorem dX8_least_1 : decode cX8_least 1 = .ok (.getfield 21, 3) := by decide +kernel
theorem dX8_least_4 : decode cX8_least 4 = .ok (.iload_n 1, 1) := by decide +kernel
theorem dX8_least_5 : decode cX8_least 5 = .ok (.invokevirtual 134, 3) := by decide +kernel
theorem dX8_least_8 : decode cX8_least 8 = .ok (.ifCond .ne 5, 3) := by decide +kernel
theorem dX8_least_11 : decode cX8_least 11 = .ok (.iconst (-1), 1) := by decide +kernel
theorem dX8_least_12 : decode cX8_least 12 = .ok (.ireturn, 1) := by decide +kernel
theorem dX8_least_13 : decode cX8_least 13 = .ok (.aload_n 0, 1) := by decide +kernel
theorem dX8_least_14 : decode cX8_least 14 = .ok (.getfield 32, 3) := by decide +kernel
theorem dX8_least_17 : decode cX8_least 17 = .ok (.aload_n 0, 1) := by decide +kernel
theorem dX8_least_18 : decode cX8_least 18 = .ok (.getfield 21, 3) := by decide +kernel
theorem dX8_least_21 : decode cX8_least 21 = .ok (.iload_n 1, 1) := by decide +kernel
theorem dX8_least_22 : decode cX8_least 22 = .ok (.invokevirtual 239, 3) := by decide +kernel
theorem dX8_least_25 : decode cX8_least 25 = .ok (.istore_n 2, 1) := by decide +kernel
theorem dX8_least_26 : decode cX8_least 26 = .ok (.iload_n 2, 1) := by decide +kernel
theorem dX8_least_27 : decode cX8_least 27 = .ok (.ifCond .ne 6, 3) := by decide +kernel
theorem dX8_least_30 : decode cX8_least 30 = .ok (.bipush (-9), 2) := by decide +kernel
theorem dX8_least_32 : decode cX8_least 32 = .ok (.ireturn, 1) := by decide +kernel
theorem dX8_least_33 : decode cX8_least 33 = .ok (.aload_n 0, 1) := by decide +kernel
theorem dX8_least_34 : decode cX8_least 34 = .ok (.iload_n 2, 1) := by decide +kernel
theorem dX8_least_35 : decode cX8_least 35 = .ok (.putfield 51, 3) := by decide +kernel
theorem dX8_least_38 : decode cX8_least 38 = .ok (.iload_n 2, 1) := by decide +kernel
theorem dX8_least_39 : decode cX8_least 39 = .ok (.invokestatic 230, 3) := by decide +kernel
theorem dX8_least_42 : decode cX8_least 42 = .ok (.ireturn, 1) := by decide +kernel
theorem dX8_chain_0 : decode cX8_chain 0 = .ok (.aload_n 0, 1) := by decide +kernel
theorem dX8_chain_1 : decode cX8_chain 1 = .ok (.iload_n 3, 1) := by decide +kernel
theorem dX8_chain_2 : decode cX8_chain 2 = .ok (.invokevirtual 64, 3) := by decide +kernel
theorem dX8_chain_5 : decode cX8_chain 5 = .ok (.astore 4, 2) := by decide +kernel
theorem dX8_chain_7 : decode cX8_chain 7 = .ok (.iload_n 1, 1) := by decide +kernel
theorem dX8_chain_8 : decode cX8_chain 8 = .ok (.invokestatic 221, 3) := by decide +kernel
theorem dX8_chain_11 : decode cX8_chain 11 = .ok (.ifCond .eq 15, 3) := by decide +kernel
theorem dX8_chain_14 : decode cX8_chain 14 = .ok (.iload_n 2, 1) := by decide +kernel
theorem dX8_chain_15 : decode cX8_chain 15 = .ok (.invokestatic 221, 3) := by decide +kernel
theorem dX8_chain_18 : decode cX8_chain 18 = .ok (.ifCond .eq 8, 3) := by decide +kernel
theorem dX8_chain_21 : decode cX8_chain 21 = .ok (.aload 4, 2) := by decide +kernel
theorem dX8_chain_23 : decode cX8_chain 23 = .ok (.ifnonnull 5, 3) := by decide +kernel
theorem dX8_chain_26 : decode cX8_chain 26 = .ok (.iconst (-1), 1) := by decide +kernel
theorem dX8_chain_27 : decode cX8_chain 27 = .ok (.ireturn, 1) := by decide +kernel
theorem dX8_chain_28 : decode cX8_chain 28 = .ok (.aload_n 0, 1) := by decide +kernel
theorem dX8_chain_29 : decode cX8_chain 29 = .ok (.getfield 39, 3) := by decide +kernel
theorem dX8_chain_32 : decode cX8_chain 32 = .ok (.aload_n 0, 1) := by decide +kernel
theorem dX8_chain_33 : decode cX8_chain 33 = .ok (.getfield 21, 3) := by decide +kernel
theorem dX8_chain_36 : decode cX8_chain 36 = .ok (.iload_n 1, 1) := by decide +kernel
theorem dX8_chain_37 : decode cX8_chain 37 = .ok (.iload_n 2, 1) := by decide +kernel
theorem dX8_chain_38 : decode cX8_chain 38 = .ok (.invokevirtual 242, 3) := by decide +kernel
theorem dX8_chain_41 : decode cX8_chain 41 = .ok (.istore 5, 2) := by decide +kernel
theorem dX8_chain_43 : decode cX8_chain 43 = .ok (.iload 5, 2) := by decide +kernel
theorem dX8_chain_45 : decode cX8_chain 45 = .ok (.bipush (-9), 2) := by decide +kernel
theorem dX8_chain_47 : decode cX8_chain 47 = .ok (.if_icmp .ne 6, 3) := by decide +kernel
theorem dX8_chain_50 : decode cX8_chain 50 = .ok (.bipush (-9), 2) := by decide +kernel
theorem dX8_chain_52 : decode cX8_chain 52 = .ok (.ireturn, 1) := by decide +kernel
theorem dX8_chain_53 : decode cX8_chain 53 = .ok (.aload_n 0, 1) := by decide +kernel
theorem dX8_chain_54 : decode cX8_chain 54 = .ok (.getfield 39, 3) := by decide +kernel
theorem dX8_chain_57 : decode cX8_chain 57 = .ok (.aload_n 0, 1) := by decide +kernel
theorem dX8_chain_58 : decode cX8_chain 58 = .ok (.getfield 21, 3) := by decide +kernel
theorem dX8_chain_61 : decode cX8_chain 61 = .ok (.iload_n 1, 1) := by decide +kernel
theorem dX8_chain_62 : decode cX8_chain 62 = .ok (.aload 4, 2) := by decide +kernel
theorem dX8_chain_64 : decode cX8_chain 64 = .ok (.invokevirtual 246, 3) := by decide +kernel
theorem dX8_chain_67 : decode cX8_chain 67 = .ok (.iload 5, 2) := by decide +kernel
theorem dX8_chain_69 : decode cX8_chain 69 = .ok (.ireturn, 1) := by decide +kernel
theorem dX8_dim_0 : decode cX8_dim 0 = .ok (.iload_n 1, 1) := by decide +kernel
theorem dX8_dim_1 : decode cX8_dim 1 = .ok (.invokestatic 181, 3) := by decide +kernel
theorem dX8_dim_4 : decode cX8_dim 4 = .ok (.ifCond .eq 13, 3) := by decide +kernel
theorem dX8_dim_7 : decode cX8_dim 7 = .ok (.iload_n 2, 1) := by decide +kernel
theorem dX8_dim_8 : decode cX8_dim 8 = .ok (.ifCond .lt 9, 3) := by decide +kernel
theorem dX8_dim_11 : decode cX8_dim 11 = .ok (.iload_n 2, 1) := by decide +kernel
theorem dX8_dim_12 : decode cX8_dim 12 = .ok (.bipush 99, 2) := by decide +kernel
theorem dX8_dim_14 : decode cX8_dim 14 = .ok (.if_icmp .le 5, 3) := by decide +kernel
theorem dX8_dim_17 : decode cX8_dim 17 = .ok (.iconst (-1), 1) := by decide +kernel
theorem dX8_dim_18 : decode cX8_dim 18 = .ok (.ireturn, 1) := by decide +kernel
theorem dX8_dim_19 : decode cX8_dim 19 = .ok (.aload_n 0, 1) := by decide +kernel
theorem dX8_dim_20 : decode cX8_dim 20 = .ok (.getfield 32, 3) := by decide +kernel
theorem dX8_dim_23 : decode cX8_dim 23 = .ok (.aload_n 0, 1) := by decide +kernel
theorem dX8_dim_24 : decode cX8_dim 24 = .ok (.getfield 21, 3) := by decide +kernel
theorem dX8_dim_27 : decode cX8_dim 27 = .ok (.iload_n 1, 1) := by decide +kernel
theorem dX8_dim_28 : decode cX8_dim 28 = .ok (.iload_n 2, 1) := by decide +kernel
theorem dX8_dim_29 : decode cX8_dim 29 = .ok (.invokevirtual 250, 3) := by decide +kernel
theorem dX8_dim_32 : decode cX8_dim 32 = .ok (.istore_n 3, 1) := by decide +kernel
theorem dX8_dim_33 : decode cX8_dim 33 = .ok (.aload_n 0, 1) := by decide +kernel
theorem dX8_dim_34 : decode cX8_dim 34 = .ok (.iload_n 3, 1) := by decide +kernel
theorem dX8_dim_35 : decode cX8_dim 35 = .ok (.putfield 51, 3) := by decide +kernel
theorem dX8_dim_38 : decode cX8_dim 38 = .ok (.iload_n 3, 1) := by decide +kernel
theorem dX8_dim_39 : decode cX8_dim 39 = .ok (.invokestatic 230, 3) := by decide +kernel
theorem dX8_dim_42 : decode cX8_dim 42 = .ok (.ireturn, 1) := by decide +kernel
theorem dX8_firsts_0 : decode cX8_firsts 0 = .ok (.aload_n 0, 1) := by decide +kernel
theorem dX8_firsts_1 : decode cX8_firsts 1 = .ok (.iload_n 2, 1) := by decide +kernel
theorem dX8_firsts_2 : decode cX8_firsts 2 = .ok (.invokevirtual 64, 3) := by decide +kernel
theorem dX8_firsts_5 : decode cX8_firsts 5 = .ok (.astore_n 3, 1) := by decide +kernel
theorem dX8_firsts_6 : decode cX8_firsts 6 = .ok (.aload_n 0, 1) := by decide +kernel
theorem dX8_firsts_7 : decode cX8_firsts 7 = .ok (.iload_n 1, 1) := by decide +kernel
theorem dX8_firsts_8 : decode cX8_firsts 8 = .ok (.aload_n 3, 1) := by decide +kernel
theorem dX8_firsts_9 : decode cX8_firsts 9 = .ok (.invokevirtual 253, 3) := by decide +kernel
theorem dX8_firsts_12 : decode cX8_firsts 12 = .ok (.istore 4, 2) := by decide +kernel
theorem dX8_firsts_14 : decode cX8_firsts 14 = .ok (.aload_n 3, 1) := by decide +kernel
theorem dX8_firsts_15 : decode cX8_firsts 15 = .ok (.ifnull 8, 3) := by decide +kernel
theorem dX8_firsts_18 : decode cX8_firsts 18 = .ok (.iload 4, 2) := by decide +kernel
theorem dX8_firsts_20 : decode cX8_firsts 20 = .ok (.ifCond .eq 6, 3) := by decide +kernel
theorem dX8_firsts_23 : decode cX8_firsts 23 = .ok (.iload 4, 2) := by decide +kernel
theorem dX8_firsts_25 : decode cX8_firsts 25 = .ok (.ireturn, 1) := by decide +kernel
theorem dX8_firsts_26 : decode cX8_firsts 26 = .ok (.aload_n 0, 1) := by decide +kernel
theorem dX8_firsts_27 : decode cX8_firsts 27 = .ok (.getfield 21, 3) := by decide +kernel
theorem dX8_firsts_30 : decode cX8_firsts 30 = .ok (.iload_n 1, 1) := by decide +kernel
theorem dX8_firsts_31 : decode cX8_firsts 31 = .ok (.invokevirtual 142, 3) := by decide +kernel
theorem dX8_firsts_34 : decode cX8_firsts 34 = .ok (.aload_n 3, 1) := by decide +kernel
theorem dX8_firsts_35 : decode cX8_firsts 35 = .ok (.invokestatic 257, 3) := by decide +kernel
theorem dX8_firsts_38 : decode cX8_firsts 38 = .ok (.ireturn, 1) := by decide +kernel
theorem dX8_kinds_0 : decode cX8_kinds 0 = .ok (.aload_n 0, 1) := by decide +kernel
theorem dX8_kinds_1 : decode cX8_kinds 1 = .ok (.iload_n 2, 1) := by decide +kernel
theorem dX8_kinds_2 : decode cX8_kinds 2 = .ok (.invokevirtual 64, 3) := by decide +kernel
theorem dX8_kinds_5 : decode cX8_kinds 5 = .ok (.astore_n 3, 1) := by decide +kernel
theorem dX8_kinds_6 : decode cX8_kinds 6 = .ok (.aload_n 0, 1) := by decide +kernel
theorem dX8_kinds_7 : decode cX8_kinds 7 = .ok (.iload_n 1, 1) := by decide +kernel
theorem dX8_kinds_8 : decode cX8_kinds 8 = .ok (.aload_n 3, 1) := by decide +kernel
theorem dX8_kinds_9 : decode cX8_kinds 9 = .ok (.invokevirtual 253, 3) := by decide +kernel
theorem dX8_kinds_12 : decode cX8_kinds 12 = .ok (.istore 4, 2) := by decide +kernel
theorem dX8_kinds_14 : decode cX8_kinds 14 = .ok (.aload_n 3, 1) := by decide +kernel
theorem dX8_kinds_15 : decode cX8_kinds 15 = .ok (.ifnull 8, 3) := by decide +kernel
theorem dX8_kinds_18 : decode cX8_kinds 18 = .ok (.iload 4, 2) := by decide +kernel
theorem dX8_kinds_20 : decode cX8_kinds 20 = .ok (.ifCond .eq 6, 3) := by decide +kernel
theorem dX8_kinds_23 : decode cX8_kinds 23 = .ok (.iload 4, 2) := by decide +kernel
theorem dX8_kinds_25 : decode cX8_kinds 25 = .ok (.ireturn, 1) := by decide +kernel
theorem dX8_kinds_26 : decode cX8_kinds 26 = .ok (.aload_n 0, 1) := by decide +kernel
theorem dX8_kinds_27 : decode cX8_kinds 27 = .ok (.getfield 21, 3) := by decide +kernel
theorem dX8_kinds_30 : decode cX8_kinds 30 = .ok (.iload_n 1, 1) := by decide +kernel
theorem dX8_kinds_31 : decode cX8_kinds 31 = .ok (.invokevirtual 150, 3) := by decide +kernel
theorem dX8_kinds_34 : decode cX8_kinds 34 = .ok (.aload_n 3, 1) := by decide +kernel
theorem dX8_kinds_35 : decode cX8_kinds 35 = .ok (.invokestatic 262, 3) := by decide +kernel
theorem dX8_kinds_38 : decode cX8_kinds 38 = .ok (.ireturn, 1) := by decide +kernel
theorem dX8_test_0 : decode cX8_test 0 = .ok (.aload_n 0, 1) := by decide +kernel
theorem dX8_test_1 : decode cX8_test 1 = .ok (.iload_n 2, 1) := by decide +kernel
theorem dX8_test_2 : decode cX8_test 2 = .ok (.invokevirtual 64, 3) := by decide +kernel
theorem dX8_test_5 : decode cX8_test 5 = .ok (.astore_n 3, 1) := by decide +kernel
theorem dX8_test_6 : decode cX8_test 6 = .ok (.aload_n 0, 1) := by decide +kernel
theorem dX8_test_7 : decode cX8_test 7 = .ok (.iload_n 1, 1) := by decide +kernel
theorem dX8_test_8 : decode cX8_test 8 = .ok (.aload_n 3, 1) := by decide +kernel
theorem dX8_test_9 : decode cX8_test 9 = .ok (.invokevirtual 253, 3) := by decide +kernel
theorem dX8_test_12 : decode cX8_test 12 = .ok (.istore 4, 2) := by decide +kernel
theorem dX8_test_14 : decode cX8_test 14 = .ok (.aload_n 3, 1) := by decide +kernel
theorem dX8_test_15 : decode cX8_test 15 = .ok (.ifnull 8, 3) := by decide +kernel
theorem dX8_test_18 : decode cX8_test 18 = .ok (.iload 4, 2) := by decide +kernel
theorem dX8_test_20 : decode cX8_test 20 = .ok (.ifCond .eq 6, 3) := by decide +kernel
theorem dX8_test_23 : decode cX8_test 23 = .ok (.iload 4, 2) := by decide +kernel
theorem dX8_test_25 : decode cX8_test 25 = .ok (.ireturn, 1) := by decide +kernel
theorem dX8_test_26 : decode cX8_test 26 = .ok (.aload_n 0, 1) := by decide +kernel
theorem dX8_test_27 : decode cX8_test 27 = .ok (.getfield 21, 3) := by decide +kernel
theorem dX8_test_30 : decode cX8_test 30 = .ok (.iload_n 1, 1) := by decide +kernel
theorem dX8_test_31 : decode cX8_test 31 = .ok (.invokevirtual 150, 3) := by decide +kernel
theorem dX8_test_34 : decode cX8_test 34 = .ok (.istore 5, 2) := by decide +kernel
theorem dX8_test_36 : decode cX8_test 36 = .ok (.iload 5, 2) := by decide +kernel
theorem dX8_test_38 : decode cX8_test 38 = .ok (.aload_n 3, 1) := by decide +kernel
theorem dX8_test_39 : decode cX8_test 39 = .ok (.invokestatic 262, 3) := by decide +kernel
theorem dX8_test_42 : decode cX8_test 42 = .ok (.istore 6, 2) := by decide +kernel
theorem dX8_test_44 : decode cX8_test 44 = .ok (.iload 6, 2) := by decide +kernel
theorem dX8_test_46 : decode cX8_test 46 = .ok (.ifCond .ne 6, 3) := by decide +kernel
theorem dX8_test_49 : decode cX8_test 49 = .ok (.bipush (-9), 2) := by decide +kernel
theorem dX8_test_51 : decode cX8_test 51 = .ok (.ireturn, 1) := by decide +kernel
theorem dX8_test_52 : decode cX8_test 52 = .ok (.iload 6, 2) := by decide +kernel
theorem dX8_test_54 : decode cX8_test 54 = .ok (.iload 5, 2) := by decide +kernel
theorem dX8_test_56 : decode cX8_test 56 = .ok (.invokestatic 265, 3) := by decide +kernel
theorem dX8_test_59 : decode cX8_test 59 = .ok (.istore 7, 2) := by decide +kernel
theorem dX8_test_61 : decode cX8_test 61 = .ok (.aload_n 0, 1) := by decide +kernel
theorem dX8_test_62 : decode cX8_test 62 = .ok (.iload 6, 2) := by decide +kernel
theorem dX8_test_64 : decode cX8_test 64 = .ok (.iload 5, 2) := by decide +kernel
theorem dX8_test_66 : decode cX8_test 66 = .ok (.iload 7, 2) := by decide +kernel
theorem dX8_test_68 : decode cX8_test 68 = .ok (.invokestatic 268, 3) := by decide +kernel
theorem dX8_test_71 : decode cX8_test 71 = .ok (.putfield 51, 3) := by decide +kernel
theorem dX8_test_74 : decode cX8_test 74 = .ok (.iload 7, 2) := by decide +kernel
theorem dX8_test_76 : decode cX8_test 76 = .ok (.ireturn, 1) := by decide +kernel
theorem dX8_whose_0 : decode cX8_whose 0 = .ok (.aload_n 0, 1) := by decide +kernel
theorem dX8_whose_1 : decode cX8_whose 1 = .ok (.iload_n 2, 1) := by decide +kernel
theorem dX8_whose_2 : decode cX8_whose 2 = .ok (.invokevirtual 64, 3) := by decide +kernel
theorem dX8_whose_5 : decode cX8_whose 5 = .ok (.astore_n 3, 1) := by decide +kernel
theorem dX8_whose_6 : decode cX8_whose 6 = .ok (.aload_n 0, 1) := by decide +kernel
theorem dX8_whose_7 : decode cX8_whose 7 = .ok (.getfield 21, 3) := by decide +kernel
theorem dX8_whose_10 : decode cX8_whose 10 = .ok (.iload_n 1, 1) := by decide +kernel
theorem dX8_whose_11 : decode cX8_whose 11 = .ok (.invokevirtual 134, 3) := by decide +kernel
theorem dX8_whose_14 : decode cX8_whose 14 = .ok (.ifCond .eq 7, 3) := by decide +kernel
theorem dX8_whose_17 : decode cX8_whose 17 = .ok (.aload_n 3, 1) := by decide +kernel
theorem dX8_whose_18 : decode cX8_whose 18 = .ok (.ifnonnull 5, 3) := by decide +kernel
theorem dX8_whose_21 : decode cX8_whose 21 = .ok (.iconst (-1), 1) := by decide +kernel
theorem dX8_whose_22 : decode cX8_whose 22 = .ok (.ireturn, 1) := by decide +kernel
theorem dX8_whose_23 : decode cX8_whose 23 = .ok (.aload_n 3, 1) := by decide +kernel
theorem dX8_whose_24 : decode cX8_whose 24 = .ok (.invokevirtual 94, 3) := by decide +kernel
theorem dX8_whose_27 : decode cX8_whose 27 = .ok (.ifCond .eq 9, 3) := by decide +kernel
theorem dX8_whose_30 : decode cX8_whose 30 = .ok (.aload_n 0, 1) := by decide +kernel
theorem dX8_whose_31 : decode cX8_whose 31 = .ok (.iconst 1, 1) := by decide +kernel
theorem dX8_whose_32 : decode cX8_whose 32 = .ok (.invokevirtual 91, 3) := by decide +kernel
theorem dX8_whose_35 : decode cX8_whose 35 = .ok (.ireturn, 1) := by decide +kernel
theorem dX8_whose_36 : decode cX8_whose 36 = .ok (.aload_n 3, 1) := by decide +kernel
theorem dX8_whose_37 : decode cX8_whose 37 = .ok (.invokevirtual 106, 3) := by decide +kernel
theorem dX8_whose_40 : decode cX8_whose 40 = .ok (.bipush 6, 2) := by decide +kernel
theorem dX8_whose_42 : decode cX8_whose 42 = .ok (.if_icmp .eq 9, 3) := by decide +kernel
theorem dX8_whose_45 : decode cX8_whose 45 = .ok (.aload_n 0, 1) := by decide +kernel
theorem dX8_whose_46 : decode cX8_whose 46 = .ok (.iconst 5, 1) := by decide +kernel
theorem dX8_whose_47 : decode cX8_whose 47 = .ok (.invokevirtual 91, 3) := by decide +kernel
theorem dX8_whose_50 : decode cX8_whose 50 = .ok (.ireturn, 1) := by decide +kernel
theorem dX8_whose_51 : decode cX8_whose 51 = .ok (.aload_n 3, 1) := by decide +kernel
theorem dX8_whose_52 : decode cX8_whose 52 = .ok (.invokestatic 272, 3) := by decide +kernel
theorem dX8_whose_55 : decode cX8_whose 55 = .ok (.ifCond .eq 15, 3) := by decide +kernel
theorem dX8_whose_58 : decode cX8_whose 58 = .ok (.aload_n 0, 1) := by decide +kernel
theorem dX8_whose_59 : decode cX8_whose 59 = .ok (.getfield 21, 3) := by decide +kernel
theorem dX8_whose_62 : decode cX8_whose 62 = .ok (.iload_n 1, 1) := by decide +kernel
theorem dX8_whose_63 : decode cX8_whose 63 = .ok (.aload_n 3, 1) := by decide +kernel
theorem dX8_whose_64 : decode cX8_whose 64 = .ok (.invokestatic 276, 3) := by decide +kernel
theorem dX8_whose_67 : decode cX8_whose 67 = .ok (.goto 8, 3) := by decide +kernel
theorem dX8_whose_70 : decode cX8_whose 70 = .ok (.aload_n 0, 1) := by decide +kernel
theorem dX8_whose_71 : decode cX8_whose 71 = .ok (.iconst 3, 1) := by decide +kernel
theorem dX8_whose_72 : decode cX8_whose 72 = .ok (.invokevirtual 91, 3) := by decide +kernel
theorem dX8_whose_75 : decode cX8_whose 75 = .ok (.ireturn, 1) := by decide +kernel
theorem dX8_duel_0 : decode cX8_duel 0 = .ok (.iload_n 1, 1) := by decide +kernel
theorem dX8_duel_1 : decode cX8_duel 1 = .ok (.invokestatic 181, 3) := by decide +kernel
theorem dX8_duel_4 : decode cX8_duel 4 = .ok (.ifCond .eq 12, 3) := by decide +kernel
theorem dX8_duel_7 : decode cX8_duel 7 = .ok (.iload_n 2, 1) := by decide +kernel
theorem dX8_duel_8 : decode cX8_duel 8 = .ok (.ifCond .lt 8, 3) := by decide +kernel
theorem dX8_duel_11 : decode cX8_duel 11 = .ok (.iload_n 2, 1) := by decide +kernel
theorem dX8_duel_12 : decode cX8_duel 12 = .ok (.iconst 4, 1) := by decide +kernel
theorem dX8_duel_13 : decode cX8_duel 13 = .ok (.if_icmp .le 5, 3) := by decide +kernel
theorem dX8_duel_16 : decode cX8_duel 16 = .ok (.iconst (-1), 1) := by decide +kernel
theorem dX8_duel_17 : decode cX8_duel 17 = .ok (.ireturn, 1) := by decide +kernel
theorem dX8_duel_18 : decode cX8_duel 18 = .ok (.aload_n 0, 1) := by decide +kernel
theorem dX8_duel_19 : decode cX8_duel 19 = .ok (.getfield 21, 3) := by decide +kernel
theorem dX8_duel_22 : decode cX8_duel 22 = .ok (.invokevirtual 133, 3) := by decide +kernel
theorem dX8_duel_25 : decode cX8_duel 25 = .ok (.ifCond .ne 8, 3) := by decide +kernel
theorem dX8_duel_28 : decode cX8_duel 28 = .ok (.bipush (-4), 2) := by decide +kernel
theorem dX8_duel_30 : decode cX8_duel 30 = .ok (.goto 16, 3) := by decide +kernel
theorem dX8_duel_33 : decode cX8_duel 33 = .ok (.aload_n 0, 1) := by decide +kernel
theorem dX8_duel_34 : decode cX8_duel 34 = .ok (.getfield 32, 3) := by decide +kernel
theorem dX8_duel_37 : decode cX8_duel 37 = .ok (.aload_n 0, 1) := by decide +kernel
theorem dX8_duel_38 : decode cX8_duel 38 = .ok (.getfield 21, 3) := by decide +kernel
theorem dX8_duel_41 : decode cX8_duel 41 = .ok (.iload_n 1, 1) := by decide +kernel
theorem dX8_duel_42 : decode cX8_duel 42 = .ok (.iload_n 2, 1) := by decide +kernel
theorem dX8_duel_43 : decode cX8_duel 43 = .ok (.invokevirtual 280, 3) := by decide +kernel
theorem dX8_duel_46 : decode cX8_duel 46 = .ok (.ireturn, 1) := by decide +kernel
theorem dX8_odds_0 : decode cX8_odds 0 = .ok (.iload_n 1, 1) := by decide +kernel
theorem dX8_odds_1 : decode cX8_odds 1 = .ok (.invokestatic 181, 3) := by decide +kernel
theorem dX8_odds_4 : decode cX8_odds 4 = .ok (.ifCond .eq 23, 3) := by decide +kernel
theorem dX8_odds_7 : decode cX8_odds 7 = .ok (.iload_n 2, 1) := by decide +kernel
theorem dX8_odds_8 : decode cX8_odds 8 = .ok (.ifCond .lt 19, 3) := by decide +kernel
theorem dX8_odds_11 : decode cX8_odds 11 = .ok (.iload_n 2, 1) := by decide +kernel
theorem dX8_odds_12 : decode cX8_odds 12 = .ok (.bipush 99, 2) := by decide +kernel
theorem dX8_odds_14 : decode cX8_odds 14 = .ok (.if_icmp .gt 13, 3) := by decide +kernel
theorem dX8_odds_17 : decode cX8_odds 17 = .ok (.iload_n 3, 1) := by decide +kernel
theorem dX8_odds_18 : decode cX8_odds 18 = .ok (.ifCond .lt 9, 3) := by decide +kernel
theorem dX8_odds_21 : decode cX8_odds 21 = .ok (.iload_n 3, 1) := by decide +kernel
theorem dX8_odds_22 : decode cX8_odds 22 = .ok (.bipush 12, 2) := by decide +kernel
theorem dX8_odds_24 : decode cX8_odds 24 = .ok (.if_icmp .le 5, 3) := by decide +kernel
theorem dX8_odds_27 : decode cX8_odds 27 = .ok (.iconst (-1), 1) := by decide +kernel
theorem dX8_odds_28 : decode cX8_odds 28 = .ok (.ireturn, 1) := by decide +kernel
theorem dX8_odds_29 : decode cX8_odds 29 = .ok (.aload_n 0, 1) := by decide +kernel
theorem dX8_odds_30 : decode cX8_odds 30 = .ok (.getfield 21, 3) := by decide +kernel
theorem dX8_odds_33 : decode cX8_odds 33 = .ok (.invokevirtual 133, 3) := by decide +kernel
theorem dX8_odds_36 : decode cX8_odds 36 = .ok (.ifCond .ne 6, 3) := by decide +kernel
theorem dX8_odds_39 : decode cX8_odds 39 = .ok (.bipush (-4), 2) := by decide +kernel
theorem dX8_odds_41 : decode cX8_odds 41 = .ok (.ireturn, 1) := by decide +kernel
theorem dX8_odds_42 : decode cX8_odds 42 = .ok (.aload_n 0, 1) := by decide +kernel
theorem dX8_odds_43 : decode cX8_odds 43 = .ok (.getfield 32, 3) := by decide +kernel
theorem dX8_odds_46 : decode cX8_odds 46 = .ok (.aload_n 0, 1) := by decide +kernel
theorem dX8_odds_47 : decode cX8_odds 47 = .ok (.getfield 21, 3) := by decide +kernel
theorem dX8_odds_50 : decode cX8_odds 50 = .ok (.iload_n 1, 1) := by decide +kernel
theorem dX8_odds_51 : decode cX8_odds 51 = .ok (.iload_n 2, 1) := by decide +kernel
theorem dX8_odds_52 : decode cX8_odds 52 = .ok (.iload_n 3, 1) := by decide +kernel
theorem dX8_odds_53 : decode cX8_odds 53 = .ok (.invokevirtual 283, 3) := by decide +kernel
theorem dX8_odds_56 : decode cX8_odds 56 = .ok (.lstore 4, 2) := by decide +kernel
theorem dX8_odds_58 : decode cX8_odds 58 = .ok (.aload_n 0, 1) := by decide +kernel
theorem dX8_odds_59 : decode cX8_odds 59 = .ok (.lload 4, 2) := by decide +kernel
theorem dX8_odds_61 : decode cX8_odds 61 = .ok (.bipush 12, 2) := by decide +kernel
theorem dX8_odds_63 : decode cX8_odds 63 = .ok (.aload_n 0, 1) := by decide +kernel
theorem dX8_odds_64 : decode cX8_odds 64 = .ok (.getfield 21, 3) := by decide +kernel
theorem dX8_odds_67 : decode cX8_odds 67 = .ok (.invokevirtual 287, 3) := by decide +kernel
theorem dX8_odds_70 : decode cX8_odds 70 = .ok (.invokestatic 230, 3) := by decide +kernel
theorem dX8_odds_73 : decode cX8_odds 73 = .ok (.invokestatic 290, 3) := by decide +kernel
theorem dX8_odds_76 : decode cX8_odds 76 = .ok (.invokevirtual 294, 3) := by decide +kernel
theorem dX8_odds_79 : decode cX8_odds 79 = .ok (.iconst 1, 1) := by decide +kernel
theorem dX8_odds_80 : decode cX8_odds 80 = .ok (.ireturn, 1) := by decide +kernel
theorem dX8_mid_0 : decode cX8_mid 0 = .ok (.iload_n 1, 1) := by decide +kernel
theorem dX8_mid_1 : decode cX8_mid 1 = .ok (.invokestatic 181, 3) := by decide +kernel
theorem dX8_mid_4 : decode cX8_mid 4 = .ok (.ifCond .eq 13, 3) := by decide +kernel
theorem dX8_mid_7 : decode cX8_mid 7 = .ok (.iload_n 2, 1) := by decide +kernel
theorem dX8_mid_8 : decode cX8_mid 8 = .ok (.ifCond .lt 9, 3) := by decide +kernel
theorem dX8_mid_11 : decode cX8_mid 11 = .ok (.iload_n 2, 1) := by decide +kernel
theorem dX8_mid_12 : decode cX8_mid 12 = .ok (.bipush 12, 2) := by decide +kernel
theorem dX8_mid_14 : decode cX8_mid 14 = .ok (.if_icmp .le 5, 3) := by decide +kernel
theorem dX8_mid_17 : decode cX8_mid 17 = .ok (.iconst (-1), 1) := by decide +kernel
theorem dX8_mid_18 : decode cX8_mid 18 = .ok (.ireturn, 1) := by decide +kernel
theorem dX8_mid_19 : decode cX8_mid 19 = .ok (.aload_n 0, 1) := by decide +kernel
theorem dX8_mid_20 : decode cX8_mid 20 = .ok (.getfield 21, 3) := by decide +kernel
theorem dX8_mid_23 : decode cX8_mid 23 = .ok (.invokevirtual 133, 3) := by decide +kernel
theorem dX8_mid_26 : decode cX8_mid 26 = .ok (.ifCond .ne 6, 3) := by decide +kernel
theorem dX8_mid_29 : decode cX8_mid 29 = .ok (.bipush (-4), 2) := by decide +kernel
theorem dX8_mid_31 : decode cX8_mid 31 = .ok (.ireturn, 1) := by decide +kernel
theorem dX8_mid_32 : decode cX8_mid 32 = .ok (.aload_n 0, 1) := by decide +kernel
theorem dX8_mid_33 : decode cX8_mid 33 = .ok (.getfield 21, 3) := by decide +kernel
theorem dX8_mid_36 : decode cX8_mid 36 = .ok (.iload_n 1, 1) := by decide +kernel
theorem dX8_mid_37 : decode cX8_mid 37 = .ok (.aload_n 0, 1) := by decide +kernel
theorem dX8_mid_38 : decode cX8_mid 38 = .ok (.getfield 21, 3) := by decide +kernel
theorem dX8_mid_41 : decode cX8_mid 41 = .ok (.invokevirtual 153, 3) := by decide +kernel
theorem dX8_mid_44 : decode cX8_mid 44 = .ok (.invokevirtual 197, 3) := by decide +kernel
theorem dX8_mid_47 : decode cX8_mid 47 = .ok (.i2l, 1) := by decide +kernel
theorem dX8_mid_48 : decode cX8_mid 48 = .ok (.lstore_n 3, 1) := by decide +kernel
theorem dX8_mid_49 : decode cX8_mid 49 = .ok (.aload_n 0, 1) := by decide +kernel
theorem dX8_mid_50 : decode cX8_mid 50 = .ok (.lload_n 3, 1) := by decide +kernel
theorem dX8_mid_51 : decode cX8_mid 51 = .ok (.bipush 12, 2) := by decide +kernel
theorem dX8_mid_53 : decode cX8_mid 53 = .ok (.iload_n 2, 1) := by decide +kernel
theorem dX8_mid_54 : decode cX8_mid 54 = .ok (.isub, 1) := by decide +kernel
theorem dX8_mid_55 : decode cX8_mid 55 = .ok (.i2l, 1) := by decide +kernel
theorem dX8_mid_56 : decode cX8_mid 56 = .ok (.lmul, 1) := by decide +kernel
theorem dX8_mid_57 : decode cX8_mid 57 = .ok (.ldc2_w 298, 3) := by decide +kernel
theorem dX8_mid_60 : decode cX8_mid 60 = .ok (.invokevirtual 294, 3) := by decide +kernel
theorem dX8_mid_63 : decode cX8_mid 63 = .ok (.iconst 1, 1) := by decide +kernel
theorem dX8_mid_64 : decode cX8_mid 64 = .ok (.ireturn, 1) := by decide +kernel
theorem dX8_lots_0 : decode cX8_lots 0 = .ok (.iload_n 1, 1) := by decide +kernel
theorem dX8_lots_1 : decode cX8_lots 1 = .ok (.iconst 1, 1) := by decide +kernel
theorem dX8_lots_2 : decode cX8_lots 2 = .ok (.if_icmp .lt 21, 3) := by decide +kernel
theorem dX8_lots_5 : decode cX8_lots 5 = .ok (.iload_n 1, 1) := by decide +kernel
theorem dX8_lots_6 : decode cX8_lots 6 = .ok (.bipush 20, 2) := by decide +kernel
theorem dX8_lots_8 : decode cX8_lots 8 = .ok (.if_icmp .gt 15, 3) := by decide +kernel
theorem dX8_lots_11 : decode cX8_lots 11 = .ok (.iload_n 2, 1) := by decide +kernel
theorem dX8_lots_12 : decode cX8_lots 12 = .ok (.iconst 1, 1) := by decide +kernel
theorem dX8_lots_13 : decode cX8_lots 13 = .ok (.if_icmp .lt 10, 3) := by decide +kernel
theorem dX8_lots_16 : decode cX8_lots 16 = .ok (.iload_n 2, 1) := by decide +kernel
theorem dX8_lots_17 : decode cX8_lots 17 = .ok (.ldc_w 300, 3) := by decide +kernel
theorem dX8_lots_20 : decode cX8_lots 20 = .ok (.if_icmp .le 5, 3) := by decide +kernel
theorem dX8_lots_23 : decode cX8_lots 23 = .ok (.iconst (-1), 1) := by decide +kernel
theorem dX8_lots_24 : decode cX8_lots 24 = .ok (.ireturn, 1) := by decide +kernel
theorem dX8_lots_25 : decode cX8_lots 25 = .ok (.aload_n 0, 1) := by decide +kernel
theorem dX8_lots_26 : decode cX8_lots 26 = .ok (.getfield 21, 3) := by decide +kernel
theorem dX8_lots_29 : decode cX8_lots 29 = .ok (.invokevirtual 133, 3) := by decide +kernel
theorem dX8_lots_32 : decode cX8_lots 32 = .ok (.ifCond .ne 6, 3) := by decide +kernel
theorem dX8_lots_35 : decode cX8_lots 35 = .ok (.bipush (-4), 2) := by decide +kernel
theorem dX8_lots_37 : decode cX8_lots 37 = .ok (.ireturn, 1) := by decide +kernel
theorem dX8_lots_38 : decode cX8_lots 38 = .ok (.aload_n 0, 1) := by decide +kernel
theorem dX8_lots_39 : decode cX8_lots 39 = .ok (.getfield 21, 3) := by decide +kernel
theorem dX8_lots_42 : decode cX8_lots 42 = .ok (.invokevirtual 163, 3) := by decide +kernel
theorem dX8_lots_45 : decode cX8_lots 45 = .ok (.iload_n 1, 1) := by decide +kernel
theorem dX8_lots_46 : decode cX8_lots 46 = .ok (.iadd, 1) := by decide +kernel
theorem dX8_lots_47 : decode cX8_lots 47 = .ok (.bipush 40, 2) := by decide +kernel
theorem dX8_lots_49 : decode cX8_lots 49 = .ok (.if_icmp .le 6, 3) := by decide +kernel
theorem dX8_lots_52 : decode cX8_lots 52 = .ok (.bipush (-2), 2) := by decide +kernel
theorem dX8_lots_54 : decode cX8_lots 54 = .ok (.ireturn, 1) := by decide +kernel
theorem dX8_lots_55 : decode cX8_lots 55 = .ok (.iload_n 2, 1) := by decide +kernel
theorem dX8_lots_56 : decode cX8_lots 56 = .ok (.i2l, 1) := by decide +kernel
theorem dX8_lots_57 : decode cX8_lots 57 = .ok (.lstore_n 3, 1) := by decide +kernel
theorem dX8_lots_58 : decode cX8_lots 58 = .ok (.iconst 0, 1) := by decide +kernel
theorem dX8_lots_59 : decode cX8_lots 59 = .ok (.istore 5, 2) := by decide +kernel
theorem dX8_lots_61 : decode cX8_lots 61 = .ok (.iload 5, 2) := by decide +kernel
theorem dX8_lots_63 : decode cX8_lots 63 = .ok (.iload_n 1, 1) := by decide +kernel
theorem dX8_lots_64 : decode cX8_lots 64 = .ok (.if_icmp .ge 27, 3) := by decide +kernel
theorem dX8_lots_67 : decode cX8_lots 67 = .ok (.lload_n 3, 1) := by decide +kernel
theorem dX8_lots_68 : decode cX8_lots 68 = .ok (.ldc2_w 301, 3) := by decide +kernel
theorem dX8_lots_71 : decode cX8_lots 71 = .ok (.lmul, 1) := by decide +kernel
theorem dX8_lots_72 : decode cX8_lots 72 = .ok (.ldc2_w 303, 3) := by decide +kernel
theorem dX8_lots_75 : decode cX8_lots 75 = .ok (.lrem, 1) := by decide +kernel
theorem dX8_lots_76 : decode cX8_lots 76 = .ok (.lstore_n 3, 1) := by decide +kernel
theorem dX8_lots_77 : decode cX8_lots 77 = .ok (.aload_n 0, 1) := by decide +kernel
theorem dX8_lots_78 : decode cX8_lots 78 = .ok (.getfield 21, 3) := by decide +kernel
theorem dX8_lots_81 : decode cX8_lots 81 = .ok (.lload_n 3, 1) := by decide +kernel
theorem dX8_lots_82 : decode cX8_lots 82 = .ok (.invokevirtual 305, 3) := by decide +kernel
theorem dX8_lots_85 : decode cX8_lots 85 = .ok (.iinc 5 1, 3) := by decide +kernel
theorem dX8_lots_88 : decode cX8_lots 88 = .ok (.goto (-27), 3) := by decide +kernel
theorem dX8_lots_91 : decode cX8_lots 91 = .ok (.aload_n 0, 1) := by decide +kernel
theorem dX8_lots_92 : decode cX8_lots 92 = .ok (.getfield 21, 3) := by decide +kernel
theorem dX8_lots_95 : decode cX8_lots 95 = .ok (.invokevirtual 169, 3) := by decide +kernel
theorem dX8_lots_98 : decode cX8_lots 98 = .ok (.ireturn, 1) := by decide +kernel
theorem dX8_asked_0 : decode cX8_asked 0 = .ok (.aload_n 0, 1) := by decide +kernel
theorem dX8_asked_1 : decode cX8_asked 1 = .ok (.getfield 51, 3) := by decide +kernel
theorem dX8_asked_4 : decode cX8_asked 4 = .ok (.ireturn, 1) := by decide +kernel
theorem dX8_upper_0 : decode cX8_upper 0 = .ok (.aload_n 0, 1) := by decide +kernel
theorem dX8_upper_1 : decode cX8_upper 1 = .ok (.getfield 54, 3) := by decide +kernel
theorem dX8_upper_4 : decode cX8_upper 4 = .ok (.lreturn, 1) := by decide +kernel
theorem dX8_lower_0 : decode cX8_lower 0 = .ok (.aload_n 0, 1) := by decide +kernel
theorem dX8_lower_1 : decode cX8_lower 1 = .ok (.getfield 58, 3) := by decide +kernel
theorem dX8_lower_4 : decode cX8_lower 4 = .ok (.lreturn, 1) := by decide +kernel
theorem dX8_count_0 : decode cX8_count 0 = .ok (.iload_n 1, 1) := by decide +kernel
theorem dX8_count_1 : decode cX8_count 1 = .ok (.tableswitch 134 0 9 #[55, 63, 71, 79, 87, 95, 104, 113, 121, 129], 55) := by decide +kernel
theorem dX8_count_56 : decode cX8_count 56 = .ok (.aload_n 0, 1) := by decide +kernel
theorem dX8_count_57 : decode cX8_count 57 = .ok (.getfield 21, 3) := by decide +kernel
theorem dX8_count_60 : decode cX8_count 60 = .ok (.invokevirtual 133, 3) := by decide +kernel
theorem dX8_count_63 : decode cX8_count 63 = .ok (.ireturn, 1) := by decide +kernel
theorem dX8_count_64 : decode cX8_count 64 = .ok (.aload_n 0, 1) := by decide +kernel
theorem dX8_count_65 : decode cX8_count 65 = .ok (.getfield 21, 3) := by decide +kernel
theorem dX8_count_68 : decode cX8_count 68 = .ok (.invokevirtual 153, 3) := by decide +kernel
theorem dX8_count_71 : decode cX8_count 71 = .ok (.ireturn, 1) := by decide +kernel
theorem dX8_count_72 : decode cX8_count 72 = .ok (.aload_n 0, 1) := by decide +kernel
theorem dX8_count_73 : decode cX8_count 73 = .ok (.getfield 21, 3) := by decide +kernel
theorem dX8_count_76 : decode cX8_count 76 = .ok (.invokevirtual 163, 3) := by decide +kernel
theorem dX8_count_79 : decode cX8_count 79 = .ok (.ireturn, 1) := by decide +kernel
theorem dX8_count_80 : decode cX8_count 80 = .ok (.aload_n 0, 1) := by decide +kernel
theorem dX8_count_81 : decode cX8_count 81 = .ok (.getfield 21, 3) := by decide +kernel
theorem dX8_count_84 : decode cX8_count 84 = .ok (.invokevirtual 287, 3) := by decide +kernel
theorem dX8_count_87 : decode cX8_count 87 = .ok (.ireturn, 1) := by decide +kernel
theorem dX8_count_88 : decode cX8_count 88 = .ok (.aload_n 0, 1) := by decide +kernel
theorem dX8_count_89 : decode cX8_count 89 = .ok (.getfield 21, 3) := by decide +kernel
theorem dX8_count_92 : decode cX8_count 92 = .ok (.invokevirtual 169, 3) := by decide +kernel
theorem dX8_count_95 : decode cX8_count 95 = .ok (.ireturn, 1) := by decide +kernel
theorem dX8_count_96 : decode cX8_count 96 = .ok (.aload_n 0, 1) := by decide +kernel
theorem dX8_count_97 : decode cX8_count 97 = .ok (.getfield 21, 3) := by decide +kernel
theorem dX8_count_100 : decode cX8_count 100 = .ok (.iconst 3, 1) := by decide +kernel
theorem dX8_count_101 : decode cX8_count 101 = .ok (.invokevirtual 309, 3) := by decide +kernel
theorem dX8_count_104 : decode cX8_count 104 = .ok (.ireturn, 1) := by decide +kernel
theorem dX8_count_105 : decode cX8_count 105 = .ok (.aload_n 0, 1) := by decide +kernel
theorem dX8_count_106 : decode cX8_count 106 = .ok (.getfield 21, 3) := by decide +kernel
theorem dX8_count_109 : decode cX8_count 109 = .ok (.iconst 2, 1) := by decide +kernel
theorem dX8_count_110 : decode cX8_count 110 = .ok (.invokevirtual 309, 3) := by decide +kernel
theorem dX8_count_113 : decode cX8_count 113 = .ok (.ireturn, 1) := by decide +kernel
theorem dX8_count_114 : decode cX8_count 114 = .ok (.aload_n 0, 1) := by decide +kernel
theorem dX8_count_115 : decode cX8_count 115 = .ok (.getfield 11, 3) := by decide +kernel
theorem dX8_count_118 : decode cX8_count 118 = .ok (.invokestatic 312, 3) := by decide +kernel
theorem dX8_count_121 : decode cX8_count 121 = .ok (.ireturn, 1) := by decide +kernel
theorem dX8_count_122 : decode cX8_count 122 = .ok (.aload_n 0, 1) := by decide +kernel
theorem dX8_count_123 : decode cX8_count 123 = .ok (.getfield 15, 3) := by decide +kernel
theorem dX8_count_126 : decode cX8_count 126 = .ok (.invokestatic 312, 3) := by decide +kernel
theorem dX8_count_129 : decode cX8_count 129 = .ok (.ireturn, 1) := by decide +kernel
theorem dX8_count_130 : decode cX8_count 130 = .ok (.aload_n 0, 1) := by decide +kernel
theorem dX8_count_131 : decode cX8_count 131 = .ok (.invokevirtual 316, 3) := by decide +kernel
theorem dX8_count_134 : decode cX8_count 134 = .ok (.ireturn, 1) := by decide +kernel
theorem dX8_count_135 : decode cX8_count 135 = .ok (.iconst (-1), 1) := by decide +kernel
theorem dX8_count_136 : decode cX8_count 136 = .ok (.ireturn, 1) := by decide +kernel
theorem dX8_finding_0 : decode cX8_finding 0 = .ok (.aload_n 0, 1) := by decide +kernel
theorem dX8_finding_1 : decode cX8_finding 1 = .ok (.getfield 47, 3) := by decide +kernel
theorem dX8_finding_4 : decode cX8_finding 4 = .ok (.ireturn, 1) := by decide +kernel
theorem dX8_findings_0 : decode cX8_findings 0 = .ok (.iload_n 1, 1) := by decide +kernel
theorem dX8_findings_1 : decode cX8_findings 1 = .ok (.iconst 1, 1) := by decide +kernel
theorem dX8_findings_2 : decode cX8_findings 2 = .ok (.if_icmp .lt 21, 3) := by decide +kernel
theorem dX8_findings_5 : decode cX8_findings 5 = .ok (.iload_n 1, 1) := by decide +kernel
theorem dX8_findings_6 : decode cX8_findings 6 = .ok (.aload_n 0, 1) := by decide +kernel
theorem dX8_findings_7 : decode cX8_findings 7 = .ok (.getfield 43, 3) := by decide +kernel
theorem dX8_findings_10 : decode cX8_findings 10 = .ok (.arraylength, 1) := by decide +kernel
theorem dX8_findings_11 : decode cX8_findings 11 = .ok (.if_icmp .ge 12, 3) := by decide +kernel
theorem dX8_findings_14 : decode cX8_findings 14 = .ok (.aload_n 0, 1) := by decide +kernel
theorem dX8_findings_15 : decode cX8_findings 15 = .ok (.getfield 43, 3) := by decide +kernel
theorem dX8_findings_18 : decode cX8_findings 18 = .ok (.iload_n 1, 1) := by decide +kernel
theorem dX8_findings_19 : decode cX8_findings 19 = .ok (.iaload, 1) := by decide +kernel
theorem dX8_findings_20 : decode cX8_findings 20 = .ok (.goto 4, 3) := by decide +kernel
theorem dX8_findings_23 : decode cX8_findings 23 = .ok (.iconst (-1), 1) := by decide +kernel
theorem dX8_findings_24 : decode cX8_findings 24 = .ok (.ireturn, 1) := by decide +kernel
theorem dX8_digest_0 : decode cX8_digest 0 = .ok (.ldc2_w 319, 3) := by decide +kernel
theorem dX8_digest_3 : decode cX8_digest 3 = .ok (.lstore_n 1, 1) := by decide +kernel
theorem dX8_digest_4 : decode cX8_digest 4 = .ok (.iconst 0, 1) := by decide +kernel
theorem dX8_digest_5 : decode cX8_digest 5 = .ok (.istore_n 3, 1) := by decide +kernel
theorem dX8_digest_6 : decode cX8_digest 6 = .ok (.iload_n 3, 1) := by decide +kernel
theorem dX8_digest_7 : decode cX8_digest 7 = .ok (.bipush 9, 2) := by decide +kernel
theorem dX8_digest_9 : decode cX8_digest 9 = .ok (.if_icmp .gt 22, 3) := by decide +kernel
theorem dX8_digest_12 : decode cX8_digest 12 = .ok (.ldc2_w 321, 3) := by decide +kernel
theorem dX8_digest_15 : decode cX8_digest 15 = .ok (.lload_n 1, 1) := by decide +kernel
theorem dX8_digest_16 : decode cX8_digest 16 = .ok (.lmul, 1) := by decide +kernel
theorem dX8_digest_17 : decode cX8_digest 17 = .ok (.aload_n 0, 1) := by decide +kernel
theorem dX8_digest_18 : decode cX8_digest 18 = .ok (.iload_n 3, 1) := by decide +kernel
theorem dX8_digest_19 : decode cX8_digest 19 = .ok (.invokevirtual 323, 3) := by decide +kernel
theorem dX8_digest_22 : decode cX8_digest 22 = .ok (.i2l, 1) := by decide +kernel
theorem dX8_digest_23 : decode cX8_digest 23 = .ok (.ladd, 1) := by decide +kernel
theorem dX8_digest_24 : decode cX8_digest 24 = .ok (.lstore_n 1, 1) := by decide +kernel
theorem dX8_digest_25 : decode cX8_digest 25 = .ok (.iinc 3 1, 3) := by decide +kernel
theorem dX8_digest_28 : decode cX8_digest 28 = .ok (.goto (-22), 3) := by decide +kernel
theorem dX8_digest_31 : decode cX8_digest 31 = .ok (.iconst 0, 1) := by decide +kernel
theorem dX8_digest_32 : decode cX8_digest 32 = .ok (.istore_n 3, 1) := by decide +kernel
theorem dX8_digest_33 : decode cX8_digest 33 = .ok (.iload_n 3, 1) := by decide +kernel
theorem dX8_digest_34 : decode cX8_digest 34 = .ok (.aload_n 0, 1) := by decide +kernel
theorem dX8_digest_35 : decode cX8_digest 35 = .ok (.getfield 21, 3) := by decide +kernel
theorem dX8_digest_38 : decode cX8_digest 38 = .ok (.invokevirtual 133, 3) := by decide +kernel
theorem dX8_digest_41 : decode cX8_digest 41 = .ok (.if_icmp .ge 43, 3) := by decide +kernel
theorem dX8_digest_44 : decode cX8_digest 44 = .ok (.iconst 0, 1) := by decide +kernel
theorem dX8_digest_45 : decode cX8_digest 45 = .ok (.istore 4, 2) := by decide +kernel
theorem dX8_digest_47 : decode cX8_digest 47 = .ok (.iload 4, 2) := by decide +kernel
theorem dX8_digest_49 : decode cX8_digest 49 = .ok (.bipush 6, 2) := by decide +kernel
theorem dX8_digest_51 : decode cX8_digest 51 = .ok (.if_icmp .gt 27, 3) := by decide +kernel
theorem dX8_digest_54 : decode cX8_digest 54 = .ok (.ldc2_w 321, 3) := by decide +kernel
theorem dX8_digest_57 : decode cX8_digest 57 = .ok (.lload_n 1, 1) := by decide +kernel
theorem dX8_digest_58 : decode cX8_digest 58 = .ok (.lmul, 1) := by decide +kernel
theorem dX8_digest_59 : decode cX8_digest 59 = .ok (.aload_n 0, 1) := by decide +kernel
theorem dX8_digest_60 : decode cX8_digest 60 = .ok (.getfield 21, 3) := by decide +kernel
theorem dX8_digest_63 : decode cX8_digest 63 = .ok (.iload_n 3, 1) := by decide +kernel
theorem dX8_digest_64 : decode cX8_digest 64 = .ok (.iload 4, 2) := by decide +kernel
theorem dX8_digest_66 : decode cX8_digest 66 = .ok (.invokevirtual 138, 3) := by decide +kernel
theorem dX8_digest_69 : decode cX8_digest 69 = .ok (.i2l, 1) := by decide +kernel
theorem dX8_digest_70 : decode cX8_digest 70 = .ok (.ladd, 1) := by decide +kernel
theorem dX8_digest_71 : decode cX8_digest 71 = .ok (.lstore_n 1, 1) := by decide +kernel
theorem dX8_digest_72 : decode cX8_digest 72 = .ok (.iinc 4 1, 3) := by decide +kernel
theorem dX8_digest_75 : decode cX8_digest 75 = .ok (.goto (-28), 3) := by decide +kernel
theorem dX8_digest_78 : decode cX8_digest 78 = .ok (.iinc 3 1, 3) := by decide +kernel
theorem dX8_digest_81 : decode cX8_digest 81 = .ok (.goto (-48), 3) := by decide +kernel
theorem dX8_digest_84 : decode cX8_digest 84 = .ok (.iconst 0, 1) := by decide +kernel
theorem dX8_digest_85 : decode cX8_digest 85 = .ok (.istore_n 3, 1) := by decide +kernel
theorem dX8_digest_86 : decode cX8_digest 86 = .ok (.iload_n 3, 1) := by decide +kernel
theorem dX8_digest_87 : decode cX8_digest 87 = .ok (.aload_n 0, 1) := by decide +kernel
theorem dX8_digest_88 : decode cX8_digest 88 = .ok (.getfield 25, 3) := by decide +kernel
theorem dX8_digest_91 : decode cX8_digest 91 = .ok (.arraylength, 1) := by decide +kernel
theorem dX8_digest_92 : decode cX8_digest 92 = .ok (.if_icmp .ge 46, 3) := by decide +kernel
theorem dX8_digest_95 : decode cX8_digest 95 = .ok (.aload_n 0, 1) := by decide +kernel
theorem dX8_digest_96 : decode cX8_digest 96 = .ok (.iload_n 3, 1) := by decide +kernel
theorem dX8_digest_97 : decode cX8_digest 97 = .ok (.invokevirtual 126, 3) := by decide +kernel
theorem dX8_digest_100 : decode cX8_digest 100 = .ok (.astore 4, 2) := by decide +kernel
theorem dX8_digest_102 : decode cX8_digest 102 = .ok (.ldc2_w 321, 3) := by decide +kernel
theorem dX8_digest_105 : decode cX8_digest 105 = .ok (.lload_n 1, 1) := by decide +kernel
theorem dX8_digest_106 : decode cX8_digest 106 = .ok (.lmul, 1) := by decide +kernel
theorem dX8_digest_107 : decode cX8_digest 107 = .ok (.aload 4, 2) := by decide +kernel
theorem dX8_digest_109 : decode cX8_digest 109 = .ok (.ifnull 11, 3) := by decide +kernel
theorem dX8_digest_112 : decode cX8_digest 112 = .ok (.aload 4, 2) := by decide +kernel
theorem dX8_digest_114 : decode cX8_digest 114 = .ok (.invokevirtual 133, 3) := by decide +kernel
theorem dX8_digest_117 : decode cX8_digest 117 = .ok (.ifCond .ne 7, 3) := by decide +kernel
theorem dX8_digest_120 : decode cX8_digest 120 = .ok (.iconst (-1), 1) := by decide +kernel
theorem dX8_digest_121 : decode cX8_digest 121 = .ok (.goto 8, 3) := by decide +kernel
theorem dX8_digest_124 : decode cX8_digest 124 = .ok (.aload 4, 2) := by decide +kernel
theorem dX8_digest_126 : decode cX8_digest 126 = .ok (.invokevirtual 163, 3) := by decide +kernel
theorem dX8_digest_129 : decode cX8_digest 129 = .ok (.i2l, 1) := by decide +kernel
theorem dX8_digest_130 : decode cX8_digest 130 = .ok (.ladd, 1) := by decide +kernel
theorem dX8_digest_131 : decode cX8_digest 131 = .ok (.lstore_n 1, 1) := by decide +kernel
theorem dX8_digest_132 : decode cX8_digest 132 = .ok (.iinc 3 1, 3) := by decide +kernel
theorem dX8_digest_135 : decode cX8_digest 135 = .ok (.goto (-49), 3) := by decide +kernel
theorem dX8_digest_138 : decode cX8_digest 138 = .ok (.lload_n 1, 1) := by decide +kernel
theorem dX8_digest_139 : decode cX8_digest 139 = .ok (.aload_n 0, 1) := by decide +kernel
theorem dX8_digest_140 : decode cX8_digest 140 = .ok (.getfield 11, 3) := by decide +kernel
theorem dX8_digest_143 : decode cX8_digest 143 = .ok (.invokestatic 326, 3) := by decide +kernel
theorem dX8_digest_146 : decode cX8_digest 146 = .ok (.lstore_n 1, 1) := by decide +kernel
theorem dX8_digest_147 : decode cX8_digest 147 = .ok (.lload_n 1, 1) := by decide +kernel
theorem dX8_digest_148 : decode cX8_digest 148 = .ok (.aload_n 0, 1) := by decide +kernel
theorem dX8_digest_149 : decode cX8_digest 149 = .ok (.getfield 15, 3) := by decide +kernel
theorem dX8_digest_152 : decode cX8_digest 152 = .ok (.invokestatic 326, 3) := by decide +kernel
theorem dX8_digest_155 : decode cX8_digest 155 = .ok (.lreturn, 1) := by decide +kernel
theorem dX8_isPlace_0 : decode cX8_isPlace 0 = .ok (.iload_n 0, 1) := by decide +kernel
theorem dX8_isPlace_1 : decode cX8_isPlace 1 = .ok (.ifCond .lt 13, 3) := by decide +kernel
theorem dX8_isPlace_4 : decode cX8_isPlace 4 = .ok (.iload_n 0, 1) := by decide +kernel
theorem dX8_isPlace_5 : decode cX8_isPlace 5 = .ok (.bipush 10, 2) := by decide +kernel
theorem dX8_isPlace_7 : decode cX8_isPlace 7 = .ok (.if_icmp .ge 7, 3) := by decide +kernel
theorem dX8_isPlace_10 : decode cX8_isPlace 10 = .ok (.iconst 1, 1) := by decide +kernel
theorem dX8_isPlace_11 : decode cX8_isPlace 11 = .ok (.goto 4, 3) := by decide +kernel
theorem dX8_isPlace_14 : decode cX8_isPlace 14 = .ok (.iconst 0, 1) := by decide +kernel
theorem dX8_isPlace_15 : decode cX8_isPlace 15 = .ok (.ireturn, 1) := by decide +kernel
theorem dX8_isPerson_0 : decode cX8_isPerson 0 = .ok (.iload_n 0, 1) := by decide +kernel
theorem dX8_isPerson_1 : decode cX8_isPerson 1 = .ok (.ifCond .lt 13, 3) := by decide +kernel
theorem dX8_isPerson_4 : decode cX8_isPerson 4 = .ok (.iload_n 0, 1) := by decide +kernel
theorem dX8_isPerson_5 : decode cX8_isPerson 5 = .ok (.bipush 6, 2) := by decide +kernel
theorem dX8_isPerson_7 : decode cX8_isPerson 7 = .ok (.if_icmp .ge 7, 3) := by decide +kernel
theorem dX8_isPerson_10 : decode cX8_isPerson 10 = .ok (.iconst 1, 1) := by decide +kernel
theorem dX8_isPerson_11 : decode cX8_isPerson 11 = .ok (.goto 4, 3) := by decide +kernel
theorem dX8_isPerson_14 : decode cX8_isPerson 14 = .ok (.iconst 0, 1) := by decide +kernel
theorem dX8_isPerson_15 : decode cX8_isPerson 15 = .ok (.ireturn, 1) := by decide +kernel
theorem dX8_isStretch_0 : decode cX8_isStretch 0 = .ok (.iload_n 0, 1) := by decide +kernel
theorem dX8_isStretch_1 : decode cX8_isStretch 1 = .ok (.invokestatic 181, 3) := by decide +kernel
theorem dX8_isStretch_4 : decode cX8_isStretch 4 = .ok (.ifCond .eq 19, 3) := by decide +kernel
theorem dX8_isStretch_7 : decode cX8_isStretch 7 = .ok (.iload_n 1, 1) := by decide +kernel
theorem dX8_isStretch_8 : decode cX8_isStretch 8 = .ok (.invokestatic 181, 3) := by decide +kernel
theorem dX8_isStretch_11 : decode cX8_isStretch 11 = .ok (.ifCond .eq 12, 3) := by decide +kernel
theorem dX8_isStretch_14 : decode cX8_isStretch 14 = .ok (.iload_n 0, 1) := by decide +kernel
theorem dX8_isStretch_15 : decode cX8_isStretch 15 = .ok (.iload_n 1, 1) := by decide +kernel
theorem dX8_isStretch_16 : decode cX8_isStretch 16 = .ok (.if_icmp .gt 7, 3) := by decide +kernel
theorem dX8_isStretch_19 : decode cX8_isStretch 19 = .ok (.iconst 1, 1) := by decide +kernel
theorem dX8_isStretch_20 : decode cX8_isStretch 20 = .ok (.goto 4, 3) := by decide +kernel
theorem dX8_isStretch_23 : decode cX8_isStretch 23 = .ok (.iconst 0, 1) := by decide +kernel
theorem dX8_isStretch_24 : decode cX8_isStretch 24 = .ok (.ireturn, 1) := by decide +kernel
theorem dX8_rowOf_0 : decode cX8_rowOf 0 = .ok (.iload_n 1, 1) := by decide +kernel
theorem dX8_rowOf_1 : decode cX8_rowOf 1 = .ok (.ifCond .lt 21, 3) := by decide +kernel
theorem dX8_rowOf_4 : decode cX8_rowOf 4 = .ok (.iload_n 1, 1) := by decide +kernel
theorem dX8_rowOf_5 : decode cX8_rowOf 5 = .ok (.aload_n 0, 1) := by decide +kernel
theorem dX8_rowOf_6 : decode cX8_rowOf 6 = .ok (.getfield 11, 3) := by decide +kernel
theorem dX8_rowOf_9 : decode cX8_rowOf 9 = .ok (.arraylength, 1) := by decide +kernel
theorem dX8_rowOf_10 : decode cX8_rowOf 10 = .ok (.if_icmp .ge 12, 3) := by decide +kernel
theorem dX8_rowOf_13 : decode cX8_rowOf 13 = .ok (.aload_n 0, 1) := by decide +kernel
theorem dX8_rowOf_14 : decode cX8_rowOf 14 = .ok (.getfield 11, 3) := by decide +kernel
theorem dX8_rowOf_17 : decode cX8_rowOf 17 = .ok (.iload_n 1, 1) := by decide +kernel
theorem dX8_rowOf_18 : decode cX8_rowOf 18 = .ok (.aaload, 1) := by decide +kernel
theorem dX8_rowOf_19 : decode cX8_rowOf 19 = .ok (.goto 4, 3) := by decide +kernel
theorem dX8_rowOf_22 : decode cX8_rowOf 22 = .ok (.aconst_null, 1) := by decide +kernel
theorem dX8_rowOf_23 : decode cX8_rowOf 23 = .ok (.areturn, 1) := by decide +kernel
theorem dX8_textOf_0 : decode cX8_textOf 0 = .ok (.iload_n 1, 1) := by decide +kernel
theorem dX8_textOf_1 : decode cX8_textOf 1 = .ok (.ifCond .lt 21, 3) := by decide +kernel
theorem dX8_textOf_4 : decode cX8_textOf 4 = .ok (.iload_n 1, 1) := by decide +kernel
theorem dX8_textOf_5 : decode cX8_textOf 5 = .ok (.aload_n 0, 1) := by decide +kernel
theorem dX8_textOf_6 : decode cX8_textOf 6 = .ok (.getfield 15, 3) := by decide +kernel
theorem dX8_textOf_9 : decode cX8_textOf 9 = .ok (.arraylength, 1) := by decide +kernel
theorem dX8_textOf_10 : decode cX8_textOf 10 = .ok (.if_icmp .ge 12, 3) := by decide +kernel
theorem dX8_textOf_13 : decode cX8_textOf 13 = .ok (.aload_n 0, 1) := by decide +kernel
theorem dX8_textOf_14 : decode cX8_textOf 14 = .ok (.getfield 15, 3) := by decide +kernel
theorem dX8_textOf_17 : decode cX8_textOf 17 = .ok (.iload_n 1, 1) := by decide +kernel
theorem dX8_textOf_18 : decode cX8_textOf 18 = .ok (.aaload, 1) := by decide +kernel
theorem dX8_textOf_19 : decode cX8_textOf 19 = .ok (.goto 4, 3) := by decide +kernel
theorem dX8_textOf_22 : decode cX8_textOf 22 = .ok (.aconst_null, 1) := by decide +kernel
theorem dX8_textOf_23 : decode cX8_textOf 23 = .ok (.areturn, 1) := by decide +kernel
theorem dX8_keepOf_0 : decode cX8_keepOf 0 = .ok (.iload_n 1, 1) := by decide +kernel
theorem dX8_keepOf_1 : decode cX8_keepOf 1 = .ok (.ifCond .lt 21, 3) := by decide +kernel
theorem dX8_keepOf_4 : decode cX8_keepOf 4 = .ok (.iload_n 1, 1) := by decide +kernel
theorem dX8_keepOf_5 : decode cX8_keepOf 5 = .ok (.aload_n 0, 1) := by decide +kernel
theorem dX8_keepOf_6 : decode cX8_keepOf 6 = .ok (.getfield 25, 3) := by decide +kernel
theorem dX8_keepOf_9 : decode cX8_keepOf 9 = .ok (.arraylength, 1) := by decide +kernel
theorem dX8_keepOf_10 : decode cX8_keepOf 10 = .ok (.if_icmp .ge 12, 3) := by decide +kernel
theorem dX8_keepOf_13 : decode cX8_keepOf 13 = .ok (.aload_n 0, 1) := by decide +kernel
theorem dX8_keepOf_14 : decode cX8_keepOf 14 = .ok (.getfield 25, 3) := by decide +kernel
theorem dX8_keepOf_17 : decode cX8_keepOf 17 = .ok (.iload_n 1, 1) := by decide +kernel
theorem dX8_keepOf_18 : decode cX8_keepOf 18 = .ok (.aaload, 1) := by decide +kernel
theorem dX8_keepOf_19 : decode cX8_keepOf 19 = .ok (.goto 4, 3) := by decide +kernel
theorem dX8_keepOf_22 : decode cX8_keepOf 22 = .ok (.aconst_null, 1) := by decide +kernel
theorem dX8_keepOf_23 : decode cX8_keepOf 23 = .ok (.areturn, 1) := by decide +kernel
theorem dX8_refuse_0 : decode cX8_refuse 0 = .ok (.iload_n 1, 1) := by decide +kernel
theorem dX8_refuse_1 : decode cX8_refuse 1 = .ok (.ifCond .lt 27, 3) := by decide +kernel
theorem dX8_refuse_4 : decode cX8_refuse 4 = .ok (.iload_n 1, 1) := by decide +kernel
theorem dX8_refuse_5 : decode cX8_refuse 5 = .ok (.aload_n 0, 1) := by decide +kernel
theorem dX8_refuse_6 : decode cX8_refuse 6 = .ok (.getfield 43, 3) := by decide +kernel
theorem dX8_refuse_9 : decode cX8_refuse 9 = .ok (.arraylength, 1) := by decide +kernel
theorem dX8_refuse_10 : decode cX8_refuse 10 = .ok (.if_icmp .ge 18, 3) := by decide +kernel
theorem dX8_refuse_13 : decode cX8_refuse 13 = .ok (.aload_n 0, 1) := by decide +kernel
theorem dX8_refuse_14 : decode cX8_refuse 14 = .ok (.getfield 43, 3) := by decide +kernel
theorem dX8_refuse_17 : decode cX8_refuse 17 = .ok (.iload_n 1, 1) := by decide +kernel
theorem dX8_refuse_18 : decode cX8_refuse 18 = .ok (.dup2, 1) := by decide +kernel
theorem dX8_refuse_19 : decode cX8_refuse 19 = .ok (.iaload, 1) := by decide +kernel
theorem dX8_refuse_20 : decode cX8_refuse 20 = .ok (.iconst 1, 1) := by decide +kernel
theorem dX8_refuse_21 : decode cX8_refuse 21 = .ok (.iadd, 1) := by decide +kernel
theorem dX8_refuse_22 : decode cX8_refuse 22 = .ok (.iastore, 1) := by decide +kernel
theorem dX8_refuse_23 : decode cX8_refuse 23 = .ok (.aload_n 0, 1) := by decide +kernel
theorem dX8_refuse_24 : decode cX8_refuse 24 = .ok (.iload_n 1, 1) := by decide +kernel
theorem dX8_refuse_25 : decode cX8_refuse 25 = .ok (.putfield 47, 3) := by decide +kernel
theorem dX8_refuse_28 : decode cX8_refuse 28 = .ok (.bipush (-3), 2) := by decide +kernel
theorem dX8_refuse_30 : decode cX8_refuse 30 = .ok (.ireturn, 1) := by decide +kernel
theorem dX8_refusedMissing_0 : decode cX8_refusedMissing 0 = .ok (.aload_n 1, 1) := by decide +kernel
theorem dX8_refusedMissing_1 : decode cX8_refusedMissing 1 = .ok (.ifnonnull 5, 3) := by decide +kernel
theorem dX8_refusedMissing_4 : decode cX8_refusedMissing 4 = .ok (.iconst (-1), 1) := by decide +kernel
theorem dX8_refusedMissing_5 : decode cX8_refusedMissing 5 = .ok (.ireturn, 1) := by decide +kernel
theorem dX8_refusedMissing_6 : decode cX8_refusedMissing 6 = .ok (.aload_n 1, 1) := by decide +kernel
theorem dX8_refusedMissing_7 : decode cX8_refusedMissing 7 = .ok (.invokevirtual 94, 3) := by decide +kernel
theorem dX8_refusedMissing_10 : decode cX8_refusedMissing 10 = .ok (.ifCond .eq 11, 3) := by decide +kernel
theorem dX8_refusedMissing_13 : decode cX8_refusedMissing 13 = .ok (.aload_n 0, 1) := by decide +kernel
theorem dX8_refusedMissing_14 : decode cX8_refusedMissing 14 = .ok (.iconst 1, 1) := by decide +kernel
theorem dX8_refusedMissing_15 : decode cX8_refusedMissing 15 = .ok (.invokevirtual 91, 3) := by decide +kernel
theorem dX8_refusedMissing_18 : decode cX8_refusedMissing 18 = .ok (.goto 4, 3) := by decide +kernel
theorem dX8_refusedMissing_21 : decode cX8_refusedMissing 21 = .ok (.iconst 0, 1) := by decide +kernel
theorem dX8_refusedMissing_22 : decode cX8_refusedMissing 22 = .ok (.ireturn, 1) := by decide +kernel
theorem dX8_refusedAt_0 : decode cX8_refusedAt 0 = .ok (.aload_n 0, 1) := by decide +kernel
theorem dX8_refusedAt_1 : decode cX8_refusedAt 1 = .ok (.aload_n 1, 1) := by decide +kernel
theorem dX8_refusedAt_2 : decode cX8_refusedAt 2 = .ok (.invokevirtual 84, 3) := by decide +kernel
theorem dX8_refusedAt_5 : decode cX8_refusedAt 5 = .ok (.istore_n 3, 1) := by decide +kernel
theorem dX8_refusedAt_6 : decode cX8_refusedAt 6 = .ok (.aload_n 1, 1) := by decide +kernel
theorem dX8_refusedAt_7 : decode cX8_refusedAt 7 = .ok (.ifnull 7, 3) := by decide +kernel
theorem dX8_refusedAt_10 : decode cX8_refusedAt 10 = .ok (.iload_n 3, 1) := by decide +kernel
theorem dX8_refusedAt_11 : decode cX8_refusedAt 11 = .ok (.ifCond .eq 5, 3) := by decide +kernel
theorem dX8_refusedAt_14 : decode cX8_refusedAt 14 = .ok (.iload_n 3, 1) := by decide +kernel
theorem dX8_refusedAt_15 : decode cX8_refusedAt 15 = .ok (.ireturn, 1) := by decide +kernel
theorem dX8_refusedAt_16 : decode cX8_refusedAt 16 = .ok (.aload_n 1, 1) := by decide +kernel
theorem dX8_refusedAt_17 : decode cX8_refusedAt 17 = .ok (.iload_n 2, 1) := by decide +kernel
theorem dX8_refusedAt_18 : decode cX8_refusedAt 18 = .ok (.invokevirtual 330, 3) := by decide +kernel
theorem dX8_refusedAt_21 : decode cX8_refusedAt 21 = .ok (.ifCond .eq 7, 3) := by decide +kernel
theorem dX8_refusedAt_24 : decode cX8_refusedAt 24 = .ok (.iconst 0, 1) := by decide +kernel
theorem dX8_refusedAt_25 : decode cX8_refusedAt 25 = .ok (.goto 8, 3) := by decide +kernel
theorem dX8_refusedAt_28 : decode cX8_refusedAt 28 = .ok (.aload_n 0, 1) := by decide +kernel
theorem dX8_refusedAt_29 : decode cX8_refusedAt 29 = .ok (.iconst 2, 1) := by decide +kernel
theorem dX8_refusedAt_30 : decode cX8_refusedAt 30 = .ok (.invokevirtual 91, 3) := by decide +kernel
theorem dX8_refusedAt_33 : decode cX8_refusedAt 33 = .ok (.ireturn, 1) := by decide +kernel
theorem dX8_refusedLooks_0 : decode cX8_refusedLooks 0 = .ok (.aload_n 0, 1) := by decide +kernel
theorem dX8_refusedLooks_1 : decode cX8_refusedLooks 1 = .ok (.getfield 21, 3) := by decide +kernel
theorem dX8_refusedLooks_4 : decode cX8_refusedLooks 4 = .ok (.iload_n 1, 1) := by decide +kernel
theorem dX8_refusedLooks_5 : decode cX8_refusedLooks 5 = .ok (.invokevirtual 134, 3) := by decide +kernel
theorem dX8_refusedLooks_8 : decode cX8_refusedLooks 8 = .ok (.ifCond .eq 7, 3) := by decide +kernel
theorem dX8_refusedLooks_11 : decode cX8_refusedLooks 11 = .ok (.aload_n 2, 1) := by decide +kernel
theorem dX8_refusedLooks_12 : decode cX8_refusedLooks 12 = .ok (.ifnonnull 5, 3) := by decide +kernel
theorem dX8_refusedLooks_15 : decode cX8_refusedLooks 15 = .ok (.iconst (-1), 1) := by decide +kernel
theorem dX8_refusedLooks_16 : decode cX8_refusedLooks 16 = .ok (.ireturn, 1) := by decide +kernel
theorem dX8_refusedLooks_17 : decode cX8_refusedLooks 17 = .ok (.aload_n 2, 1) := by decide +kernel
theorem dX8_refusedLooks_18 : decode cX8_refusedLooks 18 = .ok (.invokevirtual 94, 3) := by decide +kernel
theorem dX8_refusedLooks_21 : decode cX8_refusedLooks 21 = .ok (.ifCond .eq 9, 3) := by decide +kernel
theorem dX8_refusedLooks_24 : decode cX8_refusedLooks 24 = .ok (.aload_n 0, 1) := by decide +kernel
theorem dX8_refusedLooks_25 : decode cX8_refusedLooks 25 = .ok (.iconst 1, 1) := by decide +kernel
theorem dX8_refusedLooks_26 : decode cX8_refusedLooks 26 = .ok (.invokevirtual 91, 3) := by decide +kernel
theorem dX8_refusedLooks_29 : decode cX8_refusedLooks 29 = .ok (.ireturn, 1) := by decide +kernel
theorem dX8_refusedLooks_30 : decode cX8_refusedLooks 30 = .ok (.aload_n 2, 1) := by decide +kernel
theorem dX8_refusedLooks_31 : decode cX8_refusedLooks 31 = .ok (.invokevirtual 106, 3) := by decide +kernel
theorem dX8_refusedLooks_34 : decode cX8_refusedLooks 34 = .ok (.iconst 2, 1) := by decide +kernel
theorem dX8_refusedLooks_35 : decode cX8_refusedLooks 35 = .ok (.irem, 1) := by decide +kernel
theorem dX8_refusedLooks_36 : decode cX8_refusedLooks 36 = .ok (.ifCond .eq 9, 3) := by decide +kernel
theorem dX8_refusedLooks_39 : decode cX8_refusedLooks 39 = .ok (.aload_n 0, 1) := by decide +kernel
theorem dX8_refusedLooks_40 : decode cX8_refusedLooks 40 = .ok (.iconst 5, 1) := by decide +kernel
theorem dX8_refusedLooks_41 : decode cX8_refusedLooks 41 = .ok (.invokevirtual 91, 3) := by decide +kernel
theorem dX8_refusedLooks_44 : decode cX8_refusedLooks 44 = .ok (.ireturn, 1) := by decide +kernel
theorem dX8_refusedLooks_45 : decode cX8_refusedLooks 45 = .ok (.aload_n 2, 1) := by decide +kernel
theorem dX8_refusedLooks_46 : decode cX8_refusedLooks 46 = .ok (.invokestatic 333, 3) := by decide +kernel
theorem dX8_refusedLooks_49 : decode cX8_refusedLooks 49 = .ok (.ifCond .eq 7, 3) := by decide +kernel
theorem dX8_refusedLooks_52 : decode cX8_refusedLooks 52 = .ok (.iconst 0, 1) := by decide +kernel
theorem dX8_refusedLooks_53 : decode cX8_refusedLooks 53 = .ok (.goto 8, 3) := by decide +kernel
theorem dX8_refusedLooks_56 : decode cX8_refusedLooks 56 = .ok (.aload_n 0, 1) := by decide +kernel
theorem dX8_refusedLooks_57 : decode cX8_refusedLooks 57 = .ok (.iconst 3, 1) := by decide +kernel
theorem dX8_refusedLooks_58 : decode cX8_refusedLooks 58 = .ok (.invokevirtual 91, 3) := by decide +kernel
theorem dX8_refusedLooks_61 : decode cX8_refusedLooks 61 = .ok (.ireturn, 1) := by decide +kernel
theorem dX8_makeAnew_0 : decode cX8_makeAnew 0 = .ok (.aload_n 1, 1) := by decide +kernel
theorem dX8_makeAnew_1 : decode cX8_makeAnew 1 = .ok (.ifnull 11, 3) := by decide +kernel
theorem dX8_makeAnew_4 : decode cX8_makeAnew 4 = .ok (.iload_n 2, 1) := by decide +kernel
theorem dX8_makeAnew_5 : decode cX8_makeAnew 5 = .ok (.aload_n 1, 1) := by decide +kernel
theorem dX8_makeAnew_6 : decode cX8_makeAnew 6 = .ok (.invokevirtual 336, 3) := by decide +kernel
theorem dX8_makeAnew_9 : decode cX8_makeAnew 9 = .ok (.if_icmp .le 5, 3) := by decide +kernel
theorem dX8_makeAnew_12 : decode cX8_makeAnew 12 = .ok (.iconst (-1), 1) := by decide +kernel
theorem dX8_makeAnew_13 : decode cX8_makeAnew 13 = .ok (.ireturn, 1) := by decide +kernel
theorem dX8_makeAnew_14 : decode cX8_makeAnew 14 = .ok (.iload_n 2, 1) := by decide +kernel
theorem dX8_makeAnew_15 : decode cX8_makeAnew 15 = .ok (.ifCond .ge 9, 3) := by decide +kernel
theorem dX8_makeAnew_18 : decode cX8_makeAnew 18 = .ok (.aload_n 0, 1) := by decide +kernel
theorem dX8_makeAnew_19 : decode cX8_makeAnew 19 = .ok (.iconst 5, 1) := by decide +kernel
theorem dX8_makeAnew_20 : decode cX8_makeAnew 20 = .ok (.invokevirtual 91, 3) := by decide +kernel
theorem dX8_makeAnew_23 : decode cX8_makeAnew 23 = .ok (.ireturn, 1) := by decide +kernel
theorem dX8_makeAnew_24 : decode cX8_makeAnew 24 = .ok (.aload_n 1, 1) := by decide +kernel
theorem dX8_makeAnew_25 : decode cX8_makeAnew 25 = .ok (.iload_n 2, 1) := by decide +kernel
theorem dX8_makeAnew_26 : decode cX8_makeAnew 26 = .ok (.iload_n 3, 1) := by decide +kernel
theorem dX8_makeAnew_27 : decode cX8_makeAnew 27 = .ok (.invokevirtual 339, 3) := by decide +kernel
theorem dX8_makeAnew_30 : decode cX8_makeAnew 30 = .ok (.iload_n 2, 1) := by decide +kernel
theorem dX8_makeAnew_31 : decode cX8_makeAnew 31 = .ok (.ireturn, 1) := by decide +kernel
theorem dX8_tellInLowestTerms_0 : decode cX8_tellInLowestTerms 0 = .ok (.lload_n 1, 1) := by decide +kernel
theorem dX8_tellInLowestTerms_1 : decode cX8_tellInLowestTerms 1 = .ok (.lload_n 3, 1) := by decide +kernel
theorem dX8_tellInLowestTerms_2 : decode cX8_tellInLowestTerms 2 = .ok (.invokestatic 342, 3) := by decide +kernel
theorem dX8_tellInLowestTerms_5 : decode cX8_tellInLowestTerms 5 = .ok (.lstore 5, 2) := by decide +kernel
theorem dX8_tellInLowestTerms_7 : decode cX8_tellInLowestTerms 7 = .ok (.lload 5, 2) := by decide +kernel
theorem dX8_tellInLowestTerms_9 : decode cX8_tellInLowestTerms 9 = .ok (.lconst 0, 1) := by decide +kernel
theorem dX8_tellInLowestTerms_10 : decode cX8_tellInLowestTerms 10 = .ok (.lcmp, 1) := by decide +kernel
theorem dX8_tellInLowestTerms_11 : decode cX8_tellInLowestTerms 11 = .ok (.ifCond .le 19, 3) := by decide +kernel
theorem dX8_tellInLowestTerms_14 : decode cX8_tellInLowestTerms 14 = .ok (.aload_n 0, 1) := by decide +kernel
theorem dX8_tellInLowestTerms_15 : decode cX8_tellInLowestTerms 15 = .ok (.lload_n 1, 1) := by decide +kernel
theorem dX8_tellInLowestTerms_16 : decode cX8_tellInLowestTerms 16 = .ok (.lload 5, 2) := by decide +kernel
theorem dX8_tellInLowestTerms_18 : decode cX8_tellInLowestTerms 18 = .ok (.ldiv, 1) := by decide +kernel
theorem dX8_tellInLowestTerms_19 : decode cX8_tellInLowestTerms 19 = .ok (.putfield 54, 3) := by decide +kernel
theorem dX8_tellInLowestTerms_22 : decode cX8_tellInLowestTerms 22 = .ok (.aload_n 0, 1) := by decide +kernel
theorem dX8_tellInLowestTerms_23 : decode cX8_tellInLowestTerms 23 = .ok (.lload_n 3, 1) := by decide +kernel
theorem dX8_tellInLowestTerms_24 : decode cX8_tellInLowestTerms 24 = .ok (.lload 5, 2) := by decide +kernel
theorem dX8_tellInLowestTerms_26 : decode cX8_tellInLowestTerms 26 = .ok (.ldiv, 1) := by decide +kernel
theorem dX8_tellInLowestTerms_27 : decode cX8_tellInLowestTerms 27 = .ok (.putfield 58, 3) := by decide +kernel
theorem dX8_tellInLowestTerms_30 : decode cX8_tellInLowestTerms 30 = .ok (.return_, 1) := by decide +kernel
theorem dX8_greatestDivisor_0 : decode cX8_greatestDivisor 0 = .ok (.lload_n 0, 1) := by decide +kernel
theorem dX8_greatestDivisor_1 : decode cX8_greatestDivisor 1 = .ok (.lstore 4, 2) := by decide +kernel
theorem dX8_greatestDivisor_3 : decode cX8_greatestDivisor 3 = .ok (.lload_n 2, 1) := by decide +kernel
theorem dX8_greatestDivisor_4 : decode cX8_greatestDivisor 4 = .ok (.lstore 6, 2) := by decide +kernel
theorem dX8_greatestDivisor_6 : decode cX8_greatestDivisor 6 = .ok (.iconst 0, 1) := by decide +kernel
theorem dX8_greatestDivisor_7 : decode cX8_greatestDivisor 7 = .ok (.istore 8, 2) := by decide +kernel
theorem dX8_greatestDivisor_9 : decode cX8_greatestDivisor 9 = .ok (.iload 8, 2) := by decide +kernel
theorem dX8_greatestDivisor_11 : decode cX8_greatestDivisor 11 = .ok (.sipush 200, 3) := by decide +kernel
theorem dX8_greatestDivisor_14 : decode cX8_greatestDivisor 14 = .ok (.if_icmp .ge 31, 3) := by decide +kernel
theorem dX8_greatestDivisor_17 : decode cX8_greatestDivisor 17 = .ok (.lload 6, 2) := by decide +kernel
theorem dX8_greatestDivisor_19 : decode cX8_greatestDivisor 19 = .ok (.lconst 0, 1) := by decide +kernel
theorem dX8_greatestDivisor_20 : decode cX8_greatestDivisor 20 = .ok (.lcmp, 1) := by decide +kernel
theorem dX8_greatestDivisor_21 : decode cX8_greatestDivisor 21 = .ok (.ifCond .eq 24, 3) := by decide +kernel
theorem dX8_greatestDivisor_24 : decode cX8_greatestDivisor 24 = .ok (.lload 4, 2) := by decide +kernel
theorem dX8_greatestDivisor_26 : decode cX8_greatestDivisor 26 = .ok (.lload 6, 2) := by decide +kernel
theorem dX8_greatestDivisor_28 : decode cX8_greatestDivisor 28 = .ok (.lrem, 1) := by decide +kernel
theorem dX8_greatestDivisor_29 : decode cX8_greatestDivisor 29 = .ok (.lstore 9, 2) := by decide +kernel
theorem dX8_greatestDivisor_31 : decode cX8_greatestDivisor 31 = .ok (.lload 6, 2) := by decide +kernel
theorem dX8_greatestDivisor_33 : decode cX8_greatestDivisor 33 = .ok (.lstore 4, 2) := by decide +kernel
theorem dX8_greatestDivisor_35 : decode cX8_greatestDivisor 35 = .ok (.lload 9, 2) := by decide +kernel
theorem dX8_greatestDivisor_37 : decode cX8_greatestDivisor 37 = .ok (.lstore 6, 2) := by decide +kernel
theorem dX8_greatestDivisor_39 : decode cX8_greatestDivisor 39 = .ok (.iinc 8 1, 3) := by decide +kernel
theorem dX8_greatestDivisor_42 : decode cX8_greatestDivisor 42 = .ok (.goto (-33), 3) := by decide +kernel
theorem dX8_greatestDivisor_45 : decode cX8_greatestDivisor 45 = .ok (.lload 4, 2) := by decide +kernel
theorem dX8_greatestDivisor_47 : decode cX8_greatestDivisor 47 = .ok (.lreturn, 1) := by decide +kernel
theorem dX8_howManyThere_0 : decode cX8_howManyThere 0 = .ok (.iconst 0, 1) := by decide +kernel
theorem dX8_howManyThere_1 : decode cX8_howManyThere 1 = .ok (.istore_n 1, 1) := by decide +kernel
theorem dX8_howManyThere_2 : decode cX8_howManyThere 2 = .ok (.aload_n 0, 1) := by decide +kernel
theorem dX8_howManyThere_3 : decode cX8_howManyThere 3 = .ok (.astore_n 2, 1) := by decide +kernel
theorem dX8_howManyThere_4 : decode cX8_howManyThere 4 = .ok (.aload_n 2, 1) := by decide +kernel
theorem dX8_howManyThere_5 : decode cX8_howManyThere 5 = .ok (.arraylength, 1) := by decide +kernel
theorem dX8_howManyThere_6 : decode cX8_howManyThere 6 = .ok (.istore_n 3, 1) := by decide +kernel
theorem dX8_howManyThere_7 : decode cX8_howManyThere 7 = .ok (.iconst 0, 1) := by decide +kernel
theorem dX8_howManyThere_8 : decode cX8_howManyThere 8 = .ok (.istore 4, 2) := by decide +kernel
theorem dX8_howManyThere_10 : decode cX8_howManyThere 10 = .ok (.iload 4, 2) := by decide +kernel
theorem dX8_howManyThere_12 : decode cX8_howManyThere 12 = .ok (.iload_n 3, 1) := by decide +kernel
theorem dX8_howManyThere_13 : decode cX8_howManyThere 13 = .ok (.if_icmp .ge 31, 3) := by decide +kernel
theorem dX8_howManyThere_16 : decode cX8_howManyThere 16 = .ok (.aload_n 2, 1) := by decide +kernel
theorem dX8_howManyThere_17 : decode cX8_howManyThere 17 = .ok (.iload 4, 2) := by decide +kernel
theorem dX8_howManyThere_19 : decode cX8_howManyThere 19 = .ok (.aaload, 1) := by decide +kernel
theorem dX8_howManyThere_20 : decode cX8_howManyThere 20 = .ok (.astore 5, 2) := by decide +kernel
theorem dX8_howManyThere_22 : decode cX8_howManyThere 22 = .ok (.aload 5, 2) := by decide +kernel
theorem dX8_howManyThere_24 : decode cX8_howManyThere 24 = .ok (.ifnull 14, 3) := by decide +kernel
theorem dX8_howManyThere_27 : decode cX8_howManyThere 27 = .ok (.aload 5, 2) := by decide +kernel
theorem dX8_howManyThere_29 : decode cX8_howManyThere 29 = .ok (.invokevirtual 94, 3) := by decide +kernel
theorem dX8_howManyThere_32 : decode cX8_howManyThere 32 = .ok (.ifCond .ne 6, 3) := by decide +kernel
theorem dX8_howManyThere_35 : decode cX8_howManyThere 35 = .ok (.iinc 1 1, 3) := by decide +kernel
theorem dX8_howManyThere_38 : decode cX8_howManyThere 38 = .ok (.iinc 4 1, 3) := by decide +kernel
theorem dX8_howManyThere_41 : decode cX8_howManyThere 41 = .ok (.goto (-31), 3) := by decide +kernel
theorem dX8_howManyThere_44 : decode cX8_howManyThere 44 = .ok (.iload_n 1, 1) := by decide +kernel
theorem dX8_howManyThere_45 : decode cX8_howManyThere 45 = .ok (.ireturn, 1) := by decide +kernel
theorem dX8_howManyKept_0 : decode cX8_howManyKept 0 = .ok (.iconst 0, 1) := by decide +kernel
theorem dX8_howManyKept_1 : decode cX8_howManyKept 1 = .ok (.istore_n 1, 1) := by decide +kernel
theorem dX8_howManyKept_2 : decode cX8_howManyKept 2 = .ok (.aload_n 0, 1) := by decide +kernel
theorem dX8_howManyKept_3 : decode cX8_howManyKept 3 = .ok (.getfield 25, 3) := by decide +kernel
theorem dX8_howManyKept_6 : decode cX8_howManyKept 6 = .ok (.astore_n 2, 1) := by decide +kernel
theorem dX8_howManyKept_7 : decode cX8_howManyKept 7 = .ok (.aload_n 2, 1) := by decide +kernel
theorem dX8_howManyKept_8 : decode cX8_howManyKept 8 = .ok (.arraylength, 1) := by decide +kernel
theorem dX8_howManyKept_9 : decode cX8_howManyKept 9 = .ok (.istore_n 3, 1) := by decide +kernel
theorem dX8_howManyKept_10 : decode cX8_howManyKept 10 = .ok (.iconst 0, 1) := by decide +kernel
theorem dX8_howManyKept_11 : decode cX8_howManyKept 11 = .ok (.istore 4, 2) := by decide +kernel
theorem dX8_howManyKept_13 : decode cX8_howManyKept 13 = .ok (.iload 4, 2) := by decide +kernel
theorem dX8_howManyKept_15 : decode cX8_howManyKept 15 = .ok (.iload_n 3, 1) := by decide +kernel
theorem dX8_howManyKept_16 : decode cX8_howManyKept 16 = .ok (.if_icmp .ge 31, 3) := by decide +kernel
theorem dX8_howManyKept_19 : decode cX8_howManyKept 19 = .ok (.aload_n 2, 1) := by decide +kernel
theorem dX8_howManyKept_20 : decode cX8_howManyKept 20 = .ok (.iload 4, 2) := by decide +kernel
theorem dX8_howManyKept_22 : decode cX8_howManyKept 22 = .ok (.aaload, 1) := by decide +kernel
theorem dX8_howManyKept_23 : decode cX8_howManyKept 23 = .ok (.astore 5, 2) := by decide +kernel
theorem dX8_howManyKept_25 : decode cX8_howManyKept 25 = .ok (.aload 5, 2) := by decide +kernel
theorem dX8_howManyKept_27 : decode cX8_howManyKept 27 = .ok (.ifnull 14, 3) := by decide +kernel
theorem dX8_howManyKept_30 : decode cX8_howManyKept 30 = .ok (.aload 5, 2) := by decide +kernel
theorem dX8_howManyKept_32 : decode cX8_howManyKept 32 = .ok (.invokevirtual 133, 3) := by decide +kernel
theorem dX8_howManyKept_35 : decode cX8_howManyKept 35 = .ok (.ifCond .le 6, 3) := by decide +kernel
theorem dX8_howManyKept_38 : decode cX8_howManyKept 38 = .ok (.iinc 1 1, 3) := by decide +kernel
theorem dX8_howManyKept_41 : decode cX8_howManyKept 41 = .ok (.iinc 4 1, 3) := by decide +kernel
theorem dX8_howManyKept_44 : decode cX8_howManyKept 44 = .ok (.goto (-31), 3) := by decide +kernel
theorem dX8_howManyKept_47 : decode cX8_howManyKept 47 = .ok (.iload_n 1, 1) := by decide +kernel
theorem dX8_howManyKept_48 : decode cX8_howManyKept 48 = .ok (.ireturn, 1) := by decide +kernel
theorem dX8_digestOf_0 : decode cX8_digestOf 0 = .ok (.lload_n 0, 1) := by decide +kernel
theorem dX8_digestOf_1 : decode cX8_digestOf 1 = .ok (.lstore_n 3, 1) := by decide +kernel
theorem dX8_digestOf_2 : decode cX8_digestOf 2 = .ok (.aload_n 2, 1) := by decide +kernel
theorem dX8_digestOf_3 : decode cX8_digestOf 3 = .ok (.astore 5, 2) := by decide +kernel
theorem dX8_digestOf_5 : decode cX8_digestOf 5 = .ok (.aload 5, 2) := by decide +kernel
theorem dX8_digestOf_7 : decode cX8_digestOf 7 = .ok (.arraylength, 1) := by decide +kernel
theorem dX8_digestOf_8 : decode cX8_digestOf 8 = .ok (.istore 6, 2) := by decide +kernel
theorem dX8_digestOf_10 : decode cX8_digestOf 10 = .ok (.iconst 0, 1) := by decide +kernel
theorem dX8_digestOf_11 : decode cX8_digestOf 11 = .ok (.istore 7, 2) := by decide +kernel
theorem dX8_digestOf_13 : decode cX8_digestOf 13 = .ok (.iload 7, 2) := by decide +kernel
theorem dX8_digestOf_15 : decode cX8_digestOf 15 = .ok (.iload 6, 2) := by decide +kernel
theorem dX8_digestOf_17 : decode cX8_digestOf 17 = .ok (.if_icmp .ge 68, 3) := by decide +kernel
theorem dX8_digestOf_20 : decode cX8_digestOf 20 = .ok (.aload 5, 2) := by decide +kernel
theorem dX8_digestOf_22 : decode cX8_digestOf 22 = .ok (.iload 7, 2) := by decide +kernel
theorem dX8_digestOf_24 : decode cX8_digestOf 24 = .ok (.aaload, 1) := by decide +kernel
theorem dX8_digestOf_25 : decode cX8_digestOf 25 = .ok (.astore 8, 2) := by decide +kernel
theorem dX8_digestOf_27 : decode cX8_digestOf 27 = .ok (.aload 8, 2) := by decide +kernel
theorem dX8_digestOf_29 : decode cX8_digestOf 29 = .ok (.ifnull 50, 3) := by decide +kernel
theorem dX8_digestOf_32 : decode cX8_digestOf 32 = .ok (.ldc2_w 321, 3) := by decide +kernel
theorem dX8_digestOf_35 : decode cX8_digestOf 35 = .ok (.lload_n 3, 1) := by decide +kernel
theorem dX8_digestOf_36 : decode cX8_digestOf 36 = .ok (.lmul, 1) := by decide +kernel
theorem dX8_digestOf_37 : decode cX8_digestOf 37 = .ok (.aload 8, 2) := by decide +kernel
theorem dX8_digestOf_39 : decode cX8_digestOf 39 = .ok (.invokevirtual 106, 3) := by decide +kernel
theorem dX8_digestOf_42 : decode cX8_digestOf 42 = .ok (.i2l, 1) := by decide +kernel
theorem dX8_digestOf_43 : decode cX8_digestOf 43 = .ok (.ladd, 1) := by decide +kernel
theorem dX8_digestOf_44 : decode cX8_digestOf 44 = .ok (.lstore_n 3, 1) := by decide +kernel
theorem dX8_digestOf_45 : decode cX8_digestOf 45 = .ok (.iconst 0, 1) := by decide +kernel
theorem dX8_digestOf_46 : decode cX8_digestOf 46 = .ok (.istore 9, 2) := by decide +kernel
theorem dX8_digestOf_48 : decode cX8_digestOf 48 = .ok (.iload 9, 2) := by decide +kernel
theorem dX8_digestOf_50 : decode cX8_digestOf 50 = .ok (.aload 8, 2) := by decide +kernel
theorem dX8_digestOf_52 : decode cX8_digestOf 52 = .ok (.invokevirtual 106, 3) := by decide +kernel
theorem dX8_digestOf_55 : decode cX8_digestOf 55 = .ok (.if_icmp .ge 24, 3) := by decide +kernel
theorem dX8_digestOf_58 : decode cX8_digestOf 58 = .ok (.ldc2_w 321, 3) := by decide +kernel
theorem dX8_digestOf_61 : decode cX8_digestOf 61 = .ok (.lload_n 3, 1) := by decide +kernel
theorem dX8_digestOf_62 : decode cX8_digestOf 62 = .ok (.lmul, 1) := by decide +kernel
theorem dX8_digestOf_63 : decode cX8_digestOf 63 = .ok (.aload 8, 2) := by decide +kernel
theorem dX8_digestOf_65 : decode cX8_digestOf 65 = .ok (.iload 9, 2) := by decide +kernel
theorem dX8_digestOf_67 : decode cX8_digestOf 67 = .ok (.invokevirtual 76, 3) := by decide +kernel
theorem dX8_digestOf_70 : decode cX8_digestOf 70 = .ok (.i2l, 1) := by decide +kernel
theorem dX8_digestOf_71 : decode cX8_digestOf 71 = .ok (.ladd, 1) := by decide +kernel
theorem dX8_digestOf_72 : decode cX8_digestOf 72 = .ok (.lstore_n 3, 1) := by decide +kernel
theorem dX8_digestOf_73 : decode cX8_digestOf 73 = .ok (.iinc 9 1, 3) := by decide +kernel
theorem dX8_digestOf_76 : decode cX8_digestOf 76 = .ok (.goto (-28), 3) := by decide +kernel
theorem dX8_digestOf_79 : decode cX8_digestOf 79 = .ok (.iinc 7 1, 3) := by decide +kernel
theorem dX8_digestOf_82 : decode cX8_digestOf 82 = .ok (.goto (-69), 3) := by decide +kernel
theorem dX8_digestOf_85 : decode cX8_digestOf 85 = .ok (.lload_n 3, 1) := by decide +kernel
theorem dX8_digestOf_86 : decode cX8_digestOf 86 = .ok (.lreturn, 1) := by decide +kernel
theorem dJ6_bitCount_0f7a4_0 : decode cJ6_bitCount_0f7a4 0 = .ok (.iload_n 0, 1) := by decide +kernel
theorem dJ6_bitCount_0f7a4_1 : decode cJ6_bitCount_0f7a4 1 = .ok (.iload_n 0, 1) := by decide +kernel
theorem dJ6_bitCount_0f7a4_2 : decode cJ6_bitCount_0f7a4 2 = .ok (.iconst 1, 1) := by decide +kernel
theorem dJ6_bitCount_0f7a4_3 : decode cJ6_bitCount_0f7a4 3 = .ok (.iushr, 1) := by decide +kernel
theorem dJ6_bitCount_0f7a4_4 : decode cJ6_bitCount_0f7a4 4 = .ok (.ldc_w 265, 3) := by decide +kernel
theorem dJ6_bitCount_0f7a4_7 : decode cJ6_bitCount_0f7a4 7 = .ok (.iand, 1) := by decide +kernel
theorem dJ6_bitCount_0f7a4_8 : decode cJ6_bitCount_0f7a4 8 = .ok (.isub, 1) := by decide +kernel
theorem dJ6_bitCount_0f7a4_9 : decode cJ6_bitCount_0f7a4 9 = .ok (.istore_n 0, 1) := by decide +kernel
theorem dJ6_bitCount_0f7a4_10 : decode cJ6_bitCount_0f7a4 10 = .ok (.iload_n 0, 1) := by decide +kernel
theorem dJ6_bitCount_0f7a4_11 : decode cJ6_bitCount_0f7a4 11 = .ok (.ldc_w 266, 3) := by decide +kernel
theorem dJ6_bitCount_0f7a4_14 : decode cJ6_bitCount_0f7a4 14 = .ok (.iand, 1) := by decide +kernel
theorem dJ6_bitCount_0f7a4_15 : decode cJ6_bitCount_0f7a4 15 = .ok (.iload_n 0, 1) := by decide +kernel
theorem dJ6_bitCount_0f7a4_16 : decode cJ6_bitCount_0f7a4 16 = .ok (.iconst 2, 1) := by decide +kernel
theorem dJ6_bitCount_0f7a4_17 : decode cJ6_bitCount_0f7a4 17 = .ok (.iushr, 1) := by decide +kernel
theorem dJ6_bitCount_0f7a4_18 : decode cJ6_bitCount_0f7a4 18 = .ok (.ldc_w 266, 3) := by decide +kernel
theorem dJ6_bitCount_0f7a4_21 : decode cJ6_bitCount_0f7a4 21 = .ok (.iand, 1) := by decide +kernel
theorem dJ6_bitCount_0f7a4_22 : decode cJ6_bitCount_0f7a4 22 = .ok (.iadd, 1) := by decide +kernel
theorem dJ6_bitCount_0f7a4_23 : decode cJ6_bitCount_0f7a4 23 = .ok (.istore_n 0, 1) := by decide +kernel
theorem dJ6_bitCount_0f7a4_24 : decode cJ6_bitCount_0f7a4 24 = .ok (.iload_n 0, 1) := by decide +kernel
theorem dJ6_bitCount_0f7a4_25 : decode cJ6_bitCount_0f7a4 25 = .ok (.iload_n 0, 1) := by decide +kernel
theorem dJ6_bitCount_0f7a4_26 : decode cJ6_bitCount_0f7a4 26 = .ok (.iconst 4, 1) := by decide +kernel
theorem dJ6_bitCount_0f7a4_27 : decode cJ6_bitCount_0f7a4 27 = .ok (.iushr, 1) := by decide +kernel
theorem dJ6_bitCount_0f7a4_28 : decode cJ6_bitCount_0f7a4 28 = .ok (.iadd, 1) := by decide +kernel
theorem dJ6_bitCount_0f7a4_29 : decode cJ6_bitCount_0f7a4 29 = .ok (.ldc_w 267, 3) := by decide +kernel
theorem dJ6_bitCount_0f7a4_32 : decode cJ6_bitCount_0f7a4 32 = .ok (.iand, 1) := by decide +kernel
theorem dJ6_bitCount_0f7a4_33 : decode cJ6_bitCount_0f7a4 33 = .ok (.istore_n 0, 1) := by decide +kernel
theorem dJ6_bitCount_0f7a4_34 : decode cJ6_bitCount_0f7a4 34 = .ok (.iload_n 0, 1) := by decide +kernel
theorem dJ6_bitCount_0f7a4_35 : decode cJ6_bitCount_0f7a4 35 = .ok (.iload_n 0, 1) := by decide +kernel
theorem dJ6_bitCount_0f7a4_36 : decode cJ6_bitCount_0f7a4 36 = .ok (.bipush 8, 2) := by decide +kernel
theorem dJ6_bitCount_0f7a4_38 : decode cJ6_bitCount_0f7a4 38 = .ok (.iushr, 1) := by decide +kernel
theorem dJ6_bitCount_0f7a4_39 : decode cJ6_bitCount_0f7a4 39 = .ok (.iadd, 1) := by decide +kernel
theorem dJ6_bitCount_0f7a4_40 : decode cJ6_bitCount_0f7a4 40 = .ok (.istore_n 0, 1) := by decide +kernel
theorem dJ6_bitCount_0f7a4_41 : decode cJ6_bitCount_0f7a4 41 = .ok (.iload_n 0, 1) := by decide +kernel
theorem dJ6_bitCount_0f7a4_42 : decode cJ6_bitCount_0f7a4 42 = .ok (.iload_n 0, 1) := by decide +kernel
theorem dJ6_bitCount_0f7a4_43 : decode cJ6_bitCount_0f7a4 43 = .ok (.bipush 16, 2) := by decide +kernel
theorem dJ6_bitCount_0f7a4_45 : decode cJ6_bitCount_0f7a4 45 = .ok (.iushr, 1) := by decide +kernel
theorem dJ6_bitCount_0f7a4_46 : decode cJ6_bitCount_0f7a4 46 = .ok (.iadd, 1) := by decide +kernel
theorem dJ6_bitCount_0f7a4_47 : decode cJ6_bitCount_0f7a4 47 = .ok (.istore_n 0, 1) := by decide +kernel
theorem dJ6_bitCount_0f7a4_48 : decode cJ6_bitCount_0f7a4 48 = .ok (.iload_n 0, 1) := by decide +kernel
theorem dJ6_bitCount_0f7a4_49 : decode cJ6_bitCount_0f7a4 49 = .ok (.bipush 63, 2) := by decide +kernel
theorem dJ6_bitCount_0f7a4_51 : decode cJ6_bitCount_0f7a4 51 = .ok (.iand, 1) := by decide +kernel
theorem dJ6_bitCount_0f7a4_52 : decode cJ6_bitCount_0f7a4 52 = .ok (.ireturn, 1) := by decide +kernel
theorem dJ9_abs_0f7a4_0 : decode cJ9_abs_0f7a4 0 = .ok (.iload_n 0, 1) := by decide +kernel
theorem dJ9_abs_0f7a4_1 : decode cJ9_abs_0f7a4 1 = .ok (.ifCond .ge 8, 3) := by decide +kernel
theorem dJ9_abs_0f7a4_4 : decode cJ9_abs_0f7a4 4 = .ok (.iload_n 0, 1) := by decide +kernel
theorem dJ9_abs_0f7a4_5 : decode cJ9_abs_0f7a4 5 = .ok (.ineg, 1) := by decide +kernel
theorem dJ9_abs_0f7a4_6 : decode cJ9_abs_0f7a4 6 = .ok (.goto 4, 3) := by decide +kernel
theorem dJ9_abs_0f7a4_9 : decode cJ9_abs_0f7a4 9 = .ok (.iload_n 0, 1) := by decide +kernel
theorem dJ9_abs_0f7a4_10 : decode cJ9_abs_0f7a4 10 = .ok (.ireturn, 1) := by decide +kernel
theorem dJ9_max_7cf53_0 : decode cJ9_max_7cf53 0 = .ok (.iload_n 0, 1) := by decide +kernel
theorem dJ9_max_7cf53_1 : decode cJ9_max_7cf53 1 = .ok (.iload_n 1, 1) := by decide +kernel
theorem dJ9_max_7cf53_2 : decode cJ9_max_7cf53 2 = .ok (.if_icmp .lt 7, 3) := by decide +kernel
theorem dJ9_max_7cf53_5 : decode cJ9_max_7cf53 5 = .ok (.iload_n 0, 1) := by decide +kernel
theorem dJ9_max_7cf53_6 : decode cJ9_max_7cf53 6 = .ok (.goto 4, 3) := by decide +kernel
theorem dJ9_max_7cf53_9 : decode cJ9_max_7cf53 9 = .ok (.iload_n 1, 1) := by decide +kernel
theorem dJ9_max_7cf53_10 : decode cJ9_max_7cf53 10 = .ok (.ireturn, 1) := by decide +kernel
theorem dJ9_min_7cf53_0 : decode cJ9_min_7cf53 0 = .ok (.iload_n 0, 1) := by decide +kernel
theorem dJ9_min_7cf53_1 : decode cJ9_min_7cf53 1 = .ok (.iload_n 1, 1) := by decide +kernel
theorem dJ9_min_7cf53_2 : decode cJ9_min_7cf53 2 = .ok (.if_icmp .gt 7, 3) := by decide +kernel
theorem dJ9_min_7cf53_5 : decode cJ9_min_7cf53 5 = .ok (.iload_n 0, 1) := by decide +kernel
theorem dJ9_min_7cf53_6 : decode cJ9_min_7cf53 6 = .ok (.goto 4, 3) := by decide +kernel
theorem dJ9_min_7cf53_9 : decode cJ9_min_7cf53 9 = .ok (.iload_n 1, 1) := by decide +kernel
theorem dJ9_min_7cf53_10 : decode cJ9_min_7cf53 10 = .ok (.ireturn, 1) := by decide +kernel
