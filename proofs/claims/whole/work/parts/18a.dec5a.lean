theorem dX5_init_0 : decode cX5_init 0 = .ok (.aload_n 0, 1) := by decide +kernel
theorem dX5_init_1 : decode cX5_init 1 = .ok (.invokespecial 1, 3) := by decide +kernel
theorem dX5_init_4 : decode cX5_init 4 = .ok (.aload_n 0, 1) := by decide +kernel
theorem dX5_init_5 : decode cX5_init 5 = .ok (.iconst 5, 1) := by decide +kernel
theorem dX5_init_6 : decode cX5_init 6 = .ok (.newarray .int, 2) := by decide +kernel
theorem dX5_init_8 : decode cX5_init 8 = .ok (.putfield 7, 3) := by decide +kernel
theorem dX5_init_11 : decode cX5_init 11 = .ok (.aload_n 0, 1) := by decide +kernel
theorem dX5_init_12 : decode cX5_init 12 = .ok (.iconst 5, 1) := by decide +kernel
theorem dX5_init_13 : decode cX5_init 13 = .ok (.newarray .int, 2) := by decide +kernel
theorem dX5_init_15 : decode cX5_init 15 = .ok (.putfield 13, 3) := by decide +kernel
theorem dX5_init_18 : decode cX5_init 18 = .ok (.aload_n 0, 1) := by decide +kernel
theorem dX5_init_19 : decode cX5_init 19 = .ok (.iconst 5, 1) := by decide +kernel
theorem dX5_init_20 : decode cX5_init 20 = .ok (.newarray .int, 2) := by decide +kernel
theorem dX5_init_22 : decode cX5_init 22 = .ok (.putfield 16, 3) := by decide +kernel
theorem dX5_init_25 : decode cX5_init 25 = .ok (.aload_n 0, 1) := by decide +kernel
theorem dX5_init_26 : decode cX5_init 26 = .ok (.bipush 8, 2) := by decide +kernel
theorem dX5_init_28 : decode cX5_init 28 = .ok (.newarray .int, 2) := by decide +kernel
theorem dX5_init_30 : decode cX5_init 30 = .ok (.putfield 19, 3) := by decide +kernel
theorem dX5_init_33 : decode cX5_init 33 = .ok (.aload_n 0, 1) := by decide +kernel
theorem dX5_init_34 : decode cX5_init 34 = .ok (.bipush 8, 2) := by decide +kernel
theorem dX5_init_36 : decode cX5_init 36 = .ok (.newarray .int, 2) := by decide +kernel
theorem dX5_init_38 : decode cX5_init 38 = .ok (.putfield 22, 3) := by decide +kernel
theorem dX5_init_41 : decode cX5_init 41 = .ok (.aload_n 0, 1) := by decide +kernel
theorem dX5_init_42 : decode cX5_init 42 = .ok (.bipush 40, 2) := by decide +kernel
theorem dX5_init_44 : decode cX5_init 44 = .ok (.newarray .int, 2) := by decide +kernel
theorem dX5_init_46 : decode cX5_init 46 = .ok (.putfield 25, 3) := by decide +kernel
theorem dX5_init_49 : decode cX5_init 49 = .ok (.aload_n 0, 1) := by decide +kernel
theorem dX5_init_50 : decode cX5_init 50 = .ok (.bipush 8, 2) := by decide +kernel
theorem dX5_init_52 : decode cX5_init 52 = .ok (.newarray .boolean, 2) := by decide +kernel
theorem dX5_init_54 : decode cX5_init 54 = .ok (.putfield 28, 3) := by decide +kernel
theorem dX5_init_57 : decode cX5_init 57 = .ok (.aload_n 0, 1) := by decide +kernel
theorem dX5_init_58 : decode cX5_init 58 = .ok (.iconst 5, 1) := by decide +kernel
theorem dX5_init_59 : decode cX5_init 59 = .ok (.newarray .long, 2) := by decide +kernel
theorem dX5_init_61 : decode cX5_init 61 = .ok (.putfield 32, 3) := by decide +kernel
theorem dX5_init_64 : decode cX5_init 64 = .ok (.aload_n 0, 1) := by decide +kernel
theorem dX5_init_65 : decode cX5_init 65 = .ok (.bipush 10, 2) := by decide +kernel
theorem dX5_init_67 : decode cX5_init 67 = .ok (.newarray .long, 2) := by decide +kernel
theorem dX5_init_69 : decode cX5_init 69 = .ok (.putfield 36, 3) := by decide +kernel
theorem dX5_init_72 : decode cX5_init 72 = .ok (.aload_n 0, 1) := by decide +kernel
theorem dX5_init_73 : decode cX5_init 73 = .ok (.bipush 10, 2) := by decide +kernel
theorem dX5_init_75 : decode cX5_init 75 = .ok (.newarray .long, 2) := by decide +kernel
theorem dX5_init_77 : decode cX5_init 77 = .ok (.putfield 39, 3) := by decide +kernel
theorem dX5_init_80 : decode cX5_init 80 = .ok (.aload_n 0, 1) := by decide +kernel
theorem dX5_init_81 : decode cX5_init 81 = .ok (.bipush 10, 2) := by decide +kernel
theorem dX5_init_83 : decode cX5_init 83 = .ok (.newarray .long, 2) := by decide +kernel
theorem dX5_init_85 : decode cX5_init 85 = .ok (.putfield 42, 3) := by decide +kernel
theorem dX5_init_88 : decode cX5_init 88 = .ok (.aload_n 0, 1) := by decide +kernel
theorem dX5_init_89 : decode cX5_init 89 = .ok (.bipush 10, 2) := by decide +kernel
theorem dX5_init_91 : decode cX5_init 91 = .ok (.newarray .long, 2) := by decide +kernel
theorem dX5_init_93 : decode cX5_init 93 = .ok (.putfield 45, 3) := by decide +kernel
theorem dX5_init_96 : decode cX5_init 96 = .ok (.aload_n 0, 1) := by decide +kernel
theorem dX5_init_97 : decode cX5_init 97 = .ok (.bipush 8, 2) := by decide +kernel
theorem dX5_init_99 : decode cX5_init 99 = .ok (.newarray .boolean, 2) := by decide +kernel
theorem dX5_init_101 : decode cX5_init 101 = .ok (.putfield 48, 3) := by decide +kernel
theorem dX5_init_104 : decode cX5_init 104 = .ok (.aload_n 0, 1) := by decide +kernel
theorem dX5_init_105 : decode cX5_init 105 = .ok (.bipush 30, 2) := by decide +kernel
theorem dX5_init_107 : decode cX5_init 107 = .ok (.newarray .long, 2) := by decide +kernel
theorem dX5_init_109 : decode cX5_init 109 = .ok (.putfield 51, 3) := by decide +kernel
theorem dX5_init_112 : decode cX5_init 112 = .ok (.aload_n 0, 1) := by decide +kernel
theorem dX5_init_113 : decode cX5_init 113 = .ok (.bipush 6, 2) := by decide +kernel
theorem dX5_init_115 : decode cX5_init 115 = .ok (.newarray .int, 2) := by decide +kernel
theorem dX5_init_117 : decode cX5_init 117 = .ok (.putfield 54, 3) := by decide +kernel
theorem dX5_init_120 : decode cX5_init 120 = .ok (.aload_n 0, 1) := by decide +kernel
theorem dX5_init_121 : decode cX5_init 121 = .ok (.iconst 5, 1) := by decide +kernel
theorem dX5_init_122 : decode cX5_init 122 = .ok (.newarray .long, 2) := by decide +kernel
theorem dX5_init_124 : decode cX5_init 124 = .ok (.putfield 57, 3) := by decide +kernel
theorem dX5_init_127 : decode cX5_init 127 = .ok (.aload_n 0, 1) := by decide +kernel
theorem dX5_init_128 : decode cX5_init 128 = .ok (.iconst 5, 1) := by decide +kernel
theorem dX5_init_129 : decode cX5_init 129 = .ok (.newarray .int, 2) := by decide +kernel
theorem dX5_init_131 : decode cX5_init 131 = .ok (.putfield 60, 3) := by decide +kernel
theorem dX5_init_134 : decode cX5_init 134 = .ok (.aload_n 0, 1) := by decide +kernel
theorem dX5_init_135 : decode cX5_init 135 = .ok (.iconst 5, 1) := by decide +kernel
theorem dX5_init_136 : decode cX5_init 136 = .ok (.newarray .int, 2) := by decide +kernel
theorem dX5_init_138 : decode cX5_init 138 = .ok (.putfield 63, 3) := by decide +kernel
theorem dX5_init_141 : decode cX5_init 141 = .ok (.return_, 1) := by decide +kernel
theorem dX5_part_0 : decode cX5_part 0 = .ok (.iload_n 1, 1) := by decide +kernel
theorem dX5_part_1 : decode cX5_part 1 = .ok (.bipush 8, 2) := by decide +kernel
theorem dX5_part_3 : decode cX5_part 3 = .ok (.if_icmp .ge 30, 3) := by decide +kernel
theorem dX5_part_6 : decode cX5_part 6 = .ok (.iload_n 2, 1) := by decide +kernel
theorem dX5_part_7 : decode cX5_part 7 = .ok (.iconst 5, 1) := by decide +kernel
theorem dX5_part_8 : decode cX5_part 8 = .ok (.if_icmp .ne 13, 3) := by decide +kernel
theorem dX5_part_11 : decode cX5_part 11 = .ok (.aload_n 0, 1) := by decide +kernel
theorem dX5_part_12 : decode cX5_part 12 = .ok (.getfield 22, 3) := by decide +kernel
theorem dX5_part_15 : decode cX5_part 15 = .ok (.iload_n 1, 1) := by decide +kernel
theorem dX5_part_16 : decode cX5_part 16 = .ok (.iaload, 1) := by decide +kernel
theorem dX5_part_17 : decode cX5_part 17 = .ok (.i2l, 1) := by decide +kernel
theorem dX5_part_18 : decode cX5_part 18 = .ok (.goto 14, 3) := by decide +kernel
theorem dX5_part_21 : decode cX5_part 21 = .ok (.aload_n 0, 1) := by decide +kernel
theorem dX5_part_22 : decode cX5_part 22 = .ok (.getfield 25, 3) := by decide +kernel
theorem dX5_part_25 : decode cX5_part 25 = .ok (.iconst 5, 1) := by decide +kernel
theorem dX5_part_26 : decode cX5_part 26 = .ok (.iload_n 1, 1) := by decide +kernel
theorem dX5_part_27 : decode cX5_part 27 = .ok (.imul, 1) := by decide +kernel
theorem dX5_part_28 : decode cX5_part 28 = .ok (.iload_n 2, 1) := by decide +kernel
theorem dX5_part_29 : decode cX5_part 29 = .ok (.iadd, 1) := by decide +kernel
theorem dX5_part_30 : decode cX5_part 30 = .ok (.iaload, 1) := by decide +kernel
theorem dX5_part_31 : decode cX5_part 31 = .ok (.i2l, 1) := by decide +kernel
theorem dX5_part_32 : decode cX5_part 32 = .ok (.lreturn, 1) := by decide +kernel
theorem dX5_part_33 : decode cX5_part 33 = .ok (.iload_n 1, 1) := by decide +kernel
theorem dX5_part_34 : decode cX5_part 34 = .ok (.bipush 8, 2) := by decide +kernel
theorem dX5_part_36 : decode cX5_part 36 = .ok (.isub, 1) := by decide +kernel
theorem dX5_part_37 : decode cX5_part 37 = .ok (.iconst 5, 1) := by decide +kernel
theorem dX5_part_38 : decode cX5_part 38 = .ok (.irem, 1) := by decide +kernel
theorem dX5_part_39 : decode cX5_part 39 = .ok (.istore_n 3, 1) := by decide +kernel
theorem dX5_part_40 : decode cX5_part 40 = .ok (.iload_n 2, 1) := by decide +kernel
theorem dX5_part_41 : decode cX5_part 41 = .ok (.iconst 5, 1) := by decide +kernel
theorem dX5_part_42 : decode cX5_part 42 = .ok (.if_icmp .ne 29, 3) := by decide +kernel
theorem dX5_part_45 : decode cX5_part 45 = .ok (.iload_n 1, 1) := by decide +kernel
theorem dX5_part_46 : decode cX5_part 46 = .ok (.bipush 13, 2) := by decide +kernel
theorem dX5_part_48 : decode cX5_part 48 = .ok (.if_icmp .ge 13, 3) := by decide +kernel
theorem dX5_part_51 : decode cX5_part 51 = .ok (.aload_n 0, 1) := by decide +kernel
theorem dX5_part_52 : decode cX5_part 52 = .ok (.getfield 7, 3) := by decide +kernel
theorem dX5_part_55 : decode cX5_part 55 = .ok (.iload_n 3, 1) := by decide +kernel
theorem dX5_part_56 : decode cX5_part 56 = .ok (.iaload, 1) := by decide +kernel
theorem dX5_part_57 : decode cX5_part 57 = .ok (.i2l, 1) := by decide +kernel
theorem dX5_part_58 : decode cX5_part 58 = .ok (.goto 23, 3) := by decide +kernel
theorem dX5_part_61 : decode cX5_part 61 = .ok (.aload_n 0, 1) := by decide +kernel
theorem dX5_part_62 : decode cX5_part 62 = .ok (.getfield 13, 3) := by decide +kernel
theorem dX5_part_65 : decode cX5_part 65 = .ok (.iload_n 3, 1) := by decide +kernel
theorem dX5_part_66 : decode cX5_part 66 = .ok (.iaload, 1) := by decide +kernel
theorem dX5_part_67 : decode cX5_part 67 = .ok (.i2l, 1) := by decide +kernel
theorem dX5_part_68 : decode cX5_part 68 = .ok (.goto 13, 3) := by decide +kernel
theorem dX5_part_71 : decode cX5_part 71 = .ok (.iload_n 2, 1) := by decide +kernel
theorem dX5_part_72 : decode cX5_part 72 = .ok (.iload_n 3, 1) := by decide +kernel
theorem dX5_part_73 : decode cX5_part 73 = .ok (.if_icmp .ne 7, 3) := by decide +kernel
theorem dX5_part_76 : decode cX5_part 76 = .ok (.lconst 1, 1) := by decide +kernel
theorem dX5_part_77 : decode cX5_part 77 = .ok (.goto 4, 3) := by decide +kernel
theorem dX5_part_80 : decode cX5_part 80 = .ok (.lconst 0, 1) := by decide +kernel
theorem dX5_part_81 : decode cX5_part 81 = .ok (.lreturn, 1) := by decide +kernel
set_option maxRecDepth 20000 in
theorem ggX5_solve_X5_part : GoodIn wsX5_solve wsX5_part := goodIn_r _ [10, 11, 12, 13, 14, 15, 16, 17, 18, 19, 20, 21, 22, 23, 24, 25, 26, 27, 28, 29, 30, 31, 32, 33, 34, 35, 36, 37, 38, 39, 40, 41, 42] (by decide +kernel) (by decide +kernel)
set_option maxRecDepth 20000 in
theorem gX5_solve_X5_part : GoodIn wsX5_solve (wsV RX5 70 RX5 yX5_part wsX5_part) := goodIn_app (goodIn_of _ (by decide +kernel)) ggX5_solve_X5_part
theorem dX5_solve_0 : decode cX5_solve 0 = .ok (.aload_n 0, 1) := by decide +kernel
theorem dX5_solve_1 : decode cX5_solve 1 = .ok (.getfield 66, 3) := by decide +kernel
theorem dX5_solve_4 : decode cX5_solve 4 = .ok (.istore_n 1, 1) := by decide +kernel
theorem dX5_solve_5 : decode cX5_solve 5 = .ok (.iconst 0, 1) := by decide +kernel
theorem dX5_solve_6 : decode cX5_solve 6 = .ok (.istore_n 2, 1) := by decide +kernel
theorem dX5_solve_7 : decode cX5_solve 7 = .ok (.iload_n 2, 1) := by decide +kernel
theorem dX5_solve_8 : decode cX5_solve 8 = .ok (.iload_n 1, 1) := by decide +kernel
theorem dX5_solve_9 : decode cX5_solve 9 = .ok (.if_icmp .ge 66, 3) := by decide +kernel
theorem dX5_solve_12 : decode cX5_solve 12 = .ok (.iconst 0, 1) := by decide +kernel
theorem dX5_solve_13 : decode cX5_solve 13 = .ok (.istore_n 3, 1) := by decide +kernel
theorem dX5_solve_14 : decode cX5_solve 14 = .ok (.iload_n 3, 1) := by decide +kernel
theorem dX5_solve_15 : decode cX5_solve 15 = .ok (.iload_n 1, 1) := by decide +kernel
theorem dX5_solve_16 : decode cX5_solve 16 = .ok (.if_icmp .ge 31, 3) := by decide +kernel
theorem dX5_solve_19 : decode cX5_solve 19 = .ok (.aload_n 0, 1) := by decide +kernel
theorem dX5_solve_20 : decode cX5_solve 20 = .ok (.getfield 51, 3) := by decide +kernel
theorem dX5_solve_23 : decode cX5_solve 23 = .ok (.bipush 6, 2) := by decide +kernel
theorem dX5_solve_25 : decode cX5_solve 25 = .ok (.iload_n 2, 1) := by decide +kernel
theorem dX5_solve_26 : decode cX5_solve 26 = .ok (.imul, 1) := by decide +kernel
theorem dX5_solve_27 : decode cX5_solve 27 = .ok (.iload_n 3, 1) := by decide +kernel
theorem dX5_solve_28 : decode cX5_solve 28 = .ok (.iadd, 1) := by decide +kernel
theorem dX5_solve_29 : decode cX5_solve 29 = .ok (.aload_n 0, 1) := by decide +kernel
theorem dX5_solve_30 : decode cX5_solve 30 = .ok (.aload_n 0, 1) := by decide +kernel
theorem dX5_solve_31 : decode cX5_solve 31 = .ok (.getfield 54, 3) := by decide +kernel
theorem dX5_solve_34 : decode cX5_solve 34 = .ok (.iload_n 2, 1) := by decide +kernel
theorem dX5_solve_35 : decode cX5_solve 35 = .ok (.iaload, 1) := by decide +kernel
theorem dX5_solve_36 : decode cX5_solve 36 = .ok (.iload_n 3, 1) := by decide +kernel
theorem dX5_solve_37 : decode cX5_solve 37 = .ok (.invokevirtual 70, 3) := by decide +kernel
theorem dX5_solve_40 : decode cX5_solve 40 = .ok (.lastore, 1) := by decide +kernel
theorem dX5_solve_41 : decode cX5_solve 41 = .ok (.iinc 3 1, 3) := by decide +kernel
theorem dX5_solve_44 : decode cX5_solve 44 = .ok (.goto (-30), 3) := by decide +kernel
theorem dX5_solve_47 : decode cX5_solve 47 = .ok (.aload_n 0, 1) := by decide +kernel
theorem dX5_solve_48 : decode cX5_solve 48 = .ok (.getfield 51, 3) := by decide +kernel
theorem dX5_solve_51 : decode cX5_solve 51 = .ok (.bipush 6, 2) := by decide +kernel
theorem dX5_solve_53 : decode cX5_solve 53 = .ok (.iload_n 2, 1) := by decide +kernel
theorem dX5_solve_54 : decode cX5_solve 54 = .ok (.imul, 1) := by decide +kernel
theorem dX5_solve_55 : decode cX5_solve 55 = .ok (.iload_n 1, 1) := by decide +kernel
theorem dX5_solve_56 : decode cX5_solve 56 = .ok (.iadd, 1) := by decide +kernel
theorem dX5_solve_57 : decode cX5_solve 57 = .ok (.aload_n 0, 1) := by decide +kernel
theorem dX5_solve_58 : decode cX5_solve 58 = .ok (.aload_n 0, 1) := by decide +kernel
theorem dX5_solve_59 : decode cX5_solve 59 = .ok (.getfield 54, 3) := by decide +kernel
theorem dX5_solve_62 : decode cX5_solve 62 = .ok (.iload_n 2, 1) := by decide +kernel
theorem dX5_solve_63 : decode cX5_solve 63 = .ok (.iaload, 1) := by decide +kernel
theorem dX5_solve_64 : decode cX5_solve 64 = .ok (.iconst 5, 1) := by decide +kernel
theorem dX5_solve_65 : decode cX5_solve 65 = .ok (.invokevirtual 70, 3) := by decide +kernel
theorem dX5_solve_68 : decode cX5_solve 68 = .ok (.lastore, 1) := by decide +kernel
theorem dX5_solve_69 : decode cX5_solve 69 = .ok (.iinc 2 1, 3) := by decide +kernel
theorem dX5_solve_72 : decode cX5_solve 72 = .ok (.goto (-65), 3) := by decide +kernel
theorem dX5_solve_75 : decode cX5_solve 75 = .ok (.lconst 1, 1) := by decide +kernel
theorem dX5_solve_76 : decode cX5_solve 76 = .ok (.lstore_n 2, 1) := by decide +kernel
theorem dX5_solve_77 : decode cX5_solve 77 = .ok (.iconst 0, 1) := by decide +kernel
theorem dX5_solve_78 : decode cX5_solve 78 = .ok (.istore 4, 2) := by decide +kernel
theorem dX5_solve_80 : decode cX5_solve 80 = .ok (.iload 4, 2) := by decide +kernel
theorem dX5_solve_82 : decode cX5_solve 82 = .ok (.iload_n 1, 1) := by decide +kernel
theorem dX5_solve_83 : decode cX5_solve 83 = .ok (.if_icmp .ge 240, 3) := by decide +kernel
theorem dX5_solve_86 : decode cX5_solve 86 = .ok (.iload 4, 2) := by decide +kernel
theorem dX5_solve_88 : decode cX5_solve 88 = .ok (.istore 5, 2) := by decide +kernel
theorem dX5_solve_90 : decode cX5_solve 90 = .ok (.iload 5, 2) := by decide +kernel
theorem dX5_solve_92 : decode cX5_solve 92 = .ok (.iload_n 1, 1) := by decide +kernel
theorem dX5_solve_93 : decode cX5_solve 93 = .ok (.if_icmp .ge 27, 3) := by decide +kernel
theorem dX5_solve_96 : decode cX5_solve 96 = .ok (.aload_n 0, 1) := by decide +kernel
theorem dX5_solve_97 : decode cX5_solve 97 = .ok (.getfield 51, 3) := by decide +kernel
theorem dX5_solve_100 : decode cX5_solve 100 = .ok (.bipush 6, 2) := by decide +kernel
theorem dX5_solve_102 : decode cX5_solve 102 = .ok (.iload 5, 2) := by decide +kernel
theorem dX5_solve_104 : decode cX5_solve 104 = .ok (.imul, 1) := by decide +kernel
theorem dX5_solve_105 : decode cX5_solve 105 = .ok (.iload 4, 2) := by decide +kernel
theorem dX5_solve_107 : decode cX5_solve 107 = .ok (.iadd, 1) := by decide +kernel
theorem dX5_solve_108 : decode cX5_solve 108 = .ok (.laload, 1) := by decide +kernel
theorem dX5_solve_109 : decode cX5_solve 109 = .ok (.lconst 0, 1) := by decide +kernel
theorem dX5_solve_110 : decode cX5_solve 110 = .ok (.lcmp, 1) := by decide +kernel
theorem dX5_solve_111 : decode cX5_solve 111 = .ok (.ifCond .ne 9, 3) := by decide +kernel
theorem dX5_solve_114 : decode cX5_solve 114 = .ok (.iinc 5 1, 3) := by decide +kernel
theorem dX5_solve_117 : decode cX5_solve 117 = .ok (.goto (-27), 3) := by decide +kernel
theorem dX5_solve_120 : decode cX5_solve 120 = .ok (.iload 5, 2) := by decide +kernel
theorem dX5_solve_122 : decode cX5_solve 122 = .ok (.iload_n 1, 1) := by decide +kernel
theorem dX5_solve_123 : decode cX5_solve 123 = .ok (.if_icmp .ne 5, 3) := by decide +kernel
theorem dX5_solve_126 : decode cX5_solve 126 = .ok (.iconst 0, 1) := by decide +kernel
theorem dX5_solve_127 : decode cX5_solve 127 = .ok (.ireturn, 1) := by decide +kernel
theorem dX5_solve_128 : decode cX5_solve 128 = .ok (.iconst 0, 1) := by decide +kernel
theorem dX5_solve_129 : decode cX5_solve 129 = .ok (.istore 6, 2) := by decide +kernel
theorem dX5_solve_131 : decode cX5_solve 131 = .ok (.iload 6, 2) := by decide +kernel
theorem dX5_solve_133 : decode cX5_solve 133 = .ok (.iload_n 1, 1) := by decide +kernel
theorem dX5_solve_134 : decode cX5_solve 134 = .ok (.if_icmp .gt 65, 3) := by decide +kernel
theorem dX5_solve_137 : decode cX5_solve 137 = .ok (.aload_n 0, 1) := by decide +kernel
theorem dX5_solve_138 : decode cX5_solve 138 = .ok (.getfield 51, 3) := by decide +kernel
theorem dX5_solve_141 : decode cX5_solve 141 = .ok (.bipush 6, 2) := by decide +kernel
theorem dX5_solve_143 : decode cX5_solve 143 = .ok (.iload 4, 2) := by decide +kernel
theorem dX5_solve_145 : decode cX5_solve 145 = .ok (.imul, 1) := by decide +kernel
theorem dX5_solve_146 : decode cX5_solve 146 = .ok (.iload 6, 2) := by decide +kernel
theorem dX5_solve_148 : decode cX5_solve 148 = .ok (.iadd, 1) := by decide +kernel
theorem dX5_solve_149 : decode cX5_solve 149 = .ok (.laload, 1) := by decide +kernel
theorem dX5_solve_150 : decode cX5_solve 150 = .ok (.lstore 7, 2) := by decide +kernel
theorem dX5_solve_152 : decode cX5_solve 152 = .ok (.aload_n 0, 1) := by decide +kernel
theorem dX5_solve_153 : decode cX5_solve 153 = .ok (.getfield 51, 3) := by decide +kernel
theorem dX5_solve_156 : decode cX5_solve 156 = .ok (.bipush 6, 2) := by decide +kernel
theorem dX5_solve_158 : decode cX5_solve 158 = .ok (.iload 4, 2) := by decide +kernel
theorem dX5_solve_160 : decode cX5_solve 160 = .ok (.imul, 1) := by decide +kernel
theorem dX5_solve_161 : decode cX5_solve 161 = .ok (.iload 6, 2) := by decide +kernel
theorem dX5_solve_163 : decode cX5_solve 163 = .ok (.iadd, 1) := by decide +kernel
theorem dX5_solve_164 : decode cX5_solve 164 = .ok (.aload_n 0, 1) := by decide +kernel
theorem dX5_solve_165 : decode cX5_solve 165 = .ok (.getfield 51, 3) := by decide +kernel
theorem dX5_solve_168 : decode cX5_solve 168 = .ok (.bipush 6, 2) := by decide +kernel
theorem dX5_solve_170 : decode cX5_solve 170 = .ok (.iload 5, 2) := by decide +kernel
theorem dX5_solve_172 : decode cX5_solve 172 = .ok (.imul, 1) := by decide +kernel
theorem dX5_solve_173 : decode cX5_solve 173 = .ok (.iload 6, 2) := by decide +kernel
theorem dX5_solve_175 : decode cX5_solve 175 = .ok (.iadd, 1) := by decide +kernel
theorem dX5_solve_176 : decode cX5_solve 176 = .ok (.laload, 1) := by decide +kernel
theorem dX5_solve_177 : decode cX5_solve 177 = .ok (.lastore, 1) := by decide +kernel
theorem dX5_solve_178 : decode cX5_solve 178 = .ok (.aload_n 0, 1) := by decide +kernel
theorem dX5_solve_179 : decode cX5_solve 179 = .ok (.getfield 51, 3) := by decide +kernel
theorem dX5_solve_182 : decode cX5_solve 182 = .ok (.bipush 6, 2) := by decide +kernel
theorem dX5_solve_184 : decode cX5_solve 184 = .ok (.iload 5, 2) := by decide +kernel
theorem dX5_solve_186 : decode cX5_solve 186 = .ok (.imul, 1) := by decide +kernel
theorem dX5_solve_187 : decode cX5_solve 187 = .ok (.iload 6, 2) := by decide +kernel
theorem dX5_solve_189 : decode cX5_solve 189 = .ok (.iadd, 1) := by decide +kernel
theorem dX5_solve_190 : decode cX5_solve 190 = .ok (.lload 7, 2) := by decide +kernel
theorem dX5_solve_192 : decode cX5_solve 192 = .ok (.lastore, 1) := by decide +kernel
theorem dX5_solve_193 : decode cX5_solve 193 = .ok (.iinc 6 1, 3) := by decide +kernel
theorem dX5_solve_196 : decode cX5_solve 196 = .ok (.goto (-65), 3) := by decide +kernel
theorem dX5_solve_199 : decode cX5_solve 199 = .ok (.aload_n 0, 1) := by decide +kernel
theorem dX5_solve_200 : decode cX5_solve 200 = .ok (.getfield 51, 3) := by decide +kernel
theorem dX5_solve_203 : decode cX5_solve 203 = .ok (.bipush 6, 2) := by decide +kernel
theorem dX5_solve_205 : decode cX5_solve 205 = .ok (.iload 4, 2) := by decide +kernel
theorem dX5_solve_207 : decode cX5_solve 207 = .ok (.imul, 1) := by decide +kernel
theorem dX5_solve_208 : decode cX5_solve 208 = .ok (.iload 4, 2) := by decide +kernel
theorem dX5_solve_210 : decode cX5_solve 210 = .ok (.iadd, 1) := by decide +kernel
theorem dX5_solve_211 : decode cX5_solve 211 = .ok (.laload, 1) := by decide +kernel
theorem dX5_solve_212 : decode cX5_solve 212 = .ok (.lstore 6, 2) := by decide +kernel
theorem dX5_solve_214 : decode cX5_solve 214 = .ok (.iconst 0, 1) := by decide +kernel
theorem dX5_solve_215 : decode cX5_solve 215 = .ok (.istore 8, 2) := by decide +kernel
theorem dX5_solve_217 : decode cX5_solve 217 = .ok (.iload 8, 2) := by decide +kernel
theorem dX5_solve_219 : decode cX5_solve 219 = .ok (.iload_n 1, 1) := by decide +kernel
theorem dX5_solve_220 : decode cX5_solve 220 = .ok (.if_icmp .ge 94, 3) := by decide +kernel
theorem dX5_solve_223 : decode cX5_solve 223 = .ok (.aload_n 0, 1) := by decide +kernel
theorem dX5_solve_224 : decode cX5_solve 224 = .ok (.getfield 51, 3) := by decide +kernel
theorem dX5_solve_227 : decode cX5_solve 227 = .ok (.bipush 6, 2) := by decide +kernel
theorem dX5_solve_229 : decode cX5_solve 229 = .ok (.iload 8, 2) := by decide +kernel
theorem dX5_solve_231 : decode cX5_solve 231 = .ok (.imul, 1) := by decide +kernel
theorem dX5_solve_232 : decode cX5_solve 232 = .ok (.iload 4, 2) := by decide +kernel
theorem dX5_solve_234 : decode cX5_solve 234 = .ok (.iadd, 1) := by decide +kernel
theorem dX5_solve_235 : decode cX5_solve 235 = .ok (.laload, 1) := by decide +kernel
theorem dX5_solve_236 : decode cX5_solve 236 = .ok (.lstore 9, 2) := by decide +kernel
theorem dX5_solve_238 : decode cX5_solve 238 = .ok (.iconst 0, 1) := by decide +kernel
theorem dX5_solve_239 : decode cX5_solve 239 = .ok (.istore 11, 2) := by decide +kernel
theorem dX5_solve_241 : decode cX5_solve 241 = .ok (.iload 11, 2) := by decide +kernel
theorem dX5_solve_243 : decode cX5_solve 243 = .ok (.iload_n 1, 1) := by decide +kernel
theorem dX5_solve_244 : decode cX5_solve 244 = .ok (.if_icmp .gt 64, 3) := by decide +kernel
theorem dX5_solve_247 : decode cX5_solve 247 = .ok (.iload 8, 2) := by decide +kernel
theorem dX5_solve_249 : decode cX5_solve 249 = .ok (.iload 4, 2) := by decide +kernel
theorem dX5_solve_251 : decode cX5_solve 251 = .ok (.if_icmp .eq 57, 3) := by decide +kernel
theorem dX5_solve_254 : decode cX5_solve 254 = .ok (.aload_n 0, 1) := by decide +kernel
theorem dX5_solve_255 : decode cX5_solve 255 = .ok (.getfield 51, 3) := by decide +kernel
theorem dX5_solve_258 : decode cX5_solve 258 = .ok (.bipush 6, 2) := by decide +kernel
theorem dX5_solve_260 : decode cX5_solve 260 = .ok (.iload 8, 2) := by decide +kernel
theorem dX5_solve_262 : decode cX5_solve 262 = .ok (.imul, 1) := by decide +kernel
theorem dX5_solve_263 : decode cX5_solve 263 = .ok (.iload 11, 2) := by decide +kernel
theorem dX5_solve_265 : decode cX5_solve 265 = .ok (.iadd, 1) := by decide +kernel
theorem dX5_solve_266 : decode cX5_solve 266 = .ok (.lload 6, 2) := by decide +kernel
theorem dX5_solve_268 : decode cX5_solve 268 = .ok (.aload_n 0, 1) := by decide +kernel
theorem dX5_solve_269 : decode cX5_solve 269 = .ok (.getfield 51, 3) := by decide +kernel
theorem dX5_solve_272 : decode cX5_solve 272 = .ok (.bipush 6, 2) := by decide +kernel
theorem dX5_solve_274 : decode cX5_solve 274 = .ok (.iload 8, 2) := by decide +kernel
theorem dX5_solve_276 : decode cX5_solve 276 = .ok (.imul, 1) := by decide +kernel
theorem dX5_solve_277 : decode cX5_solve 277 = .ok (.iload 11, 2) := by decide +kernel
theorem dX5_solve_279 : decode cX5_solve 279 = .ok (.iadd, 1) := by decide +kernel
theorem dX5_solve_280 : decode cX5_solve 280 = .ok (.laload, 1) := by decide +kernel
theorem dX5_solve_281 : decode cX5_solve 281 = .ok (.lmul, 1) := by decide +kernel
theorem dX5_solve_282 : decode cX5_solve 282 = .ok (.lload 9, 2) := by decide +kernel
theorem dX5_solve_284 : decode cX5_solve 284 = .ok (.aload_n 0, 1) := by decide +kernel
theorem dX5_solve_285 : decode cX5_solve 285 = .ok (.getfield 51, 3) := by decide +kernel
theorem dX5_solve_288 : decode cX5_solve 288 = .ok (.bipush 6, 2) := by decide +kernel
theorem dX5_solve_290 : decode cX5_solve 290 = .ok (.iload 4, 2) := by decide +kernel
theorem dX5_solve_292 : decode cX5_solve 292 = .ok (.imul, 1) := by decide +kernel
theorem dX5_solve_293 : decode cX5_solve 293 = .ok (.iload 11, 2) := by decide +kernel
theorem dX5_solve_295 : decode cX5_solve 295 = .ok (.iadd, 1) := by decide +kernel
theorem dX5_solve_296 : decode cX5_solve 296 = .ok (.laload, 1) := by decide +kernel
theorem dX5_solve_297 : decode cX5_solve 297 = .ok (.lmul, 1) := by decide +kernel
theorem dX5_solve_298 : decode cX5_solve 298 = .ok (.lsub, 1) := by decide +kernel
theorem dX5_solve_299 : decode cX5_solve 299 = .ok (.lload_n 2, 1) := by decide +kernel
theorem dX5_solve_300 : decode cX5_solve 300 = .ok (.ldiv, 1) := by decide +kernel
theorem dX5_solve_301 : decode cX5_solve 301 = .ok (.lastore, 1) := by decide +kernel
theorem dX5_solve_302 : decode cX5_solve 302 = .ok (.iinc 11 1, 3) := by decide +kernel
theorem dX5_solve_305 : decode cX5_solve 305 = .ok (.goto (-64), 3) := by decide +kernel
theorem dX5_solve_308 : decode cX5_solve 308 = .ok (.iinc 8 1, 3) := by decide +kernel
theorem dX5_solve_311 : decode cX5_solve 311 = .ok (.goto (-94), 3) := by decide +kernel
theorem dX5_solve_314 : decode cX5_solve 314 = .ok (.lload 6, 2) := by decide +kernel
theorem dX5_solve_316 : decode cX5_solve 316 = .ok (.lstore_n 2, 1) := by decide +kernel
theorem dX5_solve_317 : decode cX5_solve 317 = .ok (.iinc 4 1, 3) := by decide +kernel
theorem dX5_solve_320 : decode cX5_solve 320 = .ok (.goto (-240), 3) := by decide +kernel
theorem dX5_solve_323 : decode cX5_solve 323 = .ok (.aload_n 0, 1) := by decide +kernel
theorem dX5_solve_324 : decode cX5_solve 324 = .ok (.lload_n 2, 1) := by decide +kernel
theorem dX5_solve_325 : decode cX5_solve 325 = .ok (.putfield 74, 3) := by decide +kernel
theorem dX5_solve_328 : decode cX5_solve 328 = .ok (.iconst 0, 1) := by decide +kernel
theorem dX5_solve_329 : decode cX5_solve 329 = .ok (.istore 4, 2) := by decide +kernel
theorem dX5_solve_331 : decode cX5_solve 331 = .ok (.iload 4, 2) := by decide +kernel
theorem dX5_solve_333 : decode cX5_solve 333 = .ok (.iload_n 1, 1) := by decide +kernel
theorem dX5_solve_334 : decode cX5_solve 334 = .ok (.if_icmp .ge 28, 3) := by decide +kernel
theorem dX5_solve_337 : decode cX5_solve 337 = .ok (.aload_n 0, 1) := by decide +kernel
theorem dX5_solve_338 : decode cX5_solve 338 = .ok (.getfield 57, 3) := by decide +kernel
theorem dX5_solve_341 : decode cX5_solve 341 = .ok (.iload 4, 2) := by decide +kernel
theorem dX5_solve_343 : decode cX5_solve 343 = .ok (.aload_n 0, 1) := by decide +kernel
theorem dX5_solve_344 : decode cX5_solve 344 = .ok (.getfield 51, 3) := by decide +kernel
theorem dX5_solve_347 : decode cX5_solve 347 = .ok (.bipush 6, 2) := by decide +kernel
theorem dX5_solve_349 : decode cX5_solve 349 = .ok (.iload 4, 2) := by decide +kernel
theorem dX5_solve_351 : decode cX5_solve 351 = .ok (.imul, 1) := by decide +kernel
theorem dX5_solve_352 : decode cX5_solve 352 = .ok (.iload_n 1, 1) := by decide +kernel
theorem dX5_solve_353 : decode cX5_solve 353 = .ok (.iadd, 1) := by decide +kernel
theorem dX5_solve_354 : decode cX5_solve 354 = .ok (.laload, 1) := by decide +kernel
theorem dX5_solve_355 : decode cX5_solve 355 = .ok (.lastore, 1) := by decide +kernel
theorem dX5_solve_356 : decode cX5_solve 356 = .ok (.iinc 4 1, 3) := by decide +kernel
theorem dX5_solve_359 : decode cX5_solve 359 = .ok (.goto (-28), 3) := by decide +kernel
theorem dX5_solve_362 : decode cX5_solve 362 = .ok (.aload_n 0, 1) := by decide +kernel
theorem dX5_solve_363 : decode cX5_solve 363 = .ok (.getfield 74, 3) := by decide +kernel
theorem dX5_solve_366 : decode cX5_solve 366 = .ok (.lconst 0, 1) := by decide +kernel
theorem dX5_solve_367 : decode cX5_solve 367 = .ok (.lcmp, 1) := by decide +kernel
theorem dX5_solve_368 : decode cX5_solve 368 = .ok (.ifCond .ge 42, 3) := by decide +kernel
theorem dX5_solve_371 : decode cX5_solve 371 = .ok (.aload_n 0, 1) := by decide +kernel
theorem dX5_solve_372 : decode cX5_solve 372 = .ok (.aload_n 0, 1) := by decide +kernel
theorem dX5_solve_373 : decode cX5_solve 373 = .ok (.getfield 74, 3) := by decide +kernel
theorem dX5_solve_376 : decode cX5_solve 376 = .ok (.lneg, 1) := by decide +kernel
theorem dX5_solve_377 : decode cX5_solve 377 = .ok (.putfield 74, 3) := by decide +kernel
theorem dX5_solve_380 : decode cX5_solve 380 = .ok (.iconst 0, 1) := by decide +kernel
theorem dX5_solve_381 : decode cX5_solve 381 = .ok (.istore 4, 2) := by decide +kernel
theorem dX5_solve_383 : decode cX5_solve 383 = .ok (.iload 4, 2) := by decide +kernel
theorem dX5_solve_385 : decode cX5_solve 385 = .ok (.iload_n 1, 1) := by decide +kernel
theorem dX5_solve_386 : decode cX5_solve 386 = .ok (.if_icmp .ge 24, 3) := by decide +kernel
theorem dX5_solve_389 : decode cX5_solve 389 = .ok (.aload_n 0, 1) := by decide +kernel
theorem dX5_solve_390 : decode cX5_solve 390 = .ok (.getfield 57, 3) := by decide +kernel
theorem dX5_solve_393 : decode cX5_solve 393 = .ok (.iload 4, 2) := by decide +kernel
theorem dX5_solve_395 : decode cX5_solve 395 = .ok (.aload_n 0, 1) := by decide +kernel
theorem dX5_solve_396 : decode cX5_solve 396 = .ok (.getfield 57, 3) := by decide +kernel
theorem dX5_solve_399 : decode cX5_solve 399 = .ok (.iload 4, 2) := by decide +kernel
theorem dX5_solve_401 : decode cX5_solve 401 = .ok (.laload, 1) := by decide +kernel
theorem dX5_solve_402 : decode cX5_solve 402 = .ok (.lneg, 1) := by decide +kernel
theorem dX5_solve_403 : decode cX5_solve 403 = .ok (.lastore, 1) := by decide +kernel
theorem dX5_solve_404 : decode cX5_solve 404 = .ok (.iinc 4 1, 3) := by decide +kernel
theorem dX5_solve_407 : decode cX5_solve 407 = .ok (.goto (-24), 3) := by decide +kernel
theorem dX5_solve_410 : decode cX5_solve 410 = .ok (.iconst 1, 1) := by decide +kernel
theorem dX5_solve_411 : decode cX5_solve 411 = .ok (.ireturn, 1) := by decide +kernel
theorem dX5_keeps_0 : decode cX5_keeps 0 = .ok (.iconst 0, 1) := by decide +kernel
theorem dX5_keeps_1 : decode cX5_keeps 1 = .ok (.istore_n 2, 1) := by decide +kernel
theorem dX5_keeps_2 : decode cX5_keeps 2 = .ok (.iload_n 2, 1) := by decide +kernel
theorem dX5_keeps_3 : decode cX5_keeps 3 = .ok (.aload_n 0, 1) := by decide +kernel
theorem dX5_keeps_4 : decode cX5_keeps 4 = .ok (.getfield 66, 3) := by decide +kernel
theorem dX5_keeps_7 : decode cX5_keeps 7 = .ok (.if_icmp .ge 55, 3) := by decide +kernel
theorem dX5_keeps_10 : decode cX5_keeps 10 = .ok (.aload_n 0, 1) := by decide +kernel
theorem dX5_keeps_11 : decode cX5_keeps 11 = .ok (.getfield 57, 3) := by decide +kernel
theorem dX5_keeps_14 : decode cX5_keeps 14 = .ok (.iload_n 2, 1) := by decide +kernel
theorem dX5_keeps_15 : decode cX5_keeps 15 = .ok (.laload, 1) := by decide +kernel
theorem dX5_keeps_16 : decode cX5_keeps 16 = .ok (.aload_n 0, 1) := by decide +kernel
theorem dX5_keeps_17 : decode cX5_keeps 17 = .ok (.getfield 7, 3) := by decide +kernel
theorem dX5_keeps_20 : decode cX5_keeps 20 = .ok (.iload_n 2, 1) := by decide +kernel
theorem dX5_keeps_21 : decode cX5_keeps 21 = .ok (.iaload, 1) := by decide +kernel
theorem dX5_keeps_22 : decode cX5_keeps 22 = .ok (.i2l, 1) := by decide +kernel
theorem dX5_keeps_23 : decode cX5_keeps 23 = .ok (.aload_n 0, 1) := by decide +kernel
theorem dX5_keeps_24 : decode cX5_keeps 24 = .ok (.getfield 74, 3) := by decide +kernel
theorem dX5_keeps_27 : decode cX5_keeps 27 = .ok (.lmul, 1) := by decide +kernel
theorem dX5_keeps_28 : decode cX5_keeps 28 = .ok (.lcmp, 1) := by decide +kernel
theorem dX5_keeps_29 : decode cX5_keeps 29 = .ok (.ifCond .lt 25, 3) := by decide +kernel
theorem dX5_keeps_32 : decode cX5_keeps 32 = .ok (.aload_n 0, 1) := by decide +kernel
theorem dX5_keeps_33 : decode cX5_keeps 33 = .ok (.getfield 57, 3) := by decide +kernel
theorem dX5_keeps_36 : decode cX5_keeps 36 = .ok (.iload_n 2, 1) := by decide +kernel
theorem dX5_keeps_37 : decode cX5_keeps 37 = .ok (.laload, 1) := by decide +kernel
theorem dX5_keeps_38 : decode cX5_keeps 38 = .ok (.aload_n 0, 1) := by decide +kernel
theorem dX5_keeps_39 : decode cX5_keeps 39 = .ok (.getfield 13, 3) := by decide +kernel
theorem dX5_keeps_42 : decode cX5_keeps 42 = .ok (.iload_n 2, 1) := by decide +kernel
theorem dX5_keeps_43 : decode cX5_keeps 43 = .ok (.iaload, 1) := by decide +kernel
theorem dX5_keeps_44 : decode cX5_keeps 44 = .ok (.i2l, 1) := by decide +kernel
theorem dX5_keeps_45 : decode cX5_keeps 45 = .ok (.aload_n 0, 1) := by decide +kernel
theorem dX5_keeps_46 : decode cX5_keeps 46 = .ok (.getfield 74, 3) := by decide +kernel
theorem dX5_keeps_49 : decode cX5_keeps 49 = .ok (.lmul, 1) := by decide +kernel
theorem dX5_keeps_50 : decode cX5_keeps 50 = .ok (.lcmp, 1) := by decide +kernel
theorem dX5_keeps_51 : decode cX5_keeps 51 = .ok (.ifCond .le 5, 3) := by decide +kernel
theorem dX5_keeps_54 : decode cX5_keeps 54 = .ok (.iconst 0, 1) := by decide +kernel
theorem dX5_keeps_55 : decode cX5_keeps 55 = .ok (.ireturn, 1) := by decide +kernel
theorem dX5_keeps_56 : decode cX5_keeps 56 = .ok (.iinc 2 1, 3) := by decide +kernel
theorem dX5_keeps_59 : decode cX5_keeps 59 = .ok (.goto (-57), 3) := by decide +kernel
theorem dX5_keeps_62 : decode cX5_keeps 62 = .ok (.iconst 0, 1) := by decide +kernel
theorem dX5_keeps_63 : decode cX5_keeps 63 = .ok (.istore_n 2, 1) := by decide +kernel
theorem dX5_keeps_64 : decode cX5_keeps 64 = .ok (.iload_n 2, 1) := by decide +kernel
theorem dX5_keeps_65 : decode cX5_keeps 65 = .ok (.aload_n 0, 1) := by decide +kernel
theorem dX5_keeps_66 : decode cX5_keeps 66 = .ok (.getfield 78, 3) := by decide +kernel
theorem dX5_keeps_69 : decode cX5_keeps 69 = .ok (.if_icmp .ge 124, 3) := by decide +kernel
theorem dX5_keeps_72 : decode cX5_keeps 72 = .ok (.iload_n 1, 1) := by decide +kernel
theorem dX5_keeps_73 : decode cX5_keeps 73 = .ok (.iload_n 2, 1) := by decide +kernel
theorem dX5_keeps_74 : decode cX5_keeps 74 = .ok (.ishr, 1) := by decide +kernel
theorem dX5_keeps_75 : decode cX5_keeps 75 = .ok (.iconst 1, 1) := by decide +kernel
theorem dX5_keeps_76 : decode cX5_keeps 76 = .ok (.iand, 1) := by decide +kernel
theorem dX5_keeps_77 : decode cX5_keeps 77 = .ok (.ifCond .ne 6, 3) := by decide +kernel
theorem dX5_keeps_80 : decode cX5_keeps 80 = .ok (.goto 107, 3) := by decide +kernel
theorem dX5_keeps_83 : decode cX5_keeps 83 = .ok (.aload_n 0, 1) := by decide +kernel
theorem dX5_keeps_84 : decode cX5_keeps 84 = .ok (.getfield 22, 3) := by decide +kernel
theorem dX5_keeps_87 : decode cX5_keeps 87 = .ok (.iload_n 2, 1) := by decide +kernel
theorem dX5_keeps_88 : decode cX5_keeps 88 = .ok (.iaload, 1) := by decide +kernel
theorem dX5_keeps_89 : decode cX5_keeps 89 = .ok (.ineg, 1) := by decide +kernel
theorem dX5_keeps_90 : decode cX5_keeps 90 = .ok (.i2l, 1) := by decide +kernel
theorem dX5_keeps_91 : decode cX5_keeps 91 = .ok (.aload_n 0, 1) := by decide +kernel
theorem dX5_keeps_92 : decode cX5_keeps 92 = .ok (.getfield 74, 3) := by decide +kernel
theorem dX5_keeps_95 : decode cX5_keeps 95 = .ok (.lmul, 1) := by decide +kernel
theorem dX5_keeps_96 : decode cX5_keeps 96 = .ok (.lstore_n 3, 1) := by decide +kernel
theorem dX5_keeps_97 : decode cX5_keeps 97 = .ok (.iconst 0, 1) := by decide +kernel
theorem dX5_keeps_98 : decode cX5_keeps 98 = .ok (.istore 5, 2) := by decide +kernel
theorem dX5_keeps_100 : decode cX5_keeps 100 = .ok (.iload 5, 2) := by decide +kernel
theorem dX5_keeps_102 : decode cX5_keeps 102 = .ok (.aload_n 0, 1) := by decide +kernel
theorem dX5_keeps_103 : decode cX5_keeps 103 = .ok (.getfield 66, 3) := by decide +kernel
theorem dX5_keeps_106 : decode cX5_keeps 106 = .ok (.if_icmp .ge 32, 3) := by decide +kernel
theorem dX5_keeps_109 : decode cX5_keeps 109 = .ok (.lload_n 3, 1) := by decide +kernel
theorem dX5_keeps_110 : decode cX5_keeps 110 = .ok (.aload_n 0, 1) := by decide +kernel
theorem dX5_keeps_111 : decode cX5_keeps 111 = .ok (.getfield 25, 3) := by decide +kernel
theorem dX5_keeps_114 : decode cX5_keeps 114 = .ok (.iconst 5, 1) := by decide +kernel
theorem dX5_keeps_115 : decode cX5_keeps 115 = .ok (.iload_n 2, 1) := by decide +kernel
theorem dX5_keeps_116 : decode cX5_keeps 116 = .ok (.imul, 1) := by decide +kernel
theorem dX5_keeps_117 : decode cX5_keeps 117 = .ok (.iload 5, 2) := by decide +kernel
theorem dX5_keeps_119 : decode cX5_keeps 119 = .ok (.iadd, 1) := by decide +kernel
theorem dX5_keeps_120 : decode cX5_keeps 120 = .ok (.iaload, 1) := by decide +kernel
theorem dX5_keeps_121 : decode cX5_keeps 121 = .ok (.i2l, 1) := by decide +kernel
theorem dX5_keeps_122 : decode cX5_keeps 122 = .ok (.aload_n 0, 1) := by decide +kernel
theorem dX5_keeps_123 : decode cX5_keeps 123 = .ok (.getfield 57, 3) := by decide +kernel
theorem dX5_keeps_126 : decode cX5_keeps 126 = .ok (.iload 5, 2) := by decide +kernel
theorem dX5_keeps_128 : decode cX5_keeps 128 = .ok (.laload, 1) := by decide +kernel
theorem dX5_keeps_129 : decode cX5_keeps 129 = .ok (.lmul, 1) := by decide +kernel
theorem dX5_keeps_130 : decode cX5_keeps 130 = .ok (.ladd, 1) := by decide +kernel
theorem dX5_keeps_131 : decode cX5_keeps 131 = .ok (.lstore_n 3, 1) := by decide +kernel
theorem dX5_keeps_132 : decode cX5_keeps 132 = .ok (.iinc 5 1, 3) := by decide +kernel
theorem dX5_keeps_135 : decode cX5_keeps 135 = .ok (.goto (-35), 3) := by decide +kernel
theorem dX5_keeps_138 : decode cX5_keeps 138 = .ok (.aload_n 0, 1) := by decide +kernel
theorem dX5_keeps_139 : decode cX5_keeps 139 = .ok (.getfield 19, 3) := by decide +kernel
theorem dX5_keeps_142 : decode cX5_keeps 142 = .ok (.iload_n 2, 1) := by decide +kernel
theorem dX5_keeps_143 : decode cX5_keeps 143 = .ok (.iaload, 1) := by decide +kernel
theorem dX5_keeps_144 : decode cX5_keeps 144 = .ok (.ifCond .ne 9, 3) := by decide +kernel
theorem dX5_keeps_147 : decode cX5_keeps 147 = .ok (.lload_n 3, 1) := by decide +kernel
theorem dX5_keeps_148 : decode cX5_keeps 148 = .ok (.lconst 0, 1) := by decide +kernel
theorem dX5_keeps_149 : decode cX5_keeps 149 = .ok (.lcmp, 1) := by decide +kernel
theorem dX5_keeps_150 : decode cX5_keeps 150 = .ok (.ifCond .gt 35, 3) := by decide +kernel
theorem dX5_keeps_153 : decode cX5_keeps 153 = .ok (.aload_n 0, 1) := by decide +kernel
theorem dX5_keeps_154 : decode cX5_keeps 154 = .ok (.getfield 19, 3) := by decide +kernel
theorem dX5_keeps_157 : decode cX5_keeps 157 = .ok (.iload_n 2, 1) := by decide +kernel
theorem dX5_keeps_158 : decode cX5_keeps 158 = .ok (.iaload, 1) := by decide +kernel
theorem dX5_keeps_159 : decode cX5_keeps 159 = .ok (.iconst 1, 1) := by decide +kernel
theorem dX5_keeps_160 : decode cX5_keeps 160 = .ok (.if_icmp .ne 9, 3) := by decide +kernel
theorem dX5_keeps_163 : decode cX5_keeps 163 = .ok (.lload_n 3, 1) := by decide +kernel
theorem dX5_keeps_164 : decode cX5_keeps 164 = .ok (.lconst 0, 1) := by decide +kernel
theorem dX5_keeps_165 : decode cX5_keeps 165 = .ok (.lcmp, 1) := by decide +kernel
theorem dX5_keeps_166 : decode cX5_keeps 166 = .ok (.ifCond .ne 19, 3) := by decide +kernel
theorem dX5_keeps_169 : decode cX5_keeps 169 = .ok (.aload_n 0, 1) := by decide +kernel
theorem dX5_keeps_170 : decode cX5_keeps 170 = .ok (.getfield 19, 3) := by decide +kernel
theorem dX5_keeps_173 : decode cX5_keeps 173 = .ok (.iload_n 2, 1) := by decide +kernel
theorem dX5_keeps_174 : decode cX5_keeps 174 = .ok (.iaload, 1) := by decide +kernel
theorem dX5_keeps_175 : decode cX5_keeps 175 = .ok (.iconst 2, 1) := by decide +kernel
theorem dX5_keeps_176 : decode cX5_keeps 176 = .ok (.if_icmp .ne 11, 3) := by decide +kernel
theorem dX5_keeps_179 : decode cX5_keeps 179 = .ok (.lload_n 3, 1) := by decide +kernel
theorem dX5_keeps_180 : decode cX5_keeps 180 = .ok (.lconst 0, 1) := by decide +kernel
theorem dX5_keeps_181 : decode cX5_keeps 181 = .ok (.lcmp, 1) := by decide +kernel
theorem dX5_keeps_182 : decode cX5_keeps 182 = .ok (.ifCond .ge 5, 3) := by decide +kernel
theorem dX5_keeps_185 : decode cX5_keeps 185 = .ok (.iconst 0, 1) := by decide +kernel
theorem dX5_keeps_186 : decode cX5_keeps 186 = .ok (.ireturn, 1) := by decide +kernel
theorem dX5_keeps_187 : decode cX5_keeps 187 = .ok (.iinc 2 1, 3) := by decide +kernel
theorem dX5_keeps_190 : decode cX5_keeps 190 = .ok (.goto (-126), 3) := by decide +kernel
theorem dX5_keeps_193 : decode cX5_keeps 193 = .ok (.iconst 1, 1) := by decide +kernel
theorem dX5_keeps_194 : decode cX5_keeps 194 = .ok (.ireturn, 1) := by decide +kernel
theorem dX5_isThere_0 : decode cX5_isThere 0 = .ok (.iload_n 1, 1) := by decide +kernel
theorem dX5_isThere_1 : decode cX5_isThere 1 = .ok (.bipush 8, 2) := by decide +kernel
theorem dX5_isThere_3 : decode cX5_isThere 3 = .ok (.if_icmp .ge 20, 3) := by decide +kernel
theorem dX5_isThere_6 : decode cX5_isThere 6 = .ok (.iload_n 2, 1) := by decide +kernel
theorem dX5_isThere_7 : decode cX5_isThere 7 = .ok (.iload_n 1, 1) := by decide +kernel
theorem dX5_isThere_8 : decode cX5_isThere 8 = .ok (.ishr, 1) := by decide +kernel
theorem dX5_isThere_9 : decode cX5_isThere 9 = .ok (.iconst 1, 1) := by decide +kernel
theorem dX5_isThere_10 : decode cX5_isThere 10 = .ok (.iand, 1) := by decide +kernel
theorem dX5_isThere_11 : decode cX5_isThere 11 = .ok (.iconst 1, 1) := by decide +kernel
theorem dX5_isThere_12 : decode cX5_isThere 12 = .ok (.if_icmp .ne 7, 3) := by decide +kernel
theorem dX5_isThere_15 : decode cX5_isThere 15 = .ok (.iconst 1, 1) := by decide +kernel
theorem dX5_isThere_16 : decode cX5_isThere 16 = .ok (.goto 25, 3) := by decide +kernel
theorem dX5_isThere_19 : decode cX5_isThere 19 = .ok (.iconst 0, 1) := by decide +kernel
theorem dX5_isThere_20 : decode cX5_isThere 20 = .ok (.goto 21, 3) := by decide +kernel
theorem dX5_isThere_23 : decode cX5_isThere 23 = .ok (.iload_n 1, 1) := by decide +kernel
theorem dX5_isThere_24 : decode cX5_isThere 24 = .ok (.bipush 8, 2) := by decide +kernel
theorem dX5_isThere_26 : decode cX5_isThere 26 = .ok (.isub, 1) := by decide +kernel
theorem dX5_isThere_27 : decode cX5_isThere 27 = .ok (.iconst 5, 1) := by decide +kernel
theorem dX5_isThere_28 : decode cX5_isThere 28 = .ok (.irem, 1) := by decide +kernel
theorem dX5_isThere_29 : decode cX5_isThere 29 = .ok (.aload_n 0, 1) := by decide +kernel
theorem dX5_isThere_30 : decode cX5_isThere 30 = .ok (.getfield 66, 3) := by decide +kernel
theorem dX5_isThere_33 : decode cX5_isThere 33 = .ok (.if_icmp .ge 7, 3) := by decide +kernel
theorem dX5_isThere_36 : decode cX5_isThere 36 = .ok (.iconst 1, 1) := by decide +kernel
theorem dX5_isThere_37 : decode cX5_isThere 37 = .ok (.goto 4, 3) := by decide +kernel
theorem dX5_isThere_40 : decode cX5_isThere 40 = .ok (.iconst 0, 1) := by decide +kernel
theorem dX5_isThere_41 : decode cX5_isThere 41 = .ok (.ireturn, 1) := by decide +kernel
set_option maxRecDepth 20000 in
theorem ggX5_after_X5_isThere : GoodIn wsX5_after wsX5_isThere := goodIn_r _ [5, 6, 7, 8, 9, 10, 11, 12, 13, 14, 15, 16, 17, 18, 19, 20, 21, 22, 23, 24, 25, 26, 27, 28, 29, 30, 31, 32, 33, 34] (by decide +kernel) (by decide +kernel)
set_option maxRecDepth 20000 in
theorem gX5_after_X5_isThere : GoodIn wsX5_after (wsV RX5 81 RX5 yX5_isThere wsX5_isThere) := goodIn_app (goodIn_of _ (by decide +kernel)) ggX5_after_X5_isThere
theorem dX5_after_0 : decode cX5_after 0 = .ok (.iload_n 1, 1) := by decide +kernel
theorem dX5_after_1 : decode cX5_after 1 = .ok (.iconst 1, 1) := by decide +kernel
theorem dX5_after_2 : decode cX5_after 2 = .ok (.iadd, 1) := by decide +kernel
theorem dX5_after_3 : decode cX5_after 3 = .ok (.istore_n 3, 1) := by decide +kernel
theorem dX5_after_4 : decode cX5_after 4 = .ok (.iload_n 3, 1) := by decide +kernel
theorem dX5_after_5 : decode cX5_after 5 = .ok (.bipush 18, 2) := by decide +kernel
theorem dX5_after_7 : decode cX5_after 7 = .ok (.if_icmp .ge 18, 3) := by decide +kernel
theorem dX5_after_10 : decode cX5_after 10 = .ok (.aload_n 0, 1) := by decide +kernel
theorem dX5_after_11 : decode cX5_after 11 = .ok (.iload_n 3, 1) := by decide +kernel
theorem dX5_after_12 : decode cX5_after 12 = .ok (.iload_n 2, 1) := by decide +kernel
theorem dX5_after_13 : decode cX5_after 13 = .ok (.invokevirtual 81, 3) := by decide +kernel
theorem dX5_after_16 : decode cX5_after 16 = .ok (.ifCond .ne 9, 3) := by decide +kernel
theorem dX5_after_19 : decode cX5_after 19 = .ok (.iinc 3 1, 3) := by decide +kernel
theorem dX5_after_22 : decode cX5_after 22 = .ok (.goto (-18), 3) := by decide +kernel
theorem dX5_after_25 : decode cX5_after 25 = .ok (.iload_n 3, 1) := by decide +kernel
theorem dX5_after_26 : decode cX5_after 26 = .ok (.ireturn, 1) := by decide +kernel
set_option maxRecDepth 20000 in
theorem ggX5_corners_X5_keeps : GoodIn wsX5_corners wsX5_keeps := goodIn_r _ [8, 2, 9, 10, 3, 11, 12, 13, 14, 15, 50, 51, 52, 53, 54, 55, 56, 57, 58, 59, 60, 61, 62, 63, 64, 65, 66, 67, 68, 69, 70, 71, 72, 73, 74, 75, 76, 77] (by decide +kernel) (by decide +kernel)
set_option maxRecDepth 20000 in
theorem gX5_corners_X5_keeps : GoodIn wsX5_corners (wsV RX5 85 RX5 yX5_keeps wsX5_keeps) := goodIn_app (goodIn_of _ (by decide +kernel)) ggX5_corners_X5_keeps
set_option maxRecDepth 20000 in
theorem ggX5_corners_X5_take : GoodIn wsX5_corners wsX5_take := goodIn_r _ [19, 2, 20, 9, 21, 3, 22, 23, 24, 25, 26, 27, 28, 29, 30, 31, 7, 32, 50, 51, 52, 53, 54, 55, 56, 57, 58, 59, 60, 61, 62, 63, 64, 65, 66, 67, 68, 69, 70, 71, 72, 73, 74, 75, 76, 77] (by decide +kernel) (by decide +kernel)
set_option maxRecDepth 20000 in
theorem gX5_corners_X5_take : GoodIn wsX5_corners (wsV RX5 89 RX5 yX5_take wsX5_take) := goodIn_app (goodIn_of _ (by decide +kernel)) ggX5_corners_X5_take
set_option maxRecDepth 20000 in
theorem ggX5_corners_X5_after : GoodIn wsX5_corners wsX5_after := goodIn_r _ [36, 37, 38, 39, 7, 40, 2, 50, 51, 52, 53, 54, 55, 56, 57, 58, 59, 60, 61, 62, 63, 64, 65, 66, 67, 68, 69, 70, 71, 72, 73, 74, 75, 76, 77] (by decide +kernel) (by decide +kernel)
set_option maxRecDepth 20000 in
theorem gX5_corners_X5_after : GoodIn wsX5_corners (wsV RX5 92 RX5 yX5_after wsX5_after) := goodIn_app (goodIn_of _ (by decide +kernel)) ggX5_corners_X5_after
set_option maxRecDepth 20000 in
theorem ggX5_corners_X5_solve : GoodIn wsX5_corners wsX5_solve := goodIn_r _ [44, 2, 45, 1, 3, 9, 46, 47, 48, 7, 49, 13, 14, 10, 11, 50, 51, 52, 53, 54, 55, 56, 57, 58, 59, 60, 61, 62, 63, 64, 65, 66, 67, 68, 69, 70, 71, 72, 73, 74, 75, 76, 77] (by decide +kernel) (by decide +kernel)
set_option maxRecDepth 20000 in
theorem gX5_corners_X5_solve : GoodIn wsX5_corners (wsV RX5 96 RX5 yX5_solve wsX5_solve) := goodIn_app (goodIn_of _ (by decide +kernel)) ggX5_corners_X5_solve
theorem dX5_corners_0 : decode cX5_corners 0 = .ok (.iconst 0, 1) := by decide +kernel
theorem dX5_corners_1 : decode cX5_corners 1 = .ok (.istore_n 3, 1) := by decide +kernel
theorem dX5_corners_2 : decode cX5_corners 2 = .ok (.iconst 0, 1) := by decide +kernel
theorem dX5_corners_3 : decode cX5_corners 3 = .ok (.istore 4, 2) := by decide +kernel
theorem dX5_corners_5 : decode cX5_corners 5 = .ok (.aload_n 0, 1) := by decide +kernel
theorem dX5_corners_6 : decode cX5_corners 6 = .ok (.getfield 54, 3) := by decide +kernel
theorem dX5_corners_9 : decode cX5_corners 9 = .ok (.iconst 0, 1) := by decide +kernel
theorem dX5_corners_10 : decode cX5_corners 10 = .ok (.iconst (-1), 1) := by decide +kernel
theorem dX5_corners_11 : decode cX5_corners 11 = .ok (.iastore, 1) := by decide +kernel
theorem dX5_corners_12 : decode cX5_corners 12 = .ok (.aload_n 0, 1) := by decide +kernel
theorem dX5_corners_13 : decode cX5_corners 13 = .ok (.getfield 66, 3) := by decide +kernel
theorem dX5_corners_16 : decode cX5_corners 16 = .ok (.ifCond .ne 28, 3) := by decide +kernel
theorem dX5_corners_19 : decode cX5_corners 19 = .ok (.aload_n 0, 1) := by decide +kernel
theorem dX5_corners_20 : decode cX5_corners 20 = .ok (.lconst 1, 1) := by decide +kernel
theorem dX5_corners_21 : decode cX5_corners 21 = .ok (.putfield 74, 3) := by decide +kernel
theorem dX5_corners_24 : decode cX5_corners 24 = .ok (.aload_n 0, 1) := by decide +kernel
theorem dX5_corners_25 : decode cX5_corners 25 = .ok (.iload_n 1, 1) := by decide +kernel
theorem dX5_corners_26 : decode cX5_corners 26 = .ok (.invokevirtual 85, 3) := by decide +kernel
theorem dX5_corners_29 : decode cX5_corners 29 = .ok (.istore_n 3, 1) := by decide +kernel
theorem dX5_corners_30 : decode cX5_corners 30 = .ok (.iload_n 3, 1) := by decide +kernel
theorem dX5_corners_31 : decode cX5_corners 31 = .ok (.ifCond .eq 11, 3) := by decide +kernel
theorem dX5_corners_34 : decode cX5_corners 34 = .ok (.iload_n 2, 1) := by decide +kernel
theorem dX5_corners_35 : decode cX5_corners 35 = .ok (.ifCond .eq 7, 3) := by decide +kernel
theorem dX5_corners_38 : decode cX5_corners 38 = .ok (.aload_n 0, 1) := by decide +kernel
theorem dX5_corners_39 : decode cX5_corners 39 = .ok (.invokevirtual 89, 3) := by decide +kernel
theorem dX5_corners_42 : decode cX5_corners 42 = .ok (.iload_n 3, 1) := by decide +kernel
theorem dX5_corners_43 : decode cX5_corners 43 = .ok (.ireturn, 1) := by decide +kernel
theorem dX5_corners_44 : decode cX5_corners 44 = .ok (.iload 4, 2) := by decide +kernel
theorem dX5_corners_46 : decode cX5_corners 46 = .ok (.ifCond .lt 103, 3) := by decide +kernel
theorem dX5_corners_49 : decode cX5_corners 49 = .ok (.aload_n 0, 1) := by decide +kernel
theorem dX5_corners_50 : decode cX5_corners 50 = .ok (.getfield 54, 3) := by decide +kernel
theorem dX5_corners_53 : decode cX5_corners 53 = .ok (.iload 4, 2) := by decide +kernel
theorem dX5_corners_55 : decode cX5_corners 55 = .ok (.aload_n 0, 1) := by decide +kernel
theorem dX5_corners_56 : decode cX5_corners 56 = .ok (.aload_n 0, 1) := by decide +kernel
theorem dX5_corners_57 : decode cX5_corners 57 = .ok (.getfield 54, 3) := by decide +kernel
theorem dX5_corners_60 : decode cX5_corners 60 = .ok (.iload 4, 2) := by decide +kernel
theorem dX5_corners_62 : decode cX5_corners 62 = .ok (.iaload, 1) := by decide +kernel
theorem dX5_corners_63 : decode cX5_corners 63 = .ok (.iload_n 1, 1) := by decide +kernel
theorem dX5_corners_64 : decode cX5_corners 64 = .ok (.invokevirtual 92, 3) := by decide +kernel
theorem dX5_corners_67 : decode cX5_corners 67 = .ok (.iastore, 1) := by decide +kernel
theorem dX5_corners_68 : decode cX5_corners 68 = .ok (.aload_n 0, 1) := by decide +kernel
theorem dX5_corners_69 : decode cX5_corners 69 = .ok (.getfield 54, 3) := by decide +kernel
theorem dX5_corners_72 : decode cX5_corners 72 = .ok (.iload 4, 2) := by decide +kernel
theorem dX5_corners_74 : decode cX5_corners 74 = .ok (.iaload, 1) := by decide +kernel
theorem dX5_corners_75 : decode cX5_corners 75 = .ok (.bipush 17, 2) := by decide +kernel
theorem dX5_corners_77 : decode cX5_corners 77 = .ok (.if_icmp .le 9, 3) := by decide +kernel
theorem dX5_corners_80 : decode cX5_corners 80 = .ok (.iinc 4 (-1), 3) := by decide +kernel
theorem dX5_corners_83 : decode cX5_corners 83 = .ok (.goto (-39), 3) := by decide +kernel
theorem dX5_corners_86 : decode cX5_corners 86 = .ok (.iload 4, 2) := by decide +kernel
theorem dX5_corners_88 : decode cX5_corners 88 = .ok (.iconst 1, 1) := by decide +kernel
theorem dX5_corners_89 : decode cX5_corners 89 = .ok (.iadd, 1) := by decide +kernel
theorem dX5_corners_90 : decode cX5_corners 90 = .ok (.aload_n 0, 1) := by decide +kernel
theorem dX5_corners_91 : decode cX5_corners 91 = .ok (.getfield 66, 3) := by decide +kernel
theorem dX5_corners_94 : decode cX5_corners 94 = .ok (.if_icmp .ge 25, 3) := by decide +kernel
theorem dX5_corners_97 : decode cX5_corners 97 = .ok (.aload_n 0, 1) := by decide +kernel
theorem dX5_corners_98 : decode cX5_corners 98 = .ok (.getfield 54, 3) := by decide +kernel
theorem dX5_corners_101 : decode cX5_corners 101 = .ok (.iload 4, 2) := by decide +kernel
theorem dX5_corners_103 : decode cX5_corners 103 = .ok (.iconst 1, 1) := by decide +kernel
theorem dX5_corners_104 : decode cX5_corners 104 = .ok (.iadd, 1) := by decide +kernel
theorem dX5_corners_105 : decode cX5_corners 105 = .ok (.aload_n 0, 1) := by decide +kernel
theorem dX5_corners_106 : decode cX5_corners 106 = .ok (.getfield 54, 3) := by decide +kernel
theorem dX5_corners_109 : decode cX5_corners 109 = .ok (.iload 4, 2) := by decide +kernel
theorem dX5_corners_111 : decode cX5_corners 111 = .ok (.iaload, 1) := by decide +kernel
theorem dX5_corners_112 : decode cX5_corners 112 = .ok (.iastore, 1) := by decide +kernel
theorem dX5_corners_113 : decode cX5_corners 113 = .ok (.iinc 4 1, 3) := by decide +kernel
theorem dX5_corners_116 : decode cX5_corners 116 = .ok (.goto (-72), 3) := by decide +kernel
theorem dX5_corners_119 : decode cX5_corners 119 = .ok (.aload_n 0, 1) := by decide +kernel
theorem dX5_corners_120 : decode cX5_corners 120 = .ok (.invokevirtual 96, 3) := by decide +kernel
theorem dX5_corners_123 : decode cX5_corners 123 = .ok (.ifCond .eq (-79), 3) := by decide +kernel
theorem dX5_corners_126 : decode cX5_corners 126 = .ok (.aload_n 0, 1) := by decide +kernel
theorem dX5_corners_127 : decode cX5_corners 127 = .ok (.iload_n 1, 1) := by decide +kernel
theorem dX5_corners_128 : decode cX5_corners 128 = .ok (.invokevirtual 85, 3) := by decide +kernel
theorem dX5_corners_131 : decode cX5_corners 131 = .ok (.ifCond .eq (-87), 3) := by decide +kernel
theorem dX5_corners_134 : decode cX5_corners 134 = .ok (.iconst 1, 1) := by decide +kernel
theorem dX5_corners_135 : decode cX5_corners 135 = .ok (.istore_n 3, 1) := by decide +kernel
theorem dX5_corners_136 : decode cX5_corners 136 = .ok (.iload_n 2, 1) := by decide +kernel
theorem dX5_corners_137 : decode cX5_corners 137 = .ok (.ifCond .ne 5, 3) := by decide +kernel
theorem dX5_corners_140 : decode cX5_corners 140 = .ok (.iconst 1, 1) := by decide +kernel
theorem dX5_corners_141 : decode cX5_corners 141 = .ok (.ireturn, 1) := by decide +kernel
theorem dX5_corners_142 : decode cX5_corners 142 = .ok (.aload_n 0, 1) := by decide +kernel
theorem dX5_corners_143 : decode cX5_corners 143 = .ok (.invokevirtual 89, 3) := by decide +kernel
theorem dX5_corners_146 : decode cX5_corners 146 = .ok (.goto (-102), 3) := by decide +kernel
theorem dX5_corners_149 : decode cX5_corners 149 = .ok (.iload_n 3, 1) := by decide +kernel
theorem dX5_corners_150 : decode cX5_corners 150 = .ok (.ireturn, 1) := by decide +kernel
theorem dX5_compare_0 : decode cX5_compare 0 = .ok (.lload_n 0, 1) := by decide +kernel
theorem dX5_compare_1 : decode cX5_compare 1 = .ok (.lload 6, 2) := by decide +kernel
theorem dX5_compare_3 : decode cX5_compare 3 = .ok (.lmul, 1) := by decide +kernel
theorem dX5_compare_4 : decode cX5_compare 4 = .ok (.lstore 8, 2) := by decide +kernel
theorem dX5_compare_6 : decode cX5_compare 6 = .ok (.lload 4, 2) := by decide +kernel
theorem dX5_compare_8 : decode cX5_compare 8 = .ok (.lload_n 2, 1) := by decide +kernel
theorem dX5_compare_9 : decode cX5_compare 9 = .ok (.lmul, 1) := by decide +kernel
theorem dX5_compare_10 : decode cX5_compare 10 = .ok (.lstore 10, 2) := by decide +kernel
theorem dX5_compare_12 : decode cX5_compare 12 = .ok (.lload 8, 2) := by decide +kernel
theorem dX5_compare_14 : decode cX5_compare 14 = .ok (.lload 10, 2) := by decide +kernel
theorem dX5_compare_16 : decode cX5_compare 16 = .ok (.lcmp, 1) := by decide +kernel
theorem dX5_compare_17 : decode cX5_compare 17 = .ok (.ifCond .ge 7, 3) := by decide +kernel
theorem dX5_compare_20 : decode cX5_compare 20 = .ok (.iconst (-1), 1) := by decide +kernel
theorem dX5_compare_21 : decode cX5_compare 21 = .ok (.goto 16, 3) := by decide +kernel
theorem dX5_compare_24 : decode cX5_compare 24 = .ok (.lload 8, 2) := by decide +kernel
theorem dX5_compare_26 : decode cX5_compare 26 = .ok (.lload 10, 2) := by decide +kernel
theorem dX5_compare_28 : decode cX5_compare 28 = .ok (.lcmp, 1) := by decide +kernel
theorem dX5_compare_29 : decode cX5_compare 29 = .ok (.ifCond .le 7, 3) := by decide +kernel
theorem dX5_compare_32 : decode cX5_compare 32 = .ok (.iconst 1, 1) := by decide +kernel
theorem dX5_compare_33 : decode cX5_compare 33 = .ok (.goto 4, 3) := by decide +kernel
theorem dX5_compare_36 : decode cX5_compare 36 = .ok (.iconst 0, 1) := by decide +kernel
theorem dX5_compare_37 : decode cX5_compare 37 = .ok (.ireturn, 1) := by decide +kernel
set_option maxRecDepth 20000 in
theorem ggX5_take_X5_compare : GoodIn wsX5_take wsX5_compare := goodIn_r _ [17] (by decide +kernel) (by decide +kernel)
set_option maxRecDepth 20000 in
theorem gX5_take_X5_compare : GoodIn wsX5_take (va_wsS RX5 104 yX5_compare wsX5_compare) := goodIn_app (goodIn_of _ (by decide +kernel)) ggX5_take_X5_compare
theorem dX5_take_0 : decode cX5_take 0 = .ok (.lconst 0, 1) := by decide +kernel
theorem dX5_take_1 : decode cX5_take 1 = .ok (.lstore_n 1, 1) := by decide +kernel
theorem dX5_take_2 : decode cX5_take 2 = .ok (.iconst 0, 1) := by decide +kernel
theorem dX5_take_3 : decode cX5_take 3 = .ok (.istore_n 3, 1) := by decide +kernel
theorem dX5_take_4 : decode cX5_take 4 = .ok (.iload_n 3, 1) := by decide +kernel
theorem dX5_take_5 : decode cX5_take 5 = .ok (.aload_n 0, 1) := by decide +kernel
theorem dX5_take_6 : decode cX5_take 6 = .ok (.getfield 66, 3) := by decide +kernel
theorem dX5_take_9 : decode cX5_take 9 = .ok (.if_icmp .ge 138, 3) := by decide +kernel
theorem dX5_take_12 : decode cX5_take 12 = .ok (.lload_n 1, 1) := by decide +kernel
theorem dX5_take_13 : decode cX5_take 13 = .ok (.aload_n 0, 1) := by decide +kernel
theorem dX5_take_14 : decode cX5_take 14 = .ok (.getfield 16, 3) := by decide +kernel
theorem dX5_take_17 : decode cX5_take 17 = .ok (.iload_n 3, 1) := by decide +kernel
theorem dX5_take_18 : decode cX5_take 18 = .ok (.iaload, 1) := by decide +kernel
theorem dX5_take_19 : decode cX5_take 19 = .ok (.i2l, 1) := by decide +kernel
theorem dX5_take_20 : decode cX5_take 20 = .ok (.aload_n 0, 1) := by decide +kernel
theorem dX5_take_21 : decode cX5_take 21 = .ok (.getfield 57, 3) := by decide +kernel
theorem dX5_take_24 : decode cX5_take 24 = .ok (.iload_n 3, 1) := by decide +kernel
theorem dX5_take_25 : decode cX5_take 25 = .ok (.laload, 1) := by decide +kernel
theorem dX5_take_26 : decode cX5_take 26 = .ok (.lmul, 1) := by decide +kernel
theorem dX5_take_27 : decode cX5_take 27 = .ok (.ladd, 1) := by decide +kernel
theorem dX5_take_28 : decode cX5_take 28 = .ok (.lstore_n 1, 1) := by decide +kernel
theorem dX5_take_29 : decode cX5_take 29 = .ok (.iconst 0, 1) := by decide +kernel
theorem dX5_take_30 : decode cX5_take 30 = .ok (.istore 4, 2) := by decide +kernel
theorem dX5_take_32 : decode cX5_take 32 = .ok (.iload 4, 2) := by decide +kernel
theorem dX5_take_34 : decode cX5_take 34 = .ok (.iconst 2, 1) := by decide +kernel
theorem dX5_take_35 : decode cX5_take 35 = .ok (.if_icmp .ge 106, 3) := by decide +kernel
theorem dX5_take_38 : decode cX5_take 38 = .ok (.iconst 2, 1) := by decide +kernel
theorem dX5_take_39 : decode cX5_take 39 = .ok (.iload_n 3, 1) := by decide +kernel
theorem dX5_take_40 : decode cX5_take 40 = .ok (.imul, 1) := by decide +kernel
theorem dX5_take_41 : decode cX5_take 41 = .ok (.iload 4, 2) := by decide +kernel
theorem dX5_take_43 : decode cX5_take 43 = .ok (.iadd, 1) := by decide +kernel
theorem dX5_take_44 : decode cX5_take 44 = .ok (.istore 5, 2) := by decide +kernel
theorem dX5_take_46 : decode cX5_take 46 = .ok (.aload_n 0, 1) := by decide +kernel
theorem dX5_take_47 : decode cX5_take 47 = .ok (.getfield 100, 3) := by decide +kernel
theorem dX5_take_50 : decode cX5_take 50 = .ok (.ifCond .eq 33, 3) := by decide +kernel
theorem dX5_take_53 : decode cX5_take 53 = .ok (.aload_n 0, 1) := by decide +kernel
theorem dX5_take_54 : decode cX5_take 54 = .ok (.getfield 57, 3) := by decide +kernel
theorem dX5_take_57 : decode cX5_take 57 = .ok (.iload_n 3, 1) := by decide +kernel
theorem dX5_take_58 : decode cX5_take 58 = .ok (.laload, 1) := by decide +kernel
theorem dX5_take_59 : decode cX5_take 59 = .ok (.aload_n 0, 1) := by decide +kernel
theorem dX5_take_60 : decode cX5_take 60 = .ok (.getfield 74, 3) := by decide +kernel
theorem dX5_take_63 : decode cX5_take 63 = .ok (.aload_n 0, 1) := by decide +kernel
theorem dX5_take_64 : decode cX5_take 64 = .ok (.getfield 42, 3) := by decide +kernel
theorem dX5_take_67 : decode cX5_take 67 = .ok (.iload 5, 2) := by decide +kernel
theorem dX5_take_69 : decode cX5_take 69 = .ok (.laload, 1) := by decide +kernel
theorem dX5_take_70 : decode cX5_take 70 = .ok (.aload_n 0, 1) := by decide +kernel
theorem dX5_take_71 : decode cX5_take 71 = .ok (.getfield 45, 3) := by decide +kernel
theorem dX5_take_74 : decode cX5_take 74 = .ok (.iload 5, 2) := by decide +kernel
theorem dX5_take_76 : decode cX5_take 76 = .ok (.laload, 1) := by decide +kernel
theorem dX5_take_77 : decode cX5_take 77 = .ok (.invokestatic 104, 3) := by decide +kernel
theorem dX5_take_80 : decode cX5_take 80 = .ok (.goto 4, 3) := by decide +kernel
theorem dX5_take_83 : decode cX5_take 83 = .ok (.iconst 0, 1) := by decide +kernel
theorem dX5_take_84 : decode cX5_take 84 = .ok (.istore 6, 2) := by decide +kernel
theorem dX5_take_86 : decode cX5_take 86 = .ok (.aload_n 0, 1) := by decide +kernel
theorem dX5_take_87 : decode cX5_take 87 = .ok (.getfield 100, 3) := by decide +kernel
theorem dX5_take_90 : decode cX5_take 90 = .ok (.ifCond .eq 21, 3) := by decide +kernel
theorem dX5_take_93 : decode cX5_take 93 = .ok (.iload 4, 2) := by decide +kernel
theorem dX5_take_95 : decode cX5_take 95 = .ok (.ifCond .ne 11, 3) := by decide +kernel
theorem dX5_take_98 : decode cX5_take 98 = .ok (.iload 6, 2) := by decide +kernel
theorem dX5_take_100 : decode cX5_take 100 = .ok (.ifCond .ge 35, 3) := by decide +kernel
theorem dX5_take_103 : decode cX5_take 103 = .ok (.goto 8, 3) := by decide +kernel
theorem dX5_take_106 : decode cX5_take 106 = .ok (.iload 6, 2) := by decide +kernel
theorem dX5_take_108 : decode cX5_take 108 = .ok (.ifCond .le 27, 3) := by decide +kernel
theorem dX5_take_111 : decode cX5_take 111 = .ok (.aload_n 0, 1) := by decide +kernel
theorem dX5_take_112 : decode cX5_take 112 = .ok (.getfield 42, 3) := by decide +kernel
theorem dX5_take_115 : decode cX5_take 115 = .ok (.iload 5, 2) := by decide +kernel
theorem dX5_take_117 : decode cX5_take 117 = .ok (.aload_n 0, 1) := by decide +kernel
theorem dX5_take_118 : decode cX5_take 118 = .ok (.getfield 57, 3) := by decide +kernel
theorem dX5_take_121 : decode cX5_take 121 = .ok (.iload_n 3, 1) := by decide +kernel
theorem dX5_take_122 : decode cX5_take 122 = .ok (.laload, 1) := by decide +kernel
theorem dX5_take_123 : decode cX5_take 123 = .ok (.lastore, 1) := by decide +kernel
theorem dX5_take_124 : decode cX5_take 124 = .ok (.aload_n 0, 1) := by decide +kernel
theorem dX5_take_125 : decode cX5_take 125 = .ok (.getfield 45, 3) := by decide +kernel
theorem dX5_take_128 : decode cX5_take 128 = .ok (.iload 5, 2) := by decide +kernel
theorem dX5_take_130 : decode cX5_take 130 = .ok (.aload_n 0, 1) := by decide +kernel
theorem dX5_take_131 : decode cX5_take 131 = .ok (.getfield 74, 3) := by decide +kernel
theorem dX5_take_134 : decode cX5_take 134 = .ok (.lastore, 1) := by decide +kernel
theorem dX5_take_135 : decode cX5_take 135 = .ok (.iinc 4 1, 3) := by decide +kernel
theorem dX5_take_138 : decode cX5_take 138 = .ok (.goto (-106), 3) := by decide +kernel
theorem dX5_take_141 : decode cX5_take 141 = .ok (.iinc 3 1, 3) := by decide +kernel
theorem dX5_take_144 : decode cX5_take 144 = .ok (.goto (-140), 3) := by decide +kernel
theorem dX5_take_147 : decode cX5_take 147 = .ok (.aload_n 0, 1) := by decide +kernel
theorem dX5_take_148 : decode cX5_take 148 = .ok (.getfield 100, 3) := by decide +kernel
theorem dX5_take_151 : decode cX5_take 151 = .ok (.ifCond .eq 22, 3) := by decide +kernel
theorem dX5_take_154 : decode cX5_take 154 = .ok (.lload_n 1, 1) := by decide +kernel
theorem dX5_take_155 : decode cX5_take 155 = .ok (.aload_n 0, 1) := by decide +kernel
theorem dX5_take_156 : decode cX5_take 156 = .ok (.getfield 74, 3) := by decide +kernel
theorem dX5_take_159 : decode cX5_take 159 = .ok (.aload_n 0, 1) := by decide +kernel
theorem dX5_take_160 : decode cX5_take 160 = .ok (.getfield 108, 3) := by decide +kernel
theorem dX5_take_163 : decode cX5_take 163 = .ok (.aload_n 0, 1) := by decide +kernel
theorem dX5_take_164 : decode cX5_take 164 = .ok (.getfield 111, 3) := by decide +kernel
theorem dX5_take_167 : decode cX5_take 167 = .ok (.invokestatic 104, 3) := by decide +kernel
theorem dX5_take_170 : decode cX5_take 170 = .ok (.goto 4, 3) := by decide +kernel
theorem dX5_take_173 : decode cX5_take 173 = .ok (.iconst (-1), 1) := by decide +kernel
theorem dX5_take_174 : decode cX5_take 174 = .ok (.istore_n 3, 1) := by decide +kernel
theorem dX5_take_175 : decode cX5_take 175 = .ok (.aload_n 0, 1) := by decide +kernel
theorem dX5_take_176 : decode cX5_take 176 = .ok (.iconst 1, 1) := by decide +kernel
theorem dX5_take_177 : decode cX5_take 177 = .ok (.putfield 100, 3) := by decide +kernel
theorem dX5_take_180 : decode cX5_take 180 = .ok (.iload_n 3, 1) := by decide +kernel
theorem dX5_take_181 : decode cX5_take 181 = .ok (.ifCond .le 4, 3) := by decide +kernel
theorem dX5_take_184 : decode cX5_take 184 = .ok (.return_, 1) := by decide +kernel
theorem dX5_take_185 : decode cX5_take 185 = .ok (.iconst 0, 1) := by decide +kernel
theorem dX5_take_186 : decode cX5_take 186 = .ok (.istore 4, 2) := by decide +kernel
theorem dX5_take_188 : decode cX5_take 188 = .ok (.iload 4, 2) := by decide +kernel
theorem dX5_take_190 : decode cX5_take 190 = .ok (.aload_n 0, 1) := by decide +kernel
theorem dX5_take_191 : decode cX5_take 191 = .ok (.getfield 66, 3) := by decide +kernel
theorem dX5_take_194 : decode cX5_take 194 = .ok (.if_icmp .ge 118, 3) := by decide +kernel
theorem dX5_take_197 : decode cX5_take 197 = .ok (.iconst 0, 1) := by decide +kernel
theorem dX5_take_198 : decode cX5_take 198 = .ok (.istore 5, 2) := by decide +kernel
theorem dX5_take_200 : decode cX5_take 200 = .ok (.iload 5, 2) := by decide +kernel
theorem dX5_take_202 : decode cX5_take 202 = .ok (.iconst 2, 1) := by decide +kernel
theorem dX5_take_203 : decode cX5_take 203 = .ok (.if_icmp .ge 103, 3) := by decide +kernel
theorem dX5_take_206 : decode cX5_take 206 = .ok (.iconst 2, 1) := by decide +kernel
theorem dX5_take_207 : decode cX5_take 207 = .ok (.iload 4, 2) := by decide +kernel
theorem dX5_take_209 : decode cX5_take 209 = .ok (.imul, 1) := by decide +kernel
theorem dX5_take_210 : decode cX5_take 210 = .ok (.iload 5, 2) := by decide +kernel
theorem dX5_take_212 : decode cX5_take 212 = .ok (.iadd, 1) := by decide +kernel
theorem dX5_take_213 : decode cX5_take 213 = .ok (.istore 6, 2) := by decide +kernel
theorem dX5_take_215 : decode cX5_take 215 = .ok (.iload_n 3, 1) := by decide +kernel
theorem dX5_take_216 : decode cX5_take 216 = .ok (.ifCond .ge 7, 3) := by decide +kernel
theorem dX5_take_219 : decode cX5_take 219 = .ok (.iconst 0, 1) := by decide +kernel
theorem dX5_take_220 : decode cX5_take 220 = .ok (.goto 31, 3) := by decide +kernel
theorem dX5_take_223 : decode cX5_take 223 = .ok (.aload_n 0, 1) := by decide +kernel
theorem dX5_take_224 : decode cX5_take 224 = .ok (.getfield 57, 3) := by decide +kernel
theorem dX5_take_227 : decode cX5_take 227 = .ok (.iload 4, 2) := by decide +kernel
theorem dX5_take_229 : decode cX5_take 229 = .ok (.laload, 1) := by decide +kernel
theorem dX5_take_230 : decode cX5_take 230 = .ok (.aload_n 0, 1) := by decide +kernel
theorem dX5_take_231 : decode cX5_take 231 = .ok (.getfield 74, 3) := by decide +kernel
theorem dX5_take_234 : decode cX5_take 234 = .ok (.aload_n 0, 1) := by decide +kernel
theorem dX5_take_235 : decode cX5_take 235 = .ok (.getfield 36, 3) := by decide +kernel
theorem dX5_take_238 : decode cX5_take 238 = .ok (.iload 6, 2) := by decide +kernel
theorem dX5_take_240 : decode cX5_take 240 = .ok (.laload, 1) := by decide +kernel
theorem dX5_take_241 : decode cX5_take 241 = .ok (.aload_n 0, 1) := by decide +kernel
theorem dX5_take_242 : decode cX5_take 242 = .ok (.getfield 39, 3) := by decide +kernel
theorem dX5_take_245 : decode cX5_take 245 = .ok (.iload 6, 2) := by decide +kernel
theorem dX5_take_247 : decode cX5_take 247 = .ok (.laload, 1) := by decide +kernel
theorem dX5_take_248 : decode cX5_take 248 = .ok (.invokestatic 104, 3) := by decide +kernel
theorem dX5_take_251 : decode cX5_take 251 = .ok (.istore 7, 2) := by decide +kernel
theorem dX5_take_253 : decode cX5_take 253 = .ok (.iload_n 3, 1) := by decide +kernel
theorem dX5_take_254 : decode cX5_take 254 = .ok (.ifCond .lt 21, 3) := by decide +kernel
theorem dX5_take_257 : decode cX5_take 257 = .ok (.iload 5, 2) := by decide +kernel
theorem dX5_take_259 : decode cX5_take 259 = .ok (.ifCond .ne 11, 3) := by decide +kernel
theorem dX5_take_262 : decode cX5_take 262 = .ok (.iload 7, 2) := by decide +kernel
theorem dX5_take_264 : decode cX5_take 264 = .ok (.ifCond .ge 36, 3) := by decide +kernel
theorem dX5_take_267 : decode cX5_take 267 = .ok (.goto 8, 3) := by decide +kernel
theorem dX5_take_270 : decode cX5_take 270 = .ok (.iload 7, 2) := by decide +kernel
theorem dX5_take_272 : decode cX5_take 272 = .ok (.ifCond .le 28, 3) := by decide +kernel
theorem dX5_take_275 : decode cX5_take 275 = .ok (.aload_n 0, 1) := by decide +kernel
theorem dX5_take_276 : decode cX5_take 276 = .ok (.getfield 36, 3) := by decide +kernel
theorem dX5_take_279 : decode cX5_take 279 = .ok (.iload 6, 2) := by decide +kernel
theorem dX5_take_281 : decode cX5_take 281 = .ok (.aload_n 0, 1) := by decide +kernel
theorem dX5_take_282 : decode cX5_take 282 = .ok (.getfield 57, 3) := by decide +kernel
theorem dX5_take_285 : decode cX5_take 285 = .ok (.iload 4, 2) := by decide +kernel
theorem dX5_take_287 : decode cX5_take 287 = .ok (.laload, 1) := by decide +kernel
theorem dX5_take_288 : decode cX5_take 288 = .ok (.lastore, 1) := by decide +kernel
theorem dX5_take_289 : decode cX5_take 289 = .ok (.aload_n 0, 1) := by decide +kernel
theorem dX5_take_290 : decode cX5_take 290 = .ok (.getfield 39, 3) := by decide +kernel
theorem dX5_take_293 : decode cX5_take 293 = .ok (.iload 6, 2) := by decide +kernel
theorem dX5_take_295 : decode cX5_take 295 = .ok (.aload_n 0, 1) := by decide +kernel
theorem dX5_take_296 : decode cX5_take 296 = .ok (.getfield 74, 3) := by decide +kernel
theorem dX5_take_299 : decode cX5_take 299 = .ok (.lastore, 1) := by decide +kernel
theorem dX5_take_300 : decode cX5_take 300 = .ok (.iinc 5 1, 3) := by decide +kernel
theorem dX5_take_303 : decode cX5_take 303 = .ok (.goto (-103), 3) := by decide +kernel
theorem dX5_take_306 : decode cX5_take 306 = .ok (.iinc 4 1, 3) := by decide +kernel
theorem dX5_take_309 : decode cX5_take 309 = .ok (.goto (-121), 3) := by decide +kernel
theorem dX5_take_312 : decode cX5_take 312 = .ok (.iload_n 3, 1) := by decide +kernel
theorem dX5_take_313 : decode cX5_take 313 = .ok (.ifCond .ge 7, 3) := by decide +kernel
theorem dX5_take_316 : decode cX5_take 316 = .ok (.iconst (-1), 1) := by decide +kernel
theorem dX5_take_317 : decode cX5_take 317 = .ok (.goto 4, 3) := by decide +kernel
theorem dX5_take_320 : decode cX5_take 320 = .ok (.iconst 0, 1) := by decide +kernel
theorem dX5_take_321 : decode cX5_take 321 = .ok (.istore 4, 2) := by decide +kernel
theorem dX5_take_323 : decode cX5_take 323 = .ok (.iconst 0, 1) := by decide +kernel
theorem dX5_take_324 : decode cX5_take 324 = .ok (.istore 5, 2) := by decide +kernel
theorem dX5_take_326 : decode cX5_take 326 = .ok (.iload 5, 2) := by decide +kernel
theorem dX5_take_328 : decode cX5_take 328 = .ok (.aload_n 0, 1) := by decide +kernel
theorem dX5_take_329 : decode cX5_take 329 = .ok (.getfield 66, 3) := by decide +kernel
theorem dX5_take_332 : decode cX5_take 332 = .ok (.if_icmp .ge 41, 3) := by decide +kernel
theorem dX5_take_335 : decode cX5_take 335 = .ok (.iload 4, 2) := by decide +kernel
theorem dX5_take_337 : decode cX5_take 337 = .ok (.ifCond .ne 36, 3) := by decide +kernel
theorem dX5_take_340 : decode cX5_take 340 = .ok (.aload_n 0, 1) := by decide +kernel
theorem dX5_take_341 : decode cX5_take 341 = .ok (.getfield 57, 3) := by decide +kernel
theorem dX5_take_344 : decode cX5_take 344 = .ok (.iload 5, 2) := by decide +kernel
theorem dX5_take_346 : decode cX5_take 346 = .ok (.laload, 1) := by decide +kernel
theorem dX5_take_347 : decode cX5_take 347 = .ok (.aload_n 0, 1) := by decide +kernel
theorem dX5_take_348 : decode cX5_take 348 = .ok (.getfield 74, 3) := by decide +kernel
theorem dX5_take_351 : decode cX5_take 351 = .ok (.aload_n 0, 1) := by decide +kernel
theorem dX5_take_352 : decode cX5_take 352 = .ok (.getfield 32, 3) := by decide +kernel
theorem dX5_take_355 : decode cX5_take 355 = .ok (.iload 5, 2) := by decide +kernel
theorem dX5_take_357 : decode cX5_take 357 = .ok (.laload, 1) := by decide +kernel
theorem dX5_take_358 : decode cX5_take 358 = .ok (.aload_n 0, 1) := by decide +kernel
theorem dX5_take_359 : decode cX5_take 359 = .ok (.getfield 114, 3) := by decide +kernel
theorem dX5_take_362 : decode cX5_take 362 = .ok (.invokestatic 104, 3) := by decide +kernel
theorem dX5_take_365 : decode cX5_take 365 = .ok (.istore 4, 2) := by decide +kernel
theorem dX5_take_367 : decode cX5_take 367 = .ok (.iinc 5 1, 3) := by decide +kernel
theorem dX5_take_370 : decode cX5_take 370 = .ok (.goto (-44), 3) := by decide +kernel
theorem dX5_take_373 : decode cX5_take 373 = .ok (.iload 4, 2) := by decide +kernel
theorem dX5_take_375 : decode cX5_take 375 = .ok (.ifCond .ge 43, 3) := by decide +kernel
theorem dX5_take_378 : decode cX5_take 378 = .ok (.iconst 0, 1) := by decide +kernel
theorem dX5_take_379 : decode cX5_take 379 = .ok (.istore 5, 2) := by decide +kernel
theorem dX5_take_381 : decode cX5_take 381 = .ok (.iload 5, 2) := by decide +kernel
theorem dX5_take_383 : decode cX5_take 383 = .ok (.aload_n 0, 1) := by decide +kernel
theorem dX5_take_384 : decode cX5_take 384 = .ok (.getfield 66, 3) := by decide +kernel
theorem dX5_take_387 : decode cX5_take 387 = .ok (.if_icmp .ge 23, 3) := by decide +kernel
theorem dX5_take_390 : decode cX5_take 390 = .ok (.aload_n 0, 1) := by decide +kernel
theorem dX5_take_391 : decode cX5_take 391 = .ok (.getfield 32, 3) := by decide +kernel
theorem dX5_take_394 : decode cX5_take 394 = .ok (.iload 5, 2) := by decide +kernel
theorem dX5_take_396 : decode cX5_take 396 = .ok (.aload_n 0, 1) := by decide +kernel
theorem dX5_take_397 : decode cX5_take 397 = .ok (.getfield 57, 3) := by decide +kernel
theorem dX5_take_400 : decode cX5_take 400 = .ok (.iload 5, 2) := by decide +kernel
theorem dX5_take_402 : decode cX5_take 402 = .ok (.laload, 1) := by decide +kernel
theorem dX5_take_403 : decode cX5_take 403 = .ok (.lastore, 1) := by decide +kernel
theorem dX5_take_404 : decode cX5_take 404 = .ok (.iinc 5 1, 3) := by decide +kernel
theorem dX5_take_407 : decode cX5_take 407 = .ok (.goto (-26), 3) := by decide +kernel
theorem dX5_take_410 : decode cX5_take 410 = .ok (.aload_n 0, 1) := by decide +kernel
theorem dX5_take_411 : decode cX5_take 411 = .ok (.aload_n 0, 1) := by decide +kernel
theorem dX5_take_412 : decode cX5_take 412 = .ok (.getfield 74, 3) := by decide +kernel
theorem dX5_take_415 : decode cX5_take 415 = .ok (.putfield 114, 3) := by decide +kernel
theorem dX5_take_418 : decode cX5_take 418 = .ok (.aload_n 0, 1) := by decide +kernel
theorem dX5_take_419 : decode cX5_take 419 = .ok (.lload_n 1, 1) := by decide +kernel
theorem dX5_take_420 : decode cX5_take 420 = .ok (.putfield 108, 3) := by decide +kernel
theorem dX5_take_423 : decode cX5_take 423 = .ok (.aload_n 0, 1) := by decide +kernel
theorem dX5_take_424 : decode cX5_take 424 = .ok (.aload_n 0, 1) := by decide +kernel
theorem dX5_take_425 : decode cX5_take 425 = .ok (.getfield 74, 3) := by decide +kernel
theorem dX5_take_428 : decode cX5_take 428 = .ok (.putfield 111, 3) := by decide +kernel
theorem dX5_take_431 : decode cX5_take 431 = .ok (.return_, 1) := by decide +kernel
theorem dX5_all_0 : decode cX5_all 0 = .ok (.iconst 0, 1) := by decide +kernel
theorem dX5_all_1 : decode cX5_all 1 = .ok (.istore_n 1, 1) := by decide +kernel
theorem dX5_all_2 : decode cX5_all 2 = .ok (.iconst 0, 1) := by decide +kernel
theorem dX5_all_3 : decode cX5_all 3 = .ok (.istore_n 2, 1) := by decide +kernel
theorem dX5_all_4 : decode cX5_all 4 = .ok (.iload_n 2, 1) := by decide +kernel
theorem dX5_all_5 : decode cX5_all 5 = .ok (.aload_n 0, 1) := by decide +kernel
theorem dX5_all_6 : decode cX5_all 6 = .ok (.getfield 78, 3) := by decide +kernel
theorem dX5_all_9 : decode cX5_all 9 = .ok (.if_icmp .ge 28, 3) := by decide +kernel
theorem dX5_all_12 : decode cX5_all 12 = .ok (.iload_n 1, 1) := by decide +kernel
theorem dX5_all_13 : decode cX5_all 13 = .ok (.aload_n 0, 1) := by decide +kernel
theorem dX5_all_14 : decode cX5_all 14 = .ok (.getfield 28, 3) := by decide +kernel
theorem dX5_all_17 : decode cX5_all 17 = .ok (.iload_n 2, 1) := by decide +kernel
theorem dX5_all_18 : decode cX5_all 18 = .ok (.baload, 1) := by decide +kernel
theorem dX5_all_19 : decode cX5_all 19 = .ok (.ifCond .eq 9, 3) := by decide +kernel
theorem dX5_all_22 : decode cX5_all 22 = .ok (.iconst 1, 1) := by decide +kernel
theorem dX5_all_23 : decode cX5_all 23 = .ok (.iload_n 2, 1) := by decide +kernel
theorem dX5_all_24 : decode cX5_all 24 = .ok (.ishl, 1) := by decide +kernel
theorem dX5_all_25 : decode cX5_all 25 = .ok (.goto 4, 3) := by decide +kernel
theorem dX5_all_28 : decode cX5_all 28 = .ok (.iconst 0, 1) := by decide +kernel
theorem dX5_all_29 : decode cX5_all 29 = .ok (.ior, 1) := by decide +kernel
theorem dX5_all_30 : decode cX5_all 30 = .ok (.istore_n 1, 1) := by decide +kernel
theorem dX5_all_31 : decode cX5_all 31 = .ok (.iinc 2 1, 3) := by decide +kernel
theorem dX5_all_34 : decode cX5_all 34 = .ok (.goto (-30), 3) := by decide +kernel
theorem dX5_all_37 : decode cX5_all 37 = .ok (.iload_n 1, 1) := by decide +kernel
theorem dX5_all_38 : decode cX5_all 38 = .ok (.ireturn, 1) := by decide +kernel
set_option maxRecDepth 20000 in
theorem ggX5_know_X5_all : GoodIn wsX5_know wsX5_all := goodIn_r _ [9, 10, 11, 62, 63, 64, 65, 66, 67, 68, 69, 70, 71, 72, 73, 74, 75, 76, 77, 78, 79, 80, 81, 82, 83, 84, 85, 86, 87, 88, 89] (by decide +kernel) (by decide +kernel)
set_option maxRecDepth 20000 in
theorem gX5_know_X5_all : GoodIn wsX5_know (wsV RX5 120 RX5 yX5_all wsX5_all) := goodIn_app (goodIn_of _ (by decide +kernel)) ggX5_know_X5_all
set_option maxRecDepth 20000 in
theorem ggX5_know_X5_corners : GoodIn wsX5_know wsX5_corners := goodIn_r _ [15, 16, 17, 18, 19, 20, 21, 8, 22, 23, 24, 25, 10, 26, 27, 28, 29, 30, 31, 32, 33, 2, 34, 35, 36, 37, 38, 39, 40, 41, 42, 43, 44, 45, 46, 47, 48, 49, 50, 51, 52, 53, 54, 55, 56, 57, 58, 59, 60, 61, 62, 63, 64, 65, 66, 67, 68, 69, 70, 71, 72, 73, 74, 75, 76, 77, 78, 79, 80, 81, 82, 83, 84, 85, 86, 87, 88, 89] (by decide +kernel) (by decide +kernel)
set_option maxRecDepth 20000 in
theorem gX5_know_X5_corners : GoodIn wsX5_know (wsV RX5 124 RX5 yX5_corners wsX5_corners) := goodIn_app (goodIn_of _ (by decide +kernel)) ggX5_know_X5_corners
theorem dX5_know_0 : decode cX5_know 0 = .ok (.aload_n 0, 1) := by decide +kernel
theorem dX5_know_1 : decode cX5_know 1 = .ok (.getfield 117, 3) := by decide +kernel
theorem dX5_know_4 : decode cX5_know 4 = .ok (.ifCond .eq 4, 3) := by decide +kernel
theorem dX5_know_7 : decode cX5_know 7 = .ok (.return_, 1) := by decide +kernel
theorem dX5_know_8 : decode cX5_know 8 = .ok (.aload_n 0, 1) := by decide +kernel
theorem dX5_know_9 : decode cX5_know 9 = .ok (.iconst 1, 1) := by decide +kernel
theorem dX5_know_10 : decode cX5_know 10 = .ok (.putfield 117, 3) := by decide +kernel
theorem dX5_know_13 : decode cX5_know 13 = .ok (.aload_n 0, 1) := by decide +kernel
theorem dX5_know_14 : decode cX5_know 14 = .ok (.iconst 0, 1) := by decide +kernel
theorem dX5_know_15 : decode cX5_know 15 = .ok (.putfield 100, 3) := by decide +kernel
theorem dX5_know_18 : decode cX5_know 18 = .ok (.aload_n 0, 1) := by decide +kernel
theorem dX5_know_19 : decode cX5_know 19 = .ok (.aload_n 0, 1) := by decide +kernel
theorem dX5_know_20 : decode cX5_know 20 = .ok (.aload_n 0, 1) := by decide +kernel
theorem dX5_know_21 : decode cX5_know 21 = .ok (.invokevirtual 120, 3) := by decide +kernel
theorem dX5_know_24 : decode cX5_know 24 = .ok (.iconst 1, 1) := by decide +kernel
theorem dX5_know_25 : decode cX5_know 25 = .ok (.invokevirtual 124, 3) := by decide +kernel
theorem dX5_know_28 : decode cX5_know 28 = .ok (.putfield 128, 3) := by decide +kernel
theorem dX5_know_31 : decode cX5_know 31 = .ok (.aload_n 0, 1) := by decide +kernel
theorem dX5_know_32 : decode cX5_know 32 = .ok (.invokevirtual 120, 3) := by decide +kernel
theorem dX5_know_35 : decode cX5_know 35 = .ok (.istore_n 1, 1) := by decide +kernel
theorem dX5_know_36 : decode cX5_know 36 = .ok (.bipush 7, 2) := by decide +kernel
theorem dX5_know_38 : decode cX5_know 38 = .ok (.istore_n 2, 1) := by decide +kernel
theorem dX5_know_39 : decode cX5_know 39 = .ok (.iload_n 2, 1) := by decide +kernel
theorem dX5_know_40 : decode cX5_know 40 = .ok (.ifCond .lt 48, 3) := by decide +kernel
theorem dX5_know_43 : decode cX5_know 43 = .ok (.aload_n 0, 1) := by decide +kernel
theorem dX5_know_44 : decode cX5_know 44 = .ok (.getfield 128, 3) := by decide +kernel
theorem dX5_know_47 : decode cX5_know 47 = .ok (.ifCond .ne 41, 3) := by decide +kernel
theorem dX5_know_50 : decode cX5_know 50 = .ok (.iload_n 1, 1) := by decide +kernel
theorem dX5_know_51 : decode cX5_know 51 = .ok (.iload_n 2, 1) := by decide +kernel
theorem dX5_know_52 : decode cX5_know 52 = .ok (.ishr, 1) := by decide +kernel
theorem dX5_know_53 : decode cX5_know 53 = .ok (.iconst 1, 1) := by decide +kernel
theorem dX5_know_54 : decode cX5_know 54 = .ok (.iand, 1) := by decide +kernel
theorem dX5_know_55 : decode cX5_know 55 = .ok (.iconst 1, 1) := by decide +kernel
theorem dX5_know_56 : decode cX5_know 56 = .ok (.if_icmp .ne 26, 3) := by decide +kernel
theorem dX5_know_59 : decode cX5_know 59 = .ok (.aload_n 0, 1) := by decide +kernel
theorem dX5_know_60 : decode cX5_know 60 = .ok (.iload_n 1, 1) := by decide +kernel
theorem dX5_know_61 : decode cX5_know 61 = .ok (.iconst 1, 1) := by decide +kernel
theorem dX5_know_62 : decode cX5_know 62 = .ok (.iload_n 2, 1) := by decide +kernel
theorem dX5_know_63 : decode cX5_know 63 = .ok (.ishl, 1) := by decide +kernel
theorem dX5_know_64 : decode cX5_know 64 = .ok (.iconst (-1), 1) := by decide +kernel
theorem dX5_know_65 : decode cX5_know 65 = .ok (.ixor, 1) := by decide +kernel
theorem dX5_know_66 : decode cX5_know 66 = .ok (.iand, 1) := by decide +kernel
theorem dX5_know_67 : decode cX5_know 67 = .ok (.iconst 0, 1) := by decide +kernel
theorem dX5_know_68 : decode cX5_know 68 = .ok (.invokevirtual 124, 3) := by decide +kernel
theorem dX5_know_71 : decode cX5_know 71 = .ok (.ifCond .ne 11, 3) := by decide +kernel
theorem dX5_know_74 : decode cX5_know 74 = .ok (.iload_n 1, 1) := by decide +kernel
theorem dX5_know_75 : decode cX5_know 75 = .ok (.iconst 1, 1) := by decide +kernel
theorem dX5_know_76 : decode cX5_know 76 = .ok (.iload_n 2, 1) := by decide +kernel
theorem dX5_know_77 : decode cX5_know 77 = .ok (.ishl, 1) := by decide +kernel
theorem dX5_know_78 : decode cX5_know 78 = .ok (.iconst (-1), 1) := by decide +kernel
theorem dX5_know_79 : decode cX5_know 79 = .ok (.ixor, 1) := by decide +kernel
theorem dX5_know_80 : decode cX5_know 80 = .ok (.iand, 1) := by decide +kernel
theorem dX5_know_81 : decode cX5_know 81 = .ok (.istore_n 1, 1) := by decide +kernel
theorem dX5_know_82 : decode cX5_know 82 = .ok (.iinc 2 (-1), 3) := by decide +kernel
theorem dX5_know_85 : decode cX5_know 85 = .ok (.goto (-46), 3) := by decide +kernel
theorem dX5_know_88 : decode cX5_know 88 = .ok (.iconst 0, 1) := by decide +kernel
theorem dX5_know_89 : decode cX5_know 89 = .ok (.istore_n 2, 1) := by decide +kernel
theorem dX5_know_90 : decode cX5_know 90 = .ok (.iload_n 2, 1) := by decide +kernel
theorem dX5_know_91 : decode cX5_know 91 = .ok (.bipush 8, 2) := by decide +kernel
theorem dX5_know_93 : decode cX5_know 93 = .ok (.if_icmp .ge 36, 3) := by decide +kernel
theorem dX5_know_96 : decode cX5_know 96 = .ok (.aload_n 0, 1) := by decide +kernel
theorem dX5_know_97 : decode cX5_know 97 = .ok (.getfield 48, 3) := by decide +kernel
theorem dX5_know_100 : decode cX5_know 100 = .ok (.iload_n 2, 1) := by decide +kernel
theorem dX5_know_101 : decode cX5_know 101 = .ok (.aload_n 0, 1) := by decide +kernel
theorem dX5_know_102 : decode cX5_know 102 = .ok (.getfield 128, 3) := by decide +kernel
theorem dX5_know_105 : decode cX5_know 105 = .ok (.ifCond .ne 16, 3) := by decide +kernel
theorem dX5_know_108 : decode cX5_know 108 = .ok (.iload_n 1, 1) := by decide +kernel
theorem dX5_know_109 : decode cX5_know 109 = .ok (.iload_n 2, 1) := by decide +kernel
theorem dX5_know_110 : decode cX5_know 110 = .ok (.ishr, 1) := by decide +kernel
theorem dX5_know_111 : decode cX5_know 111 = .ok (.iconst 1, 1) := by decide +kernel
theorem dX5_know_112 : decode cX5_know 112 = .ok (.iand, 1) := by decide +kernel
theorem dX5_know_113 : decode cX5_know 113 = .ok (.iconst 1, 1) := by decide +kernel
theorem dX5_know_114 : decode cX5_know 114 = .ok (.if_icmp .ne 7, 3) := by decide +kernel
theorem dX5_know_117 : decode cX5_know 117 = .ok (.iconst 1, 1) := by decide +kernel
theorem dX5_know_118 : decode cX5_know 118 = .ok (.goto 4, 3) := by decide +kernel
theorem dX5_know_121 : decode cX5_know 121 = .ok (.iconst 0, 1) := by decide +kernel
theorem dX5_know_122 : decode cX5_know 122 = .ok (.bastore, 1) := by decide +kernel
theorem dX5_know_123 : decode cX5_know 123 = .ok (.iinc 2 1, 3) := by decide +kernel
theorem dX5_know_126 : decode cX5_know 126 = .ok (.goto (-36), 3) := by decide +kernel
theorem dX5_know_129 : decode cX5_know 129 = .ok (.return_, 1) := by decide +kernel
theorem dX5_lowest_0 : decode cX5_lowest 0 = .ok (.lload_n 0, 1) := by decide +kernel
theorem dX5_lowest_1 : decode cX5_lowest 1 = .ok (.lconst 0, 1) := by decide +kernel
theorem dX5_lowest_2 : decode cX5_lowest 2 = .ok (.lcmp, 1) := by decide +kernel
theorem dX5_lowest_3 : decode cX5_lowest 3 = .ok (.ifCond .ge 8, 3) := by decide +kernel
theorem dX5_lowest_6 : decode cX5_lowest 6 = .ok (.lload_n 0, 1) := by decide +kernel
theorem dX5_lowest_7 : decode cX5_lowest 7 = .ok (.lneg, 1) := by decide +kernel
theorem dX5_lowest_8 : decode cX5_lowest 8 = .ok (.goto 4, 3) := by decide +kernel
theorem dX5_lowest_11 : decode cX5_lowest 11 = .ok (.lload_n 0, 1) := by decide +kernel
theorem dX5_lowest_12 : decode cX5_lowest 12 = .ok (.lstore 5, 2) := by decide +kernel
theorem dX5_lowest_14 : decode cX5_lowest 14 = .ok (.lload_n 2, 1) := by decide +kernel
theorem dX5_lowest_15 : decode cX5_lowest 15 = .ok (.lstore 7, 2) := by decide +kernel
theorem dX5_lowest_17 : decode cX5_lowest 17 = .ok (.lload 5, 2) := by decide +kernel
theorem dX5_lowest_19 : decode cX5_lowest 19 = .ok (.lconst 0, 1) := by decide +kernel
theorem dX5_lowest_20 : decode cX5_lowest 20 = .ok (.lcmp, 1) := by decide +kernel
theorem dX5_lowest_21 : decode cX5_lowest 21 = .ok (.ifCond .eq 21, 3) := by decide +kernel
theorem dX5_lowest_24 : decode cX5_lowest 24 = .ok (.lload 7, 2) := by decide +kernel
