theorem dX5_init_0 : decode cX5_init 0 = .ok (.aload_n 0, 1) := by decide +kernel
theorem dX5_init_1 : decode cX5_init 1 = .ok (.invokespecial 1, 3) := by decide +kernel
theorem dX5_init_4 : decode cX5_init 4 = .ok (.aload_n 0, 1) := by decide +kernel
theorem dX5_init_5 : decode cX5_init 5 = .ok (.iconst 5, 1) := by decide +kernel
theorem dX5_init_6 : decode cX5_init 6 = .ok (.newarray .int, 2) := by decide +kernel
theorem dX5_init_8 : decode cX5_init 8 = .ok (.putfield 7, 3) := by decide +kernel
theorem dX5_init_11 : decode cX5_init 11 = .ok (.aload_n 0, 1) := by decide +kernel
theorem dX5_init_12 : decode cX5_init 12 = .ok (.iconst 5, 1) := by decide +kernel
theorem dX5_init_13 : decode cX5_init 13 = .ok (.newarray .int, 2) := by decide +kernel
theorem dX5_init_15 : decode cX5_init 15 = .ok (.putfield 13, 3) := by decide +kernel
theorem dX5_init_18 : decode cX5_init 18 = .ok (.aload_n 0, 1) := by decide +kernel
theorem dX5_init_19 : decode cX5_init 19 = .ok (.iconst 5, 1) := by decide +kernel
theorem dX5_init_20 : decode cX5_init 20 = .ok (.newarray .int, 2) := by decide +kernel
theorem dX5_init_22 : decode cX5_init 22 = .ok (.putfield 16, 3) := by decide +kernel
theorem dX5_init_25 : decode cX5_init 25 = .ok (.aload_n 0, 1) := by decide +kernel
theorem dX5_init_26 : decode cX5_init 26 = .ok (.bipush 8, 2) := by decide +kernel
theorem dX5_init_28 : decode cX5_init 28 = .ok (.newarray .int, 2) := by decide +kernel
theorem dX5_init_30 : decode cX5_init 30 = .ok (.putfield 19, 3) := by decide +kernel
theorem dX5_init_33 : decode cX5_init 33 = .ok (.aload_n 0, 1) := by decide +kernel
theorem dX5_init_34 : decode cX5_init 34 = .ok (.bipush 8, 2) := by decide +kernel
theorem dX5_init_36 : decode cX5_init 36 = .ok (.newarray .int, 2) := by decide +kernel
theorem dX5_init_38 : decode cX5_init 38 = .ok (.putfield 22, 3) := by decide +kernel
theorem dX5_init_41 : decode cX5_init 41 = .ok (.aload_n 0, 1) := by decide +kernel
theorem dX5_init_42 : decode cX5_init 42 = .ok (.bipush 40, 2) := by decide +kernel
theorem dX5_init_44 : decode cX5_init 44 = .ok (.newarray .int, 2) := by decide +kernel
theorem dX5_init_46 : decode cX5_init 46 = .ok (.putfield 25, 3) := by decide +kernel
theorem dX5_init_49 : decode cX5_init 49 = .ok (.aload_n 0, 1) := by decide +kernel
theorem dX5_init_50 : decode cX5_init 50 = .ok (.bipush 8, 2) := by decide +kernel
theorem dX5_init_52 : decode cX5_init 52 = .ok (.newarray .boolean, 2) := by decide +kernel
theorem dX5_init_54 : decode cX5_init 54 = .ok (.putfield 28, 3) := by decide +kernel
theorem dX5_init_57 : decode cX5_init 57 = .ok (.aload_n 0, 1) := by decide +kernel
theorem dX5_init_58 : decode cX5_init 58 = .ok (.iconst 5, 1) := by decide +kernel
theorem dX5_init_59 : decode cX5_init 59 = .ok (.newarray .long, 2) := by decide +kernel
theorem dX5_init_61 : decode cX5_init 61 = .ok (.putfield 32, 3) := by decide +kernel
theorem dX5_init_64 : decode cX5_init 64 = .ok (.aload_n 0, 1) := by decide +kernel
theorem dX5_init_65 : decode cX5_init 65 = .ok (.bipush 10, 2) := by decide +kernel
theorem dX5_init_67 : decode cX5_init 67 = .ok (.newarray .long, 2) := by decide +kernel
theorem dX5_init_69 : decode cX5_init 69 = .ok (.putfield 36, 3) := by decide +kernel
theorem dX5_init_72 : decode cX5_init 72 = .ok (.aload_n 0, 1) := by decide +kernel
theorem dX5_init_73 : decode cX5_init 73 = .ok (.bipush 10, 2) := by decide +kernel
theorem dX5_init_75 : decode cX5_init 75 = .ok (.newarray .long, 2) := by decide +kernel
theorem dX5_init_77 : decode cX5_init 77 = .ok (.putfield 39, 3) := by decide +kernel
theorem dX5_init_80 : decode cX5_init 80 = .ok (.aload_n 0, 1) := by decide +kernel
theorem dX5_init_81 : decode cX5_init 81 = .ok (.bipush 10, 2) := by decide +kernel
theorem dX5_init_83 : decode cX5_init 83 = .ok (.newarray .long, 2) := by decide +kernel
theorem dX5_init_85 : decode cX5_init 85 = .ok (.putfield 42, 3) := by decide +kernel
theorem dX5_init_88 : decode cX5_init 88 = .ok (.aload_n 0, 1) := by decide +kernel
theorem dX5_init_89 : decode cX5_init 89 = .ok (.bipush 10, 2) := by decide +kernel
theorem dX5_init_91 : decode cX5_init 91 = .ok (.newarray .long, 2) := by decide +kernel
theorem dX5_init_93 : decode cX5_init 93 = .ok (.putfield 45, 3) := by decide +kernel
theorem dX5_init_96 : decode cX5_init 96 = .ok (.aload_n 0, 1) := by decide +kernel
theorem dX5_init_97 : decode cX5_init 97 = .ok (.bipush 8, 2) := by decide +kernel
theorem dX5_init_99 : decode cX5_init 99 = .ok (.newarray .boolean, 2) := by decide +kernel
theorem dX5_init_101 : decode cX5_init 101 = .ok (.putfield 48, 3) := by decide +kernel
theorem dX5_init_104 : decode cX5_init 104 = .ok (.aload_n 0, 1) := by decide +kernel
theorem dX5_init_105 : decode cX5_init 105 = .ok (.bipush 30, 2) := by decide +kernel
theorem dX5_init_107 : decode cX5_init 107 = .ok (.newarray .long, 2) := by decide +kernel
theorem dX5_init_109 : decode cX5_init 109 = .ok (.putfield 51, 3) := by decide +kernel
theorem dX5_init_112 : decode cX5_init 112 = .ok (.aload_n 0, 1) := by decide +kernel
theorem dX5_init_113 : decode cX5_init 113 = .ok (.bipush 6, 2) := by decide +kernel
theorem dX5_init_115 : decode cX5_init 115 = .ok (.newarray .int, 2) := by decide +kernel
theorem dX5_init_117 : decode cX5_init 117 = .ok (.putfield 54, 3) := by decide +kernel
theorem dX5_init_120 : decode cX5_init 120 = .ok (.aload_n 0, 1) := by decide +kernel
theorem dX5_init_121 : decode cX5_init 121 = .ok (.iconst 5, 1) := by decide +kernel
theorem dX5_init_122 : decode cX5_init 122 = .ok (.newarray .long, 2) := by decide +kernel
theorem dX5_init_124 : decode cX5_init 124 = .ok (.putfield 57, 3) := by decide +kernel
theorem dX5_init_127 : decode cX5_init 127 = .ok (.aload_n 0, 1) := by decide +kernel
theorem dX5_init_128 : decode cX5_init 128 = .ok (.iconst 5, 1) := by decide +kernel
theorem dX5_init_129 : decode cX5_init 129 = .ok (.newarray .int, 2) := by decide +kernel
theorem dX5_init_131 : decode cX5_init 131 = .ok (.putfield 60, 3) := by decide +kernel
theorem dX5_init_134 : decode cX5_init 134 = .ok (.aload_n 0, 1) := by decide +kernel
theorem dX5_init_135 : decode cX5_init 135 = .ok (.iconst 5, 1) := by decide +kernel
theorem dX5_init_136 : decode cX5_init 136 = .ok (.newarray .int, 2) := by decide +kernel
theorem dX5_init_138 : decode cX5_init 138 = .ok (.putfield 63, 3) := by decide +kernel
theorem dX5_init_141 : decode cX5_init 141 = .ok (.return_, 1) := by decide +kernel
theorem dX5_part_0 : decode cX5_part 0 = .ok (.iload_n 1, 1) := by decide +kernel
theorem dX5_part_1 : decode cX5_part 1 = .ok (.bipush 8, 2) := by decide +kernel
theorem dX5_part_3 : decode cX5_part 3 = .ok (.if_icmp .ge 30, 3) := by decide +kernel
theorem dX5_part_6 : decode cX5_part 6 = .ok (.iload_n 2, 1) := by decide +kernel
theorem dX5_part_7 : decode cX5_part 7 = .ok (.iconst 5, 1) := by decide +kernel
theorem dX5_part_8 : decode cX5_part 8 = .ok (.if_icmp .ne 13, 3) := by decide +kernel
theorem dX5_part_11 : decode cX5_part 11 = .ok (.aload_n 0, 1) := by decide +kernel
theorem dX5_part_12 : decode cX5_part 12 = .ok (.getfield 22, 3) := by decide +kernel
theorem dX5_part_15 : decode cX5_part 15 = .ok (.iload_n 1, 1) := by decide +kernel
theorem dX5_part_16 : decode cX5_part 16 = .ok (.iaload, 1) := by decide +kernel
theorem dX5_part_17 : decode cX5_part 17 = .ok (.i2l, 1) := by decide +kernel
theorem dX5_part_18 : decode cX5_part 18 = .ok (.goto 14, 3) := by decide +kernel
theorem dX5_part_21 : decode cX5_part 21 = .ok (.aload_n 0, 1) := by decide +kernel
theorem dX5_part_22 : decode cX5_part 22 = .ok (.getfield 25, 3) := by decide +kernel
theorem dX5_part_25 : decode cX5_part 25 = .ok (.iconst 5, 1) := by decide +kernel
theorem dX5_part_26 : decode cX5_part 26 = .ok (.iload_n 1, 1) := by decide +kernel
theorem dX5_part_27 : decode cX5_part 27 = .ok (.imul, 1) := by decide +kernel
theorem dX5_part_28 : decode cX5_part 28 = .ok (.iload_n 2, 1) := by decide +kernel
theorem dX5_part_29 : decode cX5_part 29 = .ok (.iadd, 1) := by decide +kernel
theorem dX5_part_30 : decode cX5_part 30 = .ok (.iaload, 1) := by decide +kernel
theorem dX5_part_31 : decode cX5_part 31 = .ok (.i2l, 1) := by decide +kernel
theorem dX5_part_32 : decode cX5_part 32 = .ok (.lreturn, 1) := by decide +kernel
theorem dX5_part_33 : decode cX5_part 33 = .ok (.iload_n 1, 1) := by decide +kernel
theorem dX5_part_34 : decode cX5_part 34 = .ok (.bipush 8, 2) := by decide +kernel
theorem dX5_part_36 : decode cX5_part 36 = .ok (.isub, 1) := by decide +kernel
theorem dX5_part_37 : decode cX5_part 37 = .ok (.iconst 5, 1) := by decide +kernel
theorem dX5_part_38 : decode cX5_part 38 = .ok (.irem, 1) := by decide +kernel
theorem dX5_part_39 : decode cX5_part 39 = .ok (.istore_n 3, 1) := by decide +kernel
theorem dX5_part_40 : decode cX5_part 40 = .ok (.iload_n 2, 1) := by decide +kernel
theorem dX5_part_41 : decode cX5_part 41 = .ok (.iconst 5, 1) := by decide +kernel
theorem dX5_part_42 : decode cX5_part 42 = .ok (.if_icmp .ne 29, 3) := by decide +kernel
theorem dX5_part_45 : decode cX5_part 45 = .ok (.iload_n 1, 1) := by decide +kernel
theorem dX5_part_46 : decode cX5_part 46 = .ok (.bipush 13, 2) := by decide +kernel
theorem dX5_part_48 : decode cX5_part 48 = .ok (.if_icmp .ge 13, 3) := by decide +kernel
theorem dX5_part_51 : decode cX5_part 51 = .ok (.aload_n 0, 1) := by decide +kernel
theorem dX5_part_52 : decode cX5_part 52 = .ok (.getfield 7, 3) := by decide +kernel
theorem dX5_part_55 : decode cX5_part 55 = .ok (.iload_n 3, 1) := by decide +kernel
theorem dX5_part_56 : decode cX5_part 56 = .ok (.iaload, 1) := by decide +kernel
theorem dX5_part_57 : decode cX5_part 57 = .ok (.i2l, 1) := by decide +kernel
theorem dX5_part_58 : decode cX5_part 58 = .ok (.goto 23, 3) := by decide +kernel
theorem dX5_part_61 : decode cX5_part 61 = .ok (.aload_n 0, 1) := by decide +kernel
theorem dX5_part_62 : decode cX5_part 62 = .ok (.getfield 13, 3) := by decide +kernel
theorem dX5_part_65 : decode cX5_part 65 = .ok (.iload_n 3, 1) := by decide +kernel
theorem dX5_part_66 : decode cX5_part 66 = .ok (.iaload, 1) := by decide +kernel
theorem dX5_part_67 : decode cX5_part 67 = .ok (.i2l, 1) := by decide +kernel
theorem dX5_part_68 : decode cX5_part 68 = .ok (.goto 13, 3) := by decide +kernel
theorem dX5_part_71 : decode cX5_part 71 = .ok (.iload_n 2, 1) := by decide +kernel
theorem dX5_part_72 : decode cX5_part 72 = .ok (.iload_n 3, 1) := by decide +kernel
theorem dX5_part_73 : decode cX5_part 73 = .ok (.if_icmp .ne 7, 3) := by decide +kernel
theorem dX5_part_76 : decode cX5_part 76 = .ok (.lconst 1, 1) := by decide +kernel
theorem dX5_part_77 : decode cX5_part 77 = .ok (.goto 4, 3) := by decide +kernel
theorem dX5_part_80 : decode cX5_part 80 = .ok (.lconst 0, 1) := by decide +kernel
theorem dX5_part_81 : decode cX5_part 81 = .ok (.lreturn, 1) := by decide +kernel
set_option maxRecDepth 20000 in
theorem ggX5_solve_X5_part : GoodIn wsX5_solve wsX5_part := goodIn_r _ [10, 11, 12, 13, 14, 15, 16, 17, 18, 19, 20, 21, 22, 23, 24, 25, 26, 27, 28, 29, 30, 31, 32, 33, 34, 35, 36, 37, 38, 39, 40, 41, 42] rfl (by decide +kernel)
set_option maxRecDepth 20000 in
theorem gX5_solve_X5_part : GoodIn wsX5_solve (wsV RX5 70 RX5 yX5_part wsX5_part) := goodIn_app (goodIn_of _ (by decide +kernel)) ggX5_solve_X5_part
theorem dX5_solve_0 : decode cX5_solve 0 = .ok (.aload_n 0, 1) := by decide +kernel
theorem dX5_solve_1 : decode cX5_solve 1 = .ok (.getfield 66, 3) := by decide +kernel
theorem dX5_solve_4 : decode cX5_solve 4 = .ok (.istore_n 1, 1) := by decide +kernel
theorem dX5_solve_5 : decode cX5_solve 5 = .ok (.iconst 0, 1) := by decide +kernel
theorem dX5_solve_6 : decode cX5_solve 6 = .ok (.istore_n 2, 1) := by decide +kernel
theorem dX5_solve_7 : decode cX5_solve 7 = .ok (.iload_n 2, 1) := by decide +kernel
theorem dX5_solve_8 : decode cX5_solve 8 = .ok (.iload_n 1, 1) := by decide +kernel
theorem dX5_solve_9 : decode cX5_solve 9 = .ok (.if_icmp .ge 66, 3) := by decide +kernel
theorem dX5_solve_12 : decode cX5_solve 12 = .ok (.iconst 0, 1) := by decide +kernel
theorem dX5_solve_13 : decode cX5_solve 13 = .ok (.istore_n 3, 1) := by decide +kernel
theorem dX5_solve_14 : decode cX5_solve 14 = .ok (.iload_n 3, 1) := by decide +kernel
theorem dX5_solve_15 : decode cX5_solve 15 = .ok (.iload_n 1, 1) := by decide +kernel
theorem dX5_solve_16 : decode cX5_solve 16 = .ok (.if_icmp .ge 31, 3) := by decide +kernel
theorem dX5_solve_19 : decode cX5_solve 19 = .ok (.aload_n 0, 1) := by decide +kernel
theorem dX5_solve_20 : decode cX5_solve 20 = .ok (.getfield 51, 3) := by decide +kernel
theorem dX5_solve_23 : decode cX5_solve 23 = .ok (.bipush 6, 2) := by decide +kernel
theorem dX5_solve_25 : decode cX5_solve 25 = .ok (.iload_n 2, 1) := by decide +kernel
theorem dX5_solve_26 : decode cX5_solve 26 = .ok (.imul, 1) := by decide +kernel
theorem dX5_solve_27 : decode cX5_solve 27 = .ok (.iload_n 3, 1) := by decide +kernel
theorem dX5_solve_28 : decode cX5_solve 28 = .ok (.iadd, 1) := by decide +kernel
theorem dX5_solve_29 : decode cX5_solve 29 = .ok (.aload_n 0, 1) := by decide +kernel
theorem dX5_solve_30 : decode cX5_solve 30 = .ok (.aload_n 0, 1) := by decide +kernel
theorem dX5_solve_31 : decode cX5_solve 31 = .ok (.getfield 54, 3) := by decide +kernel
theorem dX5_solve_34 : decode cX5_solve 34 = .ok (.iload_n 2, 1) := by decide +kernel
theorem dX5_solve_35 : decode cX5_solve 35 = .ok (.iaload, 1) := by decide +kernel
theorem dX5_solve_36 : decode cX5_solve 36 = .ok (.iload_n 3, 1) := by decide +kernel
theorem dX5_solve_37 : decode cX5_solve 37 = .ok (.invokevirtual 70, 3) := by decide +kernel
theorem dX5_solve_40 : decode cX5_solve 40 = .ok (.lastore, 1) := by decide +kernel
theorem dX5_solve_41 : decode cX5_solve 41 = .ok (.iinc 3 1, 3) := by decide +kernel
theorem dX5_solve_44 : decode cX5_solve 44 = .ok (.goto (-30), 3) := by decide +kernel
theorem dX5_solve_47 : decode cX5_solve 47 = .ok (.aload_n 0, 1) := by decide +kernel
theorem dX5_solve_48 : decode cX5_solve 48 = .ok (.getfield 51, 3) := by decide +kernel
theorem dX5_solve_51 : decode cX5_solve 51 = .ok (.bipush 6, 2) := by decide +kernel
theorem dX5_solve_53 : decode cX5_solve 53 = .ok (.iload_n 2, 1) := by decide +kernel
theorem dX5_solve_54 : decode cX5_solve 54 = .ok (.imul, 1) := by decide +kernel
theorem dX5_solve_55 : decode cX5_solve 55 = .ok (.iload_n 1, 1) := by decide +kernel
theorem dX5_solve_56 : decode cX5_solve 56 = .ok (.iadd, 1) := by decide +kernel
theorem dX5_solve_57 : decode cX5_solve 57 = .ok (.aload_n 0, 1) := by decide +kernel
theorem dX5_solve_58 : decode cX5_solve 58 = .ok (.aload_n 0, 1) := by decide +kernel
theorem dX5_solve_59 : decode cX5_solve 59 = .ok (.getfield 54, 3) := by decide +kernel
theorem dX5_solve_62 : decode cX5_solve 62 = .ok (.iload_n 2, 1) := by decide +kernel
theorem dX5_solve_63 : decode cX5_solve 63 = .ok (.iaload, 1) := by decide +kernel
theorem dX5_solve_64 : decode cX5_solve 64 = .ok (.iconst 5, 1) := by decide +kernel
theorem dX5_solve_65 : decode cX5_solve 65 = .ok (.invokevirtual 70, 3) := by decide +kernel
theorem dX5_solve_68 : decode cX5_solve 68 = .ok (.lastore, 1) := by decide +kernel
theorem dX5_solve_69 : decode cX5_solve 69 = .ok (.iinc 2 1, 3) := by decide +kernel
theorem dX5_solve_72 : decode cX5_solve 72 = .ok (.goto (-65), 3) := by decide +kernel
theorem dX5_solve_75 : decode cX5_solve 75 = .ok (.lconst 1, 1) := by decide +kernel
theorem dX5_solve_76 : decode cX5_solve 76 = .ok (.lstore_n 2, 1) := by decide +kernel
theorem dX5_solve_77 : decode cX5_solve 77 = .ok (.iconst 0, 1) := by decide +kernel
theorem dX5_solve_78 : decode cX5_solve 78 = .ok (.istore 4, 2) := by decide +kernel
theorem dX5_solve_80 : decode cX5_solve 80 = .ok (.iload 4, 2) := by decide +kernel
theorem dX5_solve_82 : decode cX5_solve 82 = .ok (.iload_n 1, 1) := by decide +kernel
theorem dX5_solve_83 : decode cX5_solve 83 = .ok (.if_icmp .ge 240, 3) := by decide +kernel
theorem dX5_solve_86 : decode cX5_solve 86 = .ok (.iload 4, 2) := by decide +kernel
theorem dX5_solve_88 : decode cX5_solve 88 = .ok (.istore 5, 2) := by decide +kernel
theorem dX5_solve_90 : decode cX5_solve 90 = .ok (.iload 5, 2) := by decide +kernel
theorem dX5_solve_92 : decode cX5_solve 92 = .ok (.iload_n 1, 1) := by decide +kernel
theorem dX5_solve_93 : decode cX5_solve 93 = .ok (.if_icmp .ge 27, 3) := by decide +kernel
theorem dX5_solve_96 : decode cX5_solve 96 = .ok (.aload_n 0, 1) := by decide +kernel
theorem dX5_solve_97 : decode cX5_solve 97 = .ok (.getfield 51, 3) := by decide +kernel
theorem dX5_solve_100 : decode cX5_solve 100 = .ok (.bipush 6, 2) := by decide +kernel
theorem dX5_solve_102 : decode cX5_solve 102 = .ok (.iload 5, 2) := by decide +kernel
theorem dX5_solve_104 : decode cX5_solve 104 = .ok (.imul, 1) := by decide +kernel
theorem dX5_solve_105 : decode cX5_solve 105 = .ok (.iload 4, 2) := by decide +kernel
theorem dX5_solve_107 : decode cX5_solve 107 = .ok (.iadd, 1) := by decide +kernel
theorem dX5_solve_108 : decode cX5_solve 108 = .ok (.laload, 1) := by decide +kernel
theorem dX5_solve_109 : decode cX5_solve 109 = .ok (.lconst 0, 1) := by decide +kernel
theorem dX5_solve_110 : decode cX5_solve 110 = .ok (.lcmp, 1) := by decide +kernel
theorem dX5_solve_111 : decode cX5_solve 111 = .ok (.ifCond .ne 9, 3) := by decide +kernel
theorem dX5_solve_114 : decode cX5_solve 114 = .ok (.iinc 5 1, 3) := by decide +kernel
theorem dX5_solve_117 : decode cX5_solve 117 = .ok (.goto (-27), 3) := by decide +kernel
theorem dX5_solve_120 : decode cX5_solve 120 = .ok (.iload 5, 2) := by decide +kernel
theorem dX5_solve_122 : decode cX5_solve 122 = .ok (.iload_n 1, 1) := by decide +kernel
theorem dX5_solve_123 : decode cX5_solve 123 = .ok (.if_icmp .ne 5, 3) := by decide +kernel
theorem dX5_solve_126 : decode cX5_solve 126 = .ok (.iconst 0, 1) := by decide +kernel
theorem dX5_solve_127 : decode cX5_solve 127 = .ok (.ireturn, 1) := by decide +kernel
theorem dX5_solve_128 : decode cX5_solve 128 = .ok (.iconst 0, 1) := by decide +kernel
theorem dX5_solve_129 : decode cX5_solve 129 = .ok (.istore 6, 2) := by decide +kernel
theorem dX5_solve_131 : decode cX5_solve 131 = .ok (.iload 6, 2) := by decide +kernel
theorem dX5_solve_133 : decode cX5_solve 133 = .ok (.iload_n 1, 1) := by decide +kernel
theorem dX5_solve_134 : decode cX5_solve 134 = .ok (.if_icmp .gt 65, 3) := by decide +kernel
theorem dX5_solve_137 : decode cX5_solve 137 = .ok (.aload_n 0, 1) := by decide +kernel
theorem dX5_solve_138 : decode cX5_solve 138 = .ok (.getfield 51, 3) := by decide +kernel
theorem dX5_solve_141 : decode cX5_solve 141 = .ok (.bipush 6, 2) := by decide +kernel
theorem dX5_solve_143 : decode cX5_solve 143 = .ok (.iload 4, 2) := by decide +kernel
theorem dX5_solve_145 : decode cX5_solve 145 = .ok (.imul, 1) := by decide +kernel
theorem dX5_solve_146 : decode cX5_solve 146 = .ok (.iload 6, 2) := by decide +kernel
theorem dX5_solve_148 : decode cX5_solve 148 = .ok (.iadd, 1) := by decide +kernel
theorem dX5_solve_149 : decode cX5_solve 149 = .ok (.laload, 1) := by decide +kernel
theorem dX5_solve_150 : decode cX5_solve 150 = .ok (.lstore 7, 2) := by decide +kernel
theorem dX5_solve_152 : decode cX5_solve 152 = .ok (.aload_n 0, 1) := by decide +kernel
theorem dX5_solve_153 : decode cX5_solve 153 = .ok (.getfield 51, 3) := by decide +kernel
theorem dX5_solve_156 : decode cX5_solve 156 = .ok (.bipush 6, 2) := by decide +kernel
theorem dX5_solve_158 : decode cX5_solve 158 = .ok (.iload 4, 2) := by decide +kernel
theorem dX5_solve_160 : decode cX5_solve 160 = .ok (.imul, 1) := by decide +kernel
theorem dX5_solve_161 : decode cX5_solve 161 = .ok (.iload 6, 2) := by decide +kernel
theorem dX5_solve_163 : decode cX5_solve 163 = .ok (.iadd, 1) := by decide +kernel
theorem dX5_solve_164 : decode cX5_solve 164 = .ok (.aload_n 0, 1) := by decide +kernel
theorem dX5_solve_165 : decode cX5_solve 165 = .ok (.getfield 51, 3) := by decide +kernel
theorem dX5_solve_168 : decode cX5_solve 168 = .ok (.bipush 6, 2) := by decide +kernel
theorem dX5_solve_170 : decode cX5_solve 170 = .ok (.iload 5, 2) := by decide +kernel
theorem dX5_solve_172 : decode cX5_solve 172 = .ok (.imul, 1) := by decide +kernel
theorem dX5_solve_173 : decode cX5_solve 173 = .ok (.iload 6, 2) := by decide +kernel
theorem dX5_solve_175 : decode cX5_solve 175 = .ok (.iadd, 1) := by decide +kernel
theorem dX5_solve_176 : decode cX5_solve 176 = .ok (.laload, 1) := by decide +kernel
theorem dX5_solve_177 : decode cX5_solve 177 = .ok (.lastore, 1) := by decide +kernel
theorem dX5_solve_178 : decode cX5_solve 178 = .ok (.aload_n 0, 1) := by decide +kernel
theorem dX5_solve_179 : decode cX5_solve 179 = .ok (.getfield 51, 3) := by decide +kernel
theorem dX5_solve_182 : decode cX5_solve 182 = .ok (.bipush 6, 2) := by decide +kernel
theorem dX5_solve_184 : decode cX5_solve 184 = .ok (.iload 5, 2) := by decide +kernel
theorem dX5_solve_186 : decode cX5_solve 186 = .ok (.imul, 1) := by decide +kernel
theorem dX5_solve_187 : decode cX5_solve 187 = .ok (.iload 6, 2) := by decide +kernel
theorem dX5_solve_189 : decode cX5_solve 189 = .ok (.iadd, 1) := by decide +kernel
theorem dX5_solve_190 : decode cX5_solve 190 = .ok (.lload 7, 2) := by decide +kernel
theorem dX5_solve_192 : decode cX5_solve 192 = .ok (.lastore, 1) := by decide +kernel
theorem dX5_solve_193 : decode cX5_solve 193 = .ok (.iinc 6 1, 3) := by decide +kernel
theorem dX5_solve_196 : decode cX5_solve 196 = .ok (.goto (-65), 3) := by decide +kernel
theorem dX5_solve_199 : decode cX5_solve 199 = .ok (.aload_n 0, 1) := by decide +kernel
theorem dX5_solve_200 : decode cX5_solve 200 = .ok (.getfield 51, 3) := by decide +kernel
theorem dX5_solve_203 : decode cX5_solve 203 = .ok (.bipush 6, 2) := by decide +kernel
theorem dX5_solve_205 : decode cX5_solve 205 = .ok (.iload 4, 2) := by decide +kernel
theorem dX5_solve_207 : decode cX5_solve 207 = .ok (.imul, 1) := by decide +kernel
theorem dX5_solve_208 : decode cX5_solve 208 = .ok (.iload 4, 2) := by decide +kernel
theorem dX5_solve_210 : decode cX5_solve 210 = .ok (.iadd, 1) := by decide +kernel
theorem dX5_solve_211 : decode cX5_solve 211 = .ok (.laload, 1) := by decide +kernel
theorem dX5_solve_212 : decode cX5_solve 212 = .ok (.lstore 6, 2) := by decide +kernel
theorem dX5_solve_214 : decode cX5_solve 214 = .ok (.iconst 0, 1) := by decide +kernel
theorem dX5_solve_215 : decode cX5_solve 215 = .ok (.istore 8, 2) := by decide +kernel
theorem dX5_solve_217 : decode cX5_solve 217 = .ok (.iload 8, 2) := by decide +kernel
theorem dX5_solve_219 : decode cX5_solve 219 = .ok (.iload_n 1, 1) := by decide +kernel
theorem dX5_solve_220 : decode cX5_solve 220 = .ok (.if_icmp .ge 94, 3) := by decide +kernel
theorem dX5_solve_223 : decode cX5_solve 223 = .ok (.aload_n 0, 1) := by decide +kernel
theorem dX5_solve_224 : decode cX5_solve 224 = .ok (.getfield 51, 3) := by decide +kernel
theorem dX5_solve_227 : decode cX5_solve 227 = .ok (.bipush 6, 2) := by decide +kernel
theorem dX5_solve_229 : decode cX5_solve 229 = .ok (.iload 8, 2) := by decide +kernel
theorem dX5_solve_231 : decode cX5_solve 231 = .ok (.imul, 1) := by decide +kernel
theorem dX5_solve_232 : decode cX5_solve 232 = .ok (.iload 4, 2) := by decide +kernel
theorem dX5_solve_234 : decode cX5_solve 234 = .ok (.iadd, 1) := by decide +kernel
theorem dX5_solve_235 : decode cX5_solve 235 = .ok (.laload, 1) := by decide +kernel
theorem dX5_solve_236 : decode cX5_solve 236 = .ok (.lstore 9, 2) := by decide +kernel
theorem dX5_solve_238 : decode cX5_solve 238 = .ok (.iconst 0, 1) := by decide +kernel
theorem dX5_solve_239 : decode cX5_solve 239 = .ok (.istore 11, 2) := by decide +kernel
theorem dX5_solve_241 : decode cX5_solve 241 = .ok (.iload 11, 2) := by decide +kernel
theorem dX5_solve_243 : decode cX5_solve 243 = .ok (.iload_n 1, 1) := by decide +kernel
theorem dX5_solve_244 : decode cX5_solve 244 = .ok (.if_icmp .gt 64, 3) := by decide +kernel
theorem dX5_solve_247 : decode cX5_solve 247 = .ok (.iload 8, 2) := by decide +kernel
theorem dX5_solve_249 : decode cX5_solve 249 = .ok (.iload 4, 2) := by decide +kernel
theorem dX5_solve_251 : decode cX5_solve 251 = .ok (.if_icmp .eq 57, 3) := by decide +kernel
theorem dX5_solve_254 : decode cX5_solve 254 = .ok (.aload_n 0, 1) := by decide +kernel
theorem dX5_solve_255 : decode cX5_solve 255 = .ok (.getfield 51, 3) := by decide +kernel
theorem dX5_solve_258 : decode cX5_solve 258 = .ok (.bipush 6, 2) := by decide +kernel
theorem dX5_solve_260 : decode cX5_solve 260 = .ok (.iload 8, 2) := by decide +kernel
theorem dX5_solve_262 : decode cX5_solve 262 = .ok (.imul, 1) := by decide +kernel
theorem dX5_solve_263 : decode cX5_solve 263 = .ok (.iload 11, 2) := by decide +kernel
theorem dX5_solve_265 : decode cX5_solve 265 = .ok (.iadd, 1) := by decide +kernel
theorem dX5_solve_266 : decode cX5_solve 266 = .ok (.lload 6, 2) := by decide +kernel
theorem dX5_solve_268 : decode cX5_solve 268 = .ok (.aload_n 0, 1) := by decide +kernel
theorem dX5_solve_269 : decode cX5_solve 269 = .ok (.getfield 51, 3) := by decide +kernel
theorem dX5_solve_272 : decode cX5_solve 272 = .ok (.bipush 6, 2) := by decide +kernel
theorem dX5_solve_274 : decode cX5_solve 274 = .ok (.iload 8, 2) := by decide +kernel
theorem dX5_solve_276 : decode cX5_solve 276 = .ok (.imul, 1) := by decide +kernel
theorem dX5_solve_277 : decode cX5_solve 277 = .ok (.iload 11, 2) := by decide +kernel
theorem dX5_solve_279 : decode cX5_solve 279 = .ok (.iadd, 1) := by decide +kernel
theorem dX5_solve_280 : decode cX5_solve 280 = .ok (.laload, 1) := by decide +kernel
theorem dX5_solve_281 : decode cX5_solve 281 = .ok (.lmul, 1) := by decide +kernel
theorem dX5_solve_282 : decode cX5_solve 282 = .ok (.lload 9, 2) := by decide +kernel
theorem dX5_solve_284 : decode cX5_solve 284 = .ok (.aload_n 0, 1) := by decide +kernel
theorem dX5_solve_285 : decode cX5_solve 285 = .ok (.getfield 51, 3) := by decide +kernel
theorem dX5_solve_288 : decode cX5_solve 288 = .ok (.bipush 6, 2) := by decide +kernel
theorem dX5_solve_290 : decode cX5_solve 290 = .ok (.iload 4, 2) := by decide +kernel
theorem dX5_solve_292 : decode cX5_solve 292 = .ok (.imul, 1) := by decide +kernel
theorem dX5_solve_293 : decode cX5_solve 293 = .ok (.iload 11, 2) := by decide +kernel
theorem dX5_solve_295 : decode cX5_solve 295 = .ok (.iadd, 1) := by decide +kernel
theorem dX5_solve_296 : decode cX5_solve 296 = .ok (.laload, 1) := by decide +kernel
theorem dX5_solve_297 : decode cX5_solve 297 = .ok (.lmul, 1) := by decide +kernel
theorem dX5_solve_298 : decode cX5_solve 298 = .ok (.lsub, 1) := by decide +kernel
theorem dX5_solve_299 : decode cX5_solve 299 = .ok (.lload_n 2, 1) := by decide +kernel
theorem dX5_solve_300 : decode cX5_solve 300 = .ok (.ldiv, 1) := by decide +kernel
theorem dX5_solve_301 : decode cX5_solve 301 = .ok (.lastore, 1) := by decide +kernel
theorem dX5_solve_302 : decode cX5_solve 302 = .ok (.iinc 11 1, 3) := by decide +kernel
theorem dX5_solve_305 : decode cX5_solve 305 = .ok (.goto (-64), 3) := by decide +kernel
theorem dX5_solve_308 : decode cX5_solve 308 = .ok (.iinc 8 1, 3) := by decide +kernel
theorem dX5_solve_311 : decode cX5_solve 311 = .ok (.goto (-94), 3) := by decide +kernel
theorem dX5_solve_314 : decode cX5_solve 314 = .ok (.lload 6, 2) := by decide +kernel
theorem dX5_solve_316 : decode cX5_solve 316 = .ok (.lstore_n 2, 1) := by decide +kernel
theorem dX5_solve_317 : decode cX5_solve 317 = .ok (.iinc 4 1, 3) := by decide +kernel
theorem dX5_solve_320 : decode cX5_solve 320 = .ok (.goto (-240), 3) := by decide +kernel
theorem dX5_solve_323 : decode cX5_solve 323 = .ok (.aload_n 0, 1) := by decide +kernel
theorem dX5_solve_324 : decode cX5_solve 324 = .ok (.lload_n 2, 1) := by decide +kernel
theorem dX5_solve_325 : decode cX5_solve 325 = .ok (.putfield 74, 3) := by decide +kernel
theorem dX5_solve_328 : decode cX5_solve 328 = .ok (.iconst 0, 1) := by decide +kernel
theorem dX5_solve_329 : decode cX5_solve 329 = .ok (.istore 4, 2) := by decide +kernel
theorem dX5_solve_331 : decode cX5_solve 331 = .ok (.iload 4, 2) := by decide +kernel
theorem dX5_solve_333 : decode cX5_solve 333 = .ok (.iload_n 1, 1) := by decide +kernel
theorem dX5_solve_334 : decode cX5_solve 334 = .ok (.if_icmp .ge 28, 3) := by decide +kernel
theorem dX5_solve_337 : decode cX5_solve 337 = .ok (.aload_n 0, 1) := by decide +kernel
theorem dX5_solve_338 : decode cX5_solve 338 = .ok (.getfield 57, 3) := by decide +kernel
