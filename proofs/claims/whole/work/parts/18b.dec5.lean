theorem dX5_solve_341 : decode cX5_solve 341 = .ok (.iload 4, 2) := by decide +kernel
theorem dX5_solve_343 : decode cX5_solve 343 = .ok (.aload_n 0, 1) := by decide +kernel
theorem dX5_solve_344 : decode cX5_solve 344 = .ok (.getfield 51, 3) := by decide +kernel
theorem dX5_solve_347 : decode cX5_solve 347 = .ok (.bipush 6, 2) := by decide +kernel
theorem dX5_solve_349 : decode cX5_solve 349 = .ok (.iload 4, 2) := by decide +kernel
theorem dX5_solve_351 : decode cX5_solve 351 = .ok (.imul, 1) := by decide +kernel
theorem dX5_solve_352 : decode cX5_solve 352 = .ok (.iload_n 1, 1) := by decide +kernel
theorem dX5_solve_353 : decode cX5_solve 353 = .ok (.iadd, 1) := by decide +kernel
theorem dX5_solve_354 : decode cX5_solve 354 = .ok (.laload, 1) := by decide +kernel
theorem dX5_solve_355 : decode cX5_solve 355 = .ok (.lastore, 1) := by decide +kernel
theorem dX5_solve_356 : decode cX5_solve 356 = .ok (.iinc 4 1, 3) := by decide +kernel
theorem dX5_solve_359 : decode cX5_solve 359 = .ok (.goto (-28), 3) := by decide +kernel
theorem dX5_solve_362 : decode cX5_solve 362 = .ok (.aload_n 0, 1) := by decide +kernel
theorem dX5_solve_363 : decode cX5_solve 363 = .ok (.getfield 74, 3) := by decide +kernel
theorem dX5_solve_366 : decode cX5_solve 366 = .ok (.lconst 0, 1) := by decide +kernel
theorem dX5_solve_367 : decode cX5_solve 367 = .ok (.lcmp, 1) := by decide +kernel
theorem dX5_solve_368 : decode cX5_solve 368 = .ok (.ifCond .ge 42, 3) := by decide +kernel
theorem dX5_solve_371 : decode cX5_solve 371 = .ok (.aload_n 0, 1) := by decide +kernel
theorem dX5_solve_372 : decode cX5_solve 372 = .ok (.aload_n 0, 1) := by decide +kernel
theorem dX5_solve_373 : decode cX5_solve 373 = .ok (.getfield 74, 3) := by decide +kernel
theorem dX5_solve_376 : decode cX5_solve 376 = .ok (.lneg, 1) := by decide +kernel
theorem dX5_solve_377 : decode cX5_solve 377 = .ok (.putfield 74, 3) := by decide +kernel
theorem dX5_solve_380 : decode cX5_solve 380 = .ok (.iconst 0, 1) := by decide +kernel
theorem dX5_solve_381 : decode cX5_solve 381 = .ok (.istore 4, 2) := by decide +kernel
theorem dX5_solve_383 : decode cX5_solve 383 = .ok (.iload 4, 2) := by decide +kernel
theorem dX5_solve_385 : decode cX5_solve 385 = .ok (.iload_n 1, 1) := by decide +kernel
theorem dX5_solve_386 : decode cX5_solve 386 = .ok (.if_icmp .ge 24, 3) := by decide +kernel
theorem dX5_solve_389 : decode cX5_solve 389 = .ok (.aload_n 0, 1) := by decide +kernel
theorem dX5_solve_390 : decode cX5_solve 390 = .ok (.getfield 57, 3) := by decide +kernel
theorem dX5_solve_393 : decode cX5_solve 393 = .ok (.iload 4, 2) := by decide +kernel
theorem dX5_solve_395 : decode cX5_solve 395 = .ok (.aload_n 0, 1) := by decide +kernel
theorem dX5_solve_396 : decode cX5_solve 396 = .ok (.getfield 57, 3) := by decide +kernel
theorem dX5_solve_399 : decode cX5_solve 399 = .ok (.iload 4, 2) := by decide +kernel
theorem dX5_solve_401 : decode cX5_solve 401 = .ok (.laload, 1) := by decide +kernel
theorem dX5_solve_402 : decode cX5_solve 402 = .ok (.lneg, 1) := by decide +kernel
theorem dX5_solve_403 : decode cX5_solve 403 = .ok (.lastore, 1) := by decide +kernel
theorem dX5_solve_404 : decode cX5_solve 404 = .ok (.iinc 4 1, 3) := by decide +kernel
theorem dX5_solve_407 : decode cX5_solve 407 = .ok (.goto (-24), 3) := by decide +kernel
theorem dX5_solve_410 : decode cX5_solve 410 = .ok (.iconst 1, 1) := by decide +kernel
theorem dX5_solve_411 : decode cX5_solve 411 = .ok (.ireturn, 1) := by decide +kernel
theorem dX5_keeps_0 : decode cX5_keeps 0 = .ok (.iconst 0, 1) := by decide +kernel
theorem dX5_keeps_1 : decode cX5_keeps 1 = .ok (.istore_n 2, 1) := by decide +kernel
theorem dX5_keeps_2 : decode cX5_keeps 2 = .ok (.iload_n 2, 1) := by decide +kernel
theorem dX5_keeps_3 : decode cX5_keeps 3 = .ok (.aload_n 0, 1) := by decide +kernel
theorem dX5_keeps_4 : decode cX5_keeps 4 = .ok (.getfield 66, 3) := by decide +kernel
theorem dX5_keeps_7 : decode cX5_keeps 7 = .ok (.if_icmp .ge 55, 3) := by decide +kernel
theorem dX5_keeps_10 : decode cX5_keeps 10 = .ok (.aload_n 0, 1) := by decide +kernel
theorem dX5_keeps_11 : decode cX5_keeps 11 = .ok (.getfield 57, 3) := by decide +kernel
theorem dX5_keeps_14 : decode cX5_keeps 14 = .ok (.iload_n 2, 1) := by decide +kernel
theorem dX5_keeps_15 : decode cX5_keeps 15 = .ok (.laload, 1) := by decide +kernel
theorem dX5_keeps_16 : decode cX5_keeps 16 = .ok (.aload_n 0, 1) := by decide +kernel
theorem dX5_keeps_17 : decode cX5_keeps 17 = .ok (.getfield 7, 3) := by decide +kernel
theorem dX5_keeps_20 : decode cX5_keeps 20 = .ok (.iload_n 2, 1) := by decide +kernel
theorem dX5_keeps_21 : decode cX5_keeps 21 = .ok (.iaload, 1) := by decide +kernel
theorem dX5_keeps_22 : decode cX5_keeps 22 = .ok (.i2l, 1) := by decide +kernel
theorem dX5_keeps_23 : decode cX5_keeps 23 = .ok (.aload_n 0, 1) := by decide +kernel
theorem dX5_keeps_24 : decode cX5_keeps 24 = .ok (.getfield 74, 3) := by decide +kernel
theorem dX5_keeps_27 : decode cX5_keeps 27 = .ok (.lmul, 1) := by decide +kernel
theorem dX5_keeps_28 : decode cX5_keeps 28 = .ok (.lcmp, 1) := by decide +kernel
theorem dX5_keeps_29 : decode cX5_keeps 29 = .ok (.ifCond .lt 25, 3) := by decide +kernel
theorem dX5_keeps_32 : decode cX5_keeps 32 = .ok (.aload_n 0, 1) := by decide +kernel
theorem dX5_keeps_33 : decode cX5_keeps 33 = .ok (.getfield 57, 3) := by decide +kernel
theorem dX5_keeps_36 : decode cX5_keeps 36 = .ok (.iload_n 2, 1) := by decide +kernel
theorem dX5_keeps_37 : decode cX5_keeps 37 = .ok (.laload, 1) := by decide +kernel
theorem dX5_keeps_38 : decode cX5_keeps 38 = .ok (.aload_n 0, 1) := by decide +kernel
theorem dX5_keeps_39 : decode cX5_keeps 39 = .ok (.getfield 13, 3) := by decide +kernel
theorem dX5_keeps_42 : decode cX5_keeps 42 = .ok (.iload_n 2, 1) := by decide +kernel
theorem dX5_keeps_43 : decode cX5_keeps 43 = .ok (.iaload, 1) := by decide +kernel
theorem dX5_keeps_44 : decode cX5_keeps 44 = .ok (.i2l, 1) := by decide +kernel
theorem dX5_keeps_45 : decode cX5_keeps 45 = .ok (.aload_n 0, 1) := by decide +kernel
theorem dX5_keeps_46 : decode cX5_keeps 46 = .ok (.getfield 74, 3) := by decide +kernel
theorem dX5_keeps_49 : decode cX5_keeps 49 = .ok (.lmul, 1) := by decide +kernel
theorem dX5_keeps_50 : decode cX5_keeps 50 = .ok (.lcmp, 1) := by decide +kernel
theorem dX5_keeps_51 : decode cX5_keeps 51 = .ok (.ifCond .le 5, 3) := by decide +kernel
theorem dX5_keeps_54 : decode cX5_keeps 54 = .ok (.iconst 0, 1) := by decide +kernel
theorem dX5_keeps_55 : decode cX5_keeps 55 = .ok (.ireturn, 1) := by decide +kernel
theorem dX5_keeps_56 : decode cX5_keeps 56 = .ok (.iinc 2 1, 3) := by decide +kernel
theorem dX5_keeps_59 : decode cX5_keeps 59 = .ok (.goto (-57), 3) := by decide +kernel
theorem dX5_keeps_62 : decode cX5_keeps 62 = .ok (.iconst 0, 1) := by decide +kernel
theorem dX5_keeps_63 : decode cX5_keeps 63 = .ok (.istore_n 2, 1) := by decide +kernel
theorem dX5_keeps_64 : decode cX5_keeps 64 = .ok (.iload_n 2, 1) := by decide +kernel
theorem dX5_keeps_65 : decode cX5_keeps 65 = .ok (.aload_n 0, 1) := by decide +kernel
theorem dX5_keeps_66 : decode cX5_keeps 66 = .ok (.getfield 78, 3) := by decide +kernel
theorem dX5_keeps_69 : decode cX5_keeps 69 = .ok (.if_icmp .ge 124, 3) := by decide +kernel
theorem dX5_keeps_72 : decode cX5_keeps 72 = .ok (.iload_n 1, 1) := by decide +kernel
theorem dX5_keeps_73 : decode cX5_keeps 73 = .ok (.iload_n 2, 1) := by decide +kernel
theorem dX5_keeps_74 : decode cX5_keeps 74 = .ok (.ishr, 1) := by decide +kernel
theorem dX5_keeps_75 : decode cX5_keeps 75 = .ok (.iconst 1, 1) := by decide +kernel
theorem dX5_keeps_76 : decode cX5_keeps 76 = .ok (.iand, 1) := by decide +kernel
theorem dX5_keeps_77 : decode cX5_keeps 77 = .ok (.ifCond .ne 6, 3) := by decide +kernel
theorem dX5_keeps_80 : decode cX5_keeps 80 = .ok (.goto 107, 3) := by decide +kernel
theorem dX5_keeps_83 : decode cX5_keeps 83 = .ok (.aload_n 0, 1) := by decide +kernel
theorem dX5_keeps_84 : decode cX5_keeps 84 = .ok (.getfield 22, 3) := by decide +kernel
theorem dX5_keeps_87 : decode cX5_keeps 87 = .ok (.iload_n 2, 1) := by decide +kernel
theorem dX5_keeps_88 : decode cX5_keeps 88 = .ok (.iaload, 1) := by decide +kernel
theorem dX5_keeps_89 : decode cX5_keeps 89 = .ok (.ineg, 1) := by decide +kernel
theorem dX5_keeps_90 : decode cX5_keeps 90 = .ok (.i2l, 1) := by decide +kernel
theorem dX5_keeps_91 : decode cX5_keeps 91 = .ok (.aload_n 0, 1) := by decide +kernel
theorem dX5_keeps_92 : decode cX5_keeps 92 = .ok (.getfield 74, 3) := by decide +kernel
theorem dX5_keeps_95 : decode cX5_keeps 95 = .ok (.lmul, 1) := by decide +kernel
theorem dX5_keeps_96 : decode cX5_keeps 96 = .ok (.lstore_n 3, 1) := by decide +kernel
theorem dX5_keeps_97 : decode cX5_keeps 97 = .ok (.iconst 0, 1) := by decide +kernel
theorem dX5_keeps_98 : decode cX5_keeps 98 = .ok (.istore 5, 2) := by decide +kernel
theorem dX5_keeps_100 : decode cX5_keeps 100 = .ok (.iload 5, 2) := by decide +kernel
theorem dX5_keeps_102 : decode cX5_keeps 102 = .ok (.aload_n 0, 1) := by decide +kernel
theorem dX5_keeps_103 : decode cX5_keeps 103 = .ok (.getfield 66, 3) := by decide +kernel
theorem dX5_keeps_106 : decode cX5_keeps 106 = .ok (.if_icmp .ge 32, 3) := by decide +kernel
theorem dX5_keeps_109 : decode cX5_keeps 109 = .ok (.lload_n 3, 1) := by decide +kernel
theorem dX5_keeps_110 : decode cX5_keeps 110 = .ok (.aload_n 0, 1) := by decide +kernel
theorem dX5_keeps_111 : decode cX5_keeps 111 = .ok (.getfield 25, 3) := by decide +kernel
theorem dX5_keeps_114 : decode cX5_keeps 114 = .ok (.iconst 5, 1) := by decide +kernel
theorem dX5_keeps_115 : decode cX5_keeps 115 = .ok (.iload_n 2, 1) := by decide +kernel
theorem dX5_keeps_116 : decode cX5_keeps 116 = .ok (.imul, 1) := by decide +kernel
theorem dX5_keeps_117 : decode cX5_keeps 117 = .ok (.iload 5, 2) := by decide +kernel
theorem dX5_keeps_119 : decode cX5_keeps 119 = .ok (.iadd, 1) := by decide +kernel
theorem dX5_keeps_120 : decode cX5_keeps 120 = .ok (.iaload, 1) := by decide +kernel
theorem dX5_keeps_121 : decode cX5_keeps 121 = .ok (.i2l, 1) := by decide +kernel
theorem dX5_keeps_122 : decode cX5_keeps 122 = .ok (.aload_n 0, 1) := by decide +kernel
theorem dX5_keeps_123 : decode cX5_keeps 123 = .ok (.getfield 57, 3) := by decide +kernel
theorem dX5_keeps_126 : decode cX5_keeps 126 = .ok (.iload 5, 2) := by decide +kernel
theorem dX5_keeps_128 : decode cX5_keeps 128 = .ok (.laload, 1) := by decide +kernel
theorem dX5_keeps_129 : decode cX5_keeps 129 = .ok (.lmul, 1) := by decide +kernel
theorem dX5_keeps_130 : decode cX5_keeps 130 = .ok (.ladd, 1) := by decide +kernel
theorem dX5_keeps_131 : decode cX5_keeps 131 = .ok (.lstore_n 3, 1) := by decide +kernel
theorem dX5_keeps_132 : decode cX5_keeps 132 = .ok (.iinc 5 1, 3) := by decide +kernel
theorem dX5_keeps_135 : decode cX5_keeps 135 = .ok (.goto (-35), 3) := by decide +kernel
theorem dX5_keeps_138 : decode cX5_keeps 138 = .ok (.aload_n 0, 1) := by decide +kernel
theorem dX5_keeps_139 : decode cX5_keeps 139 = .ok (.getfield 19, 3) := by decide +kernel
theorem dX5_keeps_142 : decode cX5_keeps 142 = .ok (.iload_n 2, 1) := by decide +kernel
theorem dX5_keeps_143 : decode cX5_keeps 143 = .ok (.iaload, 1) := by decide +kernel
theorem dX5_keeps_144 : decode cX5_keeps 144 = .ok (.ifCond .ne 9, 3) := by decide +kernel
theorem dX5_keeps_147 : decode cX5_keeps 147 = .ok (.lload_n 3, 1) := by decide +kernel
theorem dX5_keeps_148 : decode cX5_keeps 148 = .ok (.lconst 0, 1) := by decide +kernel
theorem dX5_keeps_149 : decode cX5_keeps 149 = .ok (.lcmp, 1) := by decide +kernel
theorem dX5_keeps_150 : decode cX5_keeps 150 = .ok (.ifCond .gt 35, 3) := by decide +kernel
theorem dX5_keeps_153 : decode cX5_keeps 153 = .ok (.aload_n 0, 1) := by decide +kernel
theorem dX5_keeps_154 : decode cX5_keeps 154 = .ok (.getfield 19, 3) := by decide +kernel
theorem dX5_keeps_157 : decode cX5_keeps 157 = .ok (.iload_n 2, 1) := by decide +kernel
theorem dX5_keeps_158 : decode cX5_keeps 158 = .ok (.iaload, 1) := by decide +kernel
theorem dX5_keeps_159 : decode cX5_keeps 159 = .ok (.iconst 1, 1) := by decide +kernel
theorem dX5_keeps_160 : decode cX5_keeps 160 = .ok (.if_icmp .ne 9, 3) := by decide +kernel
theorem dX5_keeps_163 : decode cX5_keeps 163 = .ok (.lload_n 3, 1) := by decide +kernel
theorem dX5_keeps_164 : decode cX5_keeps 164 = .ok (.lconst 0, 1) := by decide +kernel
theorem dX5_keeps_165 : decode cX5_keeps 165 = .ok (.lcmp, 1) := by decide +kernel
theorem dX5_keeps_166 : decode cX5_keeps 166 = .ok (.ifCond .ne 19, 3) := by decide +kernel
theorem dX5_keeps_169 : decode cX5_keeps 169 = .ok (.aload_n 0, 1) := by decide +kernel
theorem dX5_keeps_170 : decode cX5_keeps 170 = .ok (.getfield 19, 3) := by decide +kernel
theorem dX5_keeps_173 : decode cX5_keeps 173 = .ok (.iload_n 2, 1) := by decide +kernel
theorem dX5_keeps_174 : decode cX5_keeps 174 = .ok (.iaload, 1) := by decide +kernel
theorem dX5_keeps_175 : decode cX5_keeps 175 = .ok (.iconst 2, 1) := by decide +kernel
theorem dX5_keeps_176 : decode cX5_keeps 176 = .ok (.if_icmp .ne 11, 3) := by decide +kernel
theorem dX5_keeps_179 : decode cX5_keeps 179 = .ok (.lload_n 3, 1) := by decide +kernel
theorem dX5_keeps_180 : decode cX5_keeps 180 = .ok (.lconst 0, 1) := by decide +kernel
theorem dX5_keeps_181 : decode cX5_keeps 181 = .ok (.lcmp, 1) := by decide +kernel
theorem dX5_keeps_182 : decode cX5_keeps 182 = .ok (.ifCond .ge 5, 3) := by decide +kernel
theorem dX5_keeps_185 : decode cX5_keeps 185 = .ok (.iconst 0, 1) := by decide +kernel
theorem dX5_keeps_186 : decode cX5_keeps 186 = .ok (.ireturn, 1) := by decide +kernel
theorem dX5_keeps_187 : decode cX5_keeps 187 = .ok (.iinc 2 1, 3) := by decide +kernel
theorem dX5_keeps_190 : decode cX5_keeps 190 = .ok (.goto (-126), 3) := by decide +kernel
theorem dX5_keeps_193 : decode cX5_keeps 193 = .ok (.iconst 1, 1) := by decide +kernel
theorem dX5_keeps_194 : decode cX5_keeps 194 = .ok (.ireturn, 1) := by decide +kernel
theorem dX5_isThere_0 : decode cX5_isThere 0 = .ok (.iload_n 1, 1) := by decide +kernel
theorem dX5_isThere_1 : decode cX5_isThere 1 = .ok (.bipush 8, 2) := by decide +kernel
theorem dX5_isThere_3 : decode cX5_isThere 3 = .ok (.if_icmp .ge 20, 3) := by decide +kernel
theorem dX5_isThere_6 : decode cX5_isThere 6 = .ok (.iload_n 2, 1) := by decide +kernel
theorem dX5_isThere_7 : decode cX5_isThere 7 = .ok (.iload_n 1, 1) := by decide +kernel
theorem dX5_isThere_8 : decode cX5_isThere 8 = .ok (.ishr, 1) := by decide +kernel
theorem dX5_isThere_9 : decode cX5_isThere 9 = .ok (.iconst 1, 1) := by decide +kernel
theorem dX5_isThere_10 : decode cX5_isThere 10 = .ok (.iand, 1) := by decide +kernel
theorem dX5_isThere_11 : decode cX5_isThere 11 = .ok (.iconst 1, 1) := by decide +kernel
theorem dX5_isThere_12 : decode cX5_isThere 12 = .ok (.if_icmp .ne 7, 3) := by decide +kernel
theorem dX5_isThere_15 : decode cX5_isThere 15 = .ok (.iconst 1, 1) := by decide +kernel
theorem dX5_isThere_16 : decode cX5_isThere 16 = .ok (.goto 25, 3) := by decide +kernel
theorem dX5_isThere_19 : decode cX5_isThere 19 = .ok (.iconst 0, 1) := by decide +kernel
theorem dX5_isThere_20 : decode cX5_isThere 20 = .ok (.goto 21, 3) := by decide +kernel
theorem dX5_isThere_23 : decode cX5_isThere 23 = .ok (.iload_n 1, 1) := by decide +kernel
theorem dX5_isThere_24 : decode cX5_isThere 24 = .ok (.bipush 8, 2) := by decide +kernel
theorem dX5_isThere_26 : decode cX5_isThere 26 = .ok (.isub, 1) := by decide +kernel
theorem dX5_isThere_27 : decode cX5_isThere 27 = .ok (.iconst 5, 1) := by decide +kernel
theorem dX5_isThere_28 : decode cX5_isThere 28 = .ok (.irem, 1) := by decide +kernel
theorem dX5_isThere_29 : decode cX5_isThere 29 = .ok (.aload_n 0, 1) := by decide +kernel
theorem dX5_isThere_30 : decode cX5_isThere 30 = .ok (.getfield 66, 3) := by decide +kernel
theorem dX5_isThere_33 : decode cX5_isThere 33 = .ok (.if_icmp .ge 7, 3) := by decide +kernel
theorem dX5_isThere_36 : decode cX5_isThere 36 = .ok (.iconst 1, 1) := by decide +kernel
theorem dX5_isThere_37 : decode cX5_isThere 37 = .ok (.goto 4, 3) := by decide +kernel
theorem dX5_isThere_40 : decode cX5_isThere 40 = .ok (.iconst 0, 1) := by decide +kernel
theorem dX5_isThere_41 : decode cX5_isThere 41 = .ok (.ireturn, 1) := by decide +kernel
set_option maxRecDepth 20000 in
theorem ggX5_after_X5_isThere : GoodIn wsX5_after wsX5_isThere := goodIn_r _ [5, 6, 7, 8, 9, 10, 11, 12, 13, 14, 15, 16, 17, 18, 19, 20, 21, 22, 23, 24, 25, 26, 27, 28, 29, 30, 31, 32, 33, 34] rfl (by decide +kernel)
set_option maxRecDepth 20000 in
theorem gX5_after_X5_isThere : GoodIn wsX5_after (wsV RX5 81 RX5 yX5_isThere wsX5_isThere) := goodIn_app (goodIn_of _ (by decide +kernel)) ggX5_after_X5_isThere
theorem dX5_after_0 : decode cX5_after 0 = .ok (.iload_n 1, 1) := by decide +kernel
theorem dX5_after_1 : decode cX5_after 1 = .ok (.iconst 1, 1) := by decide +kernel
theorem dX5_after_2 : decode cX5_after 2 = .ok (.iadd, 1) := by decide +kernel
theorem dX5_after_3 : decode cX5_after 3 = .ok (.istore_n 3, 1) := by decide +kernel
theorem dX5_after_4 : decode cX5_after 4 = .ok (.iload_n 3, 1) := by decide +kernel
theorem dX5_after_5 : decode cX5_after 5 = .ok (.bipush 18, 2) := by decide +kernel
theorem dX5_after_7 : decode cX5_after 7 = .ok (.if_icmp .ge 18, 3) := by decide +kernel
theorem dX5_after_10 : decode cX5_after 10 = .ok (.aload_n 0, 1) := by decide +kernel
theorem dX5_after_11 : decode cX5_after 11 = .ok (.iload_n 3, 1) := by decide +kernel
theorem dX5_after_12 : decode cX5_after 12 = .ok (.iload_n 2, 1) := by decide +kernel
theorem dX5_after_13 : decode cX5_after 13 = .ok (.invokevirtual 81, 3) := by decide +kernel
theorem dX5_after_16 : decode cX5_after 16 = .ok (.ifCond .ne 9, 3) := by decide +kernel
theorem dX5_after_19 : decode cX5_after 19 = .ok (.iinc 3 1, 3) := by decide +kernel
theorem dX5_after_22 : decode cX5_after 22 = .ok (.goto (-18), 3) := by decide +kernel
theorem dX5_after_25 : decode cX5_after 25 = .ok (.iload_n 3, 1) := by decide +kernel
theorem dX5_after_26 : decode cX5_after 26 = .ok (.ireturn, 1) := by decide +kernel
set_option maxRecDepth 20000 in
theorem ggX5_corners_X5_keeps : GoodIn wsX5_corners wsX5_keeps := goodIn_r _ [8, 2, 9, 10, 3, 11, 12, 13, 14, 15, 50, 51, 52, 53, 54, 55, 56, 57, 58, 59, 60, 61, 62, 63, 64, 65, 66, 67, 68, 69, 70, 71, 72, 73, 74, 75, 76, 77] rfl (by decide +kernel)
set_option maxRecDepth 20000 in
theorem gX5_corners_X5_keeps : GoodIn wsX5_corners (wsV RX5 85 RX5 yX5_keeps wsX5_keeps) := goodIn_app (goodIn_of _ (by decide +kernel)) ggX5_corners_X5_keeps
set_option maxRecDepth 20000 in
theorem ggX5_corners_X5_take : GoodIn wsX5_corners wsX5_take := goodIn_r _ [19, 2, 20, 9, 21, 3, 22, 23, 24, 25, 26, 27, 28, 29, 30, 31, 7, 32, 50, 51, 52, 53, 54, 55, 56, 57, 58, 59, 60, 61, 62, 63, 64, 65, 66, 67, 68, 69, 70, 71, 72, 73, 74, 75, 76, 77] rfl (by decide +kernel)
set_option maxRecDepth 20000 in
theorem gX5_corners_X5_take : GoodIn wsX5_corners (wsV RX5 89 RX5 yX5_take wsX5_take) := goodIn_app (goodIn_of _ (by decide +kernel)) ggX5_corners_X5_take
set_option maxRecDepth 20000 in
theorem ggX5_corners_X5_after : GoodIn wsX5_corners wsX5_after := goodIn_r _ [36, 37, 38, 39, 7, 40, 2, 50, 51, 52, 53, 54, 55, 56, 57, 58, 59, 60, 61, 62, 63, 64, 65, 66, 67, 68, 69, 70, 71, 72, 73, 74, 75, 76, 77] rfl (by decide +kernel)
set_option maxRecDepth 20000 in
theorem gX5_corners_X5_after : GoodIn wsX5_corners (wsV RX5 92 RX5 yX5_after wsX5_after) := goodIn_app (goodIn_of _ (by decide +kernel)) ggX5_corners_X5_after
set_option maxRecDepth 20000 in
theorem ggX5_corners_X5_solve : GoodIn wsX5_corners wsX5_solve := goodIn_r _ [44, 2, 45, 1, 3, 9, 46, 47, 48, 7, 49, 13, 14, 10, 11, 50, 51, 52, 53, 54, 55, 56, 57, 58, 59, 60, 61, 62, 63, 64, 65, 66, 67, 68, 69, 70, 71, 72, 73, 74, 75, 76, 77] rfl (by decide +kernel)
set_option maxRecDepth 20000 in
theorem gX5_corners_X5_solve : GoodIn wsX5_corners (wsV RX5 96 RX5 yX5_solve wsX5_solve) := goodIn_app (goodIn_of _ (by decide +kernel)) ggX5_corners_X5_solve
theorem dX5_corners_0 : decode cX5_corners 0 = .ok (.iconst 0, 1) := by decide +kernel
theorem dX5_corners_1 : decode cX5_corners 1 = .ok (.istore_n 3, 1) := by decide +kernel
theorem dX5_corners_2 : decode cX5_corners 2 = .ok (.iconst 0, 1) := by decide +kernel
theorem dX5_corners_3 : decode cX5_corners 3 = .ok (.istore 4, 2) := by decide +kernel
theorem dX5_corners_5 : decode cX5_corners 5 = .ok (.aload_n 0, 1) := by decide +kernel
theorem dX5_corners_6 : decode cX5_corners 6 = .ok (.getfield 54, 3) := by decide +kernel
theorem dX5_corners_9 : decode cX5_corners 9 = .ok (.iconst 0, 1) := by decide +kernel
theorem dX5_corners_10 : decode cX5_corners 10 = .ok (.iconst (-1), 1) := by decide +kernel
theorem dX5_corners_11 : decode cX5_corners 11 = .ok (.iastore, 1) := by decide +kernel
theorem dX5_corners_12 : decode cX5_corners 12 = .ok (.aload_n 0, 1) := by decide +kernel
theorem dX5_corners_13 : decode cX5_corners 13 = .ok (.getfield 66, 3) := by decide +kernel
theorem dX5_corners_16 : decode cX5_corners 16 = .ok (.ifCond .ne 28, 3) := by decide +kernel
theorem dX5_corners_19 : decode cX5_corners 19 = .ok (.aload_n 0, 1) := by decide +kernel
theorem dX5_corners_20 : decode cX5_corners 20 = .ok (.lconst 1, 1) := by decide +kernel
theorem dX5_corners_21 : decode cX5_corners 21 = .ok (.putfield 74, 3) := by decide +kernel
theorem dX5_corners_24 : decode cX5_corners 24 = .ok (.aload_n 0, 1) := by decide +kernel
theorem dX5_corners_25 : decode cX5_corners 25 = .ok (.iload_n 1, 1) := by decide +kernel
theorem dX5_corners_26 : decode cX5_corners 26 = .ok (.invokevirtual 85, 3) := by decide +kernel
theorem dX5_corners_29 : decode cX5_corners 29 = .ok (.istore_n 3, 1) := by decide +kernel
theorem dX5_corners_30 : decode cX5_corners 30 = .ok (.iload_n 3, 1) := by decide +kernel
theorem dX5_corners_31 : decode cX5_corners 31 = .ok (.ifCond .eq 11, 3) := by decide +kernel
theorem dX5_corners_34 : decode cX5_corners 34 = .ok (.iload_n 2, 1) := by decide +kernel
theorem dX5_corners_35 : decode cX5_corners 35 = .ok (.ifCond .eq 7, 3) := by decide +kernel
theorem dX5_corners_38 : decode cX5_corners 38 = .ok (.aload_n 0, 1) := by decide +kernel
theorem dX5_corners_39 : decode cX5_corners 39 = .ok (.invokevirtual 89, 3) := by decide +kernel
theorem dX5_corners_42 : decode cX5_corners 42 = .ok (.iload_n 3, 1) := by decide +kernel
theorem dX5_corners_43 : decode cX5_corners 43 = .ok (.ireturn, 1) := by decide +kernel
theorem dX5_corners_44 : decode cX5_corners 44 = .ok (.iload 4, 2) := by decide +kernel
theorem dX5_corners_46 : decode cX5_corners 46 = .ok (.ifCond .lt 103, 3) := by decide +kernel
theorem dX5_corners_49 : decode cX5_corners 49 = .ok (.aload_n 0, 1) := by decide +kernel
theorem dX5_corners_50 : decode cX5_corners 50 = .ok (.getfield 54, 3) := by decide +kernel
theorem dX5_corners_53 : decode cX5_corners 53 = .ok (.iload 4, 2) := by decide +kernel
theorem dX5_corners_55 : decode cX5_corners 55 = .ok (.aload_n 0, 1) := by decide +kernel
theorem dX5_corners_56 : decode cX5_corners 56 = .ok (.aload_n 0, 1) := by decide +kernel
theorem dX5_corners_57 : decode cX5_corners 57 = .ok (.getfield 54, 3) := by decide +kernel
theorem dX5_corners_60 : decode cX5_corners 60 = .ok (.iload 4, 2) := by decide +kernel
theorem dX5_corners_62 : decode cX5_corners 62 = .ok (.iaload, 1) := by decide +kernel
theorem dX5_corners_63 : decode cX5_corners 63 = .ok (.iload_n 1, 1) := by decide +kernel
theorem dX5_corners_64 : decode cX5_corners 64 = .ok (.invokevirtual 92, 3) := by decide +kernel
theorem dX5_corners_67 : decode cX5_corners 67 = .ok (.iastore, 1) := by decide +kernel
theorem dX5_corners_68 : decode cX5_corners 68 = .ok (.aload_n 0, 1) := by decide +kernel
theorem dX5_corners_69 : decode cX5_corners 69 = .ok (.getfield 54, 3) := by decide +kernel
theorem dX5_corners_72 : decode cX5_corners 72 = .ok (.iload 4, 2) := by decide +kernel
theorem dX5_corners_74 : decode cX5_corners 74 = .ok (.iaload, 1) := by decide +kernel
theorem dX5_corners_75 : decode cX5_corners 75 = .ok (.bipush 17, 2) := by decide +kernel
theorem dX5_corners_77 : decode cX5_corners 77 = .ok (.if_icmp .le 9, 3) := by decide +kernel
theorem dX5_corners_80 : decode cX5_corners 80 = .ok (.iinc 4 (-1), 3) := by decide +kernel
theorem dX5_corners_83 : decode cX5_corners 83 = .ok (.goto (-39), 3) := by decide +kernel
theorem dX5_corners_86 : decode cX5_corners 86 = .ok (.iload 4, 2) := by decide +kernel
theorem dX5_corners_88 : decode cX5_corners 88 = .ok (.iconst 1, 1) := by decide +kernel
theorem dX5_corners_89 : decode cX5_corners 89 = .ok (.iadd, 1) := by decide +kernel
theorem dX5_corners_90 : decode cX5_corners 90 = .ok (.aload_n 0, 1) := by decide +kernel
theorem dX5_corners_91 : decode cX5_corners 91 = .ok (.getfield 66, 3) := by decide +kernel
theorem dX5_corners_94 : decode cX5_corners 94 = .ok (.if_icmp .ge 25, 3) := by decide +kernel
theorem dX5_corners_97 : decode cX5_corners 97 = .ok (.aload_n 0, 1) := by decide +kernel
theorem dX5_corners_98 : decode cX5_corners 98 = .ok (.getfield 54, 3) := by decide +kernel
theorem dX5_corners_101 : decode cX5_corners 101 = .ok (.iload 4, 2) := by decide +kernel
theorem dX5_corners_103 : decode cX5_corners 103 = .ok (.iconst 1, 1) := by decide +kernel
theorem dX5_corners_104 : decode cX5_corners 104 = .ok (.iadd, 1) := by decide +kernel
theorem dX5_corners_105 : decode cX5_corners 105 = .ok (.aload_n 0, 1) := by decide +kernel
theorem dX5_corners_106 : decode cX5_corners 106 = .ok (.getfield 54, 3) := by decide +kernel
theorem dX5_corners_109 : decode cX5_corners 109 = .ok (.iload 4, 2) := by decide +kernel
theorem dX5_corners_111 : decode cX5_corners 111 = .ok (.iaload, 1) := by decide +kernel
theorem dX5_corners_112 : decode cX5_corners 112 = .ok (.iastore, 1) := by decide +kernel
theorem dX5_corners_113 : decode cX5_corners 113 = .ok (.iinc 4 1, 3) := by decide +kernel
theorem dX5_corners_116 : decode cX5_corners 116 = .ok (.goto (-72), 3) := by decide +kernel
theorem dX5_corners_119 : decode cX5_corners 119 = .ok (.aload_n 0, 1) := by decide +kernel
theorem dX5_corners_120 : decode cX5_corners 120 = .ok (.invokevirtual 96, 3) := by decide +kernel
theorem dX5_corners_123 : decode cX5_corners 123 = .ok (.ifCond .eq (-79), 3) := by decide +kernel
theorem dX5_corners_126 : decode cX5_corners 126 = .ok (.aload_n 0, 1) := by decide +kernel
theorem dX5_corners_127 : decode cX5_corners 127 = .ok (.iload_n 1, 1) := by decide +kernel
theorem dX5_corners_128 : decode cX5_corners 128 = .ok (.invokevirtual 85, 3) := by decide +kernel
theorem dX5_corners_131 : decode cX5_corners 131 = .ok (.ifCond .eq (-87), 3) := by decide +kernel
theorem dX5_corners_134 : decode cX5_corners 134 = .ok (.iconst 1, 1) := by decide +kernel
theorem dX5_corners_135 : decode cX5_corners 135 = .ok (.istore_n 3, 1) := by decide +kernel
theorem dX5_corners_136 : decode cX5_corners 136 = .ok (.iload_n 2, 1) := by decide +kernel
theorem dX5_corners_137 : decode cX5_corners 137 = .ok (.ifCond .ne 5, 3) := by decide +kernel
theorem dX5_corners_140 : decode cX5_corners 140 = .ok (.iconst 1, 1) := by decide +kernel
theorem dX5_corners_141 : decode cX5_corners 141 = .ok (.ireturn, 1) := by decide +kernel
theorem dX5_corners_142 : decode cX5_corners 142 = .ok (.aload_n 0, 1) := by decide +kernel
theorem dX5_corners_143 : decode cX5_corners 143 = .ok (.invokevirtual 89, 3) := by decide +kernel
theorem dX5_corners_146 : decode cX5_corners 146 = .ok (.goto (-102), 3) := by decide +kernel
theorem dX5_corners_149 : decode cX5_corners 149 = .ok (.iload_n 3, 1) := by decide +kernel
theorem dX5_corners_150 : decode cX5_corners 150 = .ok (.ireturn, 1) := by decide +kernel
theorem dX5_compare_0 : decode cX5_compare 0 = .ok (.lload_n 0, 1) := by decide +kernel
theorem dX5_compare_1 : decode cX5_compare 1 = .ok (.lload 6, 2) := by decide +kernel
theorem dX5_compare_3 : decode cX5_compare 3 = .ok (.lmul, 1) := by decide +kernel
theorem dX5_compare_4 : decode cX5_compare 4 = .ok (.lstore 8, 2) := by decide +kernel
theorem dX5_compare_6 : decode cX5_compare 6 = .ok (.lload 4, 2) := by decide +kernel
theorem dX5_compare_8 : decode cX5_compare 8 = .ok (.lload_n 2, 1) := by decide +kernel
theorem dX5_compare_9 : decode cX5_compare 9 = .ok (.lmul, 1) := by decide +kernel
theorem dX5_compare_10 : decode cX5_compare 10 = .ok (.lstore 10, 2) := by decide +kernel
theorem dX5_compare_12 : decode cX5_compare 12 = .ok (.lload 8, 2) := by decide +kernel
theorem dX5_compare_14 : decode cX5_compare 14 = .ok (.lload 10, 2) := by decide +kernel
theorem dX5_compare_16 : decode cX5_compare 16 = .ok (.lcmp, 1) := by decide +kernel
theorem dX5_compare_17 : decode cX5_compare 17 = .ok (.ifCond .ge 7, 3) := by decide +kernel
theorem dX5_compare_20 : decode cX5_compare 20 = .ok (.iconst (-1), 1) := by decide +kernel
theorem dX5_compare_21 : decode cX5_compare 21 = .ok (.goto 16, 3) := by decide +kernel
theorem dX5_compare_24 : decode cX5_compare 24 = .ok (.lload 8, 2) := by decide +kernel
theorem dX5_compare_26 : decode cX5_compare 26 = .ok (.lload 10, 2) := by decide +kernel
theorem dX5_compare_28 : decode cX5_compare 28 = .ok (.lcmp, 1) := by decide +kernel
theorem dX5_compare_29 : decode cX5_compare 29 = .ok (.ifCond .le 7, 3) := by decide +kernel
theorem dX5_compare_32 : decode cX5_compare 32 = .ok (.iconst 1, 1) := by decide +kernel
theorem dX5_compare_33 : decode cX5_compare 33 = .ok (.goto 4, 3) := by decide +kernel
theorem dX5_compare_36 : decode cX5_compare 36 = .ok (.iconst 0, 1) := by decide +kernel
theorem dX5_compare_37 : decode cX5_compare 37 = .ok (.ireturn, 1) := by decide +kernel
set_option maxRecDepth 20000 in
theorem ggX5_take_X5_compare : GoodIn wsX5_take wsX5_compare := goodIn_r _ [17] rfl (by decide +kernel)
set_option maxRecDepth 20000 in
theorem gX5_take_X5_compare : GoodIn wsX5_take (va_wsS RX5 104 yX5_compare wsX5_compare) := goodIn_app (goodIn_of _ (by decide +kernel)) ggX5_take_X5_compare
