theorem dX5_far_13 : decode cX5_far 13 = .ok (.invokestatic 146, 3) := by decide +kernel
theorem dX5_far_16 : decode cX5_far 16 = .ok (.ifCond .eq 10, 3) := by decide +kernel
theorem dX5_far_19 : decode cX5_far 19 = .ok (.iload_n 3, 1) := by decide +kernel
theorem dX5_far_20 : decode cX5_far 20 = .ok (.invokestatic 146, 3) := by decide +kernel
theorem dX5_far_23 : decode cX5_far 23 = .ok (.ifCond .ne 7, 3) := by decide +kernel
theorem dX5_far_26 : decode cX5_far 26 = .ok (.ldc2_w 149, 3) := by decide +kernel
theorem dX5_far_29 : decode cX5_far 29 = .ok (.lreturn, 1) := by decide +kernel
theorem dX5_far_30 : decode cX5_far 30 = .ok (.aload_n 0, 1) := by decide +kernel
theorem dX5_far_31 : decode cX5_far 31 = .ok (.invokevirtual 143, 3) := by decide +kernel
theorem dX5_far_34 : decode cX5_far 34 = .ok (.aload_n 0, 1) := by decide +kernel
theorem dX5_far_35 : decode cX5_far 35 = .ok (.getfield 128, 3) := by decide +kernel
theorem dX5_far_38 : decode cX5_far 38 = .ok (.ifCond .eq 30, 3) := by decide +kernel
theorem dX5_far_41 : decode cX5_far 41 = .ok (.aload_n 0, 1) := by decide +kernel
theorem dX5_far_42 : decode cX5_far 42 = .ok (.getfield 42, 3) := by decide +kernel
theorem dX5_far_45 : decode cX5_far 45 = .ok (.iconst 2, 1) := by decide +kernel
theorem dX5_far_46 : decode cX5_far 46 = .ok (.iload_n 1, 1) := by decide +kernel
theorem dX5_far_47 : decode cX5_far 47 = .ok (.imul, 1) := by decide +kernel
theorem dX5_far_48 : decode cX5_far 48 = .ok (.iload_n 2, 1) := by decide +kernel
theorem dX5_far_49 : decode cX5_far 49 = .ok (.iadd, 1) := by decide +kernel
theorem dX5_far_50 : decode cX5_far 50 = .ok (.laload, 1) := by decide +kernel
theorem dX5_far_51 : decode cX5_far 51 = .ok (.aload_n 0, 1) := by decide +kernel
theorem dX5_far_52 : decode cX5_far 52 = .ok (.getfield 45, 3) := by decide +kernel
theorem dX5_far_55 : decode cX5_far 55 = .ok (.iconst 2, 1) := by decide +kernel
theorem dX5_far_56 : decode cX5_far 56 = .ok (.iload_n 1, 1) := by decide +kernel
theorem dX5_far_57 : decode cX5_far 57 = .ok (.imul, 1) := by decide +kernel
theorem dX5_far_58 : decode cX5_far 58 = .ok (.iload_n 2, 1) := by decide +kernel
theorem dX5_far_59 : decode cX5_far 59 = .ok (.iadd, 1) := by decide +kernel
theorem dX5_far_60 : decode cX5_far 60 = .ok (.laload, 1) := by decide +kernel
theorem dX5_far_61 : decode cX5_far 61 = .ok (.iload_n 3, 1) := by decide +kernel
theorem dX5_far_62 : decode cX5_far 62 = .ok (.invokestatic 151, 3) := by decide +kernel
theorem dX5_far_65 : decode cX5_far 65 = .ok (.goto 6, 3) := by decide +kernel
theorem dX5_far_68 : decode cX5_far 68 = .ok (.ldc2_w 155, 3) := by decide +kernel
theorem dX5_far_71 : decode cX5_far 71 = .ok (.lreturn, 1) := by decide +kernel
set_option maxRecDepth 20000 in
theorem ggX5_barred_X5_know : GoodIn wsX5_barred wsX5_know := goodIn_r _ [7, 8, 9, 1, 2, 10, 11, 12, 6, 13, 14, 15, 16, 17, 18, 19, 20, 21, 22, 23, 24, 25, 26, 27, 28, 29, 30, 31, 32, 33, 34, 35, 36, 37, 38, 39, 40, 41, 42, 43, 44, 45, 46, 47, 48, 49, 50, 51, 52, 53, 54, 55, 56, 57, 58, 59, 60, 61, 62, 63, 64, 65, 66, 67, 68, 69, 70, 71, 72, 73, 74, 75, 76, 77, 78, 79, 80, 81, 82, 83, 84, 85, 86, 87, 88, 89, 90, 91, 92, 93] rfl (by decide +kernel)
set_option maxRecDepth 20000 in
theorem gX5_barred_X5_know : GoodIn wsX5_barred (wsV RX5 143 RX5 yX5_know wsX5_know) := goodIn_app (goodIn_of _ (by decide +kernel)) ggX5_barred_X5_know
theorem dX5_barred_0 : decode cX5_barred 0 = .ok (.aload_n 0, 1) := by decide +kernel
theorem dX5_barred_1 : decode cX5_barred 1 = .ok (.invokevirtual 143, 3) := by decide +kernel
theorem dX5_barred_4 : decode cX5_barred 4 = .ok (.aload_n 0, 1) := by decide +kernel
theorem dX5_barred_5 : decode cX5_barred 5 = .ok (.getfield 128, 3) := by decide +kernel
theorem dX5_barred_8 : decode cX5_barred 8 = .ok (.ifCond .eq 6, 3) := by decide +kernel
theorem dX5_barred_11 : decode cX5_barred 11 = .ok (.bipush (-3), 2) := by decide +kernel
theorem dX5_barred_13 : decode cX5_barred 13 = .ok (.ireturn, 1) := by decide +kernel
theorem dX5_barred_14 : decode cX5_barred 14 = .ok (.iconst 0, 1) := by decide +kernel
theorem dX5_barred_15 : decode cX5_barred 15 = .ok (.istore_n 2, 1) := by decide +kernel
theorem dX5_barred_16 : decode cX5_barred 16 = .ok (.iconst 0, 1) := by decide +kernel
theorem dX5_barred_17 : decode cX5_barred 17 = .ok (.istore_n 3, 1) := by decide +kernel
theorem dX5_barred_18 : decode cX5_barred 18 = .ok (.iload_n 3, 1) := by decide +kernel
theorem dX5_barred_19 : decode cX5_barred 19 = .ok (.bipush 8, 2) := by decide +kernel
theorem dX5_barred_21 : decode cX5_barred 21 = .ok (.if_icmp .ge 28, 3) := by decide +kernel
theorem dX5_barred_24 : decode cX5_barred 24 = .ok (.aload_n 0, 1) := by decide +kernel
theorem dX5_barred_25 : decode cX5_barred 25 = .ok (.getfield 48, 3) := by decide +kernel
theorem dX5_barred_28 : decode cX5_barred 28 = .ok (.iload_n 3, 1) := by decide +kernel
theorem dX5_barred_29 : decode cX5_barred 29 = .ok (.baload, 1) := by decide +kernel
theorem dX5_barred_30 : decode cX5_barred 30 = .ok (.ifCond .eq 13, 3) := by decide +kernel
theorem dX5_barred_33 : decode cX5_barred 33 = .ok (.iload_n 2, 1) := by decide +kernel
theorem dX5_barred_34 : decode cX5_barred 34 = .ok (.iload_n 1, 1) := by decide +kernel
theorem dX5_barred_35 : decode cX5_barred 35 = .ok (.if_icmp .ne 5, 3) := by decide +kernel
theorem dX5_barred_38 : decode cX5_barred 38 = .ok (.iload_n 3, 1) := by decide +kernel
theorem dX5_barred_39 : decode cX5_barred 39 = .ok (.ireturn, 1) := by decide +kernel
theorem dX5_barred_40 : decode cX5_barred 40 = .ok (.iinc 2 1, 3) := by decide +kernel
theorem dX5_barred_43 : decode cX5_barred 43 = .ok (.iinc 3 1, 3) := by decide +kernel
theorem dX5_barred_46 : decode cX5_barred 46 = .ok (.goto (-28), 3) := by decide +kernel
theorem dX5_barred_49 : decode cX5_barred 49 = .ok (.iconst (-1), 1) := by decide +kernel
theorem dX5_barred_50 : decode cX5_barred 50 = .ok (.ireturn, 1) := by decide +kernel
theorem dX5_isLarge_0 : decode cX5_isLarge 0 = .ok (.lconst 1, 1) := by decide +kernel
theorem dX5_isLarge_1 : decode cX5_isLarge 1 = .ok (.lstore_n 1, 1) := by decide +kernel
theorem dX5_isLarge_2 : decode cX5_isLarge 2 = .ok (.iconst 0, 1) := by decide +kernel
theorem dX5_isLarge_3 : decode cX5_isLarge 3 = .ok (.istore_n 3, 1) := by decide +kernel
theorem dX5_isLarge_4 : decode cX5_isLarge 4 = .ok (.iload_n 3, 1) := by decide +kernel
theorem dX5_isLarge_5 : decode cX5_isLarge 5 = .ok (.aload_n 0, 1) := by decide +kernel
theorem dX5_isLarge_6 : decode cX5_isLarge 6 = .ok (.getfield 66, 3) := by decide +kernel
theorem dX5_isLarge_9 : decode cX5_isLarge 9 = .ok (.if_icmp .ge 28, 3) := by decide +kernel
theorem dX5_isLarge_12 : decode cX5_isLarge 12 = .ok (.lload_n 1, 1) := by decide +kernel
theorem dX5_isLarge_13 : decode cX5_isLarge 13 = .ok (.aload_n 0, 1) := by decide +kernel
theorem dX5_isLarge_14 : decode cX5_isLarge 14 = .ok (.getfield 13, 3) := by decide +kernel
theorem dX5_isLarge_17 : decode cX5_isLarge 17 = .ok (.iload_n 3, 1) := by decide +kernel
theorem dX5_isLarge_18 : decode cX5_isLarge 18 = .ok (.iaload, 1) := by decide +kernel
theorem dX5_isLarge_19 : decode cX5_isLarge 19 = .ok (.aload_n 0, 1) := by decide +kernel
theorem dX5_isLarge_20 : decode cX5_isLarge 20 = .ok (.getfield 7, 3) := by decide +kernel
theorem dX5_isLarge_23 : decode cX5_isLarge 23 = .ok (.iload_n 3, 1) := by decide +kernel
theorem dX5_isLarge_24 : decode cX5_isLarge 24 = .ok (.iaload, 1) := by decide +kernel
theorem dX5_isLarge_25 : decode cX5_isLarge 25 = .ok (.isub, 1) := by decide +kernel
theorem dX5_isLarge_26 : decode cX5_isLarge 26 = .ok (.iconst 1, 1) := by decide +kernel
theorem dX5_isLarge_27 : decode cX5_isLarge 27 = .ok (.iadd, 1) := by decide +kernel
theorem dX5_isLarge_28 : decode cX5_isLarge 28 = .ok (.i2l, 1) := by decide +kernel
theorem dX5_isLarge_29 : decode cX5_isLarge 29 = .ok (.lmul, 1) := by decide +kernel
theorem dX5_isLarge_30 : decode cX5_isLarge 30 = .ok (.lstore_n 1, 1) := by decide +kernel
theorem dX5_isLarge_31 : decode cX5_isLarge 31 = .ok (.iinc 3 1, 3) := by decide +kernel
theorem dX5_isLarge_34 : decode cX5_isLarge 34 = .ok (.goto (-30), 3) := by decide +kernel
theorem dX5_isLarge_37 : decode cX5_isLarge 37 = .ok (.lload_n 1, 1) := by decide +kernel
theorem dX5_isLarge_38 : decode cX5_isLarge 38 = .ok (.ldc2_w 159, 3) := by decide +kernel
theorem dX5_isLarge_41 : decode cX5_isLarge 41 = .ok (.lcmp, 1) := by decide +kernel
theorem dX5_isLarge_42 : decode cX5_isLarge 42 = .ok (.ifCond .le 7, 3) := by decide +kernel
theorem dX5_isLarge_45 : decode cX5_isLarge 45 = .ok (.iconst 1, 1) := by decide +kernel
theorem dX5_isLarge_46 : decode cX5_isLarge 46 = .ok (.goto 4, 3) := by decide +kernel
theorem dX5_isLarge_49 : decode cX5_isLarge 49 = .ok (.iconst 0, 1) := by decide +kernel
theorem dX5_isLarge_50 : decode cX5_isLarge 50 = .ok (.ireturn, 1) := by decide +kernel
theorem dX5_keepsWhole_0 : decode cX5_keepsWhole 0 = .ok (.iconst 0, 1) := by decide +kernel
theorem dX5_keepsWhole_1 : decode cX5_keepsWhole 1 = .ok (.istore_n 1, 1) := by decide +kernel
theorem dX5_keepsWhole_2 : decode cX5_keepsWhole 2 = .ok (.iload_n 1, 1) := by decide +kernel
theorem dX5_keepsWhole_3 : decode cX5_keepsWhole 3 = .ok (.aload_n 0, 1) := by decide +kernel
theorem dX5_keepsWhole_4 : decode cX5_keepsWhole 4 = .ok (.getfield 78, 3) := by decide +kernel
theorem dX5_keepsWhole_7 : decode cX5_keepsWhole 7 = .ok (.if_icmp .ge 108, 3) := by decide +kernel
theorem dX5_keepsWhole_10 : decode cX5_keepsWhole 10 = .ok (.aload_n 0, 1) := by decide +kernel
theorem dX5_keepsWhole_11 : decode cX5_keepsWhole 11 = .ok (.getfield 28, 3) := by decide +kernel
theorem dX5_keepsWhole_14 : decode cX5_keepsWhole 14 = .ok (.iload_n 1, 1) := by decide +kernel
theorem dX5_keepsWhole_15 : decode cX5_keepsWhole 15 = .ok (.baload, 1) := by decide +kernel
theorem dX5_keepsWhole_16 : decode cX5_keepsWhole 16 = .ok (.ifCond .ne 6, 3) := by decide +kernel
theorem dX5_keepsWhole_19 : decode cX5_keepsWhole 19 = .ok (.goto 90, 3) := by decide +kernel
theorem dX5_keepsWhole_22 : decode cX5_keepsWhole 22 = .ok (.aload_n 0, 1) := by decide +kernel
theorem dX5_keepsWhole_23 : decode cX5_keepsWhole 23 = .ok (.getfield 22, 3) := by decide +kernel
theorem dX5_keepsWhole_26 : decode cX5_keepsWhole 26 = .ok (.iload_n 1, 1) := by decide +kernel
theorem dX5_keepsWhole_27 : decode cX5_keepsWhole 27 = .ok (.iaload, 1) := by decide +kernel
theorem dX5_keepsWhole_28 : decode cX5_keepsWhole 28 = .ok (.ineg, 1) := by decide +kernel
theorem dX5_keepsWhole_29 : decode cX5_keepsWhole 29 = .ok (.istore_n 2, 1) := by decide +kernel
theorem dX5_keepsWhole_30 : decode cX5_keepsWhole 30 = .ok (.iconst 0, 1) := by decide +kernel
theorem dX5_keepsWhole_31 : decode cX5_keepsWhole 31 = .ok (.istore_n 3, 1) := by decide +kernel
theorem dX5_keepsWhole_32 : decode cX5_keepsWhole 32 = .ok (.iload_n 3, 1) := by decide +kernel
theorem dX5_keepsWhole_33 : decode cX5_keepsWhole 33 = .ok (.aload_n 0, 1) := by decide +kernel
theorem dX5_keepsWhole_34 : decode cX5_keepsWhole 34 = .ok (.getfield 66, 3) := by decide +kernel
theorem dX5_keepsWhole_37 : decode cX5_keepsWhole 37 = .ok (.if_icmp .ge 29, 3) := by decide +kernel
theorem dX5_keepsWhole_40 : decode cX5_keepsWhole 40 = .ok (.iload_n 2, 1) := by decide +kernel
theorem dX5_keepsWhole_41 : decode cX5_keepsWhole 41 = .ok (.aload_n 0, 1) := by decide +kernel
theorem dX5_keepsWhole_42 : decode cX5_keepsWhole 42 = .ok (.getfield 25, 3) := by decide +kernel
theorem dX5_keepsWhole_45 : decode cX5_keepsWhole 45 = .ok (.iconst 5, 1) := by decide +kernel
theorem dX5_keepsWhole_46 : decode cX5_keepsWhole 46 = .ok (.iload_n 1, 1) := by decide +kernel
theorem dX5_keepsWhole_47 : decode cX5_keepsWhole 47 = .ok (.imul, 1) := by decide +kernel
theorem dX5_keepsWhole_48 : decode cX5_keepsWhole 48 = .ok (.iload_n 3, 1) := by decide +kernel
theorem dX5_keepsWhole_49 : decode cX5_keepsWhole 49 = .ok (.iadd, 1) := by decide +kernel
theorem dX5_keepsWhole_50 : decode cX5_keepsWhole 50 = .ok (.iaload, 1) := by decide +kernel
theorem dX5_keepsWhole_51 : decode cX5_keepsWhole 51 = .ok (.aload_n 0, 1) := by decide +kernel
theorem dX5_keepsWhole_52 : decode cX5_keepsWhole 52 = .ok (.getfield 60, 3) := by decide +kernel
theorem dX5_keepsWhole_55 : decode cX5_keepsWhole 55 = .ok (.iload_n 3, 1) := by decide +kernel
theorem dX5_keepsWhole_56 : decode cX5_keepsWhole 56 = .ok (.iaload, 1) := by decide +kernel
theorem dX5_keepsWhole_57 : decode cX5_keepsWhole 57 = .ok (.imul, 1) := by decide +kernel
theorem dX5_keepsWhole_58 : decode cX5_keepsWhole 58 = .ok (.iadd, 1) := by decide +kernel
theorem dX5_keepsWhole_59 : decode cX5_keepsWhole 59 = .ok (.istore_n 2, 1) := by decide +kernel
theorem dX5_keepsWhole_60 : decode cX5_keepsWhole 60 = .ok (.iinc 3 1, 3) := by decide +kernel
theorem dX5_keepsWhole_63 : decode cX5_keepsWhole 63 = .ok (.goto (-31), 3) := by decide +kernel
theorem dX5_keepsWhole_66 : decode cX5_keepsWhole 66 = .ok (.aload_n 0, 1) := by decide +kernel
theorem dX5_keepsWhole_67 : decode cX5_keepsWhole 67 = .ok (.getfield 19, 3) := by decide +kernel
theorem dX5_keepsWhole_70 : decode cX5_keepsWhole 70 = .ok (.iload_n 1, 1) := by decide +kernel
theorem dX5_keepsWhole_71 : decode cX5_keepsWhole 71 = .ok (.iaload, 1) := by decide +kernel
theorem dX5_keepsWhole_72 : decode cX5_keepsWhole 72 = .ok (.ifCond .ne 7, 3) := by decide +kernel
theorem dX5_keepsWhole_75 : decode cX5_keepsWhole 75 = .ok (.iload_n 2, 1) := by decide +kernel
theorem dX5_keepsWhole_76 : decode cX5_keepsWhole 76 = .ok (.ifCond .gt 31, 3) := by decide +kernel
theorem dX5_keepsWhole_79 : decode cX5_keepsWhole 79 = .ok (.aload_n 0, 1) := by decide +kernel
theorem dX5_keepsWhole_80 : decode cX5_keepsWhole 80 = .ok (.getfield 19, 3) := by decide +kernel
theorem dX5_keepsWhole_83 : decode cX5_keepsWhole 83 = .ok (.iload_n 1, 1) := by decide +kernel
theorem dX5_keepsWhole_84 : decode cX5_keepsWhole 84 = .ok (.iaload, 1) := by decide +kernel
theorem dX5_keepsWhole_85 : decode cX5_keepsWhole 85 = .ok (.iconst 1, 1) := by decide +kernel
theorem dX5_keepsWhole_86 : decode cX5_keepsWhole 86 = .ok (.if_icmp .ne 7, 3) := by decide +kernel
theorem dX5_keepsWhole_89 : decode cX5_keepsWhole 89 = .ok (.iload_n 2, 1) := by decide +kernel
theorem dX5_keepsWhole_90 : decode cX5_keepsWhole 90 = .ok (.ifCond .ne 17, 3) := by decide +kernel
theorem dX5_keepsWhole_93 : decode cX5_keepsWhole 93 = .ok (.aload_n 0, 1) := by decide +kernel
theorem dX5_keepsWhole_94 : decode cX5_keepsWhole 94 = .ok (.getfield 19, 3) := by decide +kernel
theorem dX5_keepsWhole_97 : decode cX5_keepsWhole 97 = .ok (.iload_n 1, 1) := by decide +kernel
theorem dX5_keepsWhole_98 : decode cX5_keepsWhole 98 = .ok (.iaload, 1) := by decide +kernel
theorem dX5_keepsWhole_99 : decode cX5_keepsWhole 99 = .ok (.iconst 2, 1) := by decide +kernel
theorem dX5_keepsWhole_100 : decode cX5_keepsWhole 100 = .ok (.if_icmp .ne 9, 3) := by decide +kernel
theorem dX5_keepsWhole_103 : decode cX5_keepsWhole 103 = .ok (.iload_n 2, 1) := by decide +kernel
theorem dX5_keepsWhole_104 : decode cX5_keepsWhole 104 = .ok (.ifCond .ge 5, 3) := by decide +kernel
theorem dX5_keepsWhole_107 : decode cX5_keepsWhole 107 = .ok (.iconst 0, 1) := by decide +kernel
theorem dX5_keepsWhole_108 : decode cX5_keepsWhole 108 = .ok (.ireturn, 1) := by decide +kernel
theorem dX5_keepsWhole_109 : decode cX5_keepsWhole 109 = .ok (.iinc 1 1, 3) := by decide +kernel
theorem dX5_keepsWhole_112 : decode cX5_keepsWhole 112 = .ok (.goto (-110), 3) := by decide +kernel
theorem dX5_keepsWhole_115 : decode cX5_keepsWhole 115 = .ok (.iconst 1, 1) := by decide +kernel
theorem dX5_keepsWhole_116 : decode cX5_keepsWhole 116 = .ok (.ireturn, 1) := by decide +kernel
set_option maxRecDepth 20000 in
theorem ggX5_findWhole_X5_keepsWhole : GoodIn wsX5_findWhole wsX5_keepsWhole := goodIn_r _ [12, 13, 14, 15, 1, 16, 2, 17, 18, 19, 20, 21, 22, 23, 24, 25, 26, 27, 28, 29, 30, 31, 32, 33, 34, 35, 36, 37, 38, 39, 40, 41, 42, 43, 44, 45] rfl (by decide +kernel)
set_option maxRecDepth 20000 in
theorem gX5_findWhole_X5_keepsWhole : GoodIn wsX5_findWhole (wsV RX5 161 RX5 yX5_keepsWhole wsX5_keepsWhole) := goodIn_app (goodIn_of _ (by decide +kernel)) ggX5_findWhole_X5_keepsWhole
theorem dX5_findWhole_0 : decode cX5_findWhole 0 = .ok (.iconst 0, 1) := by decide +kernel
theorem dX5_findWhole_1 : decode cX5_findWhole 1 = .ok (.istore_n 1, 1) := by decide +kernel
theorem dX5_findWhole_2 : decode cX5_findWhole 2 = .ok (.iconst 0, 1) := by decide +kernel
theorem dX5_findWhole_3 : decode cX5_findWhole 3 = .ok (.istore_n 2, 1) := by decide +kernel
theorem dX5_findWhole_4 : decode cX5_findWhole 4 = .ok (.iload_n 2, 1) := by decide +kernel
theorem dX5_findWhole_5 : decode cX5_findWhole 5 = .ok (.aload_n 0, 1) := by decide +kernel
theorem dX5_findWhole_6 : decode cX5_findWhole 6 = .ok (.getfield 66, 3) := by decide +kernel
theorem dX5_findWhole_9 : decode cX5_findWhole 9 = .ok (.if_icmp .ge 21, 3) := by decide +kernel
theorem dX5_findWhole_12 : decode cX5_findWhole 12 = .ok (.aload_n 0, 1) := by decide +kernel
theorem dX5_findWhole_13 : decode cX5_findWhole 13 = .ok (.getfield 60, 3) := by decide +kernel
theorem dX5_findWhole_16 : decode cX5_findWhole 16 = .ok (.iload_n 2, 1) := by decide +kernel
theorem dX5_findWhole_17 : decode cX5_findWhole 17 = .ok (.aload_n 0, 1) := by decide +kernel
theorem dX5_findWhole_18 : decode cX5_findWhole 18 = .ok (.getfield 7, 3) := by decide +kernel
theorem dX5_findWhole_21 : decode cX5_findWhole 21 = .ok (.iload_n 2, 1) := by decide +kernel
theorem dX5_findWhole_22 : decode cX5_findWhole 22 = .ok (.iaload, 1) := by decide +kernel
theorem dX5_findWhole_23 : decode cX5_findWhole 23 = .ok (.iastore, 1) := by decide +kernel
theorem dX5_findWhole_24 : decode cX5_findWhole 24 = .ok (.iinc 2 1, 3) := by decide +kernel
theorem dX5_findWhole_27 : decode cX5_findWhole 27 = .ok (.goto (-23), 3) := by decide +kernel
theorem dX5_findWhole_30 : decode cX5_findWhole 30 = .ok (.iconst 0, 1) := by decide +kernel
theorem dX5_findWhole_31 : decode cX5_findWhole 31 = .ok (.istore_n 2, 1) := by decide +kernel
theorem dX5_findWhole_32 : decode cX5_findWhole 32 = .ok (.iload_n 2, 1) := by decide +kernel
theorem dX5_findWhole_33 : decode cX5_findWhole 33 = .ok (.ifCond .lt 160, 3) := by decide +kernel
theorem dX5_findWhole_36 : decode cX5_findWhole 36 = .ok (.aload_n 0, 1) := by decide +kernel
theorem dX5_findWhole_37 : decode cX5_findWhole 37 = .ok (.invokevirtual 161, 3) := by decide +kernel
theorem dX5_findWhole_40 : decode cX5_findWhole 40 = .ok (.ifCond .eq 92, 3) := by decide +kernel
theorem dX5_findWhole_43 : decode cX5_findWhole 43 = .ok (.iconst 0, 1) := by decide +kernel
theorem dX5_findWhole_44 : decode cX5_findWhole 44 = .ok (.istore_n 3, 1) := by decide +kernel
theorem dX5_findWhole_45 : decode cX5_findWhole 45 = .ok (.iconst 0, 1) := by decide +kernel
theorem dX5_findWhole_46 : decode cX5_findWhole 46 = .ok (.istore 4, 2) := by decide +kernel
theorem dX5_findWhole_48 : decode cX5_findWhole 48 = .ok (.iload 4, 2) := by decide +kernel
theorem dX5_findWhole_50 : decode cX5_findWhole 50 = .ok (.aload_n 0, 1) := by decide +kernel
theorem dX5_findWhole_51 : decode cX5_findWhole 51 = .ok (.getfield 66, 3) := by decide +kernel
theorem dX5_findWhole_54 : decode cX5_findWhole 54 = .ok (.if_icmp .ge 27, 3) := by decide +kernel
theorem dX5_findWhole_57 : decode cX5_findWhole 57 = .ok (.iload_n 3, 1) := by decide +kernel
theorem dX5_findWhole_58 : decode cX5_findWhole 58 = .ok (.aload_n 0, 1) := by decide +kernel
theorem dX5_findWhole_59 : decode cX5_findWhole 59 = .ok (.getfield 16, 3) := by decide +kernel
theorem dX5_findWhole_62 : decode cX5_findWhole 62 = .ok (.iload 4, 2) := by decide +kernel
theorem dX5_findWhole_64 : decode cX5_findWhole 64 = .ok (.iaload, 1) := by decide +kernel
theorem dX5_findWhole_65 : decode cX5_findWhole 65 = .ok (.aload_n 0, 1) := by decide +kernel
theorem dX5_findWhole_66 : decode cX5_findWhole 66 = .ok (.getfield 60, 3) := by decide +kernel
theorem dX5_findWhole_69 : decode cX5_findWhole 69 = .ok (.iload 4, 2) := by decide +kernel
theorem dX5_findWhole_71 : decode cX5_findWhole 71 = .ok (.iaload, 1) := by decide +kernel
theorem dX5_findWhole_72 : decode cX5_findWhole 72 = .ok (.imul, 1) := by decide +kernel
theorem dX5_findWhole_73 : decode cX5_findWhole 73 = .ok (.iadd, 1) := by decide +kernel
theorem dX5_findWhole_74 : decode cX5_findWhole 74 = .ok (.istore_n 3, 1) := by decide +kernel
theorem dX5_findWhole_75 : decode cX5_findWhole 75 = .ok (.iinc 4 1, 3) := by decide +kernel
theorem dX5_findWhole_78 : decode cX5_findWhole 78 = .ok (.goto (-30), 3) := by decide +kernel
theorem dX5_findWhole_81 : decode cX5_findWhole 81 = .ok (.iload_n 1, 1) := by decide +kernel
theorem dX5_findWhole_82 : decode cX5_findWhole 82 = .ok (.ifCond .eq 11, 3) := by decide +kernel
theorem dX5_findWhole_85 : decode cX5_findWhole 85 = .ok (.iload_n 3, 1) := by decide +kernel
theorem dX5_findWhole_86 : decode cX5_findWhole 86 = .ok (.aload_n 0, 1) := by decide +kernel
theorem dX5_findWhole_87 : decode cX5_findWhole 87 = .ok (.getfield 164, 3) := by decide +kernel
theorem dX5_findWhole_90 : decode cX5_findWhole 90 = .ok (.if_icmp .ge 42, 3) := by decide +kernel
theorem dX5_findWhole_93 : decode cX5_findWhole 93 = .ok (.iconst 1, 1) := by decide +kernel
theorem dX5_findWhole_94 : decode cX5_findWhole 94 = .ok (.istore_n 1, 1) := by decide +kernel
theorem dX5_findWhole_95 : decode cX5_findWhole 95 = .ok (.aload_n 0, 1) := by decide +kernel
theorem dX5_findWhole_96 : decode cX5_findWhole 96 = .ok (.iload_n 3, 1) := by decide +kernel
theorem dX5_findWhole_97 : decode cX5_findWhole 97 = .ok (.putfield 164, 3) := by decide +kernel
theorem dX5_findWhole_100 : decode cX5_findWhole 100 = .ok (.iconst 0, 1) := by decide +kernel
theorem dX5_findWhole_101 : decode cX5_findWhole 101 = .ok (.istore 4, 2) := by decide +kernel
theorem dX5_findWhole_103 : decode cX5_findWhole 103 = .ok (.iload 4, 2) := by decide +kernel
theorem dX5_findWhole_105 : decode cX5_findWhole 105 = .ok (.aload_n 0, 1) := by decide +kernel
theorem dX5_findWhole_106 : decode cX5_findWhole 106 = .ok (.getfield 66, 3) := by decide +kernel
theorem dX5_findWhole_109 : decode cX5_findWhole 109 = .ok (.if_icmp .ge 23, 3) := by decide +kernel
theorem dX5_findWhole_112 : decode cX5_findWhole 112 = .ok (.aload_n 0, 1) := by decide +kernel
theorem dX5_findWhole_113 : decode cX5_findWhole 113 = .ok (.getfield 63, 3) := by decide +kernel
theorem dX5_findWhole_116 : decode cX5_findWhole 116 = .ok (.iload 4, 2) := by decide +kernel
theorem dX5_findWhole_118 : decode cX5_findWhole 118 = .ok (.aload_n 0, 1) := by decide +kernel
theorem dX5_findWhole_119 : decode cX5_findWhole 119 = .ok (.getfield 60, 3) := by decide +kernel
theorem dX5_findWhole_122 : decode cX5_findWhole 122 = .ok (.iload 4, 2) := by decide +kernel
theorem dX5_findWhole_124 : decode cX5_findWhole 124 = .ok (.iaload, 1) := by decide +kernel
theorem dX5_findWhole_125 : decode cX5_findWhole 125 = .ok (.iastore, 1) := by decide +kernel
theorem dX5_findWhole_126 : decode cX5_findWhole 126 = .ok (.iinc 4 1, 3) := by decide +kernel
theorem dX5_findWhole_129 : decode cX5_findWhole 129 = .ok (.goto (-26), 3) := by decide +kernel
theorem dX5_findWhole_132 : decode cX5_findWhole 132 = .ok (.aload_n 0, 1) := by decide +kernel
theorem dX5_findWhole_133 : decode cX5_findWhole 133 = .ok (.getfield 66, 3) := by decide +kernel
theorem dX5_findWhole_136 : decode cX5_findWhole 136 = .ok (.iconst 1, 1) := by decide +kernel
theorem dX5_findWhole_137 : decode cX5_findWhole 137 = .ok (.isub, 1) := by decide +kernel
theorem dX5_findWhole_138 : decode cX5_findWhole 138 = .ok (.istore_n 2, 1) := by decide +kernel
theorem dX5_findWhole_139 : decode cX5_findWhole 139 = .ok (.iload_n 2, 1) := by decide +kernel
theorem dX5_findWhole_140 : decode cX5_findWhole 140 = .ok (.ifCond .lt 36, 3) := by decide +kernel
theorem dX5_findWhole_143 : decode cX5_findWhole 143 = .ok (.aload_n 0, 1) := by decide +kernel
theorem dX5_findWhole_144 : decode cX5_findWhole 144 = .ok (.getfield 60, 3) := by decide +kernel
theorem dX5_findWhole_147 : decode cX5_findWhole 147 = .ok (.iload_n 2, 1) := by decide +kernel
theorem dX5_findWhole_148 : decode cX5_findWhole 148 = .ok (.iaload, 1) := by decide +kernel
theorem dX5_findWhole_149 : decode cX5_findWhole 149 = .ok (.aload_n 0, 1) := by decide +kernel
theorem dX5_findWhole_150 : decode cX5_findWhole 150 = .ok (.getfield 13, 3) := by decide +kernel
theorem dX5_findWhole_153 : decode cX5_findWhole 153 = .ok (.iload_n 2, 1) := by decide +kernel
theorem dX5_findWhole_154 : decode cX5_findWhole 154 = .ok (.iaload, 1) := by decide +kernel
theorem dX5_findWhole_155 : decode cX5_findWhole 155 = .ok (.if_icmp .ne 21, 3) := by decide +kernel
theorem dX5_findWhole_158 : decode cX5_findWhole 158 = .ok (.aload_n 0, 1) := by decide +kernel
theorem dX5_findWhole_159 : decode cX5_findWhole 159 = .ok (.getfield 60, 3) := by decide +kernel
theorem dX5_findWhole_162 : decode cX5_findWhole 162 = .ok (.iload_n 2, 1) := by decide +kernel
theorem dX5_findWhole_163 : decode cX5_findWhole 163 = .ok (.aload_n 0, 1) := by decide +kernel
theorem dX5_findWhole_164 : decode cX5_findWhole 164 = .ok (.getfield 7, 3) := by decide +kernel
theorem dX5_findWhole_167 : decode cX5_findWhole 167 = .ok (.iload_n 2, 1) := by decide +kernel
theorem dX5_findWhole_168 : decode cX5_findWhole 168 = .ok (.iaload, 1) := by decide +kernel
theorem dX5_findWhole_169 : decode cX5_findWhole 169 = .ok (.iastore, 1) := by decide +kernel
theorem dX5_findWhole_170 : decode cX5_findWhole 170 = .ok (.iinc 2 (-1), 3) := by decide +kernel
theorem dX5_findWhole_173 : decode cX5_findWhole 173 = .ok (.goto (-34), 3) := by decide +kernel
theorem dX5_findWhole_176 : decode cX5_findWhole 176 = .ok (.iload_n 2, 1) := by decide +kernel
theorem dX5_findWhole_177 : decode cX5_findWhole 177 = .ok (.ifCond .lt (-145), 3) := by decide +kernel
theorem dX5_findWhole_180 : decode cX5_findWhole 180 = .ok (.aload_n 0, 1) := by decide +kernel
theorem dX5_findWhole_181 : decode cX5_findWhole 181 = .ok (.getfield 60, 3) := by decide +kernel
theorem dX5_findWhole_184 : decode cX5_findWhole 184 = .ok (.iload_n 2, 1) := by decide +kernel
theorem dX5_findWhole_185 : decode cX5_findWhole 185 = .ok (.dup2, 1) := by decide +kernel
theorem dX5_findWhole_186 : decode cX5_findWhole 186 = .ok (.iaload, 1) := by decide +kernel
theorem dX5_findWhole_187 : decode cX5_findWhole 187 = .ok (.iconst 1, 1) := by decide +kernel
theorem dX5_findWhole_188 : decode cX5_findWhole 188 = .ok (.iadd, 1) := by decide +kernel
theorem dX5_findWhole_189 : decode cX5_findWhole 189 = .ok (.iastore, 1) := by decide +kernel
theorem dX5_findWhole_190 : decode cX5_findWhole 190 = .ok (.goto (-158), 3) := by decide +kernel
theorem dX5_findWhole_193 : decode cX5_findWhole 193 = .ok (.iload_n 1, 1) := by decide +kernel
theorem dX5_findWhole_194 : decode cX5_findWhole 194 = .ok (.ireturn, 1) := by decide +kernel
set_option maxRecDepth 20000 in
theorem ggX5_whole_X5_isLarge : GoodIn wsX5_whole wsX5_isLarge := goodIn_r _ [6, 7, 8, 9, 10, 27, 28, 29, 30, 31, 32, 33, 34, 35, 36, 37, 38, 39, 40, 41, 42, 43, 44, 45, 46, 47, 48, 49, 50, 51, 52, 53, 54] rfl (by decide +kernel)
set_option maxRecDepth 20000 in
theorem gX5_whole_X5_isLarge : GoodIn wsX5_whole (wsV RX5 167 RX5 yX5_isLarge wsX5_isLarge) := goodIn_app (goodIn_of _ (by decide +kernel)) ggX5_whole_X5_isLarge
set_option maxRecDepth 20000 in
theorem ggX5_whole_X5_findWhole : GoodIn wsX5_whole wsX5_findWhole := goodIn_r _ [14, 7, 15, 9, 16, 1, 17, 8, 18, 19, 20, 5, 21, 22, 23, 24, 25, 26, 27, 28, 29, 30, 31, 32, 33, 34, 35, 36, 37, 38, 39, 40, 41, 42, 43, 44, 45, 46, 47, 48, 49, 50, 51, 52, 53, 54] rfl (by decide +kernel)
set_option maxRecDepth 20000 in
theorem gX5_whole_X5_findWhole : GoodIn wsX5_whole (wsV RX5 170 RX5 yX5_findWhole wsX5_findWhole) := goodIn_app (goodIn_of _ (by decide +kernel)) ggX5_whole_X5_findWhole
theorem dX5_whole_0 : decode cX5_whole 0 = .ok (.aload_n 0, 1) := by decide +kernel
theorem dX5_whole_1 : decode cX5_whole 1 = .ok (.invokevirtual 167, 3) := by decide +kernel
theorem dX5_whole_4 : decode cX5_whole 4 = .ok (.ifCond .eq 6, 3) := by decide +kernel
theorem dX5_whole_7 : decode cX5_whole 7 = .ok (.bipush (-4), 2) := by decide +kernel
theorem dX5_whole_9 : decode cX5_whole 9 = .ok (.ireturn, 1) := by decide +kernel
theorem dX5_whole_10 : decode cX5_whole 10 = .ok (.aload_n 0, 1) := by decide +kernel
theorem dX5_whole_11 : decode cX5_whole 11 = .ok (.invokevirtual 170, 3) := by decide +kernel
theorem dX5_whole_14 : decode cX5_whole 14 = .ok (.ifCond .eq 10, 3) := by decide +kernel
theorem dX5_whole_17 : decode cX5_whole 17 = .ok (.aload_n 0, 1) := by decide +kernel
theorem dX5_whole_18 : decode cX5_whole 18 = .ok (.getfield 164, 3) := by decide +kernel
theorem dX5_whole_21 : decode cX5_whole 21 = .ok (.goto 5, 3) := by decide +kernel
theorem dX5_whole_24 : decode cX5_whole 24 = .ok (.bipush (-3), 2) := by decide +kernel
theorem dX5_whole_26 : decode cX5_whole 26 = .ok (.ireturn, 1) := by decide +kernel
set_option maxRecDepth 20000 in
theorem ggX5_wholeValue_X5_isName : GoodIn wsX5_wholeValue wsX5_isName := goodIn_r _ [6, 7, 31, 32, 33, 34, 35, 36, 37, 38, 39, 40, 41, 42, 43, 44, 45, 46, 47, 48, 49, 50, 51, 52, 53, 54, 55, 56, 57, 58] rfl (by decide +kernel)
set_option maxRecDepth 20000 in
theorem gX5_wholeValue_X5_isName : GoodIn wsX5_wholeValue (wsV RX5 134 RX5 yX5_isName wsX5_isName) := goodIn_app (goodIn_of _ (by decide +kernel)) ggX5_wholeValue_X5_isName
set_option maxRecDepth 20000 in
theorem ggX5_wholeValue_X5_isLarge : GoodIn wsX5_wholeValue wsX5_isLarge := goodIn_r _ [11, 7, 12, 13, 14, 31, 32, 33, 34, 35, 36, 37, 38, 39, 40, 41, 42, 43, 44, 45, 46, 47, 48, 49, 50, 51, 52, 53, 54, 55, 56, 57, 58] rfl (by decide +kernel)
set_option maxRecDepth 20000 in
theorem gX5_wholeValue_X5_isLarge : GoodIn wsX5_wholeValue (wsV RX5 167 RX5 yX5_isLarge wsX5_isLarge) := goodIn_app (goodIn_of _ (by decide +kernel)) ggX5_wholeValue_X5_isLarge
set_option maxRecDepth 20000 in
theorem ggX5_wholeValue_X5_findWhole : GoodIn wsX5_wholeValue wsX5_findWhole := goodIn_r _ [18, 7, 19, 13, 20, 21, 1, 12, 22, 23, 24, 5, 25, 26, 27, 28, 29, 30, 31, 32, 33, 34, 35, 36, 37, 38, 39, 40, 41, 42, 43, 44, 45, 46, 47, 48, 49, 50, 51, 52, 53, 54, 55, 56, 57, 58] rfl (by decide +kernel)
set_option maxRecDepth 20000 in
theorem gX5_wholeValue_X5_findWhole : GoodIn wsX5_wholeValue (wsV RX5 170 RX5 yX5_findWhole wsX5_findWhole) := goodIn_app (goodIn_of _ (by decide +kernel)) ggX5_wholeValue_X5_findWhole
theorem dX5_wholeValue_0 : decode cX5_wholeValue 0 = .ok (.aload_n 0, 1) := by decide +kernel
theorem dX5_wholeValue_1 : decode cX5_wholeValue 1 = .ok (.iload_n 1, 1) := by decide +kernel
theorem dX5_wholeValue_2 : decode cX5_wholeValue 2 = .ok (.invokevirtual 134, 3) := by decide +kernel
theorem dX5_wholeValue_5 : decode cX5_wholeValue 5 = .ok (.ifCond .ne 5, 3) := by decide +kernel
theorem dX5_wholeValue_8 : decode cX5_wholeValue 8 = .ok (.iconst (-1), 1) := by decide +kernel
theorem dX5_wholeValue_9 : decode cX5_wholeValue 9 = .ok (.ireturn, 1) := by decide +kernel
theorem dX5_wholeValue_10 : decode cX5_wholeValue 10 = .ok (.aload_n 0, 1) := by decide +kernel
theorem dX5_wholeValue_11 : decode cX5_wholeValue 11 = .ok (.invokevirtual 167, 3) := by decide +kernel
theorem dX5_wholeValue_14 : decode cX5_wholeValue 14 = .ok (.ifCond .eq 6, 3) := by decide +kernel
theorem dX5_wholeValue_17 : decode cX5_wholeValue 17 = .ok (.bipush (-4), 2) := by decide +kernel
