theorem dX0_init_0 : decode cX0_init 0 = .ok (.aload_n 0, 1) := by decide +kernel
theorem dX0_init_1 : decode cX0_init 1 = .ok (.invokespecial 3, 3) := by decide +kernel
theorem dX0_init_4 : decode cX0_init 4 = .ok (.aload_n 0, 1) := by decide +kernel
theorem dX0_init_5 : decode cX0_init 5 = .ok (.bipush 21, 2) := by decide +kernel
theorem dX0_init_7 : decode cX0_init 7 = .ok (.iconst 5, 1) := by decide +kernel
theorem dX0_init_8 : decode cX0_init 8 = .ok (.multianewarray 11 2, 4) := by decide +kernel
theorem dX0_init_12 : decode cX0_init 12 = .ok (.putfield 13, 3) := by decide +kernel
theorem dX0_init_15 : decode cX0_init 15 = .ok (.aload_n 0, 1) := by decide +kernel
theorem dX0_init_16 : decode cX0_init 16 = .ok (.bipush 21, 2) := by decide +kernel
theorem dX0_init_18 : decode cX0_init 18 = .ok (.newarray .long, 2) := by decide +kernel
theorem dX0_init_20 : decode cX0_init 20 = .ok (.putfield 16, 3) := by decide +kernel
theorem dX0_init_23 : decode cX0_init 23 = .ok (.aload_n 0, 1) := by decide +kernel
theorem dX0_init_24 : decode cX0_init 24 = .ok (.bipush 21, 2) := by decide +kernel
theorem dX0_init_26 : decode cX0_init 26 = .ok (.newarray .int, 2) := by decide +kernel
theorem dX0_init_28 : decode cX0_init 28 = .ok (.putfield 20, 3) := by decide +kernel
theorem dX0_init_31 : decode cX0_init 31 = .ok (.aload_n 0, 1) := by decide +kernel
theorem dX0_init_32 : decode cX0_init 32 = .ok (.iconst 5, 1) := by decide +kernel
theorem dX0_init_33 : decode cX0_init 33 = .ok (.newarray .int, 2) := by decide +kernel
theorem dX0_init_35 : decode cX0_init 35 = .ok (.putfield 24, 3) := by decide +kernel
theorem dX0_init_38 : decode cX0_init 38 = .ok (.aload_n 0, 1) := by decide +kernel
theorem dX0_init_39 : decode cX0_init 39 = .ok (.iconst 5, 1) := by decide +kernel
theorem dX0_init_40 : decode cX0_init 40 = .ok (.newarray .boolean, 2) := by decide +kernel
theorem dX0_init_42 : decode cX0_init 42 = .ok (.putfield 27, 3) := by decide +kernel
theorem dX0_init_45 : decode cX0_init 45 = .ok (.aload_n 0, 1) := by decide +kernel
theorem dX0_init_46 : decode cX0_init 46 = .ok (.iconst 5, 1) := by decide +kernel
theorem dX0_init_47 : decode cX0_init 47 = .ok (.newarray .long, 2) := by decide +kernel
theorem dX0_init_49 : decode cX0_init 49 = .ok (.putfield 31, 3) := by decide +kernel
theorem dX0_init_52 : decode cX0_init 52 = .ok (.aload_n 0, 1) := by decide +kernel
theorem dX0_init_53 : decode cX0_init 53 = .ok (.lconst 1, 1) := by decide +kernel
theorem dX0_init_54 : decode cX0_init 54 = .ok (.putfield 34, 3) := by decide +kernel
theorem dX0_init_57 : decode cX0_init 57 = .ok (.return_, 1) := by decide +kernel
set_option maxRecDepth 20000 in
theorem ggX0_begin_X0_thawAll : GoodIn wsX0_begin wsX0_thawAll := goodIn_r _ [13, 5, 14, 15, 16, 17, 18, 19, 20, 21, 22, 23] rfl (by decide +kernel)
set_option maxRecDepth 20000 in
theorem gX0_begin_X0_thawAll : GoodIn wsX0_begin (wsV RX0 51 RX0 yX0_thawAll wsX0_thawAll) := goodIn_app (goodIn_of _ (by decide +kernel)) ggX0_begin_X0_thawAll
theorem dX0_begin_0 : decode cX0_begin 0 = .ok (.aload_n 0, 1) := by decide +kernel
theorem dX0_begin_1 : decode cX0_begin 1 = .ok (.iload_n 1, 1) := by decide +kernel
theorem dX0_begin_2 : decode cX0_begin 2 = .ok (.iconst 5, 1) := by decide +kernel
theorem dX0_begin_3 : decode cX0_begin 3 = .ok (.invokestatic 38, 3) := by decide +kernel
theorem dX0_begin_6 : decode cX0_begin 6 = .ok (.putfield 44, 3) := by decide +kernel
theorem dX0_begin_9 : decode cX0_begin 9 = .ok (.aload_n 0, 1) := by decide +kernel
theorem dX0_begin_10 : decode cX0_begin 10 = .ok (.iconst 0, 1) := by decide +kernel
theorem dX0_begin_11 : decode cX0_begin 11 = .ok (.putfield 48, 3) := by decide +kernel
theorem dX0_begin_14 : decode cX0_begin 14 = .ok (.aload_n 0, 1) := by decide +kernel
theorem dX0_begin_15 : decode cX0_begin 15 = .ok (.lconst 1, 1) := by decide +kernel
theorem dX0_begin_16 : decode cX0_begin 16 = .ok (.putfield 34, 3) := by decide +kernel
theorem dX0_begin_19 : decode cX0_begin 19 = .ok (.iconst 0, 1) := by decide +kernel
theorem dX0_begin_20 : decode cX0_begin 20 = .ok (.istore_n 2, 1) := by decide +kernel
theorem dX0_begin_21 : decode cX0_begin 21 = .ok (.iload_n 2, 1) := by decide +kernel
theorem dX0_begin_22 : decode cX0_begin 22 = .ok (.aload_n 0, 1) := by decide +kernel
theorem dX0_begin_23 : decode cX0_begin 23 = .ok (.getfield 44, 3) := by decide +kernel
theorem dX0_begin_26 : decode cX0_begin 26 = .ok (.if_icmp .ge 16, 3) := by decide +kernel
theorem dX0_begin_29 : decode cX0_begin 29 = .ok (.aload_n 0, 1) := by decide +kernel
theorem dX0_begin_30 : decode cX0_begin 30 = .ok (.getfield 24, 3) := by decide +kernel
theorem dX0_begin_33 : decode cX0_begin 33 = .ok (.iload_n 2, 1) := by decide +kernel
theorem dX0_begin_34 : decode cX0_begin 34 = .ok (.iload_n 2, 1) := by decide +kernel
theorem dX0_begin_35 : decode cX0_begin 35 = .ok (.iastore, 1) := by decide +kernel
theorem dX0_begin_36 : decode cX0_begin 36 = .ok (.iinc 2 1, 3) := by decide +kernel
theorem dX0_begin_39 : decode cX0_begin 39 = .ok (.goto (-18), 3) := by decide +kernel
theorem dX0_begin_42 : decode cX0_begin 42 = .ok (.aload_n 0, 1) := by decide +kernel
theorem dX0_begin_43 : decode cX0_begin 43 = .ok (.invokevirtual 51, 3) := by decide +kernel
theorem dX0_begin_46 : decode cX0_begin 46 = .ok (.return_, 1) := by decide +kernel
theorem dX0_addAtMost_0 : decode cX0_addAtMost 0 = .ok (.aload_n 0, 1) := by decide +kernel
theorem dX0_addAtMost_1 : decode cX0_addAtMost 1 = .ok (.getfield 48, 3) := by decide +kernel
theorem dX0_addAtMost_4 : decode cX0_addAtMost 4 = .ok (.bipush 21, 2) := by decide +kernel
theorem dX0_addAtMost_6 : decode cX0_addAtMost 6 = .ok (.if_icmp .ge 12, 3) := by decide +kernel
theorem dX0_addAtMost_9 : decode cX0_addAtMost 9 = .ok (.aload_n 1, 1) := by decide +kernel
theorem dX0_addAtMost_10 : decode cX0_addAtMost 10 = .ok (.arraylength, 1) := by decide +kernel
theorem dX0_addAtMost_11 : decode cX0_addAtMost 11 = .ok (.aload_n 0, 1) := by decide +kernel
theorem dX0_addAtMost_12 : decode cX0_addAtMost 12 = .ok (.getfield 44, 3) := by decide +kernel
theorem dX0_addAtMost_15 : decode cX0_addAtMost 15 = .ok (.if_icmp .ge 4, 3) := by decide +kernel
theorem dX0_addAtMost_18 : decode cX0_addAtMost 18 = .ok (.return_, 1) := by decide +kernel
theorem dX0_addAtMost_19 : decode cX0_addAtMost 19 = .ok (.iconst 0, 1) := by decide +kernel
theorem dX0_addAtMost_20 : decode cX0_addAtMost 20 = .ok (.istore 4, 2) := by decide +kernel
theorem dX0_addAtMost_22 : decode cX0_addAtMost 22 = .ok (.iload 4, 2) := by decide +kernel
theorem dX0_addAtMost_24 : decode cX0_addAtMost 24 = .ok (.aload_n 0, 1) := by decide +kernel
theorem dX0_addAtMost_25 : decode cX0_addAtMost 25 = .ok (.getfield 44, 3) := by decide +kernel
theorem dX0_addAtMost_28 : decode cX0_addAtMost 28 = .ok (.if_icmp .ge 28, 3) := by decide +kernel
theorem dX0_addAtMost_31 : decode cX0_addAtMost 31 = .ok (.aload_n 0, 1) := by decide +kernel
theorem dX0_addAtMost_32 : decode cX0_addAtMost 32 = .ok (.getfield 13, 3) := by decide +kernel
theorem dX0_addAtMost_35 : decode cX0_addAtMost 35 = .ok (.aload_n 0, 1) := by decide +kernel
theorem dX0_addAtMost_36 : decode cX0_addAtMost 36 = .ok (.getfield 48, 3) := by decide +kernel
theorem dX0_addAtMost_39 : decode cX0_addAtMost 39 = .ok (.aaload, 1) := by decide +kernel
theorem dX0_addAtMost_40 : decode cX0_addAtMost 40 = .ok (.iload 4, 2) := by decide +kernel
theorem dX0_addAtMost_42 : decode cX0_addAtMost 42 = .ok (.iload_n 2, 1) := by decide +kernel
theorem dX0_addAtMost_43 : decode cX0_addAtMost 43 = .ok (.aload_n 1, 1) := by decide +kernel
theorem dX0_addAtMost_44 : decode cX0_addAtMost 44 = .ok (.iload 4, 2) := by decide +kernel
theorem dX0_addAtMost_46 : decode cX0_addAtMost 46 = .ok (.iaload, 1) := by decide +kernel
theorem dX0_addAtMost_47 : decode cX0_addAtMost 47 = .ok (.imul, 1) := by decide +kernel
theorem dX0_addAtMost_48 : decode cX0_addAtMost 48 = .ok (.i2l, 1) := by decide +kernel
theorem dX0_addAtMost_49 : decode cX0_addAtMost 49 = .ok (.lastore, 1) := by decide +kernel
theorem dX0_addAtMost_50 : decode cX0_addAtMost 50 = .ok (.iinc 4 1, 3) := by decide +kernel
theorem dX0_addAtMost_53 : decode cX0_addAtMost 53 = .ok (.goto (-31), 3) := by decide +kernel
theorem dX0_addAtMost_56 : decode cX0_addAtMost 56 = .ok (.aload_n 0, 1) := by decide +kernel
theorem dX0_addAtMost_57 : decode cX0_addAtMost 57 = .ok (.getfield 16, 3) := by decide +kernel
theorem dX0_addAtMost_60 : decode cX0_addAtMost 60 = .ok (.aload_n 0, 1) := by decide +kernel
theorem dX0_addAtMost_61 : decode cX0_addAtMost 61 = .ok (.getfield 48, 3) := by decide +kernel
theorem dX0_addAtMost_64 : decode cX0_addAtMost 64 = .ok (.iload_n 3, 1) := by decide +kernel
theorem dX0_addAtMost_65 : decode cX0_addAtMost 65 = .ok (.i2l, 1) := by decide +kernel
theorem dX0_addAtMost_66 : decode cX0_addAtMost 66 = .ok (.lastore, 1) := by decide +kernel
theorem dX0_addAtMost_67 : decode cX0_addAtMost 67 = .ok (.aload_n 0, 1) := by decide +kernel
theorem dX0_addAtMost_68 : decode cX0_addAtMost 68 = .ok (.getfield 20, 3) := by decide +kernel
theorem dX0_addAtMost_71 : decode cX0_addAtMost 71 = .ok (.aload_n 0, 1) := by decide +kernel
theorem dX0_addAtMost_72 : decode cX0_addAtMost 72 = .ok (.getfield 48, 3) := by decide +kernel
theorem dX0_addAtMost_75 : decode cX0_addAtMost 75 = .ok (.aload_n 0, 1) := by decide +kernel
theorem dX0_addAtMost_76 : decode cX0_addAtMost 76 = .ok (.getfield 44, 3) := by decide +kernel
theorem dX0_addAtMost_79 : decode cX0_addAtMost 79 = .ok (.aload_n 0, 1) := by decide +kernel
theorem dX0_addAtMost_80 : decode cX0_addAtMost 80 = .ok (.getfield 48, 3) := by decide +kernel
theorem dX0_addAtMost_83 : decode cX0_addAtMost 83 = .ok (.iadd, 1) := by decide +kernel
theorem dX0_addAtMost_84 : decode cX0_addAtMost 84 = .ok (.iastore, 1) := by decide +kernel
theorem dX0_addAtMost_85 : decode cX0_addAtMost 85 = .ok (.aload_n 0, 1) := by decide +kernel
theorem dX0_addAtMost_86 : decode cX0_addAtMost 86 = .ok (.dup, 1) := by decide +kernel
theorem dX0_addAtMost_87 : decode cX0_addAtMost 87 = .ok (.getfield 48, 3) := by decide +kernel
theorem dX0_addAtMost_90 : decode cX0_addAtMost 90 = .ok (.iconst 1, 1) := by decide +kernel
theorem dX0_addAtMost_91 : decode cX0_addAtMost 91 = .ok (.iadd, 1) := by decide +kernel
theorem dX0_addAtMost_92 : decode cX0_addAtMost 92 = .ok (.putfield 48, 3) := by decide +kernel
theorem dX0_addAtMost_95 : decode cX0_addAtMost 95 = .ok (.return_, 1) := by decide +kernel
theorem dX0_denominator_0 : decode cX0_denominator 0 = .ok (.aload_n 0, 1) := by decide +kernel
theorem dX0_denominator_1 : decode cX0_denominator 1 = .ok (.getfield 34, 3) := by decide +kernel
theorem dX0_denominator_4 : decode cX0_denominator 4 = .ok (.lreturn, 1) := by decide +kernel
theorem dX0_numerator_0 : decode cX0_numerator 0 = .ok (.iconst 0, 1) := by decide +kernel
theorem dX0_numerator_1 : decode cX0_numerator 1 = .ok (.istore_n 2, 1) := by decide +kernel
theorem dX0_numerator_2 : decode cX0_numerator 2 = .ok (.iload_n 2, 1) := by decide +kernel
theorem dX0_numerator_3 : decode cX0_numerator 3 = .ok (.aload_n 0, 1) := by decide +kernel
theorem dX0_numerator_4 : decode cX0_numerator 4 = .ok (.getfield 48, 3) := by decide +kernel
theorem dX0_numerator_7 : decode cX0_numerator 7 = .ok (.if_icmp .ge 26, 3) := by decide +kernel
theorem dX0_numerator_10 : decode cX0_numerator 10 = .ok (.aload_n 0, 1) := by decide +kernel
theorem dX0_numerator_11 : decode cX0_numerator 11 = .ok (.getfield 20, 3) := by decide +kernel
theorem dX0_numerator_14 : decode cX0_numerator 14 = .ok (.iload_n 2, 1) := by decide +kernel
theorem dX0_numerator_15 : decode cX0_numerator 15 = .ok (.iaload, 1) := by decide +kernel
theorem dX0_numerator_16 : decode cX0_numerator 16 = .ok (.iload_n 1, 1) := by decide +kernel
theorem dX0_numerator_17 : decode cX0_numerator 17 = .ok (.if_icmp .ne 10, 3) := by decide +kernel
theorem dX0_numerator_20 : decode cX0_numerator 20 = .ok (.aload_n 0, 1) := by decide +kernel
theorem dX0_numerator_21 : decode cX0_numerator 21 = .ok (.getfield 16, 3) := by decide +kernel
theorem dX0_numerator_24 : decode cX0_numerator 24 = .ok (.iload_n 2, 1) := by decide +kernel
theorem dX0_numerator_25 : decode cX0_numerator 25 = .ok (.laload, 1) := by decide +kernel
theorem dX0_numerator_26 : decode cX0_numerator 26 = .ok (.lreturn, 1) := by decide +kernel
theorem dX0_numerator_27 : decode cX0_numerator 27 = .ok (.iinc 2 1, 3) := by decide +kernel
theorem dX0_numerator_30 : decode cX0_numerator 30 = .ok (.goto (-28), 3) := by decide +kernel
theorem dX0_numerator_33 : decode cX0_numerator 33 = .ok (.lconst 0, 1) := by decide +kernel
theorem dX0_numerator_34 : decode cX0_numerator 34 = .ok (.lreturn, 1) := by decide +kernel
set_option maxRecDepth 20000 in
theorem ggX0_findPoint_X0_brokenLine : GoodIn wsX0_findPoint wsX0_brokenLine := goodIn_r _ [6, 7, 8, 9, 34, 35, 36, 37, 38, 39, 40, 41, 42] rfl (by decide +kernel)
set_option maxRecDepth 20000 in
theorem gX0_findPoint_X0_brokenLine : GoodIn wsX0_findPoint (wsV RX0 55 RX0 yX0_brokenLine wsX0_brokenLine) := goodIn_app (goodIn_of _ (by decide +kernel)) ggX0_findPoint_X0_brokenLine
set_option maxRecDepth 20000 in
theorem ggX0_findPoint_X0_mendingColumn : GoodIn wsX0_findPoint wsX0_mendingColumn := goodIn_r _ [13, 14, 15, 16, 34, 35, 36, 37, 38, 39, 40, 41, 42] rfl (by decide +kernel)
set_option maxRecDepth 20000 in
theorem gX0_findPoint_X0_mendingColumn : GoodIn wsX0_findPoint (wsV RX0 59 RX0 yX0_mendingColumn wsX0_mendingColumn) := goodIn_app (goodIn_of _ (by decide +kernel)) ggX0_findPoint_X0_mendingColumn
set_option maxRecDepth 20000 in
theorem ggX0_findPoint_X0_pivot : GoodIn wsX0_findPoint wsX0_pivot := goodIn_r _ [20, 15, 21, 7, 22, 23, 24, 25, 9, 16, 26, 27, 28, 5, 29, 14, 8, 30, 31, 32, 33, 34, 35, 36, 37, 38, 39, 40, 41, 42] rfl (by decide +kernel)
set_option maxRecDepth 20000 in
theorem gX0_findPoint_X0_pivot : GoodIn wsX0_findPoint (wsV RX0 63 RX0 yX0_pivot wsX0_pivot) := goodIn_app (goodIn_of _ (by decide +kernel)) ggX0_findPoint_X0_pivot
theorem dX0_findPoint_0 : decode cX0_findPoint 0 = .ok (.iconst 0, 1) := by decide +kernel
theorem dX0_findPoint_1 : decode cX0_findPoint 1 = .ok (.istore_n 1, 1) := by decide +kernel
theorem dX0_findPoint_2 : decode cX0_findPoint 2 = .ok (.iload_n 1, 1) := by decide +kernel
theorem dX0_findPoint_3 : decode cX0_findPoint 3 = .ok (.ldc 54, 2) := by decide +kernel
theorem dX0_findPoint_5 : decode cX0_findPoint 5 = .ok (.if_icmp .ge 38, 3) := by decide +kernel
theorem dX0_findPoint_8 : decode cX0_findPoint 8 = .ok (.aload_n 0, 1) := by decide +kernel
theorem dX0_findPoint_9 : decode cX0_findPoint 9 = .ok (.invokevirtual 55, 3) := by decide +kernel
theorem dX0_findPoint_12 : decode cX0_findPoint 12 = .ok (.istore_n 2, 1) := by decide +kernel
theorem dX0_findPoint_13 : decode cX0_findPoint 13 = .ok (.iload_n 2, 1) := by decide +kernel
theorem dX0_findPoint_14 : decode cX0_findPoint 14 = .ok (.ifCond .ge 5, 3) := by decide +kernel
theorem dX0_findPoint_17 : decode cX0_findPoint 17 = .ok (.iconst 1, 1) := by decide +kernel
theorem dX0_findPoint_18 : decode cX0_findPoint 18 = .ok (.ireturn, 1) := by decide +kernel
theorem dX0_findPoint_19 : decode cX0_findPoint 19 = .ok (.aload_n 0, 1) := by decide +kernel
theorem dX0_findPoint_20 : decode cX0_findPoint 20 = .ok (.iload_n 2, 1) := by decide +kernel
theorem dX0_findPoint_21 : decode cX0_findPoint 21 = .ok (.invokevirtual 59, 3) := by decide +kernel
theorem dX0_findPoint_24 : decode cX0_findPoint 24 = .ok (.istore_n 3, 1) := by decide +kernel
theorem dX0_findPoint_25 : decode cX0_findPoint 25 = .ok (.iload_n 3, 1) := by decide +kernel
theorem dX0_findPoint_26 : decode cX0_findPoint 26 = .ok (.ifCond .ge 5, 3) := by decide +kernel
theorem dX0_findPoint_29 : decode cX0_findPoint 29 = .ok (.iconst 0, 1) := by decide +kernel
theorem dX0_findPoint_30 : decode cX0_findPoint 30 = .ok (.ireturn, 1) := by decide +kernel
theorem dX0_findPoint_31 : decode cX0_findPoint 31 = .ok (.aload_n 0, 1) := by decide +kernel
theorem dX0_findPoint_32 : decode cX0_findPoint 32 = .ok (.iload_n 2, 1) := by decide +kernel
theorem dX0_findPoint_33 : decode cX0_findPoint 33 = .ok (.iload_n 3, 1) := by decide +kernel
theorem dX0_findPoint_34 : decode cX0_findPoint 34 = .ok (.invokevirtual 63, 3) := by decide +kernel
theorem dX0_findPoint_37 : decode cX0_findPoint 37 = .ok (.iinc 1 1, 3) := by decide +kernel
theorem dX0_findPoint_40 : decode cX0_findPoint 40 = .ok (.goto (-38), 3) := by decide +kernel
theorem dX0_findPoint_43 : decode cX0_findPoint 43 = .ok (.iconst 0, 1) := by decide +kernel
theorem dX0_findPoint_44 : decode cX0_findPoint 44 = .ok (.ireturn, 1) := by decide +kernel
set_option maxRecDepth 20000 in
theorem ggX0_minimise_X0_findSlopes : GoodIn wsX0_minimise wsX0_findSlopes := goodIn_r _ [7, 1, 8, 9, 10, 11, 12, 13, 44, 45, 46, 47, 48, 49, 50, 51, 52] rfl (by decide +kernel)
set_option maxRecDepth 20000 in
theorem gX0_minimise_X0_findSlopes : GoodIn wsX0_minimise (wsV RX0 67 RX0 yX0_findSlopes wsX0_findSlopes) := goodIn_app (goodIn_of _ (by decide +kernel)) ggX0_minimise_X0_findSlopes
set_option maxRecDepth 20000 in
theorem ggX0_minimise_X0_fallingColumn : GoodIn wsX0_minimise wsX0_fallingColumn := goodIn_r _ [17, 1, 18, 8, 9, 44, 45, 46, 47, 48, 49, 50, 51, 52] rfl (by decide +kernel)
set_option maxRecDepth 20000 in
theorem gX0_minimise_X0_fallingColumn : GoodIn wsX0_minimise (wsV RX0 71 RX0 yX0_fallingColumn wsX0_fallingColumn) := goodIn_app (goodIn_of _ (by decide +kernel)) ggX0_minimise_X0_fallingColumn
set_option maxRecDepth 20000 in
theorem ggX0_minimise_X0_firstStop : GoodIn wsX0_minimise wsX0_firstStop := goodIn_r _ [22, 11, 13, 23, 24, 25, 6, 26, 27, 12, 44, 45, 46, 47, 48, 49, 50, 51, 52] rfl (by decide +kernel)
set_option maxRecDepth 20000 in
theorem gX0_minimise_X0_firstStop : GoodIn wsX0_minimise (wsV RX0 74 RX0 yX0_firstStop wsX0_firstStop) := goodIn_app (goodIn_of _ (by decide +kernel)) ggX0_minimise_X0_firstStop
set_option maxRecDepth 20000 in
theorem ggX0_minimise_X0_pivot : GoodIn wsX0_minimise wsX0_pivot := goodIn_r _ [31, 13, 10, 11, 32, 33, 34, 35, 12, 9, 36, 37, 38, 6, 39, 1, 27, 40, 41, 42, 43, 44, 45, 46, 47, 48, 49, 50, 51, 52] rfl (by decide +kernel)
set_option maxRecDepth 20000 in
theorem gX0_minimise_X0_pivot : GoodIn wsX0_minimise (wsV RX0 63 RX0 yX0_pivot wsX0_pivot) := goodIn_app (goodIn_of _ (by decide +kernel)) ggX0_minimise_X0_pivot
theorem dX0_minimise_0 : decode cX0_minimise 0 = .ok (.aload_n 1, 1) := by decide +kernel
theorem dX0_minimise_1 : decode cX0_minimise 1 = .ok (.arraylength, 1) := by decide +kernel
theorem dX0_minimise_2 : decode cX0_minimise 2 = .ok (.aload_n 0, 1) := by decide +kernel
theorem dX0_minimise_3 : decode cX0_minimise 3 = .ok (.getfield 44, 3) := by decide +kernel
theorem dX0_minimise_6 : decode cX0_minimise 6 = .ok (.if_icmp .ge 4, 3) := by decide +kernel
theorem dX0_minimise_9 : decode cX0_minimise 9 = .ok (.return_, 1) := by decide +kernel
theorem dX0_minimise_10 : decode cX0_minimise 10 = .ok (.iconst 0, 1) := by decide +kernel
theorem dX0_minimise_11 : decode cX0_minimise 11 = .ok (.istore_n 2, 1) := by decide +kernel
theorem dX0_minimise_12 : decode cX0_minimise 12 = .ok (.iload_n 2, 1) := by decide +kernel
theorem dX0_minimise_13 : decode cX0_minimise 13 = .ok (.ldc 54, 2) := by decide +kernel
theorem dX0_minimise_15 : decode cX0_minimise 15 = .ok (.if_icmp .ge 47, 3) := by decide +kernel
theorem dX0_minimise_18 : decode cX0_minimise 18 = .ok (.aload_n 0, 1) := by decide +kernel
theorem dX0_minimise_19 : decode cX0_minimise 19 = .ok (.aload_n 1, 1) := by decide +kernel
theorem dX0_minimise_20 : decode cX0_minimise 20 = .ok (.invokevirtual 67, 3) := by decide +kernel
theorem dX0_minimise_23 : decode cX0_minimise 23 = .ok (.aload_n 0, 1) := by decide +kernel
theorem dX0_minimise_24 : decode cX0_minimise 24 = .ok (.invokevirtual 71, 3) := by decide +kernel
theorem dX0_minimise_27 : decode cX0_minimise 27 = .ok (.istore_n 3, 1) := by decide +kernel
theorem dX0_minimise_28 : decode cX0_minimise 28 = .ok (.iload_n 3, 1) := by decide +kernel
theorem dX0_minimise_29 : decode cX0_minimise 29 = .ok (.ifCond .ge 7, 3) := by decide +kernel
theorem dX0_minimise_32 : decode cX0_minimise 32 = .ok (.iconst (-1), 1) := by decide +kernel
theorem dX0_minimise_33 : decode cX0_minimise 33 = .ok (.goto 8, 3) := by decide +kernel
theorem dX0_minimise_36 : decode cX0_minimise 36 = .ok (.aload_n 0, 1) := by decide +kernel
theorem dX0_minimise_37 : decode cX0_minimise 37 = .ok (.iload_n 3, 1) := by decide +kernel
theorem dX0_minimise_38 : decode cX0_minimise 38 = .ok (.invokevirtual 74, 3) := by decide +kernel
theorem dX0_minimise_41 : decode cX0_minimise 41 = .ok (.istore 4, 2) := by decide +kernel
theorem dX0_minimise_43 : decode cX0_minimise 43 = .ok (.iload 4, 2) := by decide +kernel
theorem dX0_minimise_45 : decode cX0_minimise 45 = .ok (.ifCond .ge 4, 3) := by decide +kernel
theorem dX0_minimise_48 : decode cX0_minimise 48 = .ok (.return_, 1) := by decide +kernel
theorem dX0_minimise_49 : decode cX0_minimise 49 = .ok (.aload_n 0, 1) := by decide +kernel
theorem dX0_minimise_50 : decode cX0_minimise 50 = .ok (.iload 4, 2) := by decide +kernel
theorem dX0_minimise_52 : decode cX0_minimise 52 = .ok (.iload_n 3, 1) := by decide +kernel
theorem dX0_minimise_53 : decode cX0_minimise 53 = .ok (.invokevirtual 63, 3) := by decide +kernel
theorem dX0_minimise_56 : decode cX0_minimise 56 = .ok (.iinc 2 1, 3) := by decide +kernel
theorem dX0_minimise_59 : decode cX0_minimise 59 = .ok (.goto (-47), 3) := by decide +kernel
theorem dX0_minimise_62 : decode cX0_minimise 62 = .ok (.return_, 1) := by decide +kernel
theorem dX0_freezeDear_0 : decode cX0_freezeDear 0 = .ok (.iconst 0, 1) := by decide +kernel
theorem dX0_freezeDear_1 : decode cX0_freezeDear 1 = .ok (.istore_n 1, 1) := by decide +kernel
theorem dX0_freezeDear_2 : decode cX0_freezeDear 2 = .ok (.iload_n 1, 1) := by decide +kernel
theorem dX0_freezeDear_3 : decode cX0_freezeDear 3 = .ok (.aload_n 0, 1) := by decide +kernel
theorem dX0_freezeDear_4 : decode cX0_freezeDear 4 = .ok (.getfield 44, 3) := by decide +kernel
theorem dX0_freezeDear_7 : decode cX0_freezeDear 7 = .ok (.if_icmp .ge 27, 3) := by decide +kernel
theorem dX0_freezeDear_10 : decode cX0_freezeDear 10 = .ok (.aload_n 0, 1) := by decide +kernel
theorem dX0_freezeDear_11 : decode cX0_freezeDear 11 = .ok (.getfield 31, 3) := by decide +kernel
theorem dX0_freezeDear_14 : decode cX0_freezeDear 14 = .ok (.iload_n 1, 1) := by decide +kernel
theorem dX0_freezeDear_15 : decode cX0_freezeDear 15 = .ok (.laload, 1) := by decide +kernel
theorem dX0_freezeDear_16 : decode cX0_freezeDear 16 = .ok (.lconst 0, 1) := by decide +kernel
theorem dX0_freezeDear_17 : decode cX0_freezeDear 17 = .ok (.lcmp, 1) := by decide +kernel
theorem dX0_freezeDear_18 : decode cX0_freezeDear 18 = .ok (.ifCond .le 10, 3) := by decide +kernel
theorem dX0_freezeDear_21 : decode cX0_freezeDear 21 = .ok (.aload_n 0, 1) := by decide +kernel
theorem dX0_freezeDear_22 : decode cX0_freezeDear 22 = .ok (.getfield 27, 3) := by decide +kernel
theorem dX0_freezeDear_25 : decode cX0_freezeDear 25 = .ok (.iload_n 1, 1) := by decide +kernel
theorem dX0_freezeDear_26 : decode cX0_freezeDear 26 = .ok (.iconst 1, 1) := by decide +kernel
theorem dX0_freezeDear_27 : decode cX0_freezeDear 27 = .ok (.bastore, 1) := by decide +kernel
theorem dX0_freezeDear_28 : decode cX0_freezeDear 28 = .ok (.iinc 1 1, 3) := by decide +kernel
theorem dX0_freezeDear_31 : decode cX0_freezeDear 31 = .ok (.goto (-29), 3) := by decide +kernel
theorem dX0_freezeDear_34 : decode cX0_freezeDear 34 = .ok (.return_, 1) := by decide +kernel
theorem dX0_thawAll_0 : decode cX0_thawAll 0 = .ok (.iconst 0, 1) := by decide +kernel
theorem dX0_thawAll_1 : decode cX0_thawAll 1 = .ok (.istore_n 1, 1) := by decide +kernel
theorem dX0_thawAll_2 : decode cX0_thawAll 2 = .ok (.iload_n 1, 1) := by decide +kernel
theorem dX0_thawAll_3 : decode cX0_thawAll 3 = .ok (.aload_n 0, 1) := by decide +kernel
theorem dX0_thawAll_4 : decode cX0_thawAll 4 = .ok (.getfield 44, 3) := by decide +kernel
theorem dX0_thawAll_7 : decode cX0_thawAll 7 = .ok (.if_icmp .ge 16, 3) := by decide +kernel
theorem dX0_thawAll_10 : decode cX0_thawAll 10 = .ok (.aload_n 0, 1) := by decide +kernel
theorem dX0_thawAll_11 : decode cX0_thawAll 11 = .ok (.getfield 27, 3) := by decide +kernel
theorem dX0_thawAll_14 : decode cX0_thawAll 14 = .ok (.iload_n 1, 1) := by decide +kernel
theorem dX0_thawAll_15 : decode cX0_thawAll 15 = .ok (.iconst 0, 1) := by decide +kernel
theorem dX0_thawAll_16 : decode cX0_thawAll 16 = .ok (.bastore, 1) := by decide +kernel
theorem dX0_thawAll_17 : decode cX0_thawAll 17 = .ok (.iinc 1 1, 3) := by decide +kernel
theorem dX0_thawAll_20 : decode cX0_thawAll 20 = .ok (.goto (-18), 3) := by decide +kernel
theorem dX0_thawAll_23 : decode cX0_thawAll 23 = .ok (.return_, 1) := by decide +kernel
theorem dX0_brokenLine_0 : decode cX0_brokenLine 0 = .ok (.iconst (-1), 1) := by decide +kernel
theorem dX0_brokenLine_1 : decode cX0_brokenLine 1 = .ok (.istore_n 1, 1) := by decide +kernel
theorem dX0_brokenLine_2 : decode cX0_brokenLine 2 = .ok (.iconst 0, 1) := by decide +kernel
theorem dX0_brokenLine_3 : decode cX0_brokenLine 3 = .ok (.istore_n 2, 1) := by decide +kernel
theorem dX0_brokenLine_4 : decode cX0_brokenLine 4 = .ok (.iload_n 2, 1) := by decide +kernel
theorem dX0_brokenLine_5 : decode cX0_brokenLine 5 = .ok (.aload_n 0, 1) := by decide +kernel
theorem dX0_brokenLine_6 : decode cX0_brokenLine 6 = .ok (.getfield 48, 3) := by decide +kernel
theorem dX0_brokenLine_9 : decode cX0_brokenLine 9 = .ok (.if_icmp .ge 41, 3) := by decide +kernel
theorem dX0_brokenLine_12 : decode cX0_brokenLine 12 = .ok (.aload_n 0, 1) := by decide +kernel
theorem dX0_brokenLine_13 : decode cX0_brokenLine 13 = .ok (.getfield 16, 3) := by decide +kernel
theorem dX0_brokenLine_16 : decode cX0_brokenLine 16 = .ok (.iload_n 2, 1) := by decide +kernel
theorem dX0_brokenLine_17 : decode cX0_brokenLine 17 = .ok (.laload, 1) := by decide +kernel
theorem dX0_brokenLine_18 : decode cX0_brokenLine 18 = .ok (.lconst 0, 1) := by decide +kernel
theorem dX0_brokenLine_19 : decode cX0_brokenLine 19 = .ok (.lcmp, 1) := by decide +kernel
theorem dX0_brokenLine_20 : decode cX0_brokenLine 20 = .ok (.ifCond .ge 24, 3) := by decide +kernel
theorem dX0_brokenLine_23 : decode cX0_brokenLine 23 = .ok (.iload_n 1, 1) := by decide +kernel
theorem dX0_brokenLine_24 : decode cX0_brokenLine 24 = .ok (.ifCond .lt 18, 3) := by decide +kernel
theorem dX0_brokenLine_27 : decode cX0_brokenLine 27 = .ok (.aload_n 0, 1) := by decide +kernel
theorem dX0_brokenLine_28 : decode cX0_brokenLine 28 = .ok (.getfield 20, 3) := by decide +kernel
theorem dX0_brokenLine_31 : decode cX0_brokenLine 31 = .ok (.iload_n 2, 1) := by decide +kernel
theorem dX0_brokenLine_32 : decode cX0_brokenLine 32 = .ok (.iaload, 1) := by decide +kernel
theorem dX0_brokenLine_33 : decode cX0_brokenLine 33 = .ok (.aload_n 0, 1) := by decide +kernel
theorem dX0_brokenLine_34 : decode cX0_brokenLine 34 = .ok (.getfield 20, 3) := by decide +kernel
theorem dX0_brokenLine_37 : decode cX0_brokenLine 37 = .ok (.iload_n 1, 1) := by decide +kernel
theorem dX0_brokenLine_38 : decode cX0_brokenLine 38 = .ok (.iaload, 1) := by decide +kernel
theorem dX0_brokenLine_39 : decode cX0_brokenLine 39 = .ok (.if_icmp .ge 5, 3) := by decide +kernel
theorem dX0_brokenLine_42 : decode cX0_brokenLine 42 = .ok (.iload_n 2, 1) := by decide +kernel
theorem dX0_brokenLine_43 : decode cX0_brokenLine 43 = .ok (.istore_n 1, 1) := by decide +kernel
theorem dX0_brokenLine_44 : decode cX0_brokenLine 44 = .ok (.iinc 2 1, 3) := by decide +kernel
theorem dX0_brokenLine_47 : decode cX0_brokenLine 47 = .ok (.goto (-43), 3) := by decide +kernel
theorem dX0_brokenLine_50 : decode cX0_brokenLine 50 = .ok (.iload_n 1, 1) := by decide +kernel
theorem dX0_brokenLine_51 : decode cX0_brokenLine 51 = .ok (.ireturn, 1) := by decide +kernel
theorem dX0_mendingColumn_0 : decode cX0_mendingColumn 0 = .ok (.iconst (-1), 1) := by decide +kernel
theorem dX0_mendingColumn_1 : decode cX0_mendingColumn 1 = .ok (.istore_n 2, 1) := by decide +kernel
theorem dX0_mendingColumn_2 : decode cX0_mendingColumn 2 = .ok (.iconst 0, 1) := by decide +kernel
theorem dX0_mendingColumn_3 : decode cX0_mendingColumn 3 = .ok (.istore_n 3, 1) := by decide +kernel
theorem dX0_mendingColumn_4 : decode cX0_mendingColumn 4 = .ok (.iload_n 3, 1) := by decide +kernel
theorem dX0_mendingColumn_5 : decode cX0_mendingColumn 5 = .ok (.aload_n 0, 1) := by decide +kernel
theorem dX0_mendingColumn_6 : decode cX0_mendingColumn 6 = .ok (.getfield 44, 3) := by decide +kernel
theorem dX0_mendingColumn_9 : decode cX0_mendingColumn 9 = .ok (.if_icmp .ge 43, 3) := by decide +kernel
theorem dX0_mendingColumn_12 : decode cX0_mendingColumn 12 = .ok (.aload_n 0, 1) := by decide +kernel
theorem dX0_mendingColumn_13 : decode cX0_mendingColumn 13 = .ok (.getfield 13, 3) := by decide +kernel
theorem dX0_mendingColumn_16 : decode cX0_mendingColumn 16 = .ok (.iload_n 1, 1) := by decide +kernel
theorem dX0_mendingColumn_17 : decode cX0_mendingColumn 17 = .ok (.aaload, 1) := by decide +kernel
theorem dX0_mendingColumn_18 : decode cX0_mendingColumn 18 = .ok (.iload_n 3, 1) := by decide +kernel
theorem dX0_mendingColumn_19 : decode cX0_mendingColumn 19 = .ok (.laload, 1) := by decide +kernel
theorem dX0_mendingColumn_20 : decode cX0_mendingColumn 20 = .ok (.lconst 0, 1) := by decide +kernel
theorem dX0_mendingColumn_21 : decode cX0_mendingColumn 21 = .ok (.lcmp, 1) := by decide +kernel
theorem dX0_mendingColumn_22 : decode cX0_mendingColumn 22 = .ok (.ifCond .ge 24, 3) := by decide +kernel
theorem dX0_mendingColumn_25 : decode cX0_mendingColumn 25 = .ok (.iload_n 2, 1) := by decide +kernel
theorem dX0_mendingColumn_26 : decode cX0_mendingColumn 26 = .ok (.ifCond .lt 18, 3) := by decide +kernel
theorem dX0_mendingColumn_29 : decode cX0_mendingColumn 29 = .ok (.aload_n 0, 1) := by decide +kernel
theorem dX0_mendingColumn_30 : decode cX0_mendingColumn 30 = .ok (.getfield 24, 3) := by decide +kernel
theorem dX0_mendingColumn_33 : decode cX0_mendingColumn 33 = .ok (.iload_n 3, 1) := by decide +kernel
theorem dX0_mendingColumn_34 : decode cX0_mendingColumn 34 = .ok (.iaload, 1) := by decide +kernel
theorem dX0_mendingColumn_35 : decode cX0_mendingColumn 35 = .ok (.aload_n 0, 1) := by decide +kernel
theorem dX0_mendingColumn_36 : decode cX0_mendingColumn 36 = .ok (.getfield 24, 3) := by decide +kernel
theorem dX0_mendingColumn_39 : decode cX0_mendingColumn 39 = .ok (.iload_n 2, 1) := by decide +kernel
theorem dX0_mendingColumn_40 : decode cX0_mendingColumn 40 = .ok (.iaload, 1) := by decide +kernel
theorem dX0_mendingColumn_41 : decode cX0_mendingColumn 41 = .ok (.if_icmp .ge 5, 3) := by decide +kernel
theorem dX0_mendingColumn_44 : decode cX0_mendingColumn 44 = .ok (.iload_n 3, 1) := by decide +kernel
theorem dX0_mendingColumn_45 : decode cX0_mendingColumn 45 = .ok (.istore_n 2, 1) := by decide +kernel
theorem dX0_mendingColumn_46 : decode cX0_mendingColumn 46 = .ok (.iinc 3 1, 3) := by decide +kernel
theorem dX0_mendingColumn_49 : decode cX0_mendingColumn 49 = .ok (.goto (-45), 3) := by decide +kernel
theorem dX0_mendingColumn_52 : decode cX0_mendingColumn 52 = .ok (.iload_n 2, 1) := by decide +kernel
theorem dX0_mendingColumn_53 : decode cX0_mendingColumn 53 = .ok (.ireturn, 1) := by decide +kernel
theorem dX0_findSlopes_0 : decode cX0_findSlopes 0 = .ok (.iconst 0, 1) := by decide +kernel
theorem dX0_findSlopes_1 : decode cX0_findSlopes 1 = .ok (.istore_n 2, 1) := by decide +kernel
theorem dX0_findSlopes_2 : decode cX0_findSlopes 2 = .ok (.iload_n 2, 1) := by decide +kernel
theorem dX0_findSlopes_3 : decode cX0_findSlopes 3 = .ok (.aload_n 0, 1) := by decide +kernel
theorem dX0_findSlopes_4 : decode cX0_findSlopes 4 = .ok (.getfield 44, 3) := by decide +kernel
theorem dX0_findSlopes_7 : decode cX0_findSlopes 7 = .ok (.if_icmp .ge 46, 3) := by decide +kernel
theorem dX0_findSlopes_10 : decode cX0_findSlopes 10 = .ok (.aload_n 0, 1) := by decide +kernel
theorem dX0_findSlopes_11 : decode cX0_findSlopes 11 = .ok (.getfield 31, 3) := by decide +kernel
theorem dX0_findSlopes_14 : decode cX0_findSlopes 14 = .ok (.iload_n 2, 1) := by decide +kernel
theorem dX0_findSlopes_15 : decode cX0_findSlopes 15 = .ok (.aload_n 0, 1) := by decide +kernel
theorem dX0_findSlopes_16 : decode cX0_findSlopes 16 = .ok (.getfield 24, 3) := by decide +kernel
theorem dX0_findSlopes_19 : decode cX0_findSlopes 19 = .ok (.iload_n 2, 1) := by decide +kernel
theorem dX0_findSlopes_20 : decode cX0_findSlopes 20 = .ok (.iaload, 1) := by decide +kernel
theorem dX0_findSlopes_21 : decode cX0_findSlopes 21 = .ok (.aload_n 0, 1) := by decide +kernel
theorem dX0_findSlopes_22 : decode cX0_findSlopes 22 = .ok (.getfield 44, 3) := by decide +kernel
theorem dX0_findSlopes_25 : decode cX0_findSlopes 25 = .ok (.if_icmp .ge 20, 3) := by decide +kernel
theorem dX0_findSlopes_28 : decode cX0_findSlopes 28 = .ok (.aload_n 1, 1) := by decide +kernel
theorem dX0_findSlopes_29 : decode cX0_findSlopes 29 = .ok (.aload_n 0, 1) := by decide +kernel
theorem dX0_findSlopes_30 : decode cX0_findSlopes 30 = .ok (.getfield 24, 3) := by decide +kernel
theorem dX0_findSlopes_33 : decode cX0_findSlopes 33 = .ok (.iload_n 2, 1) := by decide +kernel
theorem dX0_findSlopes_34 : decode cX0_findSlopes 34 = .ok (.iaload, 1) := by decide +kernel
theorem dX0_findSlopes_35 : decode cX0_findSlopes 35 = .ok (.iaload, 1) := by decide +kernel
theorem dX0_findSlopes_36 : decode cX0_findSlopes 36 = .ok (.i2l, 1) := by decide +kernel
theorem dX0_findSlopes_37 : decode cX0_findSlopes 37 = .ok (.aload_n 0, 1) := by decide +kernel
theorem dX0_findSlopes_38 : decode cX0_findSlopes 38 = .ok (.getfield 34, 3) := by decide +kernel
theorem dX0_findSlopes_41 : decode cX0_findSlopes 41 = .ok (.lmul, 1) := by decide +kernel
theorem dX0_findSlopes_42 : decode cX0_findSlopes 42 = .ok (.goto 4, 3) := by decide +kernel
theorem dX0_findSlopes_45 : decode cX0_findSlopes 45 = .ok (.lconst 0, 1) := by decide +kernel
theorem dX0_findSlopes_46 : decode cX0_findSlopes 46 = .ok (.lastore, 1) := by decide +kernel
theorem dX0_findSlopes_47 : decode cX0_findSlopes 47 = .ok (.iinc 2 1, 3) := by decide +kernel
theorem dX0_findSlopes_50 : decode cX0_findSlopes 50 = .ok (.goto (-48), 3) := by decide +kernel
theorem dX0_findSlopes_53 : decode cX0_findSlopes 53 = .ok (.iconst 0, 1) := by decide +kernel
theorem dX0_findSlopes_54 : decode cX0_findSlopes 54 = .ok (.istore_n 2, 1) := by decide +kernel
theorem dX0_findSlopes_55 : decode cX0_findSlopes 55 = .ok (.iload_n 2, 1) := by decide +kernel
theorem dX0_findSlopes_56 : decode cX0_findSlopes 56 = .ok (.aload_n 0, 1) := by decide +kernel
theorem dX0_findSlopes_57 : decode cX0_findSlopes 57 = .ok (.getfield 48, 3) := by decide +kernel
theorem dX0_findSlopes_60 : decode cX0_findSlopes 60 = .ok (.if_icmp .ge 79, 3) := by decide +kernel
theorem dX0_findSlopes_63 : decode cX0_findSlopes 63 = .ok (.aload_n 0, 1) := by decide +kernel
theorem dX0_findSlopes_64 : decode cX0_findSlopes 64 = .ok (.getfield 20, 3) := by decide +kernel
theorem dX0_findSlopes_67 : decode cX0_findSlopes 67 = .ok (.iload_n 2, 1) := by decide +kernel
theorem dX0_findSlopes_68 : decode cX0_findSlopes 68 = .ok (.iaload, 1) := by decide +kernel
theorem dX0_findSlopes_69 : decode cX0_findSlopes 69 = .ok (.aload_n 0, 1) := by decide +kernel
theorem dX0_findSlopes_70 : decode cX0_findSlopes 70 = .ok (.getfield 44, 3) := by decide +kernel
theorem dX0_findSlopes_73 : decode cX0_findSlopes 73 = .ok (.if_icmp .ge 14, 3) := by decide +kernel
theorem dX0_findSlopes_76 : decode cX0_findSlopes 76 = .ok (.aload_n 1, 1) := by decide +kernel
theorem dX0_findSlopes_77 : decode cX0_findSlopes 77 = .ok (.aload_n 0, 1) := by decide +kernel
theorem dX0_findSlopes_78 : decode cX0_findSlopes 78 = .ok (.getfield 20, 3) := by decide +kernel
theorem dX0_findSlopes_81 : decode cX0_findSlopes 81 = .ok (.iload_n 2, 1) := by decide +kernel
theorem dX0_findSlopes_82 : decode cX0_findSlopes 82 = .ok (.iaload, 1) := by decide +kernel
theorem dX0_findSlopes_83 : decode cX0_findSlopes 83 = .ok (.iaload, 1) := by decide +kernel
theorem dX0_findSlopes_84 : decode cX0_findSlopes 84 = .ok (.goto 4, 3) := by decide +kernel
theorem dX0_findSlopes_87 : decode cX0_findSlopes 87 = .ok (.iconst 0, 1) := by decide +kernel
theorem dX0_findSlopes_88 : decode cX0_findSlopes 88 = .ok (.istore_n 3, 1) := by decide +kernel
theorem dX0_findSlopes_89 : decode cX0_findSlopes 89 = .ok (.iconst 0, 1) := by decide +kernel
theorem dX0_findSlopes_90 : decode cX0_findSlopes 90 = .ok (.istore 4, 2) := by decide +kernel
theorem dX0_findSlopes_92 : decode cX0_findSlopes 92 = .ok (.iload 4, 2) := by decide +kernel
theorem dX0_findSlopes_94 : decode cX0_findSlopes 94 = .ok (.aload_n 0, 1) := by decide +kernel
theorem dX0_findSlopes_95 : decode cX0_findSlopes 95 = .ok (.getfield 44, 3) := by decide +kernel
theorem dX0_findSlopes_98 : decode cX0_findSlopes 98 = .ok (.if_icmp .ge 35, 3) := by decide +kernel
theorem dX0_findSlopes_101 : decode cX0_findSlopes 101 = .ok (.iload_n 3, 1) := by decide +kernel
theorem dX0_findSlopes_102 : decode cX0_findSlopes 102 = .ok (.ifCond .eq 31, 3) := by decide +kernel
theorem dX0_findSlopes_105 : decode cX0_findSlopes 105 = .ok (.aload_n 0, 1) := by decide +kernel
theorem dX0_findSlopes_106 : decode cX0_findSlopes 106 = .ok (.getfield 31, 3) := by decide +kernel
theorem dX0_findSlopes_109 : decode cX0_findSlopes 109 = .ok (.iload 4, 2) := by decide +kernel
theorem dX0_findSlopes_111 : decode cX0_findSlopes 111 = .ok (.dup2, 1) := by decide +kernel
theorem dX0_findSlopes_112 : decode cX0_findSlopes 112 = .ok (.laload, 1) := by decide +kernel
theorem dX0_findSlopes_113 : decode cX0_findSlopes 113 = .ok (.iload_n 3, 1) := by decide +kernel
theorem dX0_findSlopes_114 : decode cX0_findSlopes 114 = .ok (.i2l, 1) := by decide +kernel
theorem dX0_findSlopes_115 : decode cX0_findSlopes 115 = .ok (.aload_n 0, 1) := by decide +kernel
theorem dX0_findSlopes_116 : decode cX0_findSlopes 116 = .ok (.getfield 13, 3) := by decide +kernel
theorem dX0_findSlopes_119 : decode cX0_findSlopes 119 = .ok (.iload_n 2, 1) := by decide +kernel
theorem dX0_findSlopes_120 : decode cX0_findSlopes 120 = .ok (.aaload, 1) := by decide +kernel
theorem dX0_findSlopes_121 : decode cX0_findSlopes 121 = .ok (.iload 4, 2) := by decide +kernel
theorem dX0_findSlopes_123 : decode cX0_findSlopes 123 = .ok (.laload, 1) := by decide +kernel
theorem dX0_findSlopes_124 : decode cX0_findSlopes 124 = .ok (.lmul, 1) := by decide +kernel
theorem dX0_findSlopes_125 : decode cX0_findSlopes 125 = .ok (.lsub, 1) := by decide +kernel
theorem dX0_findSlopes_126 : decode cX0_findSlopes 126 = .ok (.lastore, 1) := by decide +kernel
theorem dX0_findSlopes_127 : decode cX0_findSlopes 127 = .ok (.iinc 4 1, 3) := by decide +kernel
theorem dX0_findSlopes_130 : decode cX0_findSlopes 130 = .ok (.goto (-38), 3) := by decide +kernel
theorem dX0_findSlopes_133 : decode cX0_findSlopes 133 = .ok (.iinc 2 1, 3) := by decide +kernel
theorem dX0_findSlopes_136 : decode cX0_findSlopes 136 = .ok (.goto (-81), 3) := by decide +kernel
theorem dX0_findSlopes_139 : decode cX0_findSlopes 139 = .ok (.return_, 1) := by decide +kernel
theorem dX0_fallingColumn_0 : decode cX0_fallingColumn 0 = .ok (.iconst (-1), 1) := by decide +kernel
theorem dX0_fallingColumn_1 : decode cX0_fallingColumn 1 = .ok (.istore_n 1, 1) := by decide +kernel
theorem dX0_fallingColumn_2 : decode cX0_fallingColumn 2 = .ok (.iconst 0, 1) := by decide +kernel
theorem dX0_fallingColumn_3 : decode cX0_fallingColumn 3 = .ok (.istore_n 2, 1) := by decide +kernel
theorem dX0_fallingColumn_4 : decode cX0_fallingColumn 4 = .ok (.iload_n 2, 1) := by decide +kernel
theorem dX0_fallingColumn_5 : decode cX0_fallingColumn 5 = .ok (.aload_n 0, 1) := by decide +kernel
theorem dX0_fallingColumn_6 : decode cX0_fallingColumn 6 = .ok (.getfield 44, 3) := by decide +kernel
theorem dX0_fallingColumn_9 : decode cX0_fallingColumn 9 = .ok (.if_icmp .ge 50, 3) := by decide +kernel
theorem dX0_fallingColumn_12 : decode cX0_fallingColumn 12 = .ok (.aload_n 0, 1) := by decide +kernel
theorem dX0_fallingColumn_13 : decode cX0_fallingColumn 13 = .ok (.getfield 27, 3) := by decide +kernel
theorem dX0_fallingColumn_16 : decode cX0_fallingColumn 16 = .ok (.iload_n 2, 1) := by decide +kernel
theorem dX0_fallingColumn_17 : decode cX0_fallingColumn 17 = .ok (.baload, 1) := by decide +kernel
theorem dX0_fallingColumn_18 : decode cX0_fallingColumn 18 = .ok (.ifCond .ne 35, 3) := by decide +kernel
theorem dX0_fallingColumn_21 : decode cX0_fallingColumn 21 = .ok (.aload_n 0, 1) := by decide +kernel
theorem dX0_fallingColumn_22 : decode cX0_fallingColumn 22 = .ok (.getfield 31, 3) := by decide +kernel
theorem dX0_fallingColumn_25 : decode cX0_fallingColumn 25 = .ok (.iload_n 2, 1) := by decide +kernel
theorem dX0_fallingColumn_26 : decode cX0_fallingColumn 26 = .ok (.laload, 1) := by decide +kernel
theorem dX0_fallingColumn_27 : decode cX0_fallingColumn 27 = .ok (.lconst 0, 1) := by decide +kernel
theorem dX0_fallingColumn_28 : decode cX0_fallingColumn 28 = .ok (.lcmp, 1) := by decide +kernel
theorem dX0_fallingColumn_29 : decode cX0_fallingColumn 29 = .ok (.ifCond .ge 24, 3) := by decide +kernel
theorem dX0_fallingColumn_32 : decode cX0_fallingColumn 32 = .ok (.iload_n 1, 1) := by decide +kernel
theorem dX0_fallingColumn_33 : decode cX0_fallingColumn 33 = .ok (.ifCond .lt 18, 3) := by decide +kernel
theorem dX0_fallingColumn_36 : decode cX0_fallingColumn 36 = .ok (.aload_n 0, 1) := by decide +kernel
theorem dX0_fallingColumn_37 : decode cX0_fallingColumn 37 = .ok (.getfield 24, 3) := by decide +kernel
theorem dX0_fallingColumn_40 : decode cX0_fallingColumn 40 = .ok (.iload_n 2, 1) := by decide +kernel
theorem dX0_fallingColumn_41 : decode cX0_fallingColumn 41 = .ok (.iaload, 1) := by decide +kernel
theorem dX0_fallingColumn_42 : decode cX0_fallingColumn 42 = .ok (.aload_n 0, 1) := by decide +kernel
theorem dX0_fallingColumn_43 : decode cX0_fallingColumn 43 = .ok (.getfield 24, 3) := by decide +kernel
theorem dX0_fallingColumn_46 : decode cX0_fallingColumn 46 = .ok (.iload_n 1, 1) := by decide +kernel
theorem dX0_fallingColumn_47 : decode cX0_fallingColumn 47 = .ok (.iaload, 1) := by decide +kernel
theorem dX0_fallingColumn_48 : decode cX0_fallingColumn 48 = .ok (.if_icmp .ge 5, 3) := by decide +kernel
theorem dX0_fallingColumn_51 : decode cX0_fallingColumn 51 = .ok (.iload_n 2, 1) := by decide +kernel
theorem dX0_fallingColumn_52 : decode cX0_fallingColumn 52 = .ok (.istore_n 1, 1) := by decide +kernel
theorem dX0_fallingColumn_53 : decode cX0_fallingColumn 53 = .ok (.iinc 2 1, 3) := by decide +kernel
theorem dX0_fallingColumn_56 : decode cX0_fallingColumn 56 = .ok (.goto (-52), 3) := by decide +kernel
theorem dX0_fallingColumn_59 : decode cX0_fallingColumn 59 = .ok (.iload_n 1, 1) := by decide +kernel
theorem dX0_fallingColumn_60 : decode cX0_fallingColumn 60 = .ok (.ireturn, 1) := by decide +kernel
set_option maxRecDepth 20000 in
theorem ggX0_firstStop_X0_stopsBefore : GoodIn wsX0_firstStop wsX0_stopsBefore := goodIn_r _ [7, 8, 2, 9, 10, 11, 12, 13, 14, 15, 16, 17, 18] rfl (by decide +kernel)
set_option maxRecDepth 20000 in
theorem gX0_firstStop_X0_stopsBefore : GoodIn wsX0_firstStop (wsV RX0 77 RX0 yX0_stopsBefore wsX0_stopsBefore) := goodIn_app (goodIn_of _ (by decide +kernel)) ggX0_firstStop_X0_stopsBefore
theorem dX0_firstStop_0 : decode cX0_firstStop 0 = .ok (.iconst (-1), 1) := by decide +kernel
theorem dX0_firstStop_1 : decode cX0_firstStop 1 = .ok (.istore_n 2, 1) := by decide +kernel
theorem dX0_firstStop_2 : decode cX0_firstStop 2 = .ok (.iconst 0, 1) := by decide +kernel
theorem dX0_firstStop_3 : decode cX0_firstStop 3 = .ok (.istore_n 3, 1) := by decide +kernel
theorem dX0_firstStop_4 : decode cX0_firstStop 4 = .ok (.iload_n 3, 1) := by decide +kernel
theorem dX0_firstStop_5 : decode cX0_firstStop 5 = .ok (.aload_n 0, 1) := by decide +kernel
theorem dX0_firstStop_6 : decode cX0_firstStop 6 = .ok (.getfield 48, 3) := by decide +kernel
theorem dX0_firstStop_9 : decode cX0_firstStop 9 = .ok (.if_icmp .ge 38, 3) := by decide +kernel
theorem dX0_firstStop_12 : decode cX0_firstStop 12 = .ok (.aload_n 0, 1) := by decide +kernel
theorem dX0_firstStop_13 : decode cX0_firstStop 13 = .ok (.getfield 13, 3) := by decide +kernel
theorem dX0_firstStop_16 : decode cX0_firstStop 16 = .ok (.iload_n 3, 1) := by decide +kernel
theorem dX0_firstStop_17 : decode cX0_firstStop 17 = .ok (.aaload, 1) := by decide +kernel
theorem dX0_firstStop_18 : decode cX0_firstStop 18 = .ok (.iload_n 1, 1) := by decide +kernel
theorem dX0_firstStop_19 : decode cX0_firstStop 19 = .ok (.laload, 1) := by decide +kernel
theorem dX0_firstStop_20 : decode cX0_firstStop 20 = .ok (.lconst 0, 1) := by decide +kernel
theorem dX0_firstStop_21 : decode cX0_firstStop 21 = .ok (.lcmp, 1) := by decide +kernel
theorem dX0_firstStop_22 : decode cX0_firstStop 22 = .ok (.ifCond .le 19, 3) := by decide +kernel
theorem dX0_firstStop_25 : decode cX0_firstStop 25 = .ok (.iload_n 2, 1) := by decide +kernel
theorem dX0_firstStop_26 : decode cX0_firstStop 26 = .ok (.ifCond .lt 13, 3) := by decide +kernel
theorem dX0_firstStop_29 : decode cX0_firstStop 29 = .ok (.aload_n 0, 1) := by decide +kernel
theorem dX0_firstStop_30 : decode cX0_firstStop 30 = .ok (.iload_n 3, 1) := by decide +kernel
theorem dX0_firstStop_31 : decode cX0_firstStop 31 = .ok (.iload_n 2, 1) := by decide +kernel
theorem dX0_firstStop_32 : decode cX0_firstStop 32 = .ok (.iload_n 1, 1) := by decide +kernel
theorem dX0_firstStop_33 : decode cX0_firstStop 33 = .ok (.invokevirtual 77, 3) := by decide +kernel
theorem dX0_firstStop_36 : decode cX0_firstStop 36 = .ok (.ifCond .eq 5, 3) := by decide +kernel
theorem dX0_firstStop_39 : decode cX0_firstStop 39 = .ok (.iload_n 3, 1) := by decide +kernel
theorem dX0_firstStop_40 : decode cX0_firstStop 40 = .ok (.istore_n 2, 1) := by decide +kernel
theorem dX0_firstStop_41 : decode cX0_firstStop 41 = .ok (.iinc 3 1, 3) := by decide +kernel
theorem dX0_firstStop_44 : decode cX0_firstStop 44 = .ok (.goto (-40), 3) := by decide +kernel
theorem dX0_firstStop_47 : decode cX0_firstStop 47 = .ok (.iload_n 2, 1) := by decide +kernel
theorem dX0_firstStop_48 : decode cX0_firstStop 48 = .ok (.ireturn, 1) := by decide +kernel
theorem dX0_stopsBefore_0 : decode cX0_stopsBefore 0 = .ok (.aload_n 0, 1) := by decide +kernel
theorem dX0_stopsBefore_1 : decode cX0_stopsBefore 1 = .ok (.getfield 16, 3) := by decide +kernel
theorem dX0_stopsBefore_4 : decode cX0_stopsBefore 4 = .ok (.iload_n 1, 1) := by decide +kernel
theorem dX0_stopsBefore_5 : decode cX0_stopsBefore 5 = .ok (.laload, 1) := by decide +kernel
theorem dX0_stopsBefore_6 : decode cX0_stopsBefore 6 = .ok (.aload_n 0, 1) := by decide +kernel
theorem dX0_stopsBefore_7 : decode cX0_stopsBefore 7 = .ok (.getfield 13, 3) := by decide +kernel
theorem dX0_stopsBefore_10 : decode cX0_stopsBefore 10 = .ok (.iload_n 2, 1) := by decide +kernel
theorem dX0_stopsBefore_11 : decode cX0_stopsBefore 11 = .ok (.aaload, 1) := by decide +kernel
theorem dX0_stopsBefore_12 : decode cX0_stopsBefore 12 = .ok (.iload_n 3, 1) := by decide +kernel
theorem dX0_stopsBefore_13 : decode cX0_stopsBefore 13 = .ok (.laload, 1) := by decide +kernel
theorem dX0_stopsBefore_14 : decode cX0_stopsBefore 14 = .ok (.lmul, 1) := by decide +kernel
theorem dX0_stopsBefore_15 : decode cX0_stopsBefore 15 = .ok (.lstore 4, 2) := by decide +kernel
theorem dX0_stopsBefore_17 : decode cX0_stopsBefore 17 = .ok (.aload_n 0, 1) := by decide +kernel
theorem dX0_stopsBefore_18 : decode cX0_stopsBefore 18 = .ok (.getfield 16, 3) := by decide +kernel
theorem dX0_stopsBefore_21 : decode cX0_stopsBefore 21 = .ok (.iload_n 2, 1) := by decide +kernel
theorem dX0_stopsBefore_22 : decode cX0_stopsBefore 22 = .ok (.laload, 1) := by decide +kernel
theorem dX0_stopsBefore_23 : decode cX0_stopsBefore 23 = .ok (.aload_n 0, 1) := by decide +kernel
theorem dX0_stopsBefore_24 : decode cX0_stopsBefore 24 = .ok (.getfield 13, 3) := by decide +kernel
theorem dX0_stopsBefore_27 : decode cX0_stopsBefore 27 = .ok (.iload_n 1, 1) := by decide +kernel
theorem dX0_stopsBefore_28 : decode cX0_stopsBefore 28 = .ok (.aaload, 1) := by decide +kernel
theorem dX0_stopsBefore_29 : decode cX0_stopsBefore 29 = .ok (.iload_n 3, 1) := by decide +kernel
theorem dX0_stopsBefore_30 : decode cX0_stopsBefore 30 = .ok (.laload, 1) := by decide +kernel
theorem dX0_stopsBefore_31 : decode cX0_stopsBefore 31 = .ok (.lmul, 1) := by decide +kernel
theorem dX0_stopsBefore_32 : decode cX0_stopsBefore 32 = .ok (.lstore 6, 2) := by decide +kernel
theorem dX0_stopsBefore_34 : decode cX0_stopsBefore 34 = .ok (.lload 4, 2) := by decide +kernel
theorem dX0_stopsBefore_36 : decode cX0_stopsBefore 36 = .ok (.lload 6, 2) := by decide +kernel
theorem dX0_stopsBefore_38 : decode cX0_stopsBefore 38 = .ok (.lcmp, 1) := by decide +kernel
theorem dX0_stopsBefore_39 : decode cX0_stopsBefore 39 = .ok (.ifCond .lt 26, 3) := by decide +kernel
theorem dX0_stopsBefore_42 : decode cX0_stopsBefore 42 = .ok (.lload 4, 2) := by decide +kernel
theorem dX0_stopsBefore_44 : decode cX0_stopsBefore 44 = .ok (.lload 6, 2) := by decide +kernel
theorem dX0_stopsBefore_46 : decode cX0_stopsBefore 46 = .ok (.lcmp, 1) := by decide +kernel
theorem dX0_stopsBefore_47 : decode cX0_stopsBefore 47 = .ok (.ifCond .ne 22, 3) := by decide +kernel
theorem dX0_stopsBefore_50 : decode cX0_stopsBefore 50 = .ok (.aload_n 0, 1) := by decide +kernel
theorem dX0_stopsBefore_51 : decode cX0_stopsBefore 51 = .ok (.getfield 20, 3) := by decide +kernel
theorem dX0_stopsBefore_54 : decode cX0_stopsBefore 54 = .ok (.iload_n 1, 1) := by decide +kernel
theorem dX0_stopsBefore_55 : decode cX0_stopsBefore 55 = .ok (.iaload, 1) := by decide +kernel
theorem dX0_stopsBefore_56 : decode cX0_stopsBefore 56 = .ok (.aload_n 0, 1) := by decide +kernel
theorem dX0_stopsBefore_57 : decode cX0_stopsBefore 57 = .ok (.getfield 20, 3) := by decide +kernel
theorem dX0_stopsBefore_60 : decode cX0_stopsBefore 60 = .ok (.iload_n 2, 1) := by decide +kernel
theorem dX0_stopsBefore_61 : decode cX0_stopsBefore 61 = .ok (.iaload, 1) := by decide +kernel
theorem dX0_stopsBefore_62 : decode cX0_stopsBefore 62 = .ok (.if_icmp .ge 7, 3) := by decide +kernel
theorem dX0_stopsBefore_65 : decode cX0_stopsBefore 65 = .ok (.iconst 1, 1) := by decide +kernel
theorem dX0_stopsBefore_66 : decode cX0_stopsBefore 66 = .ok (.goto 4, 3) := by decide +kernel
theorem dX0_stopsBefore_69 : decode cX0_stopsBefore 69 = .ok (.iconst 0, 1) := by decide +kernel
theorem dX0_stopsBefore_70 : decode cX0_stopsBefore 70 = .ok (.ireturn, 1) := by decide +kernel
set_option maxRecDepth 20000 in
theorem ggX0_pivot_X0_sweepLine : GoodIn wsX0_pivot wsX0_sweepLine := goodIn_r _ [14, 1, 15, 16, 21, 22, 23, 24, 25, 26, 27, 28, 29] rfl (by decide +kernel)
set_option maxRecDepth 20000 in
theorem gX0_pivot_X0_sweepLine : GoodIn wsX0_pivot (wsV RX0 81 RX0 yX0_sweepLine wsX0_sweepLine) := goodIn_app (goodIn_of _ (by decide +kernel)) ggX0_pivot_X0_sweepLine
set_option maxRecDepth 20000 in
theorem ggX0_pivot_X0_turnLine : GoodIn wsX0_pivot wsX0_turnLine := goodIn_r _ [20, 15, 1, 16, 21, 22, 23, 24, 25, 26, 27, 28, 29] rfl (by decide +kernel)
set_option maxRecDepth 20000 in
theorem gX0_pivot_X0_turnLine : GoodIn wsX0_pivot (wsV RX0 85 RX0 yX0_turnLine wsX0_turnLine) := goodIn_app (goodIn_of _ (by decide +kernel)) ggX0_pivot_X0_turnLine
theorem dX0_pivot_0 : decode cX0_pivot 0 = .ok (.aload_n 0, 1) := by decide +kernel
theorem dX0_pivot_1 : decode cX0_pivot 1 = .ok (.getfield 13, 3) := by decide +kernel
theorem dX0_pivot_4 : decode cX0_pivot 4 = .ok (.iload_n 1, 1) := by decide +kernel
theorem dX0_pivot_5 : decode cX0_pivot 5 = .ok (.aaload, 1) := by decide +kernel
theorem dX0_pivot_6 : decode cX0_pivot 6 = .ok (.iload_n 2, 1) := by decide +kernel
theorem dX0_pivot_7 : decode cX0_pivot 7 = .ok (.laload, 1) := by decide +kernel
theorem dX0_pivot_8 : decode cX0_pivot 8 = .ok (.lstore_n 3, 1) := by decide +kernel
theorem dX0_pivot_9 : decode cX0_pivot 9 = .ok (.lload_n 3, 1) := by decide +kernel
theorem dX0_pivot_10 : decode cX0_pivot 10 = .ok (.lconst 0, 1) := by decide +kernel
theorem dX0_pivot_11 : decode cX0_pivot 11 = .ok (.lcmp, 1) := by decide +kernel
theorem dX0_pivot_12 : decode cX0_pivot 12 = .ok (.ifCond .ge 11, 3) := by decide +kernel
theorem dX0_pivot_15 : decode cX0_pivot 15 = .ok (.aload_n 0, 1) := by decide +kernel
theorem dX0_pivot_16 : decode cX0_pivot 16 = .ok (.getfield 34, 3) := by decide +kernel
theorem dX0_pivot_19 : decode cX0_pivot 19 = .ok (.lneg, 1) := by decide +kernel
theorem dX0_pivot_20 : decode cX0_pivot 20 = .ok (.goto 7, 3) := by decide +kernel
theorem dX0_pivot_23 : decode cX0_pivot 23 = .ok (.aload_n 0, 1) := by decide +kernel
theorem dX0_pivot_24 : decode cX0_pivot 24 = .ok (.getfield 34, 3) := by decide +kernel
theorem dX0_pivot_27 : decode cX0_pivot 27 = .ok (.lstore 5, 2) := by decide +kernel
theorem dX0_pivot_29 : decode cX0_pivot 29 = .ok (.lload_n 3, 1) := by decide +kernel
theorem dX0_pivot_30 : decode cX0_pivot 30 = .ok (.lconst 0, 1) := by decide +kernel
theorem dX0_pivot_31 : decode cX0_pivot 31 = .ok (.lcmp, 1) := by decide +kernel
theorem dX0_pivot_32 : decode cX0_pivot 32 = .ok (.ifCond .eq 10, 3) := by decide +kernel
theorem dX0_pivot_35 : decode cX0_pivot 35 = .ok (.lload 5, 2) := by decide +kernel
theorem dX0_pivot_37 : decode cX0_pivot 37 = .ok (.lconst 0, 1) := by decide +kernel
theorem dX0_pivot_38 : decode cX0_pivot 38 = .ok (.lcmp, 1) := by decide +kernel
theorem dX0_pivot_39 : decode cX0_pivot 39 = .ok (.ifCond .ne 4, 3) := by decide +kernel
theorem dX0_pivot_42 : decode cX0_pivot 42 = .ok (.return_, 1) := by decide +kernel
theorem dX0_pivot_43 : decode cX0_pivot 43 = .ok (.iconst 0, 1) := by decide +kernel
theorem dX0_pivot_44 : decode cX0_pivot 44 = .ok (.istore 7, 2) := by decide +kernel
theorem dX0_pivot_46 : decode cX0_pivot 46 = .ok (.iload 7, 2) := by decide +kernel
theorem dX0_pivot_48 : decode cX0_pivot 48 = .ok (.aload_n 0, 1) := by decide +kernel
theorem dX0_pivot_49 : decode cX0_pivot 49 = .ok (.getfield 48, 3) := by decide +kernel
theorem dX0_pivot_52 : decode cX0_pivot 52 = .ok (.if_icmp .ge 25, 3) := by decide +kernel
theorem dX0_pivot_55 : decode cX0_pivot 55 = .ok (.iload 7, 2) := by decide +kernel
theorem dX0_pivot_57 : decode cX0_pivot 57 = .ok (.iload_n 1, 1) := by decide +kernel
theorem dX0_pivot_58 : decode cX0_pivot 58 = .ok (.if_icmp .eq 13, 3) := by decide +kernel
theorem dX0_pivot_61 : decode cX0_pivot 61 = .ok (.aload_n 0, 1) := by decide +kernel
theorem dX0_pivot_62 : decode cX0_pivot 62 = .ok (.iload 7, 2) := by decide +kernel
theorem dX0_pivot_64 : decode cX0_pivot 64 = .ok (.iload_n 1, 1) := by decide +kernel
theorem dX0_pivot_65 : decode cX0_pivot 65 = .ok (.iload_n 2, 1) := by decide +kernel
theorem dX0_pivot_66 : decode cX0_pivot 66 = .ok (.lload 5, 2) := by decide +kernel
theorem dX0_pivot_68 : decode cX0_pivot 68 = .ok (.invokevirtual 81, 3) := by decide +kernel
theorem dX0_pivot_71 : decode cX0_pivot 71 = .ok (.iinc 7 1, 3) := by decide +kernel
theorem dX0_pivot_74 : decode cX0_pivot 74 = .ok (.goto (-28), 3) := by decide +kernel
theorem dX0_pivot_77 : decode cX0_pivot 77 = .ok (.lload_n 3, 1) := by decide +kernel
theorem dX0_pivot_78 : decode cX0_pivot 78 = .ok (.lconst 0, 1) := by decide +kernel
theorem dX0_pivot_79 : decode cX0_pivot 79 = .ok (.lcmp, 1) := by decide +kernel
theorem dX0_pivot_80 : decode cX0_pivot 80 = .ok (.ifCond .ge 8, 3) := by decide +kernel
theorem dX0_pivot_83 : decode cX0_pivot 83 = .ok (.aload_n 0, 1) := by decide +kernel
theorem dX0_pivot_84 : decode cX0_pivot 84 = .ok (.iload_n 1, 1) := by decide +kernel
theorem dX0_pivot_85 : decode cX0_pivot 85 = .ok (.invokevirtual 85, 3) := by decide +kernel
theorem dX0_pivot_88 : decode cX0_pivot 88 = .ok (.aload_n 0, 1) := by decide +kernel
theorem dX0_pivot_89 : decode cX0_pivot 89 = .ok (.getfield 13, 3) := by decide +kernel
theorem dX0_pivot_92 : decode cX0_pivot 92 = .ok (.iload_n 1, 1) := by decide +kernel
theorem dX0_pivot_93 : decode cX0_pivot 93 = .ok (.aaload, 1) := by decide +kernel
theorem dX0_pivot_94 : decode cX0_pivot 94 = .ok (.iload_n 2, 1) := by decide +kernel
theorem dX0_pivot_95 : decode cX0_pivot 95 = .ok (.lload 5, 2) := by decide +kernel
theorem dX0_pivot_97 : decode cX0_pivot 97 = .ok (.lastore, 1) := by decide +kernel
theorem dX0_pivot_98 : decode cX0_pivot 98 = .ok (.aload_n 0, 1) := by decide +kernel
theorem dX0_pivot_99 : decode cX0_pivot 99 = .ok (.lload_n 3, 1) := by decide +kernel
theorem dX0_pivot_100 : decode cX0_pivot 100 = .ok (.invokestatic 89, 3) := by decide +kernel
theorem dX0_pivot_103 : decode cX0_pivot 103 = .ok (.putfield 34, 3) := by decide +kernel
theorem dX0_pivot_106 : decode cX0_pivot 106 = .ok (.aload_n 0, 1) := by decide +kernel
theorem dX0_pivot_107 : decode cX0_pivot 107 = .ok (.getfield 20, 3) := by decide +kernel
theorem dX0_pivot_110 : decode cX0_pivot 110 = .ok (.iload_n 1, 1) := by decide +kernel
theorem dX0_pivot_111 : decode cX0_pivot 111 = .ok (.iaload, 1) := by decide +kernel
theorem dX0_pivot_112 : decode cX0_pivot 112 = .ok (.istore 7, 2) := by decide +kernel
theorem dX0_pivot_114 : decode cX0_pivot 114 = .ok (.aload_n 0, 1) := by decide +kernel
theorem dX0_pivot_115 : decode cX0_pivot 115 = .ok (.getfield 20, 3) := by decide +kernel
theorem dX0_pivot_118 : decode cX0_pivot 118 = .ok (.iload_n 1, 1) := by decide +kernel
theorem dX0_pivot_119 : decode cX0_pivot 119 = .ok (.aload_n 0, 1) := by decide +kernel
theorem dX0_pivot_120 : decode cX0_pivot 120 = .ok (.getfield 24, 3) := by decide +kernel
theorem dX0_pivot_123 : decode cX0_pivot 123 = .ok (.iload_n 2, 1) := by decide +kernel
theorem dX0_pivot_124 : decode cX0_pivot 124 = .ok (.iaload, 1) := by decide +kernel
theorem dX0_pivot_125 : decode cX0_pivot 125 = .ok (.iastore, 1) := by decide +kernel
theorem dX0_pivot_126 : decode cX0_pivot 126 = .ok (.aload_n 0, 1) := by decide +kernel
theorem dX0_pivot_127 : decode cX0_pivot 127 = .ok (.getfield 24, 3) := by decide +kernel
theorem dX0_pivot_130 : decode cX0_pivot 130 = .ok (.iload_n 2, 1) := by decide +kernel
theorem dX0_pivot_131 : decode cX0_pivot 131 = .ok (.iload 7, 2) := by decide +kernel
theorem dX0_pivot_133 : decode cX0_pivot 133 = .ok (.iastore, 1) := by decide +kernel
theorem dX0_pivot_134 : decode cX0_pivot 134 = .ok (.return_, 1) := by decide +kernel
theorem dX0_sweepLine_0 : decode cX0_sweepLine 0 = .ok (.aload_n 0, 1) := by decide +kernel
theorem dX0_sweepLine_1 : decode cX0_sweepLine 1 = .ok (.getfield 13, 3) := by decide +kernel
theorem dX0_sweepLine_4 : decode cX0_sweepLine 4 = .ok (.iload_n 2, 1) := by decide +kernel
theorem dX0_sweepLine_5 : decode cX0_sweepLine 5 = .ok (.aaload, 1) := by decide +kernel
theorem dX0_sweepLine_6 : decode cX0_sweepLine 6 = .ok (.iload_n 3, 1) := by decide +kernel
theorem dX0_sweepLine_7 : decode cX0_sweepLine 7 = .ok (.laload, 1) := by decide +kernel
theorem dX0_sweepLine_8 : decode cX0_sweepLine 8 = .ok (.lstore 6, 2) := by decide +kernel
theorem dX0_sweepLine_10 : decode cX0_sweepLine 10 = .ok (.aload_n 0, 1) := by decide +kernel
theorem dX0_sweepLine_11 : decode cX0_sweepLine 11 = .ok (.getfield 13, 3) := by decide +kernel
theorem dX0_sweepLine_14 : decode cX0_sweepLine 14 = .ok (.iload_n 1, 1) := by decide +kernel
theorem dX0_sweepLine_15 : decode cX0_sweepLine 15 = .ok (.aaload, 1) := by decide +kernel
theorem dX0_sweepLine_16 : decode cX0_sweepLine 16 = .ok (.iload_n 3, 1) := by decide +kernel
theorem dX0_sweepLine_17 : decode cX0_sweepLine 17 = .ok (.laload, 1) := by decide +kernel
theorem dX0_sweepLine_18 : decode cX0_sweepLine 18 = .ok (.lstore 8, 2) := by decide +kernel
theorem dX0_sweepLine_20 : decode cX0_sweepLine 20 = .ok (.lload 4, 2) := by decide +kernel
theorem dX0_sweepLine_22 : decode cX0_sweepLine 22 = .ok (.lconst 0, 1) := by decide +kernel
theorem dX0_sweepLine_23 : decode cX0_sweepLine 23 = .ok (.lcmp, 1) := by decide +kernel
theorem dX0_sweepLine_24 : decode cX0_sweepLine 24 = .ok (.ifCond .eq 18, 3) := by decide +kernel
theorem dX0_sweepLine_27 : decode cX0_sweepLine 27 = .ok (.lload 8, 2) := by decide +kernel
theorem dX0_sweepLine_29 : decode cX0_sweepLine 29 = .ok (.lconst 0, 1) := by decide +kernel
theorem dX0_sweepLine_30 : decode cX0_sweepLine 30 = .ok (.lcmp, 1) := by decide +kernel
theorem dX0_sweepLine_31 : decode cX0_sweepLine 31 = .ok (.ifCond .ne 12, 3) := by decide +kernel
theorem dX0_sweepLine_34 : decode cX0_sweepLine 34 = .ok (.lload 6, 2) := by decide +kernel
theorem dX0_sweepLine_36 : decode cX0_sweepLine 36 = .ok (.lload 4, 2) := by decide +kernel
theorem dX0_sweepLine_38 : decode cX0_sweepLine 38 = .ok (.lcmp, 1) := by decide +kernel
theorem dX0_sweepLine_39 : decode cX0_sweepLine 39 = .ok (.ifCond .ne 4, 3) := by decide +kernel
theorem dX0_sweepLine_42 : decode cX0_sweepLine 42 = .ok (.return_, 1) := by decide +kernel
theorem dX0_sweepLine_43 : decode cX0_sweepLine 43 = .ok (.iconst 0, 1) := by decide +kernel
theorem dX0_sweepLine_44 : decode cX0_sweepLine 44 = .ok (.istore 10, 2) := by decide +kernel
theorem dX0_sweepLine_46 : decode cX0_sweepLine 46 = .ok (.iload 10, 2) := by decide +kernel
theorem dX0_sweepLine_48 : decode cX0_sweepLine 48 = .ok (.aload_n 0, 1) := by decide +kernel
theorem dX0_sweepLine_49 : decode cX0_sweepLine 49 = .ok (.getfield 44, 3) := by decide +kernel
theorem dX0_sweepLine_52 : decode cX0_sweepLine 52 = .ok (.if_icmp .ge 52, 3) := by decide +kernel
theorem dX0_sweepLine_55 : decode cX0_sweepLine 55 = .ok (.iload 10, 2) := by decide +kernel
theorem dX0_sweepLine_57 : decode cX0_sweepLine 57 = .ok (.iload_n 3, 1) := by decide +kernel
theorem dX0_sweepLine_58 : decode cX0_sweepLine 58 = .ok (.if_icmp .eq 40, 3) := by decide +kernel
theorem dX0_sweepLine_61 : decode cX0_sweepLine 61 = .ok (.aload_n 0, 1) := by decide +kernel
theorem dX0_sweepLine_62 : decode cX0_sweepLine 62 = .ok (.getfield 13, 3) := by decide +kernel
theorem dX0_sweepLine_65 : decode cX0_sweepLine 65 = .ok (.iload_n 1, 1) := by decide +kernel
theorem dX0_sweepLine_66 : decode cX0_sweepLine 66 = .ok (.aaload, 1) := by decide +kernel
theorem dX0_sweepLine_67 : decode cX0_sweepLine 67 = .ok (.iload 10, 2) := by decide +kernel
theorem dX0_sweepLine_69 : decode cX0_sweepLine 69 = .ok (.lload 6, 2) := by decide +kernel
theorem dX0_sweepLine_71 : decode cX0_sweepLine 71 = .ok (.aload_n 0, 1) := by decide +kernel
theorem dX0_sweepLine_72 : decode cX0_sweepLine 72 = .ok (.getfield 13, 3) := by decide +kernel
theorem dX0_sweepLine_75 : decode cX0_sweepLine 75 = .ok (.iload_n 1, 1) := by decide +kernel
theorem dX0_sweepLine_76 : decode cX0_sweepLine 76 = .ok (.aaload, 1) := by decide +kernel
theorem dX0_sweepLine_77 : decode cX0_sweepLine 77 = .ok (.iload 10, 2) := by decide +kernel
theorem dX0_sweepLine_79 : decode cX0_sweepLine 79 = .ok (.laload, 1) := by decide +kernel
theorem dX0_sweepLine_80 : decode cX0_sweepLine 80 = .ok (.lmul, 1) := by decide +kernel
theorem dX0_sweepLine_81 : decode cX0_sweepLine 81 = .ok (.lload 8, 2) := by decide +kernel
theorem dX0_sweepLine_83 : decode cX0_sweepLine 83 = .ok (.aload_n 0, 1) := by decide +kernel
theorem dX0_sweepLine_84 : decode cX0_sweepLine 84 = .ok (.getfield 13, 3) := by decide +kernel
theorem dX0_sweepLine_87 : decode cX0_sweepLine 87 = .ok (.iload_n 2, 1) := by decide +kernel
theorem dX0_sweepLine_88 : decode cX0_sweepLine 88 = .ok (.aaload, 1) := by decide +kernel
theorem dX0_sweepLine_89 : decode cX0_sweepLine 89 = .ok (.iload 10, 2) := by decide +kernel
theorem dX0_sweepLine_91 : decode cX0_sweepLine 91 = .ok (.laload, 1) := by decide +kernel
theorem dX0_sweepLine_92 : decode cX0_sweepLine 92 = .ok (.lmul, 1) := by decide +kernel
theorem dX0_sweepLine_93 : decode cX0_sweepLine 93 = .ok (.lsub, 1) := by decide +kernel
theorem dX0_sweepLine_94 : decode cX0_sweepLine 94 = .ok (.lload 4, 2) := by decide +kernel
theorem dX0_sweepLine_96 : decode cX0_sweepLine 96 = .ok (.ldiv, 1) := by decide +kernel
theorem dX0_sweepLine_97 : decode cX0_sweepLine 97 = .ok (.lastore, 1) := by decide +kernel
theorem dX0_sweepLine_98 : decode cX0_sweepLine 98 = .ok (.iinc 10 1, 3) := by decide +kernel
theorem dX0_sweepLine_101 : decode cX0_sweepLine 101 = .ok (.goto (-55), 3) := by decide +kernel
theorem dX0_sweepLine_104 : decode cX0_sweepLine 104 = .ok (.aload_n 0, 1) := by decide +kernel
theorem dX0_sweepLine_105 : decode cX0_sweepLine 105 = .ok (.getfield 16, 3) := by decide +kernel
theorem dX0_sweepLine_108 : decode cX0_sweepLine 108 = .ok (.iload_n 1, 1) := by decide +kernel
theorem dX0_sweepLine_109 : decode cX0_sweepLine 109 = .ok (.lload 6, 2) := by decide +kernel
theorem dX0_sweepLine_111 : decode cX0_sweepLine 111 = .ok (.aload_n 0, 1) := by decide +kernel
theorem dX0_sweepLine_112 : decode cX0_sweepLine 112 = .ok (.getfield 16, 3) := by decide +kernel
theorem dX0_sweepLine_115 : decode cX0_sweepLine 115 = .ok (.iload_n 1, 1) := by decide +kernel
theorem dX0_sweepLine_116 : decode cX0_sweepLine 116 = .ok (.laload, 1) := by decide +kernel
theorem dX0_sweepLine_117 : decode cX0_sweepLine 117 = .ok (.lmul, 1) := by decide +kernel
theorem dX0_sweepLine_118 : decode cX0_sweepLine 118 = .ok (.lload 8, 2) := by decide +kernel
theorem dX0_sweepLine_120 : decode cX0_sweepLine 120 = .ok (.aload_n 0, 1) := by decide +kernel
theorem dX0_sweepLine_121 : decode cX0_sweepLine 121 = .ok (.getfield 16, 3) := by decide +kernel
theorem dX0_sweepLine_124 : decode cX0_sweepLine 124 = .ok (.iload_n 2, 1) := by decide +kernel
theorem dX0_sweepLine_125 : decode cX0_sweepLine 125 = .ok (.laload, 1) := by decide +kernel
theorem dX0_sweepLine_126 : decode cX0_sweepLine 126 = .ok (.lmul, 1) := by decide +kernel
theorem dX0_sweepLine_127 : decode cX0_sweepLine 127 = .ok (.lsub, 1) := by decide +kernel
theorem dX0_sweepLine_128 : decode cX0_sweepLine 128 = .ok (.lload 4, 2) := by decide +kernel
theorem dX0_sweepLine_130 : decode cX0_sweepLine 130 = .ok (.ldiv, 1) := by decide +kernel
theorem dX0_sweepLine_131 : decode cX0_sweepLine 131 = .ok (.lastore, 1) := by decide +kernel
theorem dX0_sweepLine_132 : decode cX0_sweepLine 132 = .ok (.aload_n 0, 1) := by decide +kernel
theorem dX0_sweepLine_133 : decode cX0_sweepLine 133 = .ok (.getfield 13, 3) := by decide +kernel
theorem dX0_sweepLine_136 : decode cX0_sweepLine 136 = .ok (.iload_n 1, 1) := by decide +kernel
theorem dX0_sweepLine_137 : decode cX0_sweepLine 137 = .ok (.aaload, 1) := by decide +kernel
theorem dX0_sweepLine_138 : decode cX0_sweepLine 138 = .ok (.iload_n 3, 1) := by decide +kernel
theorem dX0_sweepLine_139 : decode cX0_sweepLine 139 = .ok (.lload 6, 2) := by decide +kernel
theorem dX0_sweepLine_141 : decode cX0_sweepLine 141 = .ok (.lconst 0, 1) := by decide +kernel
theorem dX0_sweepLine_142 : decode cX0_sweepLine 142 = .ok (.lcmp, 1) := by decide +kernel
theorem dX0_sweepLine_143 : decode cX0_sweepLine 143 = .ok (.ifCond .ge 8, 3) := by decide +kernel
theorem dX0_sweepLine_146 : decode cX0_sweepLine 146 = .ok (.lload 8, 2) := by decide +kernel
theorem dX0_sweepLine_148 : decode cX0_sweepLine 148 = .ok (.goto 6, 3) := by decide +kernel
theorem dX0_sweepLine_151 : decode cX0_sweepLine 151 = .ok (.lload 8, 2) := by decide +kernel
theorem dX0_sweepLine_153 : decode cX0_sweepLine 153 = .ok (.lneg, 1) := by decide +kernel
theorem dX0_sweepLine_154 : decode cX0_sweepLine 154 = .ok (.lastore, 1) := by decide +kernel
theorem dX0_sweepLine_155 : decode cX0_sweepLine 155 = .ok (.return_, 1) := by decide +kernel
theorem dX0_turnLine_0 : decode cX0_turnLine 0 = .ok (.iconst 0, 1) := by decide +kernel
theorem dX0_turnLine_1 : decode cX0_turnLine 1 = .ok (.istore_n 2, 1) := by decide +kernel
theorem dX0_turnLine_2 : decode cX0_turnLine 2 = .ok (.iload_n 2, 1) := by decide +kernel
theorem dX0_turnLine_3 : decode cX0_turnLine 3 = .ok (.aload_n 0, 1) := by decide +kernel
theorem dX0_turnLine_4 : decode cX0_turnLine 4 = .ok (.getfield 44, 3) := by decide +kernel
theorem dX0_turnLine_7 : decode cX0_turnLine 7 = .ok (.if_icmp .ge 26, 3) := by decide +kernel
theorem dX0_turnLine_10 : decode cX0_turnLine 10 = .ok (.aload_n 0, 1) := by decide +kernel
theorem dX0_turnLine_11 : decode cX0_turnLine 11 = .ok (.getfield 13, 3) := by decide +kernel
theorem dX0_turnLine_14 : decode cX0_turnLine 14 = .ok (.iload_n 1, 1) := by decide +kernel
theorem dX0_turnLine_15 : decode cX0_turnLine 15 = .ok (.aaload, 1) := by decide +kernel
theorem dX0_turnLine_16 : decode cX0_turnLine 16 = .ok (.iload_n 2, 1) := by decide +kernel
theorem dX0_turnLine_17 : decode cX0_turnLine 17 = .ok (.aload_n 0, 1) := by decide +kernel
theorem dX0_turnLine_18 : decode cX0_turnLine 18 = .ok (.getfield 13, 3) := by decide +kernel
theorem dX0_turnLine_21 : decode cX0_turnLine 21 = .ok (.iload_n 1, 1) := by decide +kernel
theorem dX0_turnLine_22 : decode cX0_turnLine 22 = .ok (.aaload, 1) := by decide +kernel
theorem dX0_turnLine_23 : decode cX0_turnLine 23 = .ok (.iload_n 2, 1) := by decide +kernel
theorem dX0_turnLine_24 : decode cX0_turnLine 24 = .ok (.laload, 1) := by decide +kernel
theorem dX0_turnLine_25 : decode cX0_turnLine 25 = .ok (.lneg, 1) := by decide +kernel
theorem dX0_turnLine_26 : decode cX0_turnLine 26 = .ok (.lastore, 1) := by decide +kernel
theorem dX0_turnLine_27 : decode cX0_turnLine 27 = .ok (.iinc 2 1, 3) := by decide +kernel
theorem dX0_turnLine_30 : decode cX0_turnLine 30 = .ok (.goto (-28), 3) := by decide +kernel
theorem dX0_turnLine_33 : decode cX0_turnLine 33 = .ok (.aload_n 0, 1) := by decide +kernel
theorem dX0_turnLine_34 : decode cX0_turnLine 34 = .ok (.getfield 16, 3) := by decide +kernel
theorem dX0_turnLine_37 : decode cX0_turnLine 37 = .ok (.iload_n 1, 1) := by decide +kernel
theorem dX0_turnLine_38 : decode cX0_turnLine 38 = .ok (.aload_n 0, 1) := by decide +kernel
theorem dX0_turnLine_39 : decode cX0_turnLine 39 = .ok (.getfield 16, 3) := by decide +kernel
theorem dX0_turnLine_42 : decode cX0_turnLine 42 = .ok (.iload_n 1, 1) := by decide +kernel
theorem dX0_turnLine_43 : decode cX0_turnLine 43 = .ok (.laload, 1) := by decide +kernel
theorem dX0_turnLine_44 : decode cX0_turnLine 44 = .ok (.lneg, 1) := by decide +kernel
theorem dX0_turnLine_45 : decode cX0_turnLine 45 = .ok (.lastore, 1) := by decide +kernel
theorem dX0_turnLine_46 : decode cX0_turnLine 46 = .ok (.return_, 1) := by decide +kernel
theorem dX1_init_0 : decode cX1_init 0 = .ok (.aload_n 0, 1) := by decide +kernel
theorem dX1_init_1 : decode cX1_init 1 = .ok (.invokespecial 3, 3) := by decide +kernel
theorem dX1_init_4 : decode cX1_init 4 = .ok (.aload_n 0, 1) := by decide +kernel
theorem dX1_init_5 : decode cX1_init 5 = .ok (.iconst 5, 1) := by decide +kernel
theorem dX1_init_6 : decode cX1_init 6 = .ok (.newarray .int, 2) := by decide +kernel
theorem dX1_init_8 : decode cX1_init 8 = .ok (.putfield 9, 3) := by decide +kernel
theorem dX1_init_11 : decode cX1_init 11 = .ok (.aload_n 0, 1) := by decide +kernel
theorem dX1_init_12 : decode cX1_init 12 = .ok (.iconst 5, 1) := by decide +kernel
theorem dX1_init_13 : decode cX1_init 13 = .ok (.newarray .int, 2) := by decide +kernel
theorem dX1_init_15 : decode cX1_init 15 = .ok (.putfield 15, 3) := by decide +kernel
theorem dX1_init_18 : decode cX1_init 18 = .ok (.aload_n 0, 1) := by decide +kernel
theorem dX1_init_19 : decode cX1_init 19 = .ok (.iconst 5, 1) := by decide +kernel
theorem dX1_init_20 : decode cX1_init 20 = .ok (.newarray .int, 2) := by decide +kernel
theorem dX1_init_22 : decode cX1_init 22 = .ok (.putfield 18, 3) := by decide +kernel
theorem dX1_init_25 : decode cX1_init 25 = .ok (.aload_n 0, 1) := by decide +kernel
theorem dX1_init_26 : decode cX1_init 26 = .ok (.bipush 8, 2) := by decide +kernel
theorem dX1_init_28 : decode cX1_init 28 = .ok (.newarray .int, 2) := by decide +kernel
theorem dX1_init_30 : decode cX1_init 30 = .ok (.putfield 21, 3) := by decide +kernel
theorem dX1_init_33 : decode cX1_init 33 = .ok (.aload_n 0, 1) := by decide +kernel
theorem dX1_init_34 : decode cX1_init 34 = .ok (.bipush 8, 2) := by decide +kernel
theorem dX1_init_36 : decode cX1_init 36 = .ok (.newarray .int, 2) := by decide +kernel
theorem dX1_init_38 : decode cX1_init 38 = .ok (.putfield 24, 3) := by decide +kernel
theorem dX1_init_41 : decode cX1_init 41 = .ok (.aload_n 0, 1) := by decide +kernel
theorem dX1_init_42 : decode cX1_init 42 = .ok (.bipush 8, 2) := by decide +kernel
theorem dX1_init_44 : decode cX1_init 44 = .ok (.iconst 5, 1) := by decide +kernel
theorem dX1_init_45 : decode cX1_init 45 = .ok (.multianewarray 27 2, 4) := by decide +kernel
theorem dX1_init_49 : decode cX1_init 49 = .ok (.putfield 29, 3) := by decide +kernel
theorem dX1_init_52 : decode cX1_init 52 = .ok (.aload_n 0, 1) := by decide +kernel
theorem dX1_init_53 : decode cX1_init 53 = .ok (.bipush 8, 2) := by decide +kernel
theorem dX1_init_55 : decode cX1_init 55 = .ok (.newarray .boolean, 2) := by decide +kernel
theorem dX1_init_57 : decode cX1_init 57 = .ok (.putfield 32, 3) := by decide +kernel
theorem dX1_init_60 : decode cX1_init 60 = .ok (.return_, 1) := by decide +kernel
theorem dX1_hasName_0 : decode cX1_hasName 0 = .ok (.iload_n 1, 1) := by decide +kernel
theorem dX1_hasName_1 : decode cX1_hasName 1 = .ok (.ifCond .lt 15, 3) := by decide +kernel
theorem dX1_hasName_4 : decode cX1_hasName 4 = .ok (.iload_n 1, 1) := by decide +kernel
theorem dX1_hasName_5 : decode cX1_hasName 5 = .ok (.aload_n 0, 1) := by decide +kernel
theorem dX1_hasName_6 : decode cX1_hasName 6 = .ok (.getfield 36, 3) := by decide +kernel
theorem dX1_hasName_9 : decode cX1_hasName 9 = .ok (.if_icmp .ge 7, 3) := by decide +kernel
theorem dX1_hasName_12 : decode cX1_hasName 12 = .ok (.iconst 1, 1) := by decide +kernel
theorem dX1_hasName_13 : decode cX1_hasName 13 = .ok (.goto 4, 3) := by decide +kernel
theorem dX1_hasName_16 : decode cX1_hasName 16 = .ok (.iconst 0, 1) := by decide +kernel
theorem dX1_hasName_17 : decode cX1_hasName 17 = .ok (.ireturn, 1) := by decide +kernel
theorem dX1_hasRow_0 : decode cX1_hasRow 0 = .ok (.iload_n 1, 1) := by decide +kernel
theorem dX1_hasRow_1 : decode cX1_hasRow 1 = .ok (.ifCond .lt 24, 3) := by decide +kernel
theorem dX1_hasRow_4 : decode cX1_hasRow 4 = .ok (.iload_n 1, 1) := by decide +kernel
theorem dX1_hasRow_5 : decode cX1_hasRow 5 = .ok (.aload_n 0, 1) := by decide +kernel
theorem dX1_hasRow_6 : decode cX1_hasRow 6 = .ok (.getfield 40, 3) := by decide +kernel
theorem dX1_hasRow_9 : decode cX1_hasRow 9 = .ok (.if_icmp .ge 16, 3) := by decide +kernel
theorem dX1_hasRow_12 : decode cX1_hasRow 12 = .ok (.aload_n 0, 1) := by decide +kernel
theorem dX1_hasRow_13 : decode cX1_hasRow 13 = .ok (.getfield 32, 3) := by decide +kernel
theorem dX1_hasRow_16 : decode cX1_hasRow 16 = .ok (.iload_n 1, 1) := by decide +kernel
theorem dX1_hasRow_17 : decode cX1_hasRow 17 = .ok (.baload, 1) := by decide +kernel
theorem dX1_hasRow_18 : decode cX1_hasRow 18 = .ok (.ifCond .eq 7, 3) := by decide +kernel
theorem dX1_hasRow_21 : decode cX1_hasRow 21 = .ok (.iconst 1, 1) := by decide +kernel
theorem dX1_hasRow_22 : decode cX1_hasRow 22 = .ok (.goto 4, 3) := by decide +kernel
theorem dX1_hasRow_25 : decode cX1_hasRow 25 = .ok (.iconst 0, 1) := by decide +kernel
theorem dX1_hasRow_26 : decode cX1_hasRow 26 = .ok (.ireturn, 1) := by decide +kernel
theorem dX1_addName_0 : decode cX1_addName 0 = .ok (.aload_n 0, 1) := by decide +kernel
theorem dX1_addName_1 : decode cX1_addName 1 = .ok (.getfield 36, 3) := by decide +kernel
theorem dX1_addName_4 : decode cX1_addName 4 = .ok (.istore_n 3, 1) := by decide +kernel
theorem dX1_addName_5 : decode cX1_addName 5 = .ok (.iload_n 3, 1) := by decide +kernel
theorem dX1_addName_6 : decode cX1_addName 6 = .ok (.iconst 5, 1) := by decide +kernel
theorem dX1_addName_7 : decode cX1_addName 7 = .ok (.if_icmp .lt 6, 3) := by decide +kernel
theorem dX1_addName_10 : decode cX1_addName 10 = .ok (.bipush (-4), 2) := by decide +kernel
theorem dX1_addName_12 : decode cX1_addName 12 = .ok (.ireturn, 1) := by decide +kernel
theorem dX1_addName_13 : decode cX1_addName 13 = .ok (.aload_n 0, 1) := by decide +kernel
theorem dX1_addName_14 : decode cX1_addName 14 = .ok (.getfield 9, 3) := by decide +kernel
theorem dX1_addName_17 : decode cX1_addName 17 = .ok (.iload_n 3, 1) := by decide +kernel
theorem dX1_addName_18 : decode cX1_addName 18 = .ok (.iload_n 1, 1) := by decide +kernel
theorem dX1_addName_19 : decode cX1_addName 19 = .ok (.iastore, 1) := by decide +kernel
theorem dX1_addName_20 : decode cX1_addName 20 = .ok (.aload_n 0, 1) := by decide +kernel
theorem dX1_addName_21 : decode cX1_addName 21 = .ok (.getfield 15, 3) := by decide +kernel
theorem dX1_addName_24 : decode cX1_addName 24 = .ok (.iload_n 3, 1) := by decide +kernel
theorem dX1_addName_25 : decode cX1_addName 25 = .ok (.iload_n 2, 1) := by decide +kernel
theorem dX1_addName_26 : decode cX1_addName 26 = .ok (.iastore, 1) := by decide +kernel
theorem dX1_addName_27 : decode cX1_addName 27 = .ok (.aload_n 0, 1) := by decide +kernel
theorem dX1_addName_28 : decode cX1_addName 28 = .ok (.getfield 18, 3) := by decide +kernel
theorem dX1_addName_31 : decode cX1_addName 31 = .ok (.iload_n 3, 1) := by decide +kernel
theorem dX1_addName_32 : decode cX1_addName 32 = .ok (.iconst 0, 1) := by decide +kernel
theorem dX1_addName_33 : decode cX1_addName 33 = .ok (.iastore, 1) := by decide +kernel
theorem dX1_addName_34 : decode cX1_addName 34 = .ok (.aload_n 0, 1) := by decide +kernel
theorem dX1_addName_35 : decode cX1_addName 35 = .ok (.dup, 1) := by decide +kernel
theorem dX1_addName_36 : decode cX1_addName 36 = .ok (.getfield 36, 3) := by decide +kernel
theorem dX1_addName_39 : decode cX1_addName 39 = .ok (.iconst 1, 1) := by decide +kernel
theorem dX1_addName_40 : decode cX1_addName 40 = .ok (.iadd, 1) := by decide +kernel
theorem dX1_addName_41 : decode cX1_addName 41 = .ok (.putfield 36, 3) := by decide +kernel
theorem dX1_addName_44 : decode cX1_addName 44 = .ok (.iload_n 3, 1) := by decide +kernel
theorem dX1_addName_45 : decode cX1_addName 45 = .ok (.ireturn, 1) := by decide +kernel
theorem dX1_addRow_0 : decode cX1_addRow 0 = .ok (.aload_n 0, 1) := by decide +kernel
theorem dX1_addRow_1 : decode cX1_addRow 1 = .ok (.getfield 40, 3) := by decide +kernel
theorem dX1_addRow_4 : decode cX1_addRow 4 = .ok (.istore_n 3, 1) := by decide +kernel
theorem dX1_addRow_5 : decode cX1_addRow 5 = .ok (.iload_n 3, 1) := by decide +kernel
theorem dX1_addRow_6 : decode cX1_addRow 6 = .ok (.bipush 8, 2) := by decide +kernel
theorem dX1_addRow_8 : decode cX1_addRow 8 = .ok (.if_icmp .lt 6, 3) := by decide +kernel
theorem dX1_addRow_11 : decode cX1_addRow 11 = .ok (.bipush (-4), 2) := by decide +kernel
theorem dX1_addRow_13 : decode cX1_addRow 13 = .ok (.ireturn, 1) := by decide +kernel
theorem dX1_addRow_14 : decode cX1_addRow 14 = .ok (.aload_n 0, 1) := by decide +kernel
theorem dX1_addRow_15 : decode cX1_addRow 15 = .ok (.getfield 21, 3) := by decide +kernel
theorem dX1_addRow_18 : decode cX1_addRow 18 = .ok (.iload_n 3, 1) := by decide +kernel
theorem dX1_addRow_19 : decode cX1_addRow 19 = .ok (.iload_n 1, 1) := by decide +kernel
theorem dX1_addRow_20 : decode cX1_addRow 20 = .ok (.iastore, 1) := by decide +kernel
theorem dX1_addRow_21 : decode cX1_addRow 21 = .ok (.aload_n 0, 1) := by decide +kernel
theorem dX1_addRow_22 : decode cX1_addRow 22 = .ok (.getfield 24, 3) := by decide +kernel
theorem dX1_addRow_25 : decode cX1_addRow 25 = .ok (.iload_n 3, 1) := by decide +kernel
theorem dX1_addRow_26 : decode cX1_addRow 26 = .ok (.iload_n 2, 1) := by decide +kernel
theorem dX1_addRow_27 : decode cX1_addRow 27 = .ok (.iastore, 1) := by decide +kernel
theorem dX1_addRow_28 : decode cX1_addRow 28 = .ok (.aload_n 0, 1) := by decide +kernel
theorem dX1_addRow_29 : decode cX1_addRow 29 = .ok (.getfield 32, 3) := by decide +kernel
theorem dX1_addRow_32 : decode cX1_addRow 32 = .ok (.iload_n 3, 1) := by decide +kernel
theorem dX1_addRow_33 : decode cX1_addRow 33 = .ok (.iconst 1, 1) := by decide +kernel
theorem dX1_addRow_34 : decode cX1_addRow 34 = .ok (.bastore, 1) := by decide +kernel
theorem dX1_addRow_35 : decode cX1_addRow 35 = .ok (.iconst 0, 1) := by decide +kernel
theorem dX1_addRow_36 : decode cX1_addRow 36 = .ok (.istore 4, 2) := by decide +kernel
theorem dX1_addRow_38 : decode cX1_addRow 38 = .ok (.iload 4, 2) := by decide +kernel
theorem dX1_addRow_40 : decode cX1_addRow 40 = .ok (.iconst 5, 1) := by decide +kernel
theorem dX1_addRow_41 : decode cX1_addRow 41 = .ok (.if_icmp .ge 19, 3) := by decide +kernel
theorem dX1_addRow_44 : decode cX1_addRow 44 = .ok (.aload_n 0, 1) := by decide +kernel
theorem dX1_addRow_45 : decode cX1_addRow 45 = .ok (.getfield 29, 3) := by decide +kernel
theorem dX1_addRow_48 : decode cX1_addRow 48 = .ok (.iload_n 3, 1) := by decide +kernel
theorem dX1_addRow_49 : decode cX1_addRow 49 = .ok (.aaload, 1) := by decide +kernel
theorem dX1_addRow_50 : decode cX1_addRow 50 = .ok (.iload 4, 2) := by decide +kernel
theorem dX1_addRow_52 : decode cX1_addRow 52 = .ok (.iconst 0, 1) := by decide +kernel
theorem dX1_addRow_53 : decode cX1_addRow 53 = .ok (.iastore, 1) := by decide +kernel
theorem dX1_addRow_54 : decode cX1_addRow 54 = .ok (.iinc 4 1, 3) := by decide +kernel
theorem dX1_addRow_57 : decode cX1_addRow 57 = .ok (.goto (-19), 3) := by decide +kernel
theorem dX1_addRow_60 : decode cX1_addRow 60 = .ok (.aload_n 0, 1) := by decide +kernel
theorem dX1_addRow_61 : decode cX1_addRow 61 = .ok (.dup, 1) := by decide +kernel
theorem dX1_addRow_62 : decode cX1_addRow 62 = .ok (.getfield 40, 3) := by decide +kernel
theorem dX1_addRow_65 : decode cX1_addRow 65 = .ok (.iconst 1, 1) := by decide +kernel
theorem dX1_addRow_66 : decode cX1_addRow 66 = .ok (.iadd, 1) := by decide +kernel
theorem dX1_addRow_67 : decode cX1_addRow 67 = .ok (.putfield 40, 3) := by decide +kernel
theorem dX1_addRow_70 : decode cX1_addRow 70 = .ok (.iload_n 3, 1) := by decide +kernel
theorem dX1_addRow_71 : decode cX1_addRow 71 = .ok (.ireturn, 1) := by decide +kernel
theorem dX1_countRows_0 : decode cX1_countRows 0 = .ok (.iconst 0, 1) := by decide +kernel
theorem dX1_countRows_1 : decode cX1_countRows 1 = .ok (.istore_n 1, 1) := by decide +kernel
theorem dX1_countRows_2 : decode cX1_countRows 2 = .ok (.iconst 0, 1) := by decide +kernel
theorem dX1_countRows_3 : decode cX1_countRows 3 = .ok (.istore_n 2, 1) := by decide +kernel
theorem dX1_countRows_4 : decode cX1_countRows 4 = .ok (.iload_n 2, 1) := by decide +kernel
theorem dX1_countRows_5 : decode cX1_countRows 5 = .ok (.aload_n 0, 1) := by decide +kernel
theorem dX1_countRows_6 : decode cX1_countRows 6 = .ok (.getfield 40, 3) := by decide +kernel
theorem dX1_countRows_9 : decode cX1_countRows 9 = .ok (.if_icmp .ge 21, 3) := by decide +kernel
theorem dX1_countRows_12 : decode cX1_countRows 12 = .ok (.aload_n 0, 1) := by decide +kernel
theorem dX1_countRows_13 : decode cX1_countRows 13 = .ok (.getfield 32, 3) := by decide +kernel
theorem dX1_countRows_16 : decode cX1_countRows 16 = .ok (.iload_n 2, 1) := by decide +kernel
theorem dX1_countRows_17 : decode cX1_countRows 17 = .ok (.baload, 1) := by decide +kernel
theorem dX1_countRows_18 : decode cX1_countRows 18 = .ok (.ifCond .eq 6, 3) := by decide +kernel
theorem dX1_countRows_21 : decode cX1_countRows 21 = .ok (.iinc 1 1, 3) := by decide +kernel
theorem dX1_countRows_24 : decode cX1_countRows 24 = .ok (.iinc 2 1, 3) := by decide +kernel
theorem dX1_countRows_27 : decode cX1_countRows 27 = .ok (.goto (-23), 3) := by decide +kernel
theorem dX1_countRows_30 : decode cX1_countRows 30 = .ok (.iload_n 1, 1) := by decide +kernel
theorem dX1_countRows_31 : decode cX1_countRows 31 = .ok (.ireturn, 1) := by decide +kernel
theorem dX1_countWhole_0 : decode cX1_countWhole 0 = .ok (.lconst 1, 1) := by decide +kernel
theorem dX1_countWhole_1 : decode cX1_countWhole 1 = .ok (.lstore_n 1, 1) := by decide +kernel
theorem dX1_countWhole_2 : decode cX1_countWhole 2 = .ok (.iconst 0, 1) := by decide +kernel
theorem dX1_countWhole_3 : decode cX1_countWhole 3 = .ok (.istore_n 3, 1) := by decide +kernel
theorem dX1_countWhole_4 : decode cX1_countWhole 4 = .ok (.iload_n 3, 1) := by decide +kernel
theorem dX1_countWhole_5 : decode cX1_countWhole 5 = .ok (.aload_n 0, 1) := by decide +kernel
theorem dX1_countWhole_6 : decode cX1_countWhole 6 = .ok (.getfield 36, 3) := by decide +kernel
theorem dX1_countWhole_9 : decode cX1_countWhole 9 = .ok (.if_icmp .ge 28, 3) := by decide +kernel
theorem dX1_countWhole_12 : decode cX1_countWhole 12 = .ok (.lload_n 1, 1) := by decide +kernel
theorem dX1_countWhole_13 : decode cX1_countWhole 13 = .ok (.aload_n 0, 1) := by decide +kernel
theorem dX1_countWhole_14 : decode cX1_countWhole 14 = .ok (.getfield 15, 3) := by decide +kernel
theorem dX1_countWhole_17 : decode cX1_countWhole 17 = .ok (.iload_n 3, 1) := by decide +kernel
theorem dX1_countWhole_18 : decode cX1_countWhole 18 = .ok (.iaload, 1) := by decide +kernel
theorem dX1_countWhole_19 : decode cX1_countWhole 19 = .ok (.aload_n 0, 1) := by decide +kernel
theorem dX1_countWhole_20 : decode cX1_countWhole 20 = .ok (.getfield 9, 3) := by decide +kernel
theorem dX1_countWhole_23 : decode cX1_countWhole 23 = .ok (.iload_n 3, 1) := by decide +kernel
theorem dX1_countWhole_24 : decode cX1_countWhole 24 = .ok (.iaload, 1) := by decide +kernel
theorem dX1_countWhole_25 : decode cX1_countWhole 25 = .ok (.isub, 1) := by decide +kernel
theorem dX1_countWhole_26 : decode cX1_countWhole 26 = .ok (.iconst 1, 1) := by decide +kernel
theorem dX1_countWhole_27 : decode cX1_countWhole 27 = .ok (.iadd, 1) := by decide +kernel
theorem dX1_countWhole_28 : decode cX1_countWhole 28 = .ok (.i2l, 1) := by decide +kernel
theorem dX1_countWhole_29 : decode cX1_countWhole 29 = .ok (.lmul, 1) := by decide +kernel
theorem dX1_countWhole_30 : decode cX1_countWhole 30 = .ok (.lstore_n 1, 1) := by decide +kernel
theorem dX1_countWhole_31 : decode cX1_countWhole 31 = .ok (.iinc 3 1, 3) := by decide +kernel
theorem dX1_countWhole_34 : decode cX1_countWhole 34 = .ok (.goto (-30), 3) := by decide +kernel
theorem dX1_countWhole_37 : decode cX1_countWhole 37 = .ok (.lload_n 1, 1) := by decide +kernel
theorem dX1_countWhole_38 : decode cX1_countWhole 38 = .ok (.lreturn, 1) := by decide +kernel
theorem dX1_limitsFromAbove_0 : decode cX1_limitsFromAbove 0 = .ok (.aload_n 0, 1) := by decide +kernel
theorem dX1_limitsFromAbove_1 : decode cX1_limitsFromAbove 1 = .ok (.getfield 21, 3) := by decide +kernel
theorem dX1_limitsFromAbove_4 : decode cX1_limitsFromAbove 4 = .ok (.iload_n 1, 1) := by decide +kernel
theorem dX1_limitsFromAbove_5 : decode cX1_limitsFromAbove 5 = .ok (.iaload, 1) := by decide +kernel
theorem dX1_limitsFromAbove_6 : decode cX1_limitsFromAbove 6 = .ok (.ifCond .eq 13, 3) := by decide +kernel
theorem dX1_limitsFromAbove_9 : decode cX1_limitsFromAbove 9 = .ok (.aload_n 0, 1) := by decide +kernel
theorem dX1_limitsFromAbove_10 : decode cX1_limitsFromAbove 10 = .ok (.getfield 21, 3) := by decide +kernel
theorem dX1_limitsFromAbove_13 : decode cX1_limitsFromAbove 13 = .ok (.iload_n 1, 1) := by decide +kernel
theorem dX1_limitsFromAbove_14 : decode cX1_limitsFromAbove 14 = .ok (.iaload, 1) := by decide +kernel
theorem dX1_limitsFromAbove_15 : decode cX1_limitsFromAbove 15 = .ok (.iconst 1, 1) := by decide +kernel
theorem dX1_limitsFromAbove_16 : decode cX1_limitsFromAbove 16 = .ok (.if_icmp .ne 7, 3) := by decide +kernel
theorem dX1_limitsFromAbove_19 : decode cX1_limitsFromAbove 19 = .ok (.iconst 1, 1) := by decide +kernel
theorem dX1_limitsFromAbove_20 : decode cX1_limitsFromAbove 20 = .ok (.goto 4, 3) := by decide +kernel
theorem dX1_limitsFromAbove_23 : decode cX1_limitsFromAbove 23 = .ok (.iconst 0, 1) := by decide +kernel
theorem dX1_limitsFromAbove_24 : decode cX1_limitsFromAbove 24 = .ok (.ireturn, 1) := by decide +kernel
theorem dX1_limitsFromBelow_0 : decode cX1_limitsFromBelow 0 = .ok (.aload_n 0, 1) := by decide +kernel
theorem dX1_limitsFromBelow_1 : decode cX1_limitsFromBelow 1 = .ok (.getfield 21, 3) := by decide +kernel
theorem dX1_limitsFromBelow_4 : decode cX1_limitsFromBelow 4 = .ok (.iload_n 1, 1) := by decide +kernel
theorem dX1_limitsFromBelow_5 : decode cX1_limitsFromBelow 5 = .ok (.iaload, 1) := by decide +kernel
theorem dX1_limitsFromBelow_6 : decode cX1_limitsFromBelow 6 = .ok (.iconst 2, 1) := by decide +kernel
theorem dX1_limitsFromBelow_7 : decode cX1_limitsFromBelow 7 = .ok (.if_icmp .eq 13, 3) := by decide +kernel
theorem dX1_limitsFromBelow_10 : decode cX1_limitsFromBelow 10 = .ok (.aload_n 0, 1) := by decide +kernel
theorem dX1_limitsFromBelow_11 : decode cX1_limitsFromBelow 11 = .ok (.getfield 21, 3) := by decide +kernel
theorem dX1_limitsFromBelow_14 : decode cX1_limitsFromBelow 14 = .ok (.iload_n 1, 1) := by decide +kernel
theorem dX1_limitsFromBelow_15 : decode cX1_limitsFromBelow 15 = .ok (.iaload, 1) := by decide +kernel
theorem dX1_limitsFromBelow_16 : decode cX1_limitsFromBelow 16 = .ok (.iconst 1, 1) := by decide +kernel
theorem dX1_limitsFromBelow_17 : decode cX1_limitsFromBelow 17 = .ok (.if_icmp .ne 7, 3) := by decide +kernel
theorem dX1_limitsFromBelow_20 : decode cX1_limitsFromBelow 20 = .ok (.iconst 1, 1) := by decide +kernel
theorem dX1_limitsFromBelow_21 : decode cX1_limitsFromBelow 21 = .ok (.goto 4, 3) := by decide +kernel
theorem dX1_limitsFromBelow_24 : decode cX1_limitsFromBelow 24 = .ok (.iconst 0, 1) := by decide +kernel
theorem dX1_limitsFromBelow_25 : decode cX1_limitsFromBelow 25 = .ok (.ireturn, 1) := by decide +kernel
set_option maxRecDepth 20000 in
theorem ggX2_init_X0_init : GoodIn wsX2_init wsX0_init := goodIn_r _ [15, 16, 2, 3, 17, 10, 18, 19, 8, 20, 21, 22, 23, 24, 25, 26, 27, 28, 29, 30, 31, 32, 33, 34] rfl (by decide +kernel)
set_option maxRecDepth 20000 in
theorem gX2_init_X0_init_n11 : GoodIn wsX2_init (wsX0_init) := ggX2_init_X0_init
