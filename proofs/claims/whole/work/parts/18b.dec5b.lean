theorem dX5_lowest_26 : decode cX5_lowest 26 = .ok (.lload 5, 2) := by decide +kernel
theorem dX5_lowest_28 : decode cX5_lowest 28 = .ok (.lrem, 1) := by decide +kernel
theorem dX5_lowest_29 : decode cX5_lowest 29 = .ok (.lstore 9, 2) := by decide +kernel
theorem dX5_lowest_31 : decode cX5_lowest 31 = .ok (.lload 5, 2) := by decide +kernel
theorem dX5_lowest_33 : decode cX5_lowest 33 = .ok (.lstore 7, 2) := by decide +kernel
theorem dX5_lowest_35 : decode cX5_lowest 35 = .ok (.lload 9, 2) := by decide +kernel
theorem dX5_lowest_37 : decode cX5_lowest 37 = .ok (.lstore 5, 2) := by decide +kernel
theorem dX5_lowest_39 : decode cX5_lowest 39 = .ok (.goto (-22), 3) := by decide +kernel
theorem dX5_lowest_42 : decode cX5_lowest 42 = .ok (.iload 4, 2) := by decide +kernel
theorem dX5_lowest_44 : decode cX5_lowest 44 = .ok (.ifCond .ne 10, 3) := by decide +kernel
theorem dX5_lowest_47 : decode cX5_lowest 47 = .ok (.lload_n 0, 1) := by decide +kernel
theorem dX5_lowest_48 : decode cX5_lowest 48 = .ok (.lload 7, 2) := by decide +kernel
theorem dX5_lowest_50 : decode cX5_lowest 50 = .ok (.ldiv, 1) := by decide +kernel
theorem dX5_lowest_51 : decode cX5_lowest 51 = .ok (.goto 7, 3) := by decide +kernel
theorem dX5_lowest_54 : decode cX5_lowest 54 = .ok (.lload_n 2, 1) := by decide +kernel
theorem dX5_lowest_55 : decode cX5_lowest 55 = .ok (.lload 7, 2) := by decide +kernel
theorem dX5_lowest_57 : decode cX5_lowest 57 = .ok (.ldiv, 1) := by decide +kernel
theorem dX5_lowest_58 : decode cX5_lowest 58 = .ok (.lreturn, 1) := by decide +kernel
theorem dX5_isName_0 : decode cX5_isName 0 = .ok (.iload_n 1, 1) := by decide +kernel
theorem dX5_isName_1 : decode cX5_isName 1 = .ok (.ifCond .lt 15, 3) := by decide +kernel
theorem dX5_isName_4 : decode cX5_isName 4 = .ok (.iload_n 1, 1) := by decide +kernel
theorem dX5_isName_5 : decode cX5_isName 5 = .ok (.aload_n 0, 1) := by decide +kernel
theorem dX5_isName_6 : decode cX5_isName 6 = .ok (.getfield 66, 3) := by decide +kernel
theorem dX5_isName_9 : decode cX5_isName 9 = .ok (.if_icmp .ge 7, 3) := by decide +kernel
theorem dX5_isName_12 : decode cX5_isName 12 = .ok (.iconst 1, 1) := by decide +kernel
theorem dX5_isName_13 : decode cX5_isName 13 = .ok (.goto 4, 3) := by decide +kernel
theorem dX5_isName_16 : decode cX5_isName 16 = .ok (.iconst 0, 1) := by decide +kernel
theorem dX5_isName_17 : decode cX5_isName 17 = .ok (.ireturn, 1) := by decide +kernel
theorem dX5_isRow_0 : decode cX5_isRow 0 = .ok (.iload_n 1, 1) := by decide +kernel
theorem dX5_isRow_1 : decode cX5_isRow 1 = .ok (.ifCond .lt 24, 3) := by decide +kernel
theorem dX5_isRow_4 : decode cX5_isRow 4 = .ok (.iload_n 1, 1) := by decide +kernel
theorem dX5_isRow_5 : decode cX5_isRow 5 = .ok (.aload_n 0, 1) := by decide +kernel
theorem dX5_isRow_6 : decode cX5_isRow 6 = .ok (.getfield 78, 3) := by decide +kernel
theorem dX5_isRow_9 : decode cX5_isRow 9 = .ok (.if_icmp .ge 16, 3) := by decide +kernel
theorem dX5_isRow_12 : decode cX5_isRow 12 = .ok (.aload_n 0, 1) := by decide +kernel
theorem dX5_isRow_13 : decode cX5_isRow 13 = .ok (.getfield 28, 3) := by decide +kernel
theorem dX5_isRow_16 : decode cX5_isRow 16 = .ok (.iload_n 1, 1) := by decide +kernel
theorem dX5_isRow_17 : decode cX5_isRow 17 = .ok (.baload, 1) := by decide +kernel
theorem dX5_isRow_18 : decode cX5_isRow 18 = .ok (.ifCond .eq 7, 3) := by decide +kernel
theorem dX5_isRow_21 : decode cX5_isRow 21 = .ok (.iconst 1, 1) := by decide +kernel
theorem dX5_isRow_22 : decode cX5_isRow 22 = .ok (.goto 4, 3) := by decide +kernel
theorem dX5_isRow_25 : decode cX5_isRow 25 = .ok (.iconst 0, 1) := by decide +kernel
theorem dX5_isRow_26 : decode cX5_isRow 26 = .ok (.ireturn, 1) := by decide +kernel
theorem dX5_isSpan_0 : decode cX5_isSpan 0 = .ok (.iload_n 0, 1) := by decide +kernel
theorem dX5_isSpan_1 : decode cX5_isSpan 1 = .ok (.bipush (-100), 2) := by decide +kernel
theorem dX5_isSpan_3 : decode cX5_isSpan 3 = .ok (.if_icmp .lt 18, 3) := by decide +kernel
theorem dX5_isSpan_6 : decode cX5_isSpan 6 = .ok (.iload_n 1, 1) := by decide +kernel
theorem dX5_isSpan_7 : decode cX5_isSpan 7 = .ok (.bipush 100, 2) := by decide +kernel
theorem dX5_isSpan_9 : decode cX5_isSpan 9 = .ok (.if_icmp .gt 12, 3) := by decide +kernel
theorem dX5_isSpan_12 : decode cX5_isSpan 12 = .ok (.iload_n 0, 1) := by decide +kernel
theorem dX5_isSpan_13 : decode cX5_isSpan 13 = .ok (.iload_n 1, 1) := by decide +kernel
theorem dX5_isSpan_14 : decode cX5_isSpan 14 = .ok (.if_icmp .gt 7, 3) := by decide +kernel
theorem dX5_isSpan_17 : decode cX5_isSpan 17 = .ok (.iconst 1, 1) := by decide +kernel
theorem dX5_isSpan_18 : decode cX5_isSpan 18 = .ok (.goto 4, 3) := by decide +kernel
theorem dX5_isSpan_21 : decode cX5_isSpan 21 = .ok (.iconst 0, 1) := by decide +kernel
theorem dX5_isSpan_22 : decode cX5_isSpan 22 = .ok (.ireturn, 1) := by decide +kernel
set_option maxRecDepth 20000 in
theorem ggX5_name_X5_isSpan : GoodIn wsX5_name wsX5_isSpan := goodIn_r _ [10] (by decide +kernel) (by decide +kernel)
set_option maxRecDepth 20000 in
theorem gX5_name_X5_isSpan : GoodIn wsX5_name (va_wsS RX5 131 yX5_isSpan wsX5_isSpan) := goodIn_app (goodIn_of _ (by decide +kernel)) ggX5_name_X5_isSpan
theorem dX5_name_0 : decode cX5_name 0 = .ok (.iload_n 1, 1) := by decide +kernel
theorem dX5_name_1 : decode cX5_name 1 = .ok (.iload_n 2, 1) := by decide +kernel
theorem dX5_name_2 : decode cX5_name 2 = .ok (.invokestatic 131, 3) := by decide +kernel
theorem dX5_name_5 : decode cX5_name 5 = .ok (.ifCond .ne 6, 3) := by decide +kernel
theorem dX5_name_8 : decode cX5_name 8 = .ok (.bipush (-2), 2) := by decide +kernel
theorem dX5_name_10 : decode cX5_name 10 = .ok (.ireturn, 1) := by decide +kernel
theorem dX5_name_11 : decode cX5_name 11 = .ok (.aload_n 0, 1) := by decide +kernel
theorem dX5_name_12 : decode cX5_name 12 = .ok (.getfield 66, 3) := by decide +kernel
theorem dX5_name_15 : decode cX5_name 15 = .ok (.iconst 5, 1) := by decide +kernel
theorem dX5_name_16 : decode cX5_name 16 = .ok (.if_icmp .ne 6, 3) := by decide +kernel
theorem dX5_name_19 : decode cX5_name 19 = .ok (.bipush (-4), 2) := by decide +kernel
theorem dX5_name_21 : decode cX5_name 21 = .ok (.ireturn, 1) := by decide +kernel
theorem dX5_name_22 : decode cX5_name 22 = .ok (.aload_n 0, 1) := by decide +kernel
theorem dX5_name_23 : decode cX5_name 23 = .ok (.getfield 7, 3) := by decide +kernel
theorem dX5_name_26 : decode cX5_name 26 = .ok (.aload_n 0, 1) := by decide +kernel
theorem dX5_name_27 : decode cX5_name 27 = .ok (.getfield 66, 3) := by decide +kernel
theorem dX5_name_30 : decode cX5_name 30 = .ok (.iload_n 1, 1) := by decide +kernel
theorem dX5_name_31 : decode cX5_name 31 = .ok (.iastore, 1) := by decide +kernel
theorem dX5_name_32 : decode cX5_name 32 = .ok (.aload_n 0, 1) := by decide +kernel
theorem dX5_name_33 : decode cX5_name 33 = .ok (.getfield 13, 3) := by decide +kernel
theorem dX5_name_36 : decode cX5_name 36 = .ok (.aload_n 0, 1) := by decide +kernel
theorem dX5_name_37 : decode cX5_name 37 = .ok (.getfield 66, 3) := by decide +kernel
theorem dX5_name_40 : decode cX5_name 40 = .ok (.iload_n 2, 1) := by decide +kernel
theorem dX5_name_41 : decode cX5_name 41 = .ok (.iastore, 1) := by decide +kernel
theorem dX5_name_42 : decode cX5_name 42 = .ok (.aload_n 0, 1) := by decide +kernel
theorem dX5_name_43 : decode cX5_name 43 = .ok (.getfield 16, 3) := by decide +kernel
theorem dX5_name_46 : decode cX5_name 46 = .ok (.aload_n 0, 1) := by decide +kernel
theorem dX5_name_47 : decode cX5_name 47 = .ok (.getfield 66, 3) := by decide +kernel
theorem dX5_name_50 : decode cX5_name 50 = .ok (.iconst 0, 1) := by decide +kernel
theorem dX5_name_51 : decode cX5_name 51 = .ok (.iastore, 1) := by decide +kernel
theorem dX5_name_52 : decode cX5_name 52 = .ok (.iconst 0, 1) := by decide +kernel
theorem dX5_name_53 : decode cX5_name 53 = .ok (.istore_n 3, 1) := by decide +kernel
theorem dX5_name_54 : decode cX5_name 54 = .ok (.iload_n 3, 1) := by decide +kernel
theorem dX5_name_55 : decode cX5_name 55 = .ok (.bipush 8, 2) := by decide +kernel
theorem dX5_name_57 : decode cX5_name 57 = .ok (.if_icmp .ge 23, 3) := by decide +kernel
theorem dX5_name_60 : decode cX5_name 60 = .ok (.aload_n 0, 1) := by decide +kernel
theorem dX5_name_61 : decode cX5_name 61 = .ok (.getfield 25, 3) := by decide +kernel
theorem dX5_name_64 : decode cX5_name 64 = .ok (.iconst 5, 1) := by decide +kernel
theorem dX5_name_65 : decode cX5_name 65 = .ok (.iload_n 3, 1) := by decide +kernel
theorem dX5_name_66 : decode cX5_name 66 = .ok (.imul, 1) := by decide +kernel
theorem dX5_name_67 : decode cX5_name 67 = .ok (.aload_n 0, 1) := by decide +kernel
theorem dX5_name_68 : decode cX5_name 68 = .ok (.getfield 66, 3) := by decide +kernel
theorem dX5_name_71 : decode cX5_name 71 = .ok (.iadd, 1) := by decide +kernel
theorem dX5_name_72 : decode cX5_name 72 = .ok (.iconst 0, 1) := by decide +kernel
theorem dX5_name_73 : decode cX5_name 73 = .ok (.iastore, 1) := by decide +kernel
theorem dX5_name_74 : decode cX5_name 74 = .ok (.iinc 3 1, 3) := by decide +kernel
theorem dX5_name_77 : decode cX5_name 77 = .ok (.goto (-23), 3) := by decide +kernel
theorem dX5_name_80 : decode cX5_name 80 = .ok (.aload_n 0, 1) := by decide +kernel
theorem dX5_name_81 : decode cX5_name 81 = .ok (.dup, 1) := by decide +kernel
theorem dX5_name_82 : decode cX5_name 82 = .ok (.getfield 66, 3) := by decide +kernel
theorem dX5_name_85 : decode cX5_name 85 = .ok (.iconst 1, 1) := by decide +kernel
theorem dX5_name_86 : decode cX5_name 86 = .ok (.iadd, 1) := by decide +kernel
theorem dX5_name_87 : decode cX5_name 87 = .ok (.putfield 66, 3) := by decide +kernel
theorem dX5_name_90 : decode cX5_name 90 = .ok (.aload_n 0, 1) := by decide +kernel
theorem dX5_name_91 : decode cX5_name 91 = .ok (.iconst 0, 1) := by decide +kernel
theorem dX5_name_92 : decode cX5_name 92 = .ok (.putfield 117, 3) := by decide +kernel
theorem dX5_name_95 : decode cX5_name 95 = .ok (.aload_n 0, 1) := by decide +kernel
theorem dX5_name_96 : decode cX5_name 96 = .ok (.getfield 66, 3) := by decide +kernel
theorem dX5_name_99 : decode cX5_name 99 = .ok (.iconst 1, 1) := by decide +kernel
theorem dX5_name_100 : decode cX5_name 100 = .ok (.isub, 1) := by decide +kernel
theorem dX5_name_101 : decode cX5_name 101 = .ok (.ireturn, 1) := by decide +kernel
set_option maxRecDepth 20000 in
theorem ggX5_span_X5_isName : GoodIn wsX5_span wsX5_isName := goodIn_r _ [8, 9, 13, 14, 15, 16, 17, 18, 19, 20, 21, 22, 23, 24, 25, 26, 27, 28, 29, 30, 31, 32, 33, 34, 35, 36, 37, 38, 39, 40] (by decide +kernel) (by decide +kernel)
set_option maxRecDepth 20000 in
theorem gX5_span_X5_isName : GoodIn wsX5_span (wsV RX5 134 RX5 yX5_isName wsX5_isName) := goodIn_app (goodIn_of _ (by decide +kernel)) ggX5_span_X5_isName
set_option maxRecDepth 20000 in
theorem ggX5_span_X5_isSpan : GoodIn wsX5_span wsX5_isSpan := goodIn_r _ [12] (by decide +kernel) (by decide +kernel)
set_option maxRecDepth 20000 in
theorem gX5_span_X5_isSpan : GoodIn wsX5_span (va_wsS RX5 131 yX5_isSpan wsX5_isSpan) := goodIn_app (goodIn_of _ (by decide +kernel)) ggX5_span_X5_isSpan
theorem dX5_span_0 : decode cX5_span 0 = .ok (.aload_n 0, 1) := by decide +kernel
theorem dX5_span_1 : decode cX5_span 1 = .ok (.iload_n 1, 1) := by decide +kernel
theorem dX5_span_2 : decode cX5_span 2 = .ok (.invokevirtual 134, 3) := by decide +kernel
theorem dX5_span_5 : decode cX5_span 5 = .ok (.ifCond .ne 5, 3) := by decide +kernel
theorem dX5_span_8 : decode cX5_span 8 = .ok (.iconst (-1), 1) := by decide +kernel
theorem dX5_span_9 : decode cX5_span 9 = .ok (.ireturn, 1) := by decide +kernel
theorem dX5_span_10 : decode cX5_span 10 = .ok (.iload_n 2, 1) := by decide +kernel
theorem dX5_span_11 : decode cX5_span 11 = .ok (.iload_n 3, 1) := by decide +kernel
theorem dX5_span_12 : decode cX5_span 12 = .ok (.invokestatic 131, 3) := by decide +kernel
theorem dX5_span_15 : decode cX5_span 15 = .ok (.ifCond .ne 6, 3) := by decide +kernel
theorem dX5_span_18 : decode cX5_span 18 = .ok (.bipush (-2), 2) := by decide +kernel
theorem dX5_span_20 : decode cX5_span 20 = .ok (.ireturn, 1) := by decide +kernel
theorem dX5_span_21 : decode cX5_span 21 = .ok (.aload_n 0, 1) := by decide +kernel
theorem dX5_span_22 : decode cX5_span 22 = .ok (.getfield 7, 3) := by decide +kernel
theorem dX5_span_25 : decode cX5_span 25 = .ok (.iload_n 1, 1) := by decide +kernel
theorem dX5_span_26 : decode cX5_span 26 = .ok (.iload_n 2, 1) := by decide +kernel
theorem dX5_span_27 : decode cX5_span 27 = .ok (.iastore, 1) := by decide +kernel
theorem dX5_span_28 : decode cX5_span 28 = .ok (.aload_n 0, 1) := by decide +kernel
theorem dX5_span_29 : decode cX5_span 29 = .ok (.getfield 13, 3) := by decide +kernel
theorem dX5_span_32 : decode cX5_span 32 = .ok (.iload_n 1, 1) := by decide +kernel
theorem dX5_span_33 : decode cX5_span 33 = .ok (.iload_n 3, 1) := by decide +kernel
theorem dX5_span_34 : decode cX5_span 34 = .ok (.iastore, 1) := by decide +kernel
theorem dX5_span_35 : decode cX5_span 35 = .ok (.aload_n 0, 1) := by decide +kernel
theorem dX5_span_36 : decode cX5_span 36 = .ok (.iconst 0, 1) := by decide +kernel
theorem dX5_span_37 : decode cX5_span 37 = .ok (.putfield 117, 3) := by decide +kernel
theorem dX5_span_40 : decode cX5_span 40 = .ok (.iconst 1, 1) := by decide +kernel
theorem dX5_span_41 : decode cX5_span 41 = .ok (.ireturn, 1) := by decide +kernel
set_option maxRecDepth 20000 in
theorem ggX5_cost_X5_isName : GoodIn wsX5_cost wsX5_isName := goodIn_r _ [7, 8, 9, 10, 11, 12, 13, 14, 15, 16, 17, 18, 19, 20, 21, 22, 23, 24, 25, 26, 27, 28, 29, 30, 31, 32, 33, 34, 35, 36] (by decide +kernel) (by decide +kernel)
set_option maxRecDepth 20000 in
theorem gX5_cost_X5_isName : GoodIn wsX5_cost (wsV RX5 134 RX5 yX5_isName wsX5_isName) := goodIn_app (goodIn_of _ (by decide +kernel)) ggX5_cost_X5_isName
theorem dX5_cost_0 : decode cX5_cost 0 = .ok (.aload_n 0, 1) := by decide +kernel
theorem dX5_cost_1 : decode cX5_cost 1 = .ok (.iload_n 1, 1) := by decide +kernel
theorem dX5_cost_2 : decode cX5_cost 2 = .ok (.invokevirtual 134, 3) := by decide +kernel
theorem dX5_cost_5 : decode cX5_cost 5 = .ok (.ifCond .ne 5, 3) := by decide +kernel
theorem dX5_cost_8 : decode cX5_cost 8 = .ok (.iconst (-1), 1) := by decide +kernel
theorem dX5_cost_9 : decode cX5_cost 9 = .ok (.ireturn, 1) := by decide +kernel
theorem dX5_cost_10 : decode cX5_cost 10 = .ok (.iload_n 2, 1) := by decide +kernel
theorem dX5_cost_11 : decode cX5_cost 11 = .ok (.bipush (-99), 2) := by decide +kernel
theorem dX5_cost_13 : decode cX5_cost 13 = .ok (.if_icmp .lt 9, 3) := by decide +kernel
theorem dX5_cost_16 : decode cX5_cost 16 = .ok (.iload_n 2, 1) := by decide +kernel
theorem dX5_cost_17 : decode cX5_cost 17 = .ok (.bipush 99, 2) := by decide +kernel
theorem dX5_cost_19 : decode cX5_cost 19 = .ok (.if_icmp .le 6, 3) := by decide +kernel
theorem dX5_cost_22 : decode cX5_cost 22 = .ok (.bipush (-2), 2) := by decide +kernel
theorem dX5_cost_24 : decode cX5_cost 24 = .ok (.ireturn, 1) := by decide +kernel
theorem dX5_cost_25 : decode cX5_cost 25 = .ok (.aload_n 0, 1) := by decide +kernel
theorem dX5_cost_26 : decode cX5_cost 26 = .ok (.getfield 16, 3) := by decide +kernel
theorem dX5_cost_29 : decode cX5_cost 29 = .ok (.iload_n 1, 1) := by decide +kernel
theorem dX5_cost_30 : decode cX5_cost 30 = .ok (.iaload, 1) := by decide +kernel
theorem dX5_cost_31 : decode cX5_cost 31 = .ok (.istore_n 3, 1) := by decide +kernel
theorem dX5_cost_32 : decode cX5_cost 32 = .ok (.aload_n 0, 1) := by decide +kernel
theorem dX5_cost_33 : decode cX5_cost 33 = .ok (.getfield 16, 3) := by decide +kernel
theorem dX5_cost_36 : decode cX5_cost 36 = .ok (.iload_n 1, 1) := by decide +kernel
theorem dX5_cost_37 : decode cX5_cost 37 = .ok (.iload_n 2, 1) := by decide +kernel
theorem dX5_cost_38 : decode cX5_cost 38 = .ok (.iastore, 1) := by decide +kernel
theorem dX5_cost_39 : decode cX5_cost 39 = .ok (.aload_n 0, 1) := by decide +kernel
theorem dX5_cost_40 : decode cX5_cost 40 = .ok (.iconst 0, 1) := by decide +kernel
theorem dX5_cost_41 : decode cX5_cost 41 = .ok (.putfield 117, 3) := by decide +kernel
theorem dX5_cost_44 : decode cX5_cost 44 = .ok (.iload_n 3, 1) := by decide +kernel
theorem dX5_cost_45 : decode cX5_cost 45 = .ok (.ireturn, 1) := by decide +kernel
theorem dX5_row_0 : decode cX5_row 0 = .ok (.iload_n 1, 1) := by decide +kernel
theorem dX5_row_1 : decode cX5_row 1 = .ok (.ifCond .lt 22, 3) := by decide +kernel
theorem dX5_row_4 : decode cX5_row 4 = .ok (.iload_n 1, 1) := by decide +kernel
theorem dX5_row_5 : decode cX5_row 5 = .ok (.iconst 2, 1) := by decide +kernel
theorem dX5_row_6 : decode cX5_row 6 = .ok (.if_icmp .gt 17, 3) := by decide +kernel
theorem dX5_row_9 : decode cX5_row 9 = .ok (.iload_n 2, 1) := by decide +kernel
theorem dX5_row_10 : decode cX5_row 10 = .ok (.sipush (-1000), 3) := by decide +kernel
theorem dX5_row_13 : decode cX5_row 13 = .ok (.if_icmp .lt 10, 3) := by decide +kernel
theorem dX5_row_16 : decode cX5_row 16 = .ok (.iload_n 2, 1) := by decide +kernel
theorem dX5_row_17 : decode cX5_row 17 = .ok (.sipush 1000, 3) := by decide +kernel
theorem dX5_row_20 : decode cX5_row 20 = .ok (.if_icmp .le 6, 3) := by decide +kernel
theorem dX5_row_23 : decode cX5_row 23 = .ok (.bipush (-2), 2) := by decide +kernel
theorem dX5_row_25 : decode cX5_row 25 = .ok (.ireturn, 1) := by decide +kernel
theorem dX5_row_26 : decode cX5_row 26 = .ok (.aload_n 0, 1) := by decide +kernel
theorem dX5_row_27 : decode cX5_row 27 = .ok (.getfield 78, 3) := by decide +kernel
theorem dX5_row_30 : decode cX5_row 30 = .ok (.bipush 8, 2) := by decide +kernel
theorem dX5_row_32 : decode cX5_row 32 = .ok (.if_icmp .ne 6, 3) := by decide +kernel
theorem dX5_row_35 : decode cX5_row 35 = .ok (.bipush (-4), 2) := by decide +kernel
theorem dX5_row_37 : decode cX5_row 37 = .ok (.ireturn, 1) := by decide +kernel
theorem dX5_row_38 : decode cX5_row 38 = .ok (.aload_n 0, 1) := by decide +kernel
theorem dX5_row_39 : decode cX5_row 39 = .ok (.getfield 19, 3) := by decide +kernel
theorem dX5_row_42 : decode cX5_row 42 = .ok (.aload_n 0, 1) := by decide +kernel
theorem dX5_row_43 : decode cX5_row 43 = .ok (.getfield 78, 3) := by decide +kernel
theorem dX5_row_46 : decode cX5_row 46 = .ok (.iload_n 1, 1) := by decide +kernel
theorem dX5_row_47 : decode cX5_row 47 = .ok (.iastore, 1) := by decide +kernel
theorem dX5_row_48 : decode cX5_row 48 = .ok (.aload_n 0, 1) := by decide +kernel
theorem dX5_row_49 : decode cX5_row 49 = .ok (.getfield 22, 3) := by decide +kernel
theorem dX5_row_52 : decode cX5_row 52 = .ok (.aload_n 0, 1) := by decide +kernel
theorem dX5_row_53 : decode cX5_row 53 = .ok (.getfield 78, 3) := by decide +kernel
theorem dX5_row_56 : decode cX5_row 56 = .ok (.iload_n 2, 1) := by decide +kernel
theorem dX5_row_57 : decode cX5_row 57 = .ok (.iastore, 1) := by decide +kernel
theorem dX5_row_58 : decode cX5_row 58 = .ok (.aload_n 0, 1) := by decide +kernel
theorem dX5_row_59 : decode cX5_row 59 = .ok (.getfield 28, 3) := by decide +kernel
theorem dX5_row_62 : decode cX5_row 62 = .ok (.aload_n 0, 1) := by decide +kernel
theorem dX5_row_63 : decode cX5_row 63 = .ok (.getfield 78, 3) := by decide +kernel
theorem dX5_row_66 : decode cX5_row 66 = .ok (.iconst 1, 1) := by decide +kernel
theorem dX5_row_67 : decode cX5_row 67 = .ok (.bastore, 1) := by decide +kernel
theorem dX5_row_68 : decode cX5_row 68 = .ok (.iconst 0, 1) := by decide +kernel
theorem dX5_row_69 : decode cX5_row 69 = .ok (.istore_n 3, 1) := by decide +kernel
theorem dX5_row_70 : decode cX5_row 70 = .ok (.iload_n 3, 1) := by decide +kernel
theorem dX5_row_71 : decode cX5_row 71 = .ok (.iconst 5, 1) := by decide +kernel
theorem dX5_row_72 : decode cX5_row 72 = .ok (.if_icmp .ge 23, 3) := by decide +kernel
theorem dX5_row_75 : decode cX5_row 75 = .ok (.aload_n 0, 1) := by decide +kernel
theorem dX5_row_76 : decode cX5_row 76 = .ok (.getfield 25, 3) := by decide +kernel
theorem dX5_row_79 : decode cX5_row 79 = .ok (.iconst 5, 1) := by decide +kernel
theorem dX5_row_80 : decode cX5_row 80 = .ok (.aload_n 0, 1) := by decide +kernel
theorem dX5_row_81 : decode cX5_row 81 = .ok (.getfield 78, 3) := by decide +kernel
theorem dX5_row_84 : decode cX5_row 84 = .ok (.imul, 1) := by decide +kernel
theorem dX5_row_85 : decode cX5_row 85 = .ok (.iload_n 3, 1) := by decide +kernel
theorem dX5_row_86 : decode cX5_row 86 = .ok (.iadd, 1) := by decide +kernel
theorem dX5_row_87 : decode cX5_row 87 = .ok (.iconst 0, 1) := by decide +kernel
theorem dX5_row_88 : decode cX5_row 88 = .ok (.iastore, 1) := by decide +kernel
theorem dX5_row_89 : decode cX5_row 89 = .ok (.iinc 3 1, 3) := by decide +kernel
theorem dX5_row_92 : decode cX5_row 92 = .ok (.goto (-22), 3) := by decide +kernel
theorem dX5_row_95 : decode cX5_row 95 = .ok (.aload_n 0, 1) := by decide +kernel
theorem dX5_row_96 : decode cX5_row 96 = .ok (.dup, 1) := by decide +kernel
theorem dX5_row_97 : decode cX5_row 97 = .ok (.getfield 78, 3) := by decide +kernel
theorem dX5_row_100 : decode cX5_row 100 = .ok (.iconst 1, 1) := by decide +kernel
theorem dX5_row_101 : decode cX5_row 101 = .ok (.iadd, 1) := by decide +kernel
theorem dX5_row_102 : decode cX5_row 102 = .ok (.putfield 78, 3) := by decide +kernel
theorem dX5_row_105 : decode cX5_row 105 = .ok (.aload_n 0, 1) := by decide +kernel
theorem dX5_row_106 : decode cX5_row 106 = .ok (.iconst 0, 1) := by decide +kernel
theorem dX5_row_107 : decode cX5_row 107 = .ok (.putfield 117, 3) := by decide +kernel
theorem dX5_row_110 : decode cX5_row 110 = .ok (.aload_n 0, 1) := by decide +kernel
theorem dX5_row_111 : decode cX5_row 111 = .ok (.getfield 78, 3) := by decide +kernel
theorem dX5_row_114 : decode cX5_row 114 = .ok (.iconst 1, 1) := by decide +kernel
theorem dX5_row_115 : decode cX5_row 115 = .ok (.isub, 1) := by decide +kernel
theorem dX5_row_116 : decode cX5_row 116 = .ok (.ireturn, 1) := by decide +kernel
set_option maxRecDepth 20000 in
theorem ggX5_right_X5_isRow : GoodIn wsX5_right wsX5_isRow := goodIn_r _ [7, 8, 9, 10, 11, 12, 13, 14, 15, 16, 17, 18, 19, 20, 21, 22, 23, 24, 25, 26, 27, 28, 29, 30, 31, 32, 33, 34, 35, 36, 37] (by decide +kernel) (by decide +kernel)
set_option maxRecDepth 20000 in
theorem gX5_right_X5_isRow : GoodIn wsX5_right (wsV RX5 137 RX5 yX5_isRow wsX5_isRow) := goodIn_app (goodIn_of _ (by decide +kernel)) ggX5_right_X5_isRow
theorem dX5_right_0 : decode cX5_right 0 = .ok (.aload_n 0, 1) := by decide +kernel
theorem dX5_right_1 : decode cX5_right 1 = .ok (.iload_n 1, 1) := by decide +kernel
theorem dX5_right_2 : decode cX5_right 2 = .ok (.invokevirtual 137, 3) := by decide +kernel
theorem dX5_right_5 : decode cX5_right 5 = .ok (.ifCond .ne 5, 3) := by decide +kernel
theorem dX5_right_8 : decode cX5_right 8 = .ok (.iconst (-1), 1) := by decide +kernel
theorem dX5_right_9 : decode cX5_right 9 = .ok (.ireturn, 1) := by decide +kernel
theorem dX5_right_10 : decode cX5_right 10 = .ok (.iload_n 2, 1) := by decide +kernel
theorem dX5_right_11 : decode cX5_right 11 = .ok (.sipush (-1000), 3) := by decide +kernel
theorem dX5_right_14 : decode cX5_right 14 = .ok (.if_icmp .lt 10, 3) := by decide +kernel
theorem dX5_right_17 : decode cX5_right 17 = .ok (.iload_n 2, 1) := by decide +kernel
theorem dX5_right_18 : decode cX5_right 18 = .ok (.sipush 1000, 3) := by decide +kernel
theorem dX5_right_21 : decode cX5_right 21 = .ok (.if_icmp .le 6, 3) := by decide +kernel
theorem dX5_right_24 : decode cX5_right 24 = .ok (.bipush (-2), 2) := by decide +kernel
theorem dX5_right_26 : decode cX5_right 26 = .ok (.ireturn, 1) := by decide +kernel
theorem dX5_right_27 : decode cX5_right 27 = .ok (.aload_n 0, 1) := by decide +kernel
theorem dX5_right_28 : decode cX5_right 28 = .ok (.getfield 22, 3) := by decide +kernel
theorem dX5_right_31 : decode cX5_right 31 = .ok (.iload_n 1, 1) := by decide +kernel
theorem dX5_right_32 : decode cX5_right 32 = .ok (.iload_n 2, 1) := by decide +kernel
theorem dX5_right_33 : decode cX5_right 33 = .ok (.iastore, 1) := by decide +kernel
theorem dX5_right_34 : decode cX5_right 34 = .ok (.aload_n 0, 1) := by decide +kernel
theorem dX5_right_35 : decode cX5_right 35 = .ok (.iconst 0, 1) := by decide +kernel
theorem dX5_right_36 : decode cX5_right 36 = .ok (.putfield 117, 3) := by decide +kernel
theorem dX5_right_39 : decode cX5_right 39 = .ok (.iconst 1, 1) := by decide +kernel
theorem dX5_right_40 : decode cX5_right 40 = .ok (.ireturn, 1) := by decide +kernel
set_option maxRecDepth 20000 in
theorem ggX5_factor_X5_isRow : GoodIn wsX5_factor wsX5_isRow := goodIn_r _ [7, 8, 9, 15, 16, 17, 18, 19, 20, 21, 22, 23, 24, 25, 26, 27, 28, 29, 30, 31, 32, 33, 34, 35, 36, 37, 38, 39, 40, 41, 42] (by decide +kernel) (by decide +kernel)
set_option maxRecDepth 20000 in
theorem gX5_factor_X5_isRow : GoodIn wsX5_factor (wsV RX5 137 RX5 yX5_isRow wsX5_isRow) := goodIn_app (goodIn_of _ (by decide +kernel)) ggX5_factor_X5_isRow
set_option maxRecDepth 20000 in
theorem ggX5_factor_X5_isName : GoodIn wsX5_factor wsX5_isName := goodIn_r _ [13, 14, 15, 16, 17, 18, 19, 20, 21, 22, 23, 24, 25, 26, 27, 28, 29, 30, 31, 32, 33, 34, 35, 36, 37, 38, 39, 40, 41, 42] (by decide +kernel) (by decide +kernel)
set_option maxRecDepth 20000 in
theorem gX5_factor_X5_isName : GoodIn wsX5_factor (wsV RX5 134 RX5 yX5_isName wsX5_isName) := goodIn_app (goodIn_of _ (by decide +kernel)) ggX5_factor_X5_isName
theorem dX5_factor_0 : decode cX5_factor 0 = .ok (.aload_n 0, 1) := by decide +kernel
theorem dX5_factor_1 : decode cX5_factor 1 = .ok (.iload_n 1, 1) := by decide +kernel
theorem dX5_factor_2 : decode cX5_factor 2 = .ok (.invokevirtual 137, 3) := by decide +kernel
theorem dX5_factor_5 : decode cX5_factor 5 = .ok (.ifCond .eq 11, 3) := by decide +kernel
theorem dX5_factor_8 : decode cX5_factor 8 = .ok (.aload_n 0, 1) := by decide +kernel
theorem dX5_factor_9 : decode cX5_factor 9 = .ok (.iload_n 2, 1) := by decide +kernel
theorem dX5_factor_10 : decode cX5_factor 10 = .ok (.invokevirtual 134, 3) := by decide +kernel
theorem dX5_factor_13 : decode cX5_factor 13 = .ok (.ifCond .ne 5, 3) := by decide +kernel
theorem dX5_factor_16 : decode cX5_factor 16 = .ok (.iconst (-1), 1) := by decide +kernel
theorem dX5_factor_17 : decode cX5_factor 17 = .ok (.ireturn, 1) := by decide +kernel
theorem dX5_factor_18 : decode cX5_factor 18 = .ok (.iload_n 3, 1) := by decide +kernel
theorem dX5_factor_19 : decode cX5_factor 19 = .ok (.bipush (-9), 2) := by decide +kernel
theorem dX5_factor_21 : decode cX5_factor 21 = .ok (.if_icmp .lt 9, 3) := by decide +kernel
theorem dX5_factor_24 : decode cX5_factor 24 = .ok (.iload_n 3, 1) := by decide +kernel
theorem dX5_factor_25 : decode cX5_factor 25 = .ok (.bipush 9, 2) := by decide +kernel
theorem dX5_factor_27 : decode cX5_factor 27 = .ok (.if_icmp .le 6, 3) := by decide +kernel
theorem dX5_factor_30 : decode cX5_factor 30 = .ok (.bipush (-2), 2) := by decide +kernel
theorem dX5_factor_32 : decode cX5_factor 32 = .ok (.ireturn, 1) := by decide +kernel
theorem dX5_factor_33 : decode cX5_factor 33 = .ok (.aload_n 0, 1) := by decide +kernel
theorem dX5_factor_34 : decode cX5_factor 34 = .ok (.getfield 25, 3) := by decide +kernel
theorem dX5_factor_37 : decode cX5_factor 37 = .ok (.iconst 5, 1) := by decide +kernel
theorem dX5_factor_38 : decode cX5_factor 38 = .ok (.iload_n 1, 1) := by decide +kernel
theorem dX5_factor_39 : decode cX5_factor 39 = .ok (.imul, 1) := by decide +kernel
theorem dX5_factor_40 : decode cX5_factor 40 = .ok (.iload_n 2, 1) := by decide +kernel
theorem dX5_factor_41 : decode cX5_factor 41 = .ok (.iadd, 1) := by decide +kernel
theorem dX5_factor_42 : decode cX5_factor 42 = .ok (.iload_n 3, 1) := by decide +kernel
theorem dX5_factor_43 : decode cX5_factor 43 = .ok (.iastore, 1) := by decide +kernel
theorem dX5_factor_44 : decode cX5_factor 44 = .ok (.aload_n 0, 1) := by decide +kernel
theorem dX5_factor_45 : decode cX5_factor 45 = .ok (.iconst 0, 1) := by decide +kernel
theorem dX5_factor_46 : decode cX5_factor 46 = .ok (.putfield 117, 3) := by decide +kernel
theorem dX5_factor_49 : decode cX5_factor 49 = .ok (.iconst 1, 1) := by decide +kernel
theorem dX5_factor_50 : decode cX5_factor 50 = .ok (.ireturn, 1) := by decide +kernel
theorem dX5_rowCount_0 : decode cX5_rowCount 0 = .ok (.iconst 0, 1) := by decide +kernel
theorem dX5_rowCount_1 : decode cX5_rowCount 1 = .ok (.istore_n 1, 1) := by decide +kernel
theorem dX5_rowCount_2 : decode cX5_rowCount 2 = .ok (.iconst 0, 1) := by decide +kernel
theorem dX5_rowCount_3 : decode cX5_rowCount 3 = .ok (.istore_n 2, 1) := by decide +kernel
theorem dX5_rowCount_4 : decode cX5_rowCount 4 = .ok (.iload_n 2, 1) := by decide +kernel
theorem dX5_rowCount_5 : decode cX5_rowCount 5 = .ok (.aload_n 0, 1) := by decide +kernel
theorem dX5_rowCount_6 : decode cX5_rowCount 6 = .ok (.getfield 78, 3) := by decide +kernel
theorem dX5_rowCount_9 : decode cX5_rowCount 9 = .ok (.if_icmp .ge 26, 3) := by decide +kernel
theorem dX5_rowCount_12 : decode cX5_rowCount 12 = .ok (.iload_n 1, 1) := by decide +kernel
theorem dX5_rowCount_13 : decode cX5_rowCount 13 = .ok (.aload_n 0, 1) := by decide +kernel
theorem dX5_rowCount_14 : decode cX5_rowCount 14 = .ok (.getfield 28, 3) := by decide +kernel
theorem dX5_rowCount_17 : decode cX5_rowCount 17 = .ok (.iload_n 2, 1) := by decide +kernel
theorem dX5_rowCount_18 : decode cX5_rowCount 18 = .ok (.baload, 1) := by decide +kernel
theorem dX5_rowCount_19 : decode cX5_rowCount 19 = .ok (.ifCond .eq 7, 3) := by decide +kernel
theorem dX5_rowCount_22 : decode cX5_rowCount 22 = .ok (.iconst 1, 1) := by decide +kernel
theorem dX5_rowCount_23 : decode cX5_rowCount 23 = .ok (.goto 4, 3) := by decide +kernel
theorem dX5_rowCount_26 : decode cX5_rowCount 26 = .ok (.iconst 0, 1) := by decide +kernel
theorem dX5_rowCount_27 : decode cX5_rowCount 27 = .ok (.iadd, 1) := by decide +kernel
theorem dX5_rowCount_28 : decode cX5_rowCount 28 = .ok (.istore_n 1, 1) := by decide +kernel
theorem dX5_rowCount_29 : decode cX5_rowCount 29 = .ok (.iinc 2 1, 3) := by decide +kernel
theorem dX5_rowCount_32 : decode cX5_rowCount 32 = .ok (.goto (-28), 3) := by decide +kernel
theorem dX5_rowCount_35 : decode cX5_rowCount 35 = .ok (.iload_n 1, 1) := by decide +kernel
theorem dX5_rowCount_36 : decode cX5_rowCount 36 = .ok (.ireturn, 1) := by decide +kernel
set_option maxRecDepth 20000 in
theorem ggX5_drop_X5_isRow : GoodIn wsX5_drop wsX5_isRow := goodIn_r _ [7, 8, 1, 13, 14, 15, 16, 17, 18, 19, 20, 21, 22, 23, 24, 25, 26, 27, 28, 29, 30, 31, 32, 33, 34, 35, 36, 37, 38, 39, 40] (by decide +kernel) (by decide +kernel)
set_option maxRecDepth 20000 in
theorem gX5_drop_X5_isRow : GoodIn wsX5_drop (wsV RX5 137 RX5 yX5_isRow wsX5_isRow) := goodIn_app (goodIn_of _ (by decide +kernel)) ggX5_drop_X5_isRow
set_option maxRecDepth 20000 in
theorem ggX5_drop_X5_rowCount : GoodIn wsX5_drop wsX5_rowCount := goodIn_r _ [12, 8, 1, 13, 14, 15, 16, 17, 18, 19, 20, 21, 22, 23, 24, 25, 26, 27, 28, 29, 30, 31, 32, 33, 34, 35, 36, 37, 38, 39, 40] (by decide +kernel) (by decide +kernel)
set_option maxRecDepth 20000 in
theorem gX5_drop_X5_rowCount : GoodIn wsX5_drop (wsV RX5 140 RX5 yX5_rowCount wsX5_rowCount) := goodIn_app (goodIn_of _ (by decide +kernel)) ggX5_drop_X5_rowCount
theorem dX5_drop_0 : decode cX5_drop 0 = .ok (.aload_n 0, 1) := by decide +kernel
theorem dX5_drop_1 : decode cX5_drop 1 = .ok (.iload_n 1, 1) := by decide +kernel
theorem dX5_drop_2 : decode cX5_drop 2 = .ok (.invokevirtual 137, 3) := by decide +kernel
theorem dX5_drop_5 : decode cX5_drop 5 = .ok (.ifCond .ne 5, 3) := by decide +kernel
theorem dX5_drop_8 : decode cX5_drop 8 = .ok (.iconst (-1), 1) := by decide +kernel
theorem dX5_drop_9 : decode cX5_drop 9 = .ok (.ireturn, 1) := by decide +kernel
theorem dX5_drop_10 : decode cX5_drop 10 = .ok (.aload_n 0, 1) := by decide +kernel
theorem dX5_drop_11 : decode cX5_drop 11 = .ok (.getfield 28, 3) := by decide +kernel
theorem dX5_drop_14 : decode cX5_drop 14 = .ok (.iload_n 1, 1) := by decide +kernel
theorem dX5_drop_15 : decode cX5_drop 15 = .ok (.iconst 0, 1) := by decide +kernel
theorem dX5_drop_16 : decode cX5_drop 16 = .ok (.bastore, 1) := by decide +kernel
theorem dX5_drop_17 : decode cX5_drop 17 = .ok (.aload_n 0, 1) := by decide +kernel
theorem dX5_drop_18 : decode cX5_drop 18 = .ok (.iconst 0, 1) := by decide +kernel
theorem dX5_drop_19 : decode cX5_drop 19 = .ok (.putfield 117, 3) := by decide +kernel
theorem dX5_drop_22 : decode cX5_drop 22 = .ok (.aload_n 0, 1) := by decide +kernel
theorem dX5_drop_23 : decode cX5_drop 23 = .ok (.invokevirtual 140, 3) := by decide +kernel
theorem dX5_drop_26 : decode cX5_drop 26 = .ok (.ireturn, 1) := by decide +kernel
theorem dX5_clear_0 : decode cX5_clear 0 = .ok (.aload_n 0, 1) := by decide +kernel
theorem dX5_clear_1 : decode cX5_clear 1 = .ok (.getfield 66, 3) := by decide +kernel
theorem dX5_clear_4 : decode cX5_clear 4 = .ok (.istore_n 1, 1) := by decide +kernel
theorem dX5_clear_5 : decode cX5_clear 5 = .ok (.aload_n 0, 1) := by decide +kernel
theorem dX5_clear_6 : decode cX5_clear 6 = .ok (.iconst 0, 1) := by decide +kernel
theorem dX5_clear_7 : decode cX5_clear 7 = .ok (.putfield 66, 3) := by decide +kernel
theorem dX5_clear_10 : decode cX5_clear 10 = .ok (.aload_n 0, 1) := by decide +kernel
theorem dX5_clear_11 : decode cX5_clear 11 = .ok (.iconst 0, 1) := by decide +kernel
theorem dX5_clear_12 : decode cX5_clear 12 = .ok (.putfield 78, 3) := by decide +kernel
theorem dX5_clear_15 : decode cX5_clear 15 = .ok (.aload_n 0, 1) := by decide +kernel
theorem dX5_clear_16 : decode cX5_clear 16 = .ok (.iconst 0, 1) := by decide +kernel
theorem dX5_clear_17 : decode cX5_clear 17 = .ok (.putfield 117, 3) := by decide +kernel
theorem dX5_clear_20 : decode cX5_clear 20 = .ok (.iload_n 1, 1) := by decide +kernel
theorem dX5_clear_21 : decode cX5_clear 21 = .ok (.ireturn, 1) := by decide +kernel
set_option maxRecDepth 20000 in
theorem ggX5_run_X5_know : GoodIn wsX5_run wsX5_know := goodIn_r _ [6, 7, 8, 1, 9, 10, 11, 12, 5, 13, 14, 15, 16, 17, 18, 19, 20, 21, 22, 23, 24, 25, 26, 27, 28, 29, 30, 31, 32, 33, 34, 35, 36, 37, 38, 39, 40, 41, 42, 43, 44, 45, 46, 47, 48, 49, 50, 51, 52, 53, 54, 55, 56, 57, 58, 59, 60, 61, 62, 63, 64, 65, 66, 67, 68, 69, 70, 71, 72, 73, 74, 75, 76, 77, 78, 79, 80, 81, 82, 83, 84, 85, 86, 87, 88, 89, 90, 91, 92, 93] (by decide +kernel) (by decide +kernel)
set_option maxRecDepth 20000 in
theorem gX5_run_X5_know : GoodIn wsX5_run (wsV RX5 143 RX5 yX5_know wsX5_know) := goodIn_app (goodIn_of _ (by decide +kernel)) ggX5_run_X5_know
theorem dX5_run_0 : decode cX5_run 0 = .ok (.aload_n 0, 1) := by decide +kernel
theorem dX5_run_1 : decode cX5_run 1 = .ok (.invokevirtual 143, 3) := by decide +kernel
theorem dX5_run_4 : decode cX5_run 4 = .ok (.aload_n 0, 1) := by decide +kernel
theorem dX5_run_5 : decode cX5_run 5 = .ok (.getfield 128, 3) := by decide +kernel
theorem dX5_run_8 : decode cX5_run 8 = .ok (.ifCond .eq 7, 3) := by decide +kernel
theorem dX5_run_11 : decode cX5_run 11 = .ok (.iconst 1, 1) := by decide +kernel
theorem dX5_run_12 : decode cX5_run 12 = .ok (.goto 4, 3) := by decide +kernel
theorem dX5_run_15 : decode cX5_run 15 = .ok (.iconst 0, 1) := by decide +kernel
theorem dX5_run_16 : decode cX5_run 16 = .ok (.ireturn, 1) := by decide +kernel
theorem dX5_isPart_0 : decode cX5_isPart 0 = .ok (.iload_n 0, 1) := by decide +kernel
theorem dX5_isPart_1 : decode cX5_isPart 1 = .ok (.ifCond .eq 8, 3) := by decide +kernel
theorem dX5_isPart_4 : decode cX5_isPart 4 = .ok (.iload_n 0, 1) := by decide +kernel
theorem dX5_isPart_5 : decode cX5_isPart 5 = .ok (.iconst 1, 1) := by decide +kernel
theorem dX5_isPart_6 : decode cX5_isPart 6 = .ok (.if_icmp .ne 7, 3) := by decide +kernel
theorem dX5_isPart_9 : decode cX5_isPart 9 = .ok (.iconst 1, 1) := by decide +kernel
theorem dX5_isPart_10 : decode cX5_isPart 10 = .ok (.goto 4, 3) := by decide +kernel
theorem dX5_isPart_13 : decode cX5_isPart 13 = .ok (.iconst 0, 1) := by decide +kernel
theorem dX5_isPart_14 : decode cX5_isPart 14 = .ok (.ireturn, 1) := by decide +kernel
set_option maxRecDepth 20000 in
theorem ggX5_least_X5_isPart : GoodIn wsX5_least wsX5_isPart := goodIn_r _ [9] (by decide +kernel) (by decide +kernel)
set_option maxRecDepth 20000 in
theorem gX5_least_X5_isPart : GoodIn wsX5_least (va_wsS RX5 146 yX5_isPart wsX5_isPart) := goodIn_app (goodIn_of _ (by decide +kernel)) ggX5_least_X5_isPart
set_option maxRecDepth 20000 in
theorem ggX5_least_X5_know : GoodIn wsX5_least wsX5_know := goodIn_r _ [13, 14, 15, 2, 16, 17, 18, 19, 8, 20, 21, 22, 23, 24, 25, 26, 27, 28, 29, 30, 31, 32, 33, 34, 35, 36, 37, 38, 39, 40, 41, 42, 43, 44, 45, 46, 3, 4, 47, 48, 49, 50, 51, 52, 53, 54, 55, 56, 57, 58, 59, 60, 61, 62, 63, 64, 65, 66, 67, 68, 69, 70, 74, 75, 76, 77, 78, 79, 80, 81, 82, 83, 84, 85, 86, 87, 88, 89, 90, 91, 92, 93, 94, 95, 96, 97, 98, 99, 100, 101] (by decide +kernel) (by decide +kernel)
set_option maxRecDepth 20000 in
theorem gX5_least_X5_know : GoodIn wsX5_least (wsV RX5 143 RX5 yX5_know wsX5_know) := goodIn_app (goodIn_of _ (by decide +kernel)) ggX5_least_X5_know
set_option maxRecDepth 20000 in
theorem ggX5_least_X5_lowest : GoodIn wsX5_least wsX5_lowest := goodIn_r _ [73] (by decide +kernel) (by decide +kernel)
set_option maxRecDepth 20000 in
theorem gX5_least_X5_lowest : GoodIn wsX5_least (va_wsS RX5 151 yX5_lowest wsX5_lowest) := goodIn_app (goodIn_of _ (by decide +kernel)) ggX5_least_X5_lowest
theorem dX5_least_0 : decode cX5_least 0 = .ok (.iload_n 1, 1) := by decide +kernel
theorem dX5_least_1 : decode cX5_least 1 = .ok (.invokestatic 146, 3) := by decide +kernel
theorem dX5_least_4 : decode cX5_least 4 = .ok (.ifCond .ne 7, 3) := by decide +kernel
theorem dX5_least_7 : decode cX5_least 7 = .ok (.ldc2_w 149, 3) := by decide +kernel
theorem dX5_least_10 : decode cX5_least 10 = .ok (.lreturn, 1) := by decide +kernel
theorem dX5_least_11 : decode cX5_least 11 = .ok (.aload_n 0, 1) := by decide +kernel
theorem dX5_least_12 : decode cX5_least 12 = .ok (.invokevirtual 143, 3) := by decide +kernel
theorem dX5_least_15 : decode cX5_least 15 = .ok (.aload_n 0, 1) := by decide +kernel
theorem dX5_least_16 : decode cX5_least 16 = .ok (.getfield 128, 3) := by decide +kernel
theorem dX5_least_19 : decode cX5_least 19 = .ok (.ifCond .eq 18, 3) := by decide +kernel
theorem dX5_least_22 : decode cX5_least 22 = .ok (.aload_n 0, 1) := by decide +kernel
theorem dX5_least_23 : decode cX5_least 23 = .ok (.getfield 108, 3) := by decide +kernel
theorem dX5_least_26 : decode cX5_least 26 = .ok (.aload_n 0, 1) := by decide +kernel
theorem dX5_least_27 : decode cX5_least 27 = .ok (.getfield 111, 3) := by decide +kernel
theorem dX5_least_30 : decode cX5_least 30 = .ok (.iload_n 1, 1) := by decide +kernel
theorem dX5_least_31 : decode cX5_least 31 = .ok (.invokestatic 151, 3) := by decide +kernel
theorem dX5_least_34 : decode cX5_least 34 = .ok (.goto 6, 3) := by decide +kernel
theorem dX5_least_37 : decode cX5_least 37 = .ok (.ldc2_w 155, 3) := by decide +kernel
theorem dX5_least_40 : decode cX5_least 40 = .ok (.lreturn, 1) := by decide +kernel
set_option maxRecDepth 20000 in
theorem ggX5_value_X5_isName : GoodIn wsX5_value wsX5_isName := goodIn_r _ [11, 12, 79, 80, 81, 82, 83, 84, 85, 86, 87, 88, 89, 90, 91, 92, 93, 94, 95, 96, 97, 98, 99, 100, 101, 102, 103, 104, 105, 106] (by decide +kernel) (by decide +kernel)
set_option maxRecDepth 20000 in
theorem gX5_value_X5_isName : GoodIn wsX5_value (wsV RX5 134 RX5 yX5_isName wsX5_isName) := goodIn_app (goodIn_of _ (by decide +kernel)) ggX5_value_X5_isName
set_option maxRecDepth 20000 in
theorem ggX5_value_X5_isPart : GoodIn wsX5_value wsX5_isPart := goodIn_r _ [15] (by decide +kernel) (by decide +kernel)
set_option maxRecDepth 20000 in
theorem gX5_value_X5_isPart : GoodIn wsX5_value (va_wsS RX5 146 yX5_isPart wsX5_isPart) := goodIn_app (goodIn_of _ (by decide +kernel)) ggX5_value_X5_isPart
set_option maxRecDepth 20000 in
theorem ggX5_value_X5_know : GoodIn wsX5_value wsX5_know := goodIn_r _ [19, 20, 21, 3, 22, 23, 24, 25, 10, 26, 27, 28, 29, 30, 31, 32, 33, 12, 34, 35, 36, 37, 38, 39, 40, 41, 42, 43, 44, 45, 46, 47, 48, 49, 50, 51, 52, 53, 54, 55, 4, 5, 56, 57, 58, 59, 60, 61, 62, 63, 64, 65, 66, 67, 68, 69, 70, 71, 72, 73, 74, 75, 79, 80, 81, 82, 83, 84, 85, 86, 87, 88, 89, 90, 91, 92, 93, 94, 95, 96, 97, 98, 99, 100, 101, 102, 103, 104, 105, 106] (by decide +kernel) (by decide +kernel)
set_option maxRecDepth 20000 in
theorem gX5_value_X5_know : GoodIn wsX5_value (wsV RX5 143 RX5 yX5_know wsX5_know) := goodIn_app (goodIn_of _ (by decide +kernel)) ggX5_value_X5_know
set_option maxRecDepth 20000 in
theorem ggX5_value_X5_lowest : GoodIn wsX5_value wsX5_lowest := goodIn_r _ [78] (by decide +kernel) (by decide +kernel)
set_option maxRecDepth 20000 in
theorem gX5_value_X5_lowest : GoodIn wsX5_value (va_wsS RX5 151 yX5_lowest wsX5_lowest) := goodIn_app (goodIn_of _ (by decide +kernel)) ggX5_value_X5_lowest
theorem dX5_value_0 : decode cX5_value 0 = .ok (.aload_n 0, 1) := by decide +kernel
theorem dX5_value_1 : decode cX5_value 1 = .ok (.iload_n 1, 1) := by decide +kernel
theorem dX5_value_2 : decode cX5_value 2 = .ok (.invokevirtual 134, 3) := by decide +kernel
theorem dX5_value_5 : decode cX5_value 5 = .ok (.ifCond .ne 7, 3) := by decide +kernel
theorem dX5_value_8 : decode cX5_value 8 = .ok (.ldc2_w 157, 3) := by decide +kernel
theorem dX5_value_11 : decode cX5_value 11 = .ok (.lreturn, 1) := by decide +kernel
theorem dX5_value_12 : decode cX5_value 12 = .ok (.iload_n 2, 1) := by decide +kernel
theorem dX5_value_13 : decode cX5_value 13 = .ok (.invokestatic 146, 3) := by decide +kernel
theorem dX5_value_16 : decode cX5_value 16 = .ok (.ifCond .ne 7, 3) := by decide +kernel
theorem dX5_value_19 : decode cX5_value 19 = .ok (.ldc2_w 149, 3) := by decide +kernel
theorem dX5_value_22 : decode cX5_value 22 = .ok (.lreturn, 1) := by decide +kernel
theorem dX5_value_23 : decode cX5_value 23 = .ok (.aload_n 0, 1) := by decide +kernel
theorem dX5_value_24 : decode cX5_value 24 = .ok (.invokevirtual 143, 3) := by decide +kernel
theorem dX5_value_27 : decode cX5_value 27 = .ok (.aload_n 0, 1) := by decide +kernel
theorem dX5_value_28 : decode cX5_value 28 = .ok (.getfield 128, 3) := by decide +kernel
theorem dX5_value_31 : decode cX5_value 31 = .ok (.ifCond .eq 20, 3) := by decide +kernel
theorem dX5_value_34 : decode cX5_value 34 = .ok (.aload_n 0, 1) := by decide +kernel
theorem dX5_value_35 : decode cX5_value 35 = .ok (.getfield 32, 3) := by decide +kernel
theorem dX5_value_38 : decode cX5_value 38 = .ok (.iload_n 1, 1) := by decide +kernel
theorem dX5_value_39 : decode cX5_value 39 = .ok (.laload, 1) := by decide +kernel
theorem dX5_value_40 : decode cX5_value 40 = .ok (.aload_n 0, 1) := by decide +kernel
theorem dX5_value_41 : decode cX5_value 41 = .ok (.getfield 114, 3) := by decide +kernel
theorem dX5_value_44 : decode cX5_value 44 = .ok (.iload_n 2, 1) := by decide +kernel
theorem dX5_value_45 : decode cX5_value 45 = .ok (.invokestatic 151, 3) := by decide +kernel
theorem dX5_value_48 : decode cX5_value 48 = .ok (.goto 6, 3) := by decide +kernel
theorem dX5_value_51 : decode cX5_value 51 = .ok (.ldc2_w 155, 3) := by decide +kernel
theorem dX5_value_54 : decode cX5_value 54 = .ok (.lreturn, 1) := by decide +kernel
set_option maxRecDepth 20000 in
theorem ggX5_tight_X5_isRow : GoodIn wsX5_tight wsX5_isRow := goodIn_r _ [11, 12, 13, 70, 71, 72, 73, 74, 75, 76, 77, 78, 79, 80, 81, 82, 83, 84, 85, 86, 87, 88, 89, 90, 91, 92, 93, 94, 95, 96, 97] (by decide +kernel) (by decide +kernel)
set_option maxRecDepth 20000 in
theorem gX5_tight_X5_isRow : GoodIn wsX5_tight (wsV RX5 137 RX5 yX5_isRow wsX5_isRow) := goodIn_app (goodIn_of _ (by decide +kernel)) ggX5_tight_X5_isRow
set_option maxRecDepth 20000 in
theorem ggX5_tight_X5_know : GoodIn wsX5_tight wsX5_know := goodIn_r _ [17, 18, 19, 1, 20, 21, 22, 23, 10, 24, 12, 13, 25, 26, 27, 28, 29, 2, 30, 31, 32, 33, 34, 35, 36, 37, 3, 5, 38, 39, 40, 41, 42, 43, 44, 45, 46, 47, 48, 49, 6, 4, 50, 51, 52, 53, 54, 55, 56, 57, 58, 59, 60, 61, 62, 63, 64, 65, 66, 67, 68, 69, 70, 71, 72, 73, 74, 75, 76, 77, 78, 79, 80, 81, 82, 83, 84, 85, 86, 87, 88, 89, 90, 91, 92, 93, 94, 95, 96, 97] (by decide +kernel) (by decide +kernel)
set_option maxRecDepth 20000 in
theorem gX5_tight_X5_know : GoodIn wsX5_tight (wsV RX5 143 RX5 yX5_know wsX5_know) := goodIn_app (goodIn_of _ (by decide +kernel)) ggX5_tight_X5_know
theorem dX5_tight_0 : decode cX5_tight 0 = .ok (.aload_n 0, 1) := by decide +kernel
theorem dX5_tight_1 : decode cX5_tight 1 = .ok (.iload_n 1, 1) := by decide +kernel
theorem dX5_tight_2 : decode cX5_tight 2 = .ok (.invokevirtual 137, 3) := by decide +kernel
theorem dX5_tight_5 : decode cX5_tight 5 = .ok (.ifCond .ne 5, 3) := by decide +kernel
theorem dX5_tight_8 : decode cX5_tight 8 = .ok (.iconst (-1), 1) := by decide +kernel
theorem dX5_tight_9 : decode cX5_tight 9 = .ok (.ireturn, 1) := by decide +kernel
theorem dX5_tight_10 : decode cX5_tight 10 = .ok (.aload_n 0, 1) := by decide +kernel
theorem dX5_tight_11 : decode cX5_tight 11 = .ok (.invokevirtual 143, 3) := by decide +kernel
theorem dX5_tight_14 : decode cX5_tight 14 = .ok (.aload_n 0, 1) := by decide +kernel
theorem dX5_tight_15 : decode cX5_tight 15 = .ok (.getfield 128, 3) := by decide +kernel
theorem dX5_tight_18 : decode cX5_tight 18 = .ok (.ifCond .ne 6, 3) := by decide +kernel
theorem dX5_tight_21 : decode cX5_tight 21 = .ok (.bipush (-3), 2) := by decide +kernel
theorem dX5_tight_23 : decode cX5_tight 23 = .ok (.ireturn, 1) := by decide +kernel
theorem dX5_tight_24 : decode cX5_tight 24 = .ok (.aload_n 0, 1) := by decide +kernel
theorem dX5_tight_25 : decode cX5_tight 25 = .ok (.getfield 66, 3) := by decide +kernel
theorem dX5_tight_28 : decode cX5_tight 28 = .ok (.ifCond .ne 14, 3) := by decide +kernel
theorem dX5_tight_31 : decode cX5_tight 31 = .ok (.aload_n 0, 1) := by decide +kernel
theorem dX5_tight_32 : decode cX5_tight 32 = .ok (.getfield 22, 3) := by decide +kernel
theorem dX5_tight_35 : decode cX5_tight 35 = .ok (.iload_n 1, 1) := by decide +kernel
theorem dX5_tight_36 : decode cX5_tight 36 = .ok (.iaload, 1) := by decide +kernel
theorem dX5_tight_37 : decode cX5_tight 37 = .ok (.ineg, 1) := by decide +kernel
theorem dX5_tight_38 : decode cX5_tight 38 = .ok (.i2l, 1) := by decide +kernel
theorem dX5_tight_39 : decode cX5_tight 39 = .ok (.goto 16, 3) := by decide +kernel
theorem dX5_tight_42 : decode cX5_tight 42 = .ok (.aload_n 0, 1) := by decide +kernel
theorem dX5_tight_43 : decode cX5_tight 43 = .ok (.getfield 22, 3) := by decide +kernel
theorem dX5_tight_46 : decode cX5_tight 46 = .ok (.iload_n 1, 1) := by decide +kernel
theorem dX5_tight_47 : decode cX5_tight 47 = .ok (.iaload, 1) := by decide +kernel
theorem dX5_tight_48 : decode cX5_tight 48 = .ok (.ineg, 1) := by decide +kernel
theorem dX5_tight_49 : decode cX5_tight 49 = .ok (.i2l, 1) := by decide +kernel
theorem dX5_tight_50 : decode cX5_tight 50 = .ok (.aload_n 0, 1) := by decide +kernel
theorem dX5_tight_51 : decode cX5_tight 51 = .ok (.getfield 114, 3) := by decide +kernel
theorem dX5_tight_54 : decode cX5_tight 54 = .ok (.lmul, 1) := by decide +kernel
theorem dX5_tight_55 : decode cX5_tight 55 = .ok (.lstore_n 2, 1) := by decide +kernel
theorem dX5_tight_56 : decode cX5_tight 56 = .ok (.iconst 0, 1) := by decide +kernel
theorem dX5_tight_57 : decode cX5_tight 57 = .ok (.istore 4, 2) := by decide +kernel
theorem dX5_tight_59 : decode cX5_tight 59 = .ok (.iload 4, 2) := by decide +kernel
theorem dX5_tight_61 : decode cX5_tight 61 = .ok (.aload_n 0, 1) := by decide +kernel
theorem dX5_tight_62 : decode cX5_tight 62 = .ok (.getfield 66, 3) := by decide +kernel
theorem dX5_tight_65 : decode cX5_tight 65 = .ok (.if_icmp .ge 32, 3) := by decide +kernel
theorem dX5_tight_68 : decode cX5_tight 68 = .ok (.lload_n 2, 1) := by decide +kernel
theorem dX5_tight_69 : decode cX5_tight 69 = .ok (.aload_n 0, 1) := by decide +kernel
theorem dX5_tight_70 : decode cX5_tight 70 = .ok (.getfield 25, 3) := by decide +kernel
theorem dX5_tight_73 : decode cX5_tight 73 = .ok (.iconst 5, 1) := by decide +kernel
theorem dX5_tight_74 : decode cX5_tight 74 = .ok (.iload_n 1, 1) := by decide +kernel
theorem dX5_tight_75 : decode cX5_tight 75 = .ok (.imul, 1) := by decide +kernel
theorem dX5_tight_76 : decode cX5_tight 76 = .ok (.iload 4, 2) := by decide +kernel
theorem dX5_tight_78 : decode cX5_tight 78 = .ok (.iadd, 1) := by decide +kernel
theorem dX5_tight_79 : decode cX5_tight 79 = .ok (.iaload, 1) := by decide +kernel
theorem dX5_tight_80 : decode cX5_tight 80 = .ok (.i2l, 1) := by decide +kernel
theorem dX5_tight_81 : decode cX5_tight 81 = .ok (.aload_n 0, 1) := by decide +kernel
theorem dX5_tight_82 : decode cX5_tight 82 = .ok (.getfield 32, 3) := by decide +kernel
theorem dX5_tight_85 : decode cX5_tight 85 = .ok (.iload 4, 2) := by decide +kernel
theorem dX5_tight_87 : decode cX5_tight 87 = .ok (.laload, 1) := by decide +kernel
theorem dX5_tight_88 : decode cX5_tight 88 = .ok (.lmul, 1) := by decide +kernel
theorem dX5_tight_89 : decode cX5_tight 89 = .ok (.ladd, 1) := by decide +kernel
theorem dX5_tight_90 : decode cX5_tight 90 = .ok (.lstore_n 2, 1) := by decide +kernel
theorem dX5_tight_91 : decode cX5_tight 91 = .ok (.iinc 4 1, 3) := by decide +kernel
theorem dX5_tight_94 : decode cX5_tight 94 = .ok (.goto (-35), 3) := by decide +kernel
theorem dX5_tight_97 : decode cX5_tight 97 = .ok (.lload_n 2, 1) := by decide +kernel
theorem dX5_tight_98 : decode cX5_tight 98 = .ok (.lconst 0, 1) := by decide +kernel
theorem dX5_tight_99 : decode cX5_tight 99 = .ok (.lcmp, 1) := by decide +kernel
theorem dX5_tight_100 : decode cX5_tight 100 = .ok (.ifCond .ne 7, 3) := by decide +kernel
theorem dX5_tight_103 : decode cX5_tight 103 = .ok (.iconst 1, 1) := by decide +kernel
theorem dX5_tight_104 : decode cX5_tight 104 = .ok (.goto 4, 3) := by decide +kernel
theorem dX5_tight_107 : decode cX5_tight 107 = .ok (.iconst 0, 1) := by decide +kernel
theorem dX5_tight_108 : decode cX5_tight 108 = .ok (.ireturn, 1) := by decide +kernel
set_option maxRecDepth 20000 in
theorem ggX5_reach_X5_isName : GoodIn wsX5_reach wsX5_isName := goodIn_r _ [11, 12, 79, 80, 81, 82, 83, 84, 85, 86, 87, 88, 89, 90, 91, 92, 93, 94, 95, 96, 97, 98, 99, 100, 101, 102, 103, 104, 105, 106] (by decide +kernel) (by decide +kernel)
set_option maxRecDepth 20000 in
theorem gX5_reach_X5_isName : GoodIn wsX5_reach (wsV RX5 134 RX5 yX5_isName wsX5_isName) := goodIn_app (goodIn_of _ (by decide +kernel)) ggX5_reach_X5_isName
set_option maxRecDepth 20000 in
theorem ggX5_reach_X5_isPart : GoodIn wsX5_reach wsX5_isPart := goodIn_r _ [15] (by decide +kernel) (by decide +kernel)
set_option maxRecDepth 20000 in
theorem gX5_reach_X5_isPart : GoodIn wsX5_reach (va_wsS RX5 146 yX5_isPart wsX5_isPart) := goodIn_app (goodIn_of _ (by decide +kernel)) ggX5_reach_X5_isPart
set_option maxRecDepth 20000 in
theorem ggX5_reach_X5_know : GoodIn wsX5_reach wsX5_know := goodIn_r _ [19, 20, 21, 3, 22, 23, 24, 25, 10, 26, 27, 28, 29, 30, 31, 32, 33, 12, 34, 35, 36, 37, 38, 39, 40, 41, 42, 43, 44, 45, 46, 47, 48, 49, 50, 51, 52, 53, 4, 5, 54, 55, 56, 57, 58, 59, 60, 61, 62, 63, 64, 65, 66, 67, 68, 69, 70, 71, 72, 73, 74, 75, 79, 80, 81, 82, 83, 84, 85, 86, 87, 88, 89, 90, 91, 92, 93, 94, 95, 96, 97, 98, 99, 100, 101, 102, 103, 104, 105, 106] (by decide +kernel) (by decide +kernel)
set_option maxRecDepth 20000 in
theorem gX5_reach_X5_know : GoodIn wsX5_reach (wsV RX5 143 RX5 yX5_know wsX5_know) := goodIn_app (goodIn_of _ (by decide +kernel)) ggX5_reach_X5_know
set_option maxRecDepth 20000 in
theorem ggX5_reach_X5_lowest : GoodIn wsX5_reach wsX5_lowest := goodIn_r _ [78] (by decide +kernel) (by decide +kernel)
set_option maxRecDepth 20000 in
theorem gX5_reach_X5_lowest : GoodIn wsX5_reach (va_wsS RX5 151 yX5_lowest wsX5_lowest) := goodIn_app (goodIn_of _ (by decide +kernel)) ggX5_reach_X5_lowest
theorem dX5_reach_0 : decode cX5_reach 0 = .ok (.aload_n 0, 1) := by decide +kernel
theorem dX5_reach_1 : decode cX5_reach 1 = .ok (.iload_n 1, 1) := by decide +kernel
theorem dX5_reach_2 : decode cX5_reach 2 = .ok (.invokevirtual 134, 3) := by decide +kernel
theorem dX5_reach_5 : decode cX5_reach 5 = .ok (.ifCond .ne 7, 3) := by decide +kernel
theorem dX5_reach_8 : decode cX5_reach 8 = .ok (.ldc2_w 157, 3) := by decide +kernel
theorem dX5_reach_11 : decode cX5_reach 11 = .ok (.lreturn, 1) := by decide +kernel
theorem dX5_reach_12 : decode cX5_reach 12 = .ok (.iload_n 2, 1) := by decide +kernel
theorem dX5_reach_13 : decode cX5_reach 13 = .ok (.invokestatic 146, 3) := by decide +kernel
theorem dX5_reach_16 : decode cX5_reach 16 = .ok (.ifCond .eq 10, 3) := by decide +kernel
theorem dX5_reach_19 : decode cX5_reach 19 = .ok (.iload_n 3, 1) := by decide +kernel
theorem dX5_reach_20 : decode cX5_reach 20 = .ok (.invokestatic 146, 3) := by decide +kernel
theorem dX5_reach_23 : decode cX5_reach 23 = .ok (.ifCond .ne 7, 3) := by decide +kernel
theorem dX5_reach_26 : decode cX5_reach 26 = .ok (.ldc2_w 149, 3) := by decide +kernel
theorem dX5_reach_29 : decode cX5_reach 29 = .ok (.lreturn, 1) := by decide +kernel
theorem dX5_reach_30 : decode cX5_reach 30 = .ok (.aload_n 0, 1) := by decide +kernel
theorem dX5_reach_31 : decode cX5_reach 31 = .ok (.invokevirtual 143, 3) := by decide +kernel
theorem dX5_reach_34 : decode cX5_reach 34 = .ok (.aload_n 0, 1) := by decide +kernel
theorem dX5_reach_35 : decode cX5_reach 35 = .ok (.getfield 128, 3) := by decide +kernel
theorem dX5_reach_38 : decode cX5_reach 38 = .ok (.ifCond .eq 30, 3) := by decide +kernel
theorem dX5_reach_41 : decode cX5_reach 41 = .ok (.aload_n 0, 1) := by decide +kernel
theorem dX5_reach_42 : decode cX5_reach 42 = .ok (.getfield 36, 3) := by decide +kernel
theorem dX5_reach_45 : decode cX5_reach 45 = .ok (.iconst 2, 1) := by decide +kernel
theorem dX5_reach_46 : decode cX5_reach 46 = .ok (.iload_n 1, 1) := by decide +kernel
theorem dX5_reach_47 : decode cX5_reach 47 = .ok (.imul, 1) := by decide +kernel
theorem dX5_reach_48 : decode cX5_reach 48 = .ok (.iload_n 2, 1) := by decide +kernel
theorem dX5_reach_49 : decode cX5_reach 49 = .ok (.iadd, 1) := by decide +kernel
theorem dX5_reach_50 : decode cX5_reach 50 = .ok (.laload, 1) := by decide +kernel
theorem dX5_reach_51 : decode cX5_reach 51 = .ok (.aload_n 0, 1) := by decide +kernel
theorem dX5_reach_52 : decode cX5_reach 52 = .ok (.getfield 39, 3) := by decide +kernel
theorem dX5_reach_55 : decode cX5_reach 55 = .ok (.iconst 2, 1) := by decide +kernel
theorem dX5_reach_56 : decode cX5_reach 56 = .ok (.iload_n 1, 1) := by decide +kernel
theorem dX5_reach_57 : decode cX5_reach 57 = .ok (.imul, 1) := by decide +kernel
theorem dX5_reach_58 : decode cX5_reach 58 = .ok (.iload_n 2, 1) := by decide +kernel
theorem dX5_reach_59 : decode cX5_reach 59 = .ok (.iadd, 1) := by decide +kernel
theorem dX5_reach_60 : decode cX5_reach 60 = .ok (.laload, 1) := by decide +kernel
theorem dX5_reach_61 : decode cX5_reach 61 = .ok (.iload_n 3, 1) := by decide +kernel
theorem dX5_reach_62 : decode cX5_reach 62 = .ok (.invokestatic 151, 3) := by decide +kernel
theorem dX5_reach_65 : decode cX5_reach 65 = .ok (.goto 6, 3) := by decide +kernel
theorem dX5_reach_68 : decode cX5_reach 68 = .ok (.ldc2_w 155, 3) := by decide +kernel
theorem dX5_reach_71 : decode cX5_reach 71 = .ok (.lreturn, 1) := by decide +kernel
set_option maxRecDepth 20000 in
theorem ggX5_far_X5_isName : GoodIn wsX5_far wsX5_isName := goodIn_r _ [11, 12, 79, 80, 81, 82, 83, 84, 85, 86, 87, 88, 89, 90, 91, 92, 93, 94, 95, 96, 97, 98, 99, 100, 101, 102, 103, 104, 105, 106] (by decide +kernel) (by decide +kernel)
set_option maxRecDepth 20000 in
theorem gX5_far_X5_isName : GoodIn wsX5_far (wsV RX5 134 RX5 yX5_isName wsX5_isName) := goodIn_app (goodIn_of _ (by decide +kernel)) ggX5_far_X5_isName
set_option maxRecDepth 20000 in
theorem ggX5_far_X5_isPart : GoodIn wsX5_far wsX5_isPart := goodIn_r _ [15] (by decide +kernel) (by decide +kernel)
set_option maxRecDepth 20000 in
theorem gX5_far_X5_isPart : GoodIn wsX5_far (va_wsS RX5 146 yX5_isPart wsX5_isPart) := goodIn_app (goodIn_of _ (by decide +kernel)) ggX5_far_X5_isPart
set_option maxRecDepth 20000 in
theorem ggX5_far_X5_know : GoodIn wsX5_far wsX5_know := goodIn_r _ [19, 20, 21, 3, 22, 23, 24, 25, 10, 26, 27, 28, 29, 30, 31, 32, 33, 12, 34, 35, 36, 37, 38, 39, 40, 41, 42, 43, 44, 45, 46, 47, 48, 49, 4, 5, 50, 51, 52, 53, 54, 55, 56, 57, 58, 59, 60, 61, 62, 63, 64, 65, 66, 67, 68, 69, 70, 71, 72, 73, 74, 75, 79, 80, 81, 82, 83, 84, 85, 86, 87, 88, 89, 90, 91, 92, 93, 94, 95, 96, 97, 98, 99, 100, 101, 102, 103, 104, 105, 106] (by decide +kernel) (by decide +kernel)
set_option maxRecDepth 20000 in
theorem gX5_far_X5_know : GoodIn wsX5_far (wsV RX5 143 RX5 yX5_know wsX5_know) := goodIn_app (goodIn_of _ (by decide +kernel)) ggX5_far_X5_know
set_option maxRecDepth 20000 in
theorem ggX5_far_X5_lowest : GoodIn wsX5_far wsX5_lowest := goodIn_r _ [78] (by decide +kernel) (by decide +kernel)
set_option maxRecDepth 20000 in
theorem gX5_far_X5_lowest : GoodIn wsX5_far (va_wsS RX5 151 yX5_lowest wsX5_lowest) := goodIn_app (goodIn_of _ (by decide +kernel)) ggX5_far_X5_lowest
theorem dX5_far_0 : decode cX5_far 0 = .ok (.aload_n 0, 1) := by decide +kernel
theorem dX5_far_1 : decode cX5_far 1 = .ok (.iload_n 1, 1) := by decide +kernel
theorem dX5_far_2 : decode cX5_far 2 = .ok (.invokevirtual 134, 3) := by decide +kernel
theorem dX5_far_5 : decode cX5_far 5 = .ok (.ifCond .ne 7, 3) := by decide +kernel
theorem dX5_far_8 : decode cX5_far 8 = .ok (.ldc2_w 157, 3) := by decide +kernel
theorem dX5_far_11 : decode cX5_far 11 = .ok (.lreturn, 1) := by decide +kernel
theorem dX5_far_12 : decode cX5_far 12 = .ok (.iload_n 2, 1) := by decide +kernel
theorem dX5_far_13 : decode cX5_far 13 = .ok (.invokestatic 146, 3) := by decide +kernel
theorem dX5_far_16 : decode cX5_far 16 = .ok (.ifCond .eq 10, 3) := by decide +kernel
theorem dX5_far_19 : decode cX5_far 19 = .ok (.iload_n 3, 1) := by decide +kernel
theorem dX5_far_20 : decode cX5_far 20 = .ok (.invokestatic 146, 3) := by decide +kernel
theorem dX5_far_23 : decode cX5_far 23 = .ok (.ifCond .ne 7, 3) := by decide +kernel
theorem dX5_far_26 : decode cX5_far 26 = .ok (.ldc2_w 149, 3) := by decide +kernel
theorem dX5_far_29 : decode cX5_far 29 = .ok (.lreturn, 1) := by decide +kernel
theorem dX5_far_30 : decode cX5_far 30 = .ok (.aload_n 0, 1) := by decide +kernel
theorem dX5_far_31 : decode cX5_far 31 = .ok (.invokevirtual 143, 3) := by decide +kernel
theorem dX5_far_34 : decode cX5_far 34 = .ok (.aload_n 0, 1) := by decide +kernel
theorem dX5_far_35 : decode cX5_far 35 = .ok (.getfield 128, 3) := by decide +kernel
theorem dX5_far_38 : decode cX5_far 38 = .ok (.ifCond .eq 30, 3) := by decide +kernel
theorem dX5_far_41 : decode cX5_far 41 = .ok (.aload_n 0, 1) := by decide +kernel
theorem dX5_far_42 : decode cX5_far 42 = .ok (.getfield 42, 3) := by decide +kernel
theorem dX5_far_45 : decode cX5_far 45 = .ok (.iconst 2, 1) := by decide +kernel
theorem dX5_far_46 : decode cX5_far 46 = .ok (.iload_n 1, 1) := by decide +kernel
theorem dX5_far_47 : decode cX5_far 47 = .ok (.imul, 1) := by decide +kernel
theorem dX5_far_48 : decode cX5_far 48 = .ok (.iload_n 2, 1) := by decide +kernel
theorem dX5_far_49 : decode cX5_far 49 = .ok (.iadd, 1) := by decide +kernel
theorem dX5_far_50 : decode cX5_far 50 = .ok (.laload, 1) := by decide +kernel
theorem dX5_far_51 : decode cX5_far 51 = .ok (.aload_n 0, 1) := by decide +kernel
theorem dX5_far_52 : decode cX5_far 52 = .ok (.getfield 45, 3) := by decide +kernel
theorem dX5_far_55 : decode cX5_far 55 = .ok (.iconst 2, 1) := by decide +kernel
theorem dX5_far_56 : decode cX5_far 56 = .ok (.iload_n 1, 1) := by decide +kernel
theorem dX5_far_57 : decode cX5_far 57 = .ok (.imul, 1) := by decide +kernel
theorem dX5_far_58 : decode cX5_far 58 = .ok (.iload_n 2, 1) := by decide +kernel
theorem dX5_far_59 : decode cX5_far 59 = .ok (.iadd, 1) := by decide +kernel
theorem dX5_far_60 : decode cX5_far 60 = .ok (.laload, 1) := by decide +kernel
theorem dX5_far_61 : decode cX5_far 61 = .ok (.iload_n 3, 1) := by decide +kernel
theorem dX5_far_62 : decode cX5_far 62 = .ok (.invokestatic 151, 3) := by decide +kernel
theorem dX5_far_65 : decode cX5_far 65 = .ok (.goto 6, 3) := by decide +kernel
theorem dX5_far_68 : decode cX5_far 68 = .ok (.ldc2_w 155, 3) := by decide +kernel
theorem dX5_far_71 : decode cX5_far 71 = .ok (.lreturn, 1) := by decide +kernel
set_option maxRecDepth 20000 in
theorem ggX5_barred_X5_know : GoodIn wsX5_barred wsX5_know := goodIn_r _ [7, 8, 9, 1, 2, 10, 11, 12, 6, 13, 14, 15, 16, 17, 18, 19, 20, 21, 22, 23, 24, 25, 26, 27, 28, 29, 30, 31, 32, 33, 34, 35, 36, 37, 38, 39, 40, 41, 42, 43, 44, 45, 46, 47, 48, 49, 50, 51, 52, 53, 54, 55, 56, 57, 58, 59, 60, 61, 62, 63, 64, 65, 66, 67, 68, 69, 70, 71, 72, 73, 74, 75, 76, 77, 78, 79, 80, 81, 82, 83, 84, 85, 86, 87, 88, 89, 90, 91, 92, 93] (by decide +kernel) (by decide +kernel)
set_option maxRecDepth 20000 in
theorem gX5_barred_X5_know : GoodIn wsX5_barred (wsV RX5 143 RX5 yX5_know wsX5_know) := goodIn_app (goodIn_of _ (by decide +kernel)) ggX5_barred_X5_know
theorem dX5_barred_0 : decode cX5_barred 0 = .ok (.aload_n 0, 1) := by decide +kernel
theorem dX5_barred_1 : decode cX5_barred 1 = .ok (.invokevirtual 143, 3) := by decide +kernel
theorem dX5_barred_4 : decode cX5_barred 4 = .ok (.aload_n 0, 1) := by decide +kernel
theorem dX5_barred_5 : decode cX5_barred 5 = .ok (.getfield 128, 3) := by decide +kernel
theorem dX5_barred_8 : decode cX5_barred 8 = .ok (.ifCond .eq 6, 3) := by decide +kernel
theorem dX5_barred_11 : decode cX5_barred 11 = .ok (.bipush (-3), 2) := by decide +kernel
theorem dX5_barred_13 : decode cX5_barred 13 = .ok (.ireturn, 1) := by decide +kernel
theorem dX5_barred_14 : decode cX5_barred 14 = .ok (.iconst 0, 1) := by decide +kernel
theorem dX5_barred_15 : decode cX5_barred 15 = .ok (.istore_n 2, 1) := by decide +kernel
theorem dX5_barred_16 : decode cX5_barred 16 = .ok (.iconst 0, 1) := by decide +kernel
theorem dX5_barred_17 : decode cX5_barred 17 = .ok (.istore_n 3, 1) := by decide +kernel
theorem dX5_barred_18 : decode cX5_barred 18 = .ok (.iload_n 3, 1) := by decide +kernel
theorem dX5_barred_19 : decode cX5_barred 19 = .ok (.bipush 8, 2) := by decide +kernel
theorem dX5_barred_21 : decode cX5_barred 21 = .ok (.if_icmp .ge 28, 3) := by decide +kernel
theorem dX5_barred_24 : decode cX5_barred 24 = .ok (.aload_n 0, 1) := by decide +kernel
theorem dX5_barred_25 : decode cX5_barred 25 = .ok (.getfield 48, 3) := by decide +kernel
theorem dX5_barred_28 : decode cX5_barred 28 = .ok (.iload_n 3, 1) := by decide +kernel
theorem dX5_barred_29 : decode cX5_barred 29 = .ok (.baload, 1) := by decide +kernel
theorem dX5_barred_30 : decode cX5_barred 30 = .ok (.ifCond .eq 13, 3) := by decide +kernel
theorem dX5_barred_33 : decode cX5_barred 33 = .ok (.iload_n 2, 1) := by decide +kernel
theorem dX5_barred_34 : decode cX5_barred 34 = .ok (.iload_n 1, 1) := by decide +kernel
theorem dX5_barred_35 : decode cX5_barred 35 = .ok (.if_icmp .ne 5, 3) := by decide +kernel
theorem dX5_barred_38 : decode cX5_barred 38 = .ok (.iload_n 3, 1) := by decide +kernel
theorem dX5_barred_39 : decode cX5_barred 39 = .ok (.ireturn, 1) := by decide +kernel
theorem dX5_barred_40 : decode cX5_barred 40 = .ok (.iinc 2 1, 3) := by decide +kernel
theorem dX5_barred_43 : decode cX5_barred 43 = .ok (.iinc 3 1, 3) := by decide +kernel
theorem dX5_barred_46 : decode cX5_barred 46 = .ok (.goto (-28), 3) := by decide +kernel
theorem dX5_barred_49 : decode cX5_barred 49 = .ok (.iconst (-1), 1) := by decide +kernel
theorem dX5_barred_50 : decode cX5_barred 50 = .ok (.ireturn, 1) := by decide +kernel
theorem dX5_isLarge_0 : decode cX5_isLarge 0 = .ok (.lconst 1, 1) := by decide +kernel
theorem dX5_isLarge_1 : decode cX5_isLarge 1 = .ok (.lstore_n 1, 1) := by decide +kernel
theorem dX5_isLarge_2 : decode cX5_isLarge 2 = .ok (.iconst 0, 1) := by decide +kernel
theorem dX5_isLarge_3 : decode cX5_isLarge 3 = .ok (.istore_n 3, 1) := by decide +kernel
theorem dX5_isLarge_4 : decode cX5_isLarge 4 = .ok (.iload_n 3, 1) := by decide +kernel
theorem dX5_isLarge_5 : decode cX5_isLarge 5 = .ok (.aload_n 0, 1) := by decide +kernel
theorem dX5_isLarge_6 : decode cX5_isLarge 6 = .ok (.getfield 66, 3) := by decide +kernel
theorem dX5_isLarge_9 : decode cX5_isLarge 9 = .ok (.if_icmp .ge 28, 3) := by decide +kernel
theorem dX5_isLarge_12 : decode cX5_isLarge 12 = .ok (.lload_n 1, 1) := by decide +kernel
theorem dX5_isLarge_13 : decode cX5_isLarge 13 = .ok (.aload_n 0, 1) := by decide +kernel
theorem dX5_isLarge_14 : decode cX5_isLarge 14 = .ok (.getfield 13, 3) := by decide +kernel
theorem dX5_isLarge_17 : decode cX5_isLarge 17 = .ok (.iload_n 3, 1) := by decide +kernel
theorem dX5_isLarge_18 : decode cX5_isLarge 18 = .ok (.iaload, 1) := by decide +kernel
theorem dX5_isLarge_19 : decode cX5_isLarge 19 = .ok (.aload_n 0, 1) := by decide +kernel
theorem dX5_isLarge_20 : decode cX5_isLarge 20 = .ok (.getfield 7, 3) := by decide +kernel
theorem dX5_isLarge_23 : decode cX5_isLarge 23 = .ok (.iload_n 3, 1) := by decide +kernel
theorem dX5_isLarge_24 : decode cX5_isLarge 24 = .ok (.iaload, 1) := by decide +kernel
theorem dX5_isLarge_25 : decode cX5_isLarge 25 = .ok (.isub, 1) := by decide +kernel
theorem dX5_isLarge_26 : decode cX5_isLarge 26 = .ok (.iconst 1, 1) := by decide +kernel
theorem dX5_isLarge_27 : decode cX5_isLarge 27 = .ok (.iadd, 1) := by decide +kernel
theorem dX5_isLarge_28 : decode cX5_isLarge 28 = .ok (.i2l, 1) := by decide +kernel
theorem dX5_isLarge_29 : decode cX5_isLarge 29 = .ok (.lmul, 1) := by decide +kernel
theorem dX5_isLarge_30 : decode cX5_isLarge 30 = .ok (.lstore_n 1, 1) := by decide +kernel
theorem dX5_isLarge_31 : decode cX5_isLarge 31 = .ok (.iinc 3 1, 3) := by decide +kernel
theorem dX5_isLarge_34 : decode cX5_isLarge 34 = .ok (.goto (-30), 3) := by decide +kernel
theorem dX5_isLarge_37 : decode cX5_isLarge 37 = .ok (.lload_n 1, 1) := by decide +kernel
theorem dX5_isLarge_38 : decode cX5_isLarge 38 = .ok (.ldc2_w 159, 3) := by decide +kernel
theorem dX5_isLarge_41 : decode cX5_isLarge 41 = .ok (.lcmp, 1) := by decide +kernel
theorem dX5_isLarge_42 : decode cX5_isLarge 42 = .ok (.ifCond .le 7, 3) := by decide +kernel
theorem dX5_isLarge_45 : decode cX5_isLarge 45 = .ok (.iconst 1, 1) := by decide +kernel
theorem dX5_isLarge_46 : decode cX5_isLarge 46 = .ok (.goto 4, 3) := by decide +kernel
theorem dX5_isLarge_49 : decode cX5_isLarge 49 = .ok (.iconst 0, 1) := by decide +kernel
theorem dX5_isLarge_50 : decode cX5_isLarge 50 = .ok (.ireturn, 1) := by decide +kernel
theorem dX5_keepsWhole_0 : decode cX5_keepsWhole 0 = .ok (.iconst 0, 1) := by decide +kernel
theorem dX5_keepsWhole_1 : decode cX5_keepsWhole 1 = .ok (.istore_n 1, 1) := by decide +kernel
theorem dX5_keepsWhole_2 : decode cX5_keepsWhole 2 = .ok (.iload_n 1, 1) := by decide +kernel
theorem dX5_keepsWhole_3 : decode cX5_keepsWhole 3 = .ok (.aload_n 0, 1) := by decide +kernel
theorem dX5_keepsWhole_4 : decode cX5_keepsWhole 4 = .ok (.getfield 78, 3) := by decide +kernel
theorem dX5_keepsWhole_7 : decode cX5_keepsWhole 7 = .ok (.if_icmp .ge 108, 3) := by decide +kernel
theorem dX5_keepsWhole_10 : decode cX5_keepsWhole 10 = .ok (.aload_n 0, 1) := by decide +kernel
theorem dX5_keepsWhole_11 : decode cX5_keepsWhole 11 = .ok (.getfield 28, 3) := by decide +kernel
theorem dX5_keepsWhole_14 : decode cX5_keepsWhole 14 = .ok (.iload_n 1, 1) := by decide +kernel
theorem dX5_keepsWhole_15 : decode cX5_keepsWhole 15 = .ok (.baload, 1) := by decide +kernel
theorem dX5_keepsWhole_16 : decode cX5_keepsWhole 16 = .ok (.ifCond .ne 6, 3) := by decide +kernel
theorem dX5_keepsWhole_19 : decode cX5_keepsWhole 19 = .ok (.goto 90, 3) := by decide +kernel
theorem dX5_keepsWhole_22 : decode cX5_keepsWhole 22 = .ok (.aload_n 0, 1) := by decide +kernel
theorem dX5_keepsWhole_23 : decode cX5_keepsWhole 23 = .ok (.getfield 22, 3) := by decide +kernel
theorem dX5_keepsWhole_26 : decode cX5_keepsWhole 26 = .ok (.iload_n 1, 1) := by decide +kernel
theorem dX5_keepsWhole_27 : decode cX5_keepsWhole 27 = .ok (.iaload, 1) := by decide +kernel
theorem dX5_keepsWhole_28 : decode cX5_keepsWhole 28 = .ok (.ineg, 1) := by decide +kernel
theorem dX5_keepsWhole_29 : decode cX5_keepsWhole 29 = .ok (.istore_n 2, 1) := by decide +kernel
theorem dX5_keepsWhole_30 : decode cX5_keepsWhole 30 = .ok (.iconst 0, 1) := by decide +kernel
theorem dX5_keepsWhole_31 : decode cX5_keepsWhole 31 = .ok (.istore_n 3, 1) := by decide +kernel
theorem dX5_keepsWhole_32 : decode cX5_keepsWhole 32 = .ok (.iload_n 3, 1) := by decide +kernel
theorem dX5_keepsWhole_33 : decode cX5_keepsWhole 33 = .ok (.aload_n 0, 1) := by decide +kernel
theorem dX5_keepsWhole_34 : decode cX5_keepsWhole 34 = .ok (.getfield 66, 3) := by decide +kernel
theorem dX5_keepsWhole_37 : decode cX5_keepsWhole 37 = .ok (.if_icmp .ge 29, 3) := by decide +kernel
theorem dX5_keepsWhole_40 : decode cX5_keepsWhole 40 = .ok (.iload_n 2, 1) := by decide +kernel
theorem dX5_keepsWhole_41 : decode cX5_keepsWhole 41 = .ok (.aload_n 0, 1) := by decide +kernel
theorem dX5_keepsWhole_42 : decode cX5_keepsWhole 42 = .ok (.getfield 25, 3) := by decide +kernel
theorem dX5_keepsWhole_45 : decode cX5_keepsWhole 45 = .ok (.iconst 5, 1) := by decide +kernel
theorem dX5_keepsWhole_46 : decode cX5_keepsWhole 46 = .ok (.iload_n 1, 1) := by decide +kernel
theorem dX5_keepsWhole_47 : decode cX5_keepsWhole 47 = .ok (.imul, 1) := by decide +kernel
theorem dX5_keepsWhole_48 : decode cX5_keepsWhole 48 = .ok (.iload_n 3, 1) := by decide +kernel
theorem dX5_keepsWhole_49 : decode cX5_keepsWhole 49 = .ok (.iadd, 1) := by decide +kernel
theorem dX5_keepsWhole_50 : decode cX5_keepsWhole 50 = .ok (.iaload, 1) := by decide +kernel
theorem dX5_keepsWhole_51 : decode cX5_keepsWhole 51 = .ok (.aload_n 0, 1) := by decide +kernel
theorem dX5_keepsWhole_52 : decode cX5_keepsWhole 52 = .ok (.getfield 60, 3) := by decide +kernel
theorem dX5_keepsWhole_55 : decode cX5_keepsWhole 55 = .ok (.iload_n 3, 1) := by decide +kernel
theorem dX5_keepsWhole_56 : decode cX5_keepsWhole 56 = .ok (.iaload, 1) := by decide +kernel
theorem dX5_keepsWhole_57 : decode cX5_keepsWhole 57 = .ok (.imul, 1) := by decide +kernel
theorem dX5_keepsWhole_58 : decode cX5_keepsWhole 58 = .ok (.iadd, 1) := by decide +kernel
theorem dX5_keepsWhole_59 : decode cX5_keepsWhole 59 = .ok (.istore_n 2, 1) := by decide +kernel
theorem dX5_keepsWhole_60 : decode cX5_keepsWhole 60 = .ok (.iinc 3 1, 3) := by decide +kernel
theorem dX5_keepsWhole_63 : decode cX5_keepsWhole 63 = .ok (.goto (-31), 3) := by decide +kernel
theorem dX5_keepsWhole_66 : decode cX5_keepsWhole 66 = .ok (.aload_n 0, 1) := by decide +kernel
theorem dX5_keepsWhole_67 : decode cX5_keepsWhole 67 = .ok (.getfield 19, 3) := by decide +kernel
theorem dX5_keepsWhole_70 : decode cX5_keepsWhole 70 = .ok (.iload_n 1, 1) := by decide +kernel
theorem dX5_keepsWhole_71 : decode cX5_keepsWhole 71 = .ok (.iaload, 1) := by decide +kernel
theorem dX5_keepsWhole_72 : decode cX5_keepsWhole 72 = .ok (.ifCond .ne 7, 3) := by decide +kernel
theorem dX5_keepsWhole_75 : decode cX5_keepsWhole 75 = .ok (.iload_n 2, 1) := by decide +kernel
theorem dX5_keepsWhole_76 : decode cX5_keepsWhole 76 = .ok (.ifCond .gt 31, 3) := by decide +kernel
theorem dX5_keepsWhole_79 : decode cX5_keepsWhole 79 = .ok (.aload_n 0, 1) := by decide +kernel
theorem dX5_keepsWhole_80 : decode cX5_keepsWhole 80 = .ok (.getfield 19, 3) := by decide +kernel
theorem dX5_keepsWhole_83 : decode cX5_keepsWhole 83 = .ok (.iload_n 1, 1) := by decide +kernel
theorem dX5_keepsWhole_84 : decode cX5_keepsWhole 84 = .ok (.iaload, 1) := by decide +kernel
theorem dX5_keepsWhole_85 : decode cX5_keepsWhole 85 = .ok (.iconst 1, 1) := by decide +kernel
theorem dX5_keepsWhole_86 : decode cX5_keepsWhole 86 = .ok (.if_icmp .ne 7, 3) := by decide +kernel
theorem dX5_keepsWhole_89 : decode cX5_keepsWhole 89 = .ok (.iload_n 2, 1) := by decide +kernel
theorem dX5_keepsWhole_90 : decode cX5_keepsWhole 90 = .ok (.ifCond .ne 17, 3) := by decide +kernel
theorem dX5_keepsWhole_93 : decode cX5_keepsWhole 93 = .ok (.aload_n 0, 1) := by decide +kernel
theorem dX5_keepsWhole_94 : decode cX5_keepsWhole 94 = .ok (.getfield 19, 3) := by decide +kernel
theorem dX5_keepsWhole_97 : decode cX5_keepsWhole 97 = .ok (.iload_n 1, 1) := by decide +kernel
theorem dX5_keepsWhole_98 : decode cX5_keepsWhole 98 = .ok (.iaload, 1) := by decide +kernel
theorem dX5_keepsWhole_99 : decode cX5_keepsWhole 99 = .ok (.iconst 2, 1) := by decide +kernel
theorem dX5_keepsWhole_100 : decode cX5_keepsWhole 100 = .ok (.if_icmp .ne 9, 3) := by decide +kernel
theorem dX5_keepsWhole_103 : decode cX5_keepsWhole 103 = .ok (.iload_n 2, 1) := by decide +kernel
theorem dX5_keepsWhole_104 : decode cX5_keepsWhole 104 = .ok (.ifCond .ge 5, 3) := by decide +kernel
theorem dX5_keepsWhole_107 : decode cX5_keepsWhole 107 = .ok (.iconst 0, 1) := by decide +kernel
theorem dX5_keepsWhole_108 : decode cX5_keepsWhole 108 = .ok (.ireturn, 1) := by decide +kernel
theorem dX5_keepsWhole_109 : decode cX5_keepsWhole 109 = .ok (.iinc 1 1, 3) := by decide +kernel
theorem dX5_keepsWhole_112 : decode cX5_keepsWhole 112 = .ok (.goto (-110), 3) := by decide +kernel
theorem dX5_keepsWhole_115 : decode cX5_keepsWhole 115 = .ok (.iconst 1, 1) := by decide +kernel
theorem dX5_keepsWhole_116 : decode cX5_keepsWhole 116 = .ok (.ireturn, 1) := by decide +kernel
set_option maxRecDepth 20000 in
theorem ggX5_findWhole_X5_keepsWhole : GoodIn wsX5_findWhole wsX5_keepsWhole := goodIn_r _ [12, 13, 14, 15, 1, 16, 2, 17, 18, 19, 20, 21, 22, 23, 24, 25, 26, 27, 28, 29, 30, 31, 32, 33, 34, 35, 36, 37, 38, 39, 40, 41, 42, 43, 44, 45] (by decide +kernel) (by decide +kernel)
set_option maxRecDepth 20000 in
theorem gX5_findWhole_X5_keepsWhole : GoodIn wsX5_findWhole (wsV RX5 161 RX5 yX5_keepsWhole wsX5_keepsWhole) := goodIn_app (goodIn_of _ (by decide +kernel)) ggX5_findWhole_X5_keepsWhole
theorem dX5_findWhole_0 : decode cX5_findWhole 0 = .ok (.iconst 0, 1) := by decide +kernel
theorem dX5_findWhole_1 : decode cX5_findWhole 1 = .ok (.istore_n 1, 1) := by decide +kernel
theorem dX5_findWhole_2 : decode cX5_findWhole 2 = .ok (.iconst 0, 1) := by decide +kernel
theorem dX5_findWhole_3 : decode cX5_findWhole 3 = .ok (.istore_n 2, 1) := by decide +kernel
theorem dX5_findWhole_4 : decode cX5_findWhole 4 = .ok (.iload_n 2, 1) := by decide +kernel
theorem dX5_findWhole_5 : decode cX5_findWhole 5 = .ok (.aload_n 0, 1) := by decide +kernel
theorem dX5_findWhole_6 : decode cX5_findWhole 6 = .ok (.getfield 66, 3) := by decide +kernel
theorem dX5_findWhole_9 : decode cX5_findWhole 9 = .ok (.if_icmp .ge 21, 3) := by decide +kernel
theorem dX5_findWhole_12 : decode cX5_findWhole 12 = .ok (.aload_n 0, 1) := by decide +kernel
theorem dX5_findWhole_13 : decode cX5_findWhole 13 = .ok (.getfield 60, 3) := by decide +kernel
theorem dX5_findWhole_16 : decode cX5_findWhole 16 = .ok (.iload_n 2, 1) := by decide +kernel
theorem dX5_findWhole_17 : decode cX5_findWhole 17 = .ok (.aload_n 0, 1) := by decide +kernel
theorem dX5_findWhole_18 : decode cX5_findWhole 18 = .ok (.getfield 7, 3) := by decide +kernel
theorem dX5_findWhole_21 : decode cX5_findWhole 21 = .ok (.iload_n 2, 1) := by decide +kernel
theorem dX5_findWhole_22 : decode cX5_findWhole 22 = .ok (.iaload, 1) := by decide +kernel
theorem dX5_findWhole_23 : decode cX5_findWhole 23 = .ok (.iastore, 1) := by decide +kernel
theorem dX5_findWhole_24 : decode cX5_findWhole 24 = .ok (.iinc 2 1, 3) := by decide +kernel
theorem dX5_findWhole_27 : decode cX5_findWhole 27 = .ok (.goto (-23), 3) := by decide +kernel
theorem dX5_findWhole_30 : decode cX5_findWhole 30 = .ok (.iconst 0, 1) := by decide +kernel
theorem dX5_findWhole_31 : decode cX5_findWhole 31 = .ok (.istore_n 2, 1) := by decide +kernel
theorem dX5_findWhole_32 : decode cX5_findWhole 32 = .ok (.iload_n 2, 1) := by decide +kernel
theorem dX5_findWhole_33 : decode cX5_findWhole 33 = .ok (.ifCond .lt 160, 3) := by decide +kernel
theorem dX5_findWhole_36 : decode cX5_findWhole 36 = .ok (.aload_n 0, 1) := by decide +kernel
theorem dX5_findWhole_37 : decode cX5_findWhole 37 = .ok (.invokevirtual 161, 3) := by decide +kernel
theorem dX5_findWhole_40 : decode cX5_findWhole 40 = .ok (.ifCond .eq 92, 3) := by decide +kernel
theorem dX5_findWhole_43 : decode cX5_findWhole 43 = .ok (.iconst 0, 1) := by decide +kernel
theorem dX5_findWhole_44 : decode cX5_findWhole 44 = .ok (.istore_n 3, 1) := by decide +kernel
theorem dX5_findWhole_45 : decode cX5_findWhole 45 = .ok (.iconst 0, 1) := by decide +kernel
theorem dX5_findWhole_46 : decode cX5_findWhole 46 = .ok (.istore 4, 2) := by decide +kernel
theorem dX5_findWhole_48 : decode cX5_findWhole 48 = .ok (.iload 4, 2) := by decide +kernel
theorem dX5_findWhole_50 : decode cX5_findWhole 50 = .ok (.aload_n 0, 1) := by decide +kernel
theorem dX5_findWhole_51 : decode cX5_findWhole 51 = .ok (.getfield 66, 3) := by decide +kernel
theorem dX5_findWhole_54 : decode cX5_findWhole 54 = .ok (.if_icmp .ge 27, 3) := by decide +kernel
theorem dX5_findWhole_57 : decode cX5_findWhole 57 = .ok (.iload_n 3, 1) := by decide +kernel
theorem dX5_findWhole_58 : decode cX5_findWhole 58 = .ok (.aload_n 0, 1) := by decide +kernel
theorem dX5_findWhole_59 : decode cX5_findWhole 59 = .ok (.getfield 16, 3) := by decide +kernel
theorem dX5_findWhole_62 : decode cX5_findWhole 62 = .ok (.iload 4, 2) := by decide +kernel
theorem dX5_findWhole_64 : decode cX5_findWhole 64 = .ok (.iaload, 1) := by decide +kernel
theorem dX5_findWhole_65 : decode cX5_findWhole 65 = .ok (.aload_n 0, 1) := by decide +kernel
theorem dX5_findWhole_66 : decode cX5_findWhole 66 = .ok (.getfield 60, 3) := by decide +kernel
theorem dX5_findWhole_69 : decode cX5_findWhole 69 = .ok (.iload 4, 2) := by decide +kernel
theorem dX5_findWhole_71 : decode cX5_findWhole 71 = .ok (.iaload, 1) := by decide +kernel
theorem dX5_findWhole_72 : decode cX5_findWhole 72 = .ok (.imul, 1) := by decide +kernel
theorem dX5_findWhole_73 : decode cX5_findWhole 73 = .ok (.iadd, 1) := by decide +kernel
theorem dX5_findWhole_74 : decode cX5_findWhole 74 = .ok (.istore_n 3, 1) := by decide +kernel
theorem dX5_findWhole_75 : decode cX5_findWhole 75 = .ok (.iinc 4 1, 3) := by decide +kernel
theorem dX5_findWhole_78 : decode cX5_findWhole 78 = .ok (.goto (-30), 3) := by decide +kernel
theorem dX5_findWhole_81 : decode cX5_findWhole 81 = .ok (.iload_n 1, 1) := by decide +kernel
theorem dX5_findWhole_82 : decode cX5_findWhole 82 = .ok (.ifCond .eq 11, 3) := by decide +kernel
theorem dX5_findWhole_85 : decode cX5_findWhole 85 = .ok (.iload_n 3, 1) := by decide +kernel
theorem dX5_findWhole_86 : decode cX5_findWhole 86 = .ok (.aload_n 0, 1) := by decide +kernel
theorem dX5_findWhole_87 : decode cX5_findWhole 87 = .ok (.getfield 164, 3) := by decide +kernel
theorem dX5_findWhole_90 : decode cX5_findWhole 90 = .ok (.if_icmp .ge 42, 3) := by decide +kernel
theorem dX5_findWhole_93 : decode cX5_findWhole 93 = .ok (.iconst 1, 1) := by decide +kernel
theorem dX5_findWhole_94 : decode cX5_findWhole 94 = .ok (.istore_n 1, 1) := by decide +kernel
theorem dX5_findWhole_95 : decode cX5_findWhole 95 = .ok (.aload_n 0, 1) := by decide +kernel
theorem dX5_findWhole_96 : decode cX5_findWhole 96 = .ok (.iload_n 3, 1) := by decide +kernel
theorem dX5_findWhole_97 : decode cX5_findWhole 97 = .ok (.putfield 164, 3) := by decide +kernel
theorem dX5_findWhole_100 : decode cX5_findWhole 100 = .ok (.iconst 0, 1) := by decide +kernel
theorem dX5_findWhole_101 : decode cX5_findWhole 101 = .ok (.istore 4, 2) := by decide +kernel
theorem dX5_findWhole_103 : decode cX5_findWhole 103 = .ok (.iload 4, 2) := by decide +kernel
theorem dX5_findWhole_105 : decode cX5_findWhole 105 = .ok (.aload_n 0, 1) := by decide +kernel
theorem dX5_findWhole_106 : decode cX5_findWhole 106 = .ok (.getfield 66, 3) := by decide +kernel
theorem dX5_findWhole_109 : decode cX5_findWhole 109 = .ok (.if_icmp .ge 23, 3) := by decide +kernel
theorem dX5_findWhole_112 : decode cX5_findWhole 112 = .ok (.aload_n 0, 1) := by decide +kernel
theorem dX5_findWhole_113 : decode cX5_findWhole 113 = .ok (.getfield 63, 3) := by decide +kernel
theorem dX5_findWhole_116 : decode cX5_findWhole 116 = .ok (.iload 4, 2) := by decide +kernel
theorem dX5_findWhole_118 : decode cX5_findWhole 118 = .ok (.aload_n 0, 1) := by decide +kernel
theorem dX5_findWhole_119 : decode cX5_findWhole 119 = .ok (.getfield 60, 3) := by decide +kernel
theorem dX5_findWhole_122 : decode cX5_findWhole 122 = .ok (.iload 4, 2) := by decide +kernel
theorem dX5_findWhole_124 : decode cX5_findWhole 124 = .ok (.iaload, 1) := by decide +kernel
theorem dX5_findWhole_125 : decode cX5_findWhole 125 = .ok (.iastore, 1) := by decide +kernel
theorem dX5_findWhole_126 : decode cX5_findWhole 126 = .ok (.iinc 4 1, 3) := by decide +kernel
theorem dX5_findWhole_129 : decode cX5_findWhole 129 = .ok (.goto (-26), 3) := by decide +kernel
theorem dX5_findWhole_132 : decode cX5_findWhole 132 = .ok (.aload_n 0, 1) := by decide +kernel
theorem dX5_findWhole_133 : decode cX5_findWhole 133 = .ok (.getfield 66, 3) := by decide +kernel
theorem dX5_findWhole_136 : decode cX5_findWhole 136 = .ok (.iconst 1, 1) := by decide +kernel
theorem dX5_findWhole_137 : decode cX5_findWhole 137 = .ok (.isub, 1) := by decide +kernel
theorem dX5_findWhole_138 : decode cX5_findWhole 138 = .ok (.istore_n 2, 1) := by decide +kernel
theorem dX5_findWhole_139 : decode cX5_findWhole 139 = .ok (.iload_n 2, 1) := by decide +kernel
theorem dX5_findWhole_140 : decode cX5_findWhole 140 = .ok (.ifCond .lt 36, 3) := by decide +kernel
theorem dX5_findWhole_143 : decode cX5_findWhole 143 = .ok (.aload_n 0, 1) := by decide +kernel
theorem dX5_findWhole_144 : decode cX5_findWhole 144 = .ok (.getfield 60, 3) := by decide +kernel
theorem dX5_findWhole_147 : decode cX5_findWhole 147 = .ok (.iload_n 2, 1) := by decide +kernel
theorem dX5_findWhole_148 : decode cX5_findWhole 148 = .ok (.iaload, 1) := by decide +kernel
theorem dX5_findWhole_149 : decode cX5_findWhole 149 = .ok (.aload_n 0, 1) := by decide +kernel
theorem dX5_findWhole_150 : decode cX5_findWhole 150 = .ok (.getfield 13, 3) := by decide +kernel
theorem dX5_findWhole_153 : decode cX5_findWhole 153 = .ok (.iload_n 2, 1) := by decide +kernel
theorem dX5_findWhole_154 : decode cX5_findWhole 154 = .ok (.iaload, 1) := by decide +kernel
theorem dX5_findWhole_155 : decode cX5_findWhole 155 = .ok (.if_icmp .ne 21, 3) := by decide +kernel
theorem dX5_findWhole_158 : decode cX5_findWhole 158 = .ok (.aload_n 0, 1) := by decide +kernel
theorem dX5_findWhole_159 : decode cX5_findWhole 159 = .ok (.getfield 60, 3) := by decide +kernel
theorem dX5_findWhole_162 : decode cX5_findWhole 162 = .ok (.iload_n 2, 1) := by decide +kernel
theorem dX5_findWhole_163 : decode cX5_findWhole 163 = .ok (.aload_n 0, 1) := by decide +kernel
theorem dX5_findWhole_164 : decode cX5_findWhole 164 = .ok (.getfield 7, 3) := by decide +kernel
theorem dX5_findWhole_167 : decode cX5_findWhole 167 = .ok (.iload_n 2, 1) := by decide +kernel
theorem dX5_findWhole_168 : decode cX5_findWhole 168 = .ok (.iaload, 1) := by decide +kernel
theorem dX5_findWhole_169 : decode cX5_findWhole 169 = .ok (.iastore, 1) := by decide +kernel
theorem dX5_findWhole_170 : decode cX5_findWhole 170 = .ok (.iinc 2 (-1), 3) := by decide +kernel
theorem dX5_findWhole_173 : decode cX5_findWhole 173 = .ok (.goto (-34), 3) := by decide +kernel
theorem dX5_findWhole_176 : decode cX5_findWhole 176 = .ok (.iload_n 2, 1) := by decide +kernel
theorem dX5_findWhole_177 : decode cX5_findWhole 177 = .ok (.ifCond .lt (-145), 3) := by decide +kernel
theorem dX5_findWhole_180 : decode cX5_findWhole 180 = .ok (.aload_n 0, 1) := by decide +kernel
theorem dX5_findWhole_181 : decode cX5_findWhole 181 = .ok (.getfield 60, 3) := by decide +kernel
theorem dX5_findWhole_184 : decode cX5_findWhole 184 = .ok (.iload_n 2, 1) := by decide +kernel
theorem dX5_findWhole_185 : decode cX5_findWhole 185 = .ok (.dup2, 1) := by decide +kernel
theorem dX5_findWhole_186 : decode cX5_findWhole 186 = .ok (.iaload, 1) := by decide +kernel
theorem dX5_findWhole_187 : decode cX5_findWhole 187 = .ok (.iconst 1, 1) := by decide +kernel
theorem dX5_findWhole_188 : decode cX5_findWhole 188 = .ok (.iadd, 1) := by decide +kernel
theorem dX5_findWhole_189 : decode cX5_findWhole 189 = .ok (.iastore, 1) := by decide +kernel
theorem dX5_findWhole_190 : decode cX5_findWhole 190 = .ok (.goto (-158), 3) := by decide +kernel
theorem dX5_findWhole_193 : decode cX5_findWhole 193 = .ok (.iload_n 1, 1) := by decide +kernel
theorem dX5_findWhole_194 : decode cX5_findWhole 194 = .ok (.ireturn, 1) := by decide +kernel
set_option maxRecDepth 20000 in
theorem ggX5_whole_X5_isLarge : GoodIn wsX5_whole wsX5_isLarge := goodIn_r _ [6, 7, 8, 9, 10, 27, 28, 29, 30, 31, 32, 33, 34, 35, 36, 37, 38, 39, 40, 41, 42, 43, 44, 45, 46, 47, 48, 49, 50, 51, 52, 53, 54] (by decide +kernel) (by decide +kernel)
set_option maxRecDepth 20000 in
theorem gX5_whole_X5_isLarge : GoodIn wsX5_whole (wsV RX5 167 RX5 yX5_isLarge wsX5_isLarge) := goodIn_app (goodIn_of _ (by decide +kernel)) ggX5_whole_X5_isLarge
set_option maxRecDepth 20000 in
theorem ggX5_whole_X5_findWhole : GoodIn wsX5_whole wsX5_findWhole := goodIn_r _ [14, 7, 15, 9, 16, 1, 17, 8, 18, 19, 20, 5, 21, 22, 23, 24, 25, 26, 27, 28, 29, 30, 31, 32, 33, 34, 35, 36, 37, 38, 39, 40, 41, 42, 43, 44, 45, 46, 47, 48, 49, 50, 51, 52, 53, 54] (by decide +kernel) (by decide +kernel)
set_option maxRecDepth 20000 in
theorem gX5_whole_X5_findWhole : GoodIn wsX5_whole (wsV RX5 170 RX5 yX5_findWhole wsX5_findWhole) := goodIn_app (goodIn_of _ (by decide +kernel)) ggX5_whole_X5_findWhole
theorem dX5_whole_0 : decode cX5_whole 0 = .ok (.aload_n 0, 1) := by decide +kernel
theorem dX5_whole_1 : decode cX5_whole 1 = .ok (.invokevirtual 167, 3) := by decide +kernel
theorem dX5_whole_4 : decode cX5_whole 4 = .ok (.ifCond .eq 6, 3) := by decide +kernel
theorem dX5_whole_7 : decode cX5_whole 7 = .ok (.bipush (-4), 2) := by decide +kernel
theorem dX5_whole_9 : decode cX5_whole 9 = .ok (.ireturn, 1) := by decide +kernel
theorem dX5_whole_10 : decode cX5_whole 10 = .ok (.aload_n 0, 1) := by decide +kernel
theorem dX5_whole_11 : decode cX5_whole 11 = .ok (.invokevirtual 170, 3) := by decide +kernel
theorem dX5_whole_14 : decode cX5_whole 14 = .ok (.ifCond .eq 10, 3) := by decide +kernel
theorem dX5_whole_17 : decode cX5_whole 17 = .ok (.aload_n 0, 1) := by decide +kernel
theorem dX5_whole_18 : decode cX5_whole 18 = .ok (.getfield 164, 3) := by decide +kernel
theorem dX5_whole_21 : decode cX5_whole 21 = .ok (.goto 5, 3) := by decide +kernel
theorem dX5_whole_24 : decode cX5_whole 24 = .ok (.bipush (-3), 2) := by decide +kernel
theorem dX5_whole_26 : decode cX5_whole 26 = .ok (.ireturn, 1) := by decide +kernel
set_option maxRecDepth 20000 in
theorem ggX5_wholeValue_X5_isName : GoodIn wsX5_wholeValue wsX5_isName := goodIn_r _ [6, 7, 31, 32, 33, 34, 35, 36, 37, 38, 39, 40, 41, 42, 43, 44, 45, 46, 47, 48, 49, 50, 51, 52, 53, 54, 55, 56, 57, 58] (by decide +kernel) (by decide +kernel)
set_option maxRecDepth 20000 in
theorem gX5_wholeValue_X5_isName : GoodIn wsX5_wholeValue (wsV RX5 134 RX5 yX5_isName wsX5_isName) := goodIn_app (goodIn_of _ (by decide +kernel)) ggX5_wholeValue_X5_isName
set_option maxRecDepth 20000 in
theorem ggX5_wholeValue_X5_isLarge : GoodIn wsX5_wholeValue wsX5_isLarge := goodIn_r _ [11, 7, 12, 13, 14, 31, 32, 33, 34, 35, 36, 37, 38, 39, 40, 41, 42, 43, 44, 45, 46, 47, 48, 49, 50, 51, 52, 53, 54, 55, 56, 57, 58] (by decide +kernel) (by decide +kernel)
set_option maxRecDepth 20000 in
theorem gX5_wholeValue_X5_isLarge : GoodIn wsX5_wholeValue (wsV RX5 167 RX5 yX5_isLarge wsX5_isLarge) := goodIn_app (goodIn_of _ (by decide +kernel)) ggX5_wholeValue_X5_isLarge
set_option maxRecDepth 20000 in
theorem ggX5_wholeValue_X5_findWhole : GoodIn wsX5_wholeValue wsX5_findWhole := goodIn_r _ [18, 7, 19, 13, 20, 21, 1, 12, 22, 23, 24, 5, 25, 26, 27, 28, 29, 30, 31, 32, 33, 34, 35, 36, 37, 38, 39, 40, 41, 42, 43, 44, 45, 46, 47, 48, 49, 50, 51, 52, 53, 54, 55, 56, 57, 58] (by decide +kernel) (by decide +kernel)
set_option maxRecDepth 20000 in
theorem gX5_wholeValue_X5_findWhole : GoodIn wsX5_wholeValue (wsV RX5 170 RX5 yX5_findWhole wsX5_findWhole) := goodIn_app (goodIn_of _ (by decide +kernel)) ggX5_wholeValue_X5_findWhole
theorem dX5_wholeValue_0 : decode cX5_wholeValue 0 = .ok (.aload_n 0, 1) := by decide +kernel
theorem dX5_wholeValue_1 : decode cX5_wholeValue 1 = .ok (.iload_n 1, 1) := by decide +kernel
theorem dX5_wholeValue_2 : decode cX5_wholeValue 2 = .ok (.invokevirtual 134, 3) := by decide +kernel
theorem dX5_wholeValue_5 : decode cX5_wholeValue 5 = .ok (.ifCond .ne 5, 3) := by decide +kernel
theorem dX5_wholeValue_8 : decode cX5_wholeValue 8 = .ok (.iconst (-1), 1) := by decide +kernel
theorem dX5_wholeValue_9 : decode cX5_wholeValue 9 = .ok (.ireturn, 1) := by decide +kernel
theorem dX5_wholeValue_10 : decode cX5_wholeValue 10 = .ok (.aload_n 0, 1) := by decide +kernel
theorem dX5_wholeValue_11 : decode cX5_wholeValue 11 = .ok (.invokevirtual 167, 3) := by decide +kernel
theorem dX5_wholeValue_14 : decode cX5_wholeValue 14 = .ok (.ifCond .eq 6, 3) := by decide +kernel
theorem dX5_wholeValue_17 : decode cX5_wholeValue 17 = .ok (.bipush (-4), 2) := by decide +kernel
theorem dX5_wholeValue_19 : decode cX5_wholeValue 19 = .ok (.ireturn, 1) := by decide +kernel
theorem dX5_wholeValue_20 : decode cX5_wholeValue 20 = .ok (.aload_n 0, 1) := by decide +kernel
theorem dX5_wholeValue_21 : decode cX5_wholeValue 21 = .ok (.invokevirtual 170, 3) := by decide +kernel
theorem dX5_wholeValue_24 : decode cX5_wholeValue 24 = .ok (.ifCond .eq 12, 3) := by decide +kernel
theorem dX5_wholeValue_27 : decode cX5_wholeValue 27 = .ok (.aload_n 0, 1) := by decide +kernel
theorem dX5_wholeValue_28 : decode cX5_wholeValue 28 = .ok (.getfield 63, 3) := by decide +kernel
theorem dX5_wholeValue_31 : decode cX5_wholeValue 31 = .ok (.iload_n 1, 1) := by decide +kernel
theorem dX5_wholeValue_32 : decode cX5_wholeValue 32 = .ok (.iaload, 1) := by decide +kernel
theorem dX5_wholeValue_33 : decode cX5_wholeValue 33 = .ok (.goto 5, 3) := by decide +kernel
theorem dX5_wholeValue_36 : decode cX5_wholeValue 36 = .ok (.bipush (-3), 2) := by decide +kernel
theorem dX5_wholeValue_38 : decode cX5_wholeValue 38 = .ok (.ireturn, 1) := by decide +kernel
set_option maxRecDepth 20000 in
theorem ggX5_isWhole_X5_isLarge : GoodIn wsX5_isWhole wsX5_isLarge := goodIn_r _ [5, 6, 7, 8, 9, 27, 28, 29, 30, 31, 32, 33, 34, 35, 36, 37, 38, 39, 40, 41, 42, 43, 44, 45, 46, 47, 48, 49, 50, 51, 52, 53, 54] (by decide +kernel) (by decide +kernel)
set_option maxRecDepth 20000 in
theorem gX5_isWhole_X5_isLarge : GoodIn wsX5_isWhole (wsV RX5 167 RX5 yX5_isLarge wsX5_isLarge) := goodIn_app (goodIn_of _ (by decide +kernel)) ggX5_isWhole_X5_isLarge
set_option maxRecDepth 20000 in
theorem ggX5_isWhole_X5_findWhole : GoodIn wsX5_isWhole wsX5_findWhole := goodIn_r _ [13, 6, 14, 8, 15, 16, 17, 7, 18, 19, 20, 4, 21, 22, 23, 24, 25, 26, 27, 28, 29, 30, 31, 32, 33, 34, 35, 36, 37, 38, 39, 40, 41, 42, 43, 44, 45, 46, 47, 48, 49, 50, 51, 52, 53, 54] (by decide +kernel) (by decide +kernel)
set_option maxRecDepth 20000 in
theorem gX5_isWhole_X5_findWhole : GoodIn wsX5_isWhole (wsV RX5 170 RX5 yX5_findWhole wsX5_findWhole) := goodIn_app (goodIn_of _ (by decide +kernel)) ggX5_isWhole_X5_findWhole
theorem dX5_isWhole_0 : decode cX5_isWhole 0 = .ok (.aload_n 0, 1) := by decide +kernel
theorem dX5_isWhole_1 : decode cX5_isWhole 1 = .ok (.invokevirtual 167, 3) := by decide +kernel
theorem dX5_isWhole_4 : decode cX5_isWhole 4 = .ok (.ifCond .eq 6, 3) := by decide +kernel
theorem dX5_isWhole_7 : decode cX5_isWhole 7 = .ok (.bipush (-4), 2) := by decide +kernel
theorem dX5_isWhole_9 : decode cX5_isWhole 9 = .ok (.ireturn, 1) := by decide +kernel
theorem dX5_isWhole_10 : decode cX5_isWhole 10 = .ok (.aload_n 0, 1) := by decide +kernel
theorem dX5_isWhole_11 : decode cX5_isWhole 11 = .ok (.invokevirtual 170, 3) := by decide +kernel
theorem dX5_isWhole_14 : decode cX5_isWhole 14 = .ok (.ifCond .eq 7, 3) := by decide +kernel
theorem dX5_isWhole_17 : decode cX5_isWhole 17 = .ok (.iconst 1, 1) := by decide +kernel
theorem dX5_isWhole_18 : decode cX5_isWhole 18 = .ok (.goto 4, 3) := by decide +kernel
theorem dX5_isWhole_21 : decode cX5_isWhole 21 = .ok (.iconst 0, 1) := by decide +kernel
theorem dX5_isWhole_22 : decode cX5_isWhole 22 = .ok (.ireturn, 1) := by decide +kernel
set_option maxRecDepth 20000 in
theorem ggX5_told_X5_rowCount : GoodIn wsX5_told wsX5_rowCount := goodIn_r _ [7, 2, 8, 9, 10, 11, 12, 13, 14, 15, 16, 17, 18, 19, 20, 21, 22, 23, 24, 25, 26, 27, 28, 29, 30, 31, 32, 33, 34, 35, 36] (by decide +kernel) (by decide +kernel)
set_option maxRecDepth 20000 in
theorem gX5_told_X5_rowCount : GoodIn wsX5_told (wsV RX5 140 RX5 yX5_rowCount wsX5_rowCount) := goodIn_app (goodIn_of _ (by decide +kernel)) ggX5_told_X5_rowCount
theorem dX5_told_0 : decode cX5_told 0 = .ok (.iload_n 1, 1) := by decide +kernel
theorem dX5_told_1 : decode cX5_told 1 = .ok (.ifCond .ne 10, 3) := by decide +kernel
theorem dX5_told_4 : decode cX5_told 4 = .ok (.aload_n 0, 1) := by decide +kernel
theorem dX5_told_5 : decode cX5_told 5 = .ok (.getfield 66, 3) := by decide +kernel
theorem dX5_told_8 : decode cX5_told 8 = .ok (.goto 29, 3) := by decide +kernel
theorem dX5_told_11 : decode cX5_told 11 = .ok (.iload_n 1, 1) := by decide +kernel
theorem dX5_told_12 : decode cX5_told 12 = .ok (.iconst 1, 1) := by decide +kernel
theorem dX5_told_13 : decode cX5_told 13 = .ok (.if_icmp .ne 10, 3) := by decide +kernel
theorem dX5_told_16 : decode cX5_told 16 = .ok (.aload_n 0, 1) := by decide +kernel
theorem dX5_told_17 : decode cX5_told 17 = .ok (.invokevirtual 140, 3) := by decide +kernel
theorem dX5_told_20 : decode cX5_told 20 = .ok (.goto 17, 3) := by decide +kernel
theorem dX5_told_23 : decode cX5_told 23 = .ok (.iload_n 1, 1) := by decide +kernel
theorem dX5_told_24 : decode cX5_told 24 = .ok (.iconst 2, 1) := by decide +kernel
theorem dX5_told_25 : decode cX5_told 25 = .ok (.if_icmp .ne 10, 3) := by decide +kernel
theorem dX5_told_28 : decode cX5_told 28 = .ok (.aload_n 0, 1) := by decide +kernel
theorem dX5_told_29 : decode cX5_told 29 = .ok (.getfield 78, 3) := by decide +kernel
theorem dX5_told_32 : decode cX5_told 32 = .ok (.goto 5, 3) := by decide +kernel
theorem dX5_told_35 : decode cX5_told 35 = .ok (.bipush (-2), 2) := by decide +kernel
theorem dX5_told_37 : decode cX5_told 37 = .ok (.ireturn, 1) := by decide +kernel
