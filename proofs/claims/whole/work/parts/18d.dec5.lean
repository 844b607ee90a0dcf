theorem dX5_know_114 : decode cX5_know 114 = .ok (.if_icmp .ne 7, 3) := by decide +kernel
theorem dX5_know_117 : decode cX5_know 117 = .ok (.iconst 1, 1) := by decide +kernel
theorem dX5_know_118 : decode cX5_know 118 = .ok (.goto 4, 3) := by decide +kernel
theorem dX5_know_121 : decode cX5_know 121 = .ok (.iconst 0, 1) := by decide +kernel
theorem dX5_know_122 : decode cX5_know 122 = .ok (.bastore, 1) := by decide +kernel
theorem dX5_know_123 : decode cX5_know 123 = .ok (.iinc 2 1, 3) := by decide +kernel
theorem dX5_know_126 : decode cX5_know 126 = .ok (.goto (-36), 3) := by decide +kernel
theorem dX5_know_129 : decode cX5_know 129 = .ok (.return_, 1) := by decide +kernel
theorem dX5_lowest_0 : decode cX5_lowest 0 = .ok (.lload_n 0, 1) := by decide +kernel
theorem dX5_lowest_1 : decode cX5_lowest 1 = .ok (.lconst 0, 1) := by decide +kernel
theorem dX5_lowest_2 : decode cX5_lowest 2 = .ok (.lcmp, 1) := by decide +kernel
theorem dX5_lowest_3 : decode cX5_lowest 3 = .ok (.ifCond .ge 8, 3) := by decide +kernel
theorem dX5_lowest_6 : decode cX5_lowest 6 = .ok (.lload_n 0, 1) := by decide +kernel
theorem dX5_lowest_7 : decode cX5_lowest 7 = .ok (.lneg, 1) := by decide +kernel
theorem dX5_lowest_8 : decode cX5_lowest 8 = .ok (.goto 4, 3) := by decide +kernel
theorem dX5_lowest_11 : decode cX5_lowest 11 = .ok (.lload_n 0, 1) := by decide +kernel
theorem dX5_lowest_12 : decode cX5_lowest 12 = .ok (.lstore 5, 2) := by decide +kernel
theorem dX5_lowest_14 : decode cX5_lowest 14 = .ok (.lload_n 2, 1) := by decide +kernel
theorem dX5_lowest_15 : decode cX5_lowest 15 = .ok (.lstore 7, 2) := by decide +kernel
theorem dX5_lowest_17 : decode cX5_lowest 17 = .ok (.lload 5, 2) := by decide +kernel
theorem dX5_lowest_19 : decode cX5_lowest 19 = .ok (.lconst 0, 1) := by decide +kernel
theorem dX5_lowest_20 : decode cX5_lowest 20 = .ok (.lcmp, 1) := by decide +kernel
theorem dX5_lowest_21 : decode cX5_lowest 21 = .ok (.ifCond .eq 21, 3) := by decide +kernel
theorem dX5_lowest_24 : decode cX5_lowest 24 = .ok (.lload 7, 2) := by decide +kernel
theorem dX5_lowest_26 : decode cX5_lowest 26 = .ok (.lload 5, 2) := by decide +kernel
theorem dX5_lowest_28 : decode cX5_lowest 28 = .ok (.lrem, 1) := by decide +kernel
theorem dX5_lowest_29 : decode cX5_lowest 29 = .ok (.lstore 9, 2) := by decide +kernel
theorem dX5_lowest_31 : decode cX5_lowest 31 = .ok (.lload 5, 2) := by decide +kernel
theorem dX5_lowest_33 : decode cX5_lowest 33 = .ok (.lstore 7, 2) := by decide +kernel
theorem dX5_lowest_35 : decode cX5_lowest 35 = .ok (.lload 9, 2) := by decide +kernel
theorem dX5_lowest_37 : decode cX5_lowest 37 = .ok (.lstore 5, 2) := by decide +kernel
theorem dX5_lowest_39 : decode cX5_lowest 39 = .ok (.goto (-22), 3) := by decide +kernel
theorem dX5_lowest_42 : decode cX5_lowest 42 = .ok (.iload 4, 2) := by decide +kernel
theorem dX5_lowest_44 : decode cX5_lowest 44 = .ok (.ifCond .ne 10, 3) := by decide +kernel
theorem dX5_lowest_47 : decode cX5_lowest 47 = .ok (.lload_n 0, 1) := by decide +kernel
theorem dX5_lowest_48 : decode cX5_lowest 48 = .ok (.lload 7, 2) := by decide +kernel
theorem dX5_lowest_50 : decode cX5_lowest 50 = .ok (.ldiv, 1) := by decide +kernel
theorem dX5_lowest_51 : decode cX5_lowest 51 = .ok (.goto 7, 3) := by decide +kernel
theorem dX5_lowest_54 : decode cX5_lowest 54 = .ok (.lload_n 2, 1) := by decide +kernel
theorem dX5_lowest_55 : decode cX5_lowest 55 = .ok (.lload 7, 2) := by decide +kernel
theorem dX5_lowest_57 : decode cX5_lowest 57 = .ok (.ldiv, 1) := by decide +kernel
theorem dX5_lowest_58 : decode cX5_lowest 58 = .ok (.lreturn, 1) := by decide +kernel
theorem dX5_isName_0 : decode cX5_isName 0 = .ok (.iload_n 1, 1) := by decide +kernel
theorem dX5_isName_1 : decode cX5_isName 1 = .ok (.ifCond .lt 15, 3) := by decide +kernel
theorem dX5_isName_4 : decode cX5_isName 4 = .ok (.iload_n 1, 1) := by decide +kernel
theorem dX5_isName_5 : decode cX5_isName 5 = .ok (.aload_n 0, 1) := by decide +kernel
theorem dX5_isName_6 : decode cX5_isName 6 = .ok (.getfield 66, 3) := by decide +kernel
theorem dX5_isName_9 : decode cX5_isName 9 = .ok (.if_icmp .ge 7, 3) := by decide +kernel
theorem dX5_isName_12 : decode cX5_isName 12 = .ok (.iconst 1, 1) := by decide +kernel
theorem dX5_isName_13 : decode cX5_isName 13 = .ok (.goto 4, 3) := by decide +kernel
theorem dX5_isName_16 : decode cX5_isName 16 = .ok (.iconst 0, 1) := by decide +kernel
theorem dX5_isName_17 : decode cX5_isName 17 = .ok (.ireturn, 1) := by decide +kernel
theorem dX5_isRow_0 : decode cX5_isRow 0 = .ok (.iload_n 1, 1) := by decide +kernel
theorem dX5_isRow_1 : decode cX5_isRow 1 = .ok (.ifCond .lt 24, 3) := by decide +kernel
theorem dX5_isRow_4 : decode cX5_isRow 4 = .ok (.iload_n 1, 1) := by decide +kernel
theorem dX5_isRow_5 : decode cX5_isRow 5 = .ok (.aload_n 0, 1) := by decide +kernel
theorem dX5_isRow_6 : decode cX5_isRow 6 = .ok (.getfield 78, 3) := by decide +kernel
theorem dX5_isRow_9 : decode cX5_isRow 9 = .ok (.if_icmp .ge 16, 3) := by decide +kernel
theorem dX5_isRow_12 : decode cX5_isRow 12 = .ok (.aload_n 0, 1) := by decide +kernel
theorem dX5_isRow_13 : decode cX5_isRow 13 = .ok (.getfield 28, 3) := by decide +kernel
theorem dX5_isRow_16 : decode cX5_isRow 16 = .ok (.iload_n 1, 1) := by decide +kernel
theorem dX5_isRow_17 : decode cX5_isRow 17 = .ok (.baload, 1) := by decide +kernel
theorem dX5_isRow_18 : decode cX5_isRow 18 = .ok (.ifCond .eq 7, 3) := by decide +kernel
theorem dX5_isRow_21 : decode cX5_isRow 21 = .ok (.iconst 1, 1) := by decide +kernel
theorem dX5_isRow_22 : decode cX5_isRow 22 = .ok (.goto 4, 3) := by decide +kernel
theorem dX5_isRow_25 : decode cX5_isRow 25 = .ok (.iconst 0, 1) := by decide +kernel
theorem dX5_isRow_26 : decode cX5_isRow 26 = .ok (.ireturn, 1) := by decide +kernel
theorem dX5_isSpan_0 : decode cX5_isSpan 0 = .ok (.iload_n 0, 1) := by decide +kernel
theorem dX5_isSpan_1 : decode cX5_isSpan 1 = .ok (.bipush (-100), 2) := by decide +kernel
theorem dX5_isSpan_3 : decode cX5_isSpan 3 = .ok (.if_icmp .lt 18, 3) := by decide +kernel
theorem dX5_isSpan_6 : decode cX5_isSpan 6 = .ok (.iload_n 1, 1) := by decide +kernel
theorem dX5_isSpan_7 : decode cX5_isSpan 7 = .ok (.bipush 100, 2) := by decide +kernel
theorem dX5_isSpan_9 : decode cX5_isSpan 9 = .ok (.if_icmp .gt 12, 3) := by decide +kernel
theorem dX5_isSpan_12 : decode cX5_isSpan 12 = .ok (.iload_n 0, 1) := by decide +kernel
theorem dX5_isSpan_13 : decode cX5_isSpan 13 = .ok (.iload_n 1, 1) := by decide +kernel
theorem dX5_isSpan_14 : decode cX5_isSpan 14 = .ok (.if_icmp .gt 7, 3) := by decide +kernel
theorem dX5_isSpan_17 : decode cX5_isSpan 17 = .ok (.iconst 1, 1) := by decide +kernel
theorem dX5_isSpan_18 : decode cX5_isSpan 18 = .ok (.goto 4, 3) := by decide +kernel
theorem dX5_isSpan_21 : decode cX5_isSpan 21 = .ok (.iconst 0, 1) := by decide +kernel
theorem dX5_isSpan_22 : decode cX5_isSpan 22 = .ok (.ireturn, 1) := by decide +kernel
set_option maxRecDepth 20000 in
theorem ggX5_name_X5_isSpan : GoodIn wsX5_name wsX5_isSpan := goodIn_r _ [10] rfl (by decide +kernel)
set_option maxRecDepth 20000 in
theorem gX5_name_X5_isSpan : GoodIn wsX5_name (va_wsS RX5 131 yX5_isSpan wsX5_isSpan) := goodIn_app (goodIn_of _ (by decide +kernel)) ggX5_name_X5_isSpan
theorem dX5_name_0 : decode cX5_name 0 = .ok (.iload_n 1, 1) := by decide +kernel
theorem dX5_name_1 : decode cX5_name 1 = .ok (.iload_n 2, 1) := by decide +kernel
theorem dX5_name_2 : decode cX5_name 2 = .ok (.invokestatic 131, 3) := by decide +kernel
theorem dX5_name_5 : decode cX5_name 5 = .ok (.ifCond .ne 6, 3) := by decide +kernel
theorem dX5_name_8 : decode cX5_name 8 = .ok (.bipush (-2), 2) := by decide +kernel
theorem dX5_name_10 : decode cX5_name 10 = .ok (.ireturn, 1) := by decide +kernel
theorem dX5_name_11 : decode cX5_name 11 = .ok (.aload_n 0, 1) := by decide +kernel
theorem dX5_name_12 : decode cX5_name 12 = .ok (.getfield 66, 3) := by decide +kernel
theorem dX5_name_15 : decode cX5_name 15 = .ok (.iconst 5, 1) := by decide +kernel
theorem dX5_name_16 : decode cX5_name 16 = .ok (.if_icmp .ne 6, 3) := by decide +kernel
theorem dX5_name_19 : decode cX5_name 19 = .ok (.bipush (-4), 2) := by decide +kernel
theorem dX5_name_21 : decode cX5_name 21 = .ok (.ireturn, 1) := by decide +kernel
theorem dX5_name_22 : decode cX5_name 22 = .ok (.aload_n 0, 1) := by decide +kernel
theorem dX5_name_23 : decode cX5_name 23 = .ok (.getfield 7, 3) := by decide +kernel
theorem dX5_name_26 : decode cX5_name 26 = .ok (.aload_n 0, 1) := by decide +kernel
theorem dX5_name_27 : decode cX5_name 27 = .ok (.getfield 66, 3) := by decide +kernel
theorem dX5_name_30 : decode cX5_name 30 = .ok (.iload_n 1, 1) := by decide +kernel
theorem dX5_name_31 : decode cX5_name 31 = .ok (.iastore, 1) := by decide +kernel
theorem dX5_name_32 : decode cX5_name 32 = .ok (.aload_n 0, 1) := by decide +kernel
theorem dX5_name_33 : decode cX5_name 33 = .ok (.getfield 13, 3) := by decide +kernel
theorem dX5_name_36 : decode cX5_name 36 = .ok (.aload_n 0, 1) := by decide +kernel
theorem dX5_name_37 : decode cX5_name 37 = .ok (.getfield 66, 3) := by decide +kernel
theorem dX5_name_40 : decode cX5_name 40 = .ok (.iload_n 2, 1) := by decide +kernel
theorem dX5_name_41 : decode cX5_name 41 = .ok (.iastore, 1) := by decide +kernel
theorem dX5_name_42 : decode cX5_name 42 = .ok (.aload_n 0, 1) := by decide +kernel
theorem dX5_name_43 : decode cX5_name 43 = .ok (.getfield 16, 3) := by decide +kernel
theorem dX5_name_46 : decode cX5_name 46 = .ok (.aload_n 0, 1) := by decide +kernel
theorem dX5_name_47 : decode cX5_name 47 = .ok (.getfield 66, 3) := by decide +kernel
theorem dX5_name_50 : decode cX5_name 50 = .ok (.iconst 0, 1) := by decide +kernel
theorem dX5_name_51 : decode cX5_name 51 = .ok (.iastore, 1) := by decide +kernel
theorem dX5_name_52 : decode cX5_name 52 = .ok (.iconst 0, 1) := by decide +kernel
theorem dX5_name_53 : decode cX5_name 53 = .ok (.istore_n 3, 1) := by decide +kernel
theorem dX5_name_54 : decode cX5_name 54 = .ok (.iload_n 3, 1) := by decide +kernel
theorem dX5_name_55 : decode cX5_name 55 = .ok (.bipush 8, 2) := by decide +kernel
theorem dX5_name_57 : decode cX5_name 57 = .ok (.if_icmp .ge 23, 3) := by decide +kernel
theorem dX5_name_60 : decode cX5_name 60 = .ok (.aload_n 0, 1) := by decide +kernel
theorem dX5_name_61 : decode cX5_name 61 = .ok (.getfield 25, 3) := by decide +kernel
theorem dX5_name_64 : decode cX5_name 64 = .ok (.iconst 5, 1) := by decide +kernel
theorem dX5_name_65 : decode cX5_name 65 = .ok (.iload_n 3, 1) := by decide +kernel
theorem dX5_name_66 : decode cX5_name 66 = .ok (.imul, 1) := by decide +kernel
theorem dX5_name_67 : decode cX5_name 67 = .ok (.aload_n 0, 1) := by decide +kernel
theorem dX5_name_68 : decode cX5_name 68 = .ok (.getfield 66, 3) := by decide +kernel
theorem dX5_name_71 : decode cX5_name 71 = .ok (.iadd, 1) := by decide +kernel
theorem dX5_name_72 : decode cX5_name 72 = .ok (.iconst 0, 1) := by decide +kernel
theorem dX5_name_73 : decode cX5_name 73 = .ok (.iastore, 1) := by decide +kernel
theorem dX5_name_74 : decode cX5_name 74 = .ok (.iinc 3 1, 3) := by decide +kernel
theorem dX5_name_77 : decode cX5_name 77 = .ok (.goto (-23), 3) := by decide +kernel
theorem dX5_name_80 : decode cX5_name 80 = .ok (.aload_n 0, 1) := by decide +kernel
theorem dX5_name_81 : decode cX5_name 81 = .ok (.dup, 1) := by decide +kernel
theorem dX5_name_82 : decode cX5_name 82 = .ok (.getfield 66, 3) := by decide +kernel
theorem dX5_name_85 : decode cX5_name 85 = .ok (.iconst 1, 1) := by decide +kernel
theorem dX5_name_86 : decode cX5_name 86 = .ok (.iadd, 1) := by decide +kernel
theorem dX5_name_87 : decode cX5_name 87 = .ok (.putfield 66, 3) := by decide +kernel
theorem dX5_name_90 : decode cX5_name 90 = .ok (.aload_n 0, 1) := by decide +kernel
theorem dX5_name_91 : decode cX5_name 91 = .ok (.iconst 0, 1) := by decide +kernel
theorem dX5_name_92 : decode cX5_name 92 = .ok (.putfield 117, 3) := by decide +kernel
theorem dX5_name_95 : decode cX5_name 95 = .ok (.aload_n 0, 1) := by decide +kernel
theorem dX5_name_96 : decode cX5_name 96 = .ok (.getfield 66, 3) := by decide +kernel
theorem dX5_name_99 : decode cX5_name 99 = .ok (.iconst 1, 1) := by decide +kernel
theorem dX5_name_100 : decode cX5_name 100 = .ok (.isub, 1) := by decide +kernel
theorem dX5_name_101 : decode cX5_name 101 = .ok (.ireturn, 1) := by decide +kernel
set_option maxRecDepth 20000 in
theorem ggX5_span_X5_isName : GoodIn wsX5_span wsX5_isName := goodIn_r _ [8, 9, 13, 14, 15, 16, 17, 18, 19, 20, 21, 22, 23, 24, 25, 26, 27, 28, 29, 30, 31, 32, 33, 34, 35, 36, 37, 38, 39, 40] rfl (by decide +kernel)
set_option maxRecDepth 20000 in
theorem gX5_span_X5_isName : GoodIn wsX5_span (wsV RX5 134 RX5 yX5_isName wsX5_isName) := goodIn_app (goodIn_of _ (by decide +kernel)) ggX5_span_X5_isName
set_option maxRecDepth 20000 in
theorem ggX5_span_X5_isSpan : GoodIn wsX5_span wsX5_isSpan := goodIn_r _ [12] rfl (by decide +kernel)
set_option maxRecDepth 20000 in
theorem gX5_span_X5_isSpan : GoodIn wsX5_span (va_wsS RX5 131 yX5_isSpan wsX5_isSpan) := goodIn_app (goodIn_of _ (by decide +kernel)) ggX5_span_X5_isSpan
theorem dX5_span_0 : decode cX5_span 0 = .ok (.aload_n 0, 1) := by decide +kernel
theorem dX5_span_1 : decode cX5_span 1 = .ok (.iload_n 1, 1) := by decide +kernel
theorem dX5_span_2 : decode cX5_span 2 = .ok (.invokevirtual 134, 3) := by decide +kernel
theorem dX5_span_5 : decode cX5_span 5 = .ok (.ifCond .ne 5, 3) := by decide +kernel
theorem dX5_span_8 : decode cX5_span 8 = .ok (.iconst (-1), 1) := by decide +kernel
theorem dX5_span_9 : decode cX5_span 9 = .ok (.ireturn, 1) := by decide +kernel
theorem dX5_span_10 : decode cX5_span 10 = .ok (.iload_n 2, 1) := by decide +kernel
theorem dX5_span_11 : decode cX5_span 11 = .ok (.iload_n 3, 1) := by decide +kernel
theorem dX5_span_12 : decode cX5_span 12 = .ok (.invokestatic 131, 3) := by decide +kernel
theorem dX5_span_15 : decode cX5_span 15 = .ok (.ifCond .ne 6, 3) := by decide +kernel
theorem dX5_span_18 : decode cX5_span 18 = .ok (.bipush (-2), 2) := by decide +kernel
theorem dX5_span_20 : decode cX5_span 20 = .ok (.ireturn, 1) := by decide +kernel
theorem dX5_span_21 : decode cX5_span 21 = .ok (.aload_n 0, 1) := by decide +kernel
theorem dX5_span_22 : decode cX5_span 22 = .ok (.getfield 7, 3) := by decide +kernel
theorem dX5_span_25 : decode cX5_span 25 = .ok (.iload_n 1, 1) := by decide +kernel
theorem dX5_span_26 : decode cX5_span 26 = .ok (.iload_n 2, 1) := by decide +kernel
theorem dX5_span_27 : decode cX5_span 27 = .ok (.iastore, 1) := by decide +kernel
theorem dX5_span_28 : decode cX5_span 28 = .ok (.aload_n 0, 1) := by decide +kernel
theorem dX5_span_29 : decode cX5_span 29 = .ok (.getfield 13, 3) := by decide +kernel
theorem dX5_span_32 : decode cX5_span 32 = .ok (.iload_n 1, 1) := by decide +kernel
theorem dX5_span_33 : decode cX5_span 33 = .ok (.iload_n 3, 1) := by decide +kernel
theorem dX5_span_34 : decode cX5_span 34 = .ok (.iastore, 1) := by decide +kernel
theorem dX5_span_35 : decode cX5_span 35 = .ok (.aload_n 0, 1) := by decide +kernel
theorem dX5_span_36 : decode cX5_span 36 = .ok (.iconst 0, 1) := by decide +kernel
theorem dX5_span_37 : decode cX5_span 37 = .ok (.putfield 117, 3) := by decide +kernel
theorem dX5_span_40 : decode cX5_span 40 = .ok (.iconst 1, 1) := by decide +kernel
theorem dX5_span_41 : decode cX5_span 41 = .ok (.ireturn, 1) := by decide +kernel
set_option maxRecDepth 20000 in
theorem ggX5_cost_X5_isName : GoodIn wsX5_cost wsX5_isName := goodIn_r _ [7, 8, 9, 10, 11, 12, 13, 14, 15, 16, 17, 18, 19, 20, 21, 22, 23, 24, 25, 26, 27, 28, 29, 30, 31, 32, 33, 34, 35, 36] rfl (by decide +kernel)
set_option maxRecDepth 20000 in
theorem gX5_cost_X5_isName : GoodIn wsX5_cost (wsV RX5 134 RX5 yX5_isName wsX5_isName) := goodIn_app (goodIn_of _ (by decide +kernel)) ggX5_cost_X5_isName
theorem dX5_cost_0 : decode cX5_cost 0 = .ok (.aload_n 0, 1) := by decide +kernel
theorem dX5_cost_1 : decode cX5_cost 1 = .ok (.iload_n 1, 1) := by decide +kernel
theorem dX5_cost_2 : decode cX5_cost 2 = .ok (.invokevirtual 134, 3) := by decide +kernel
theorem dX5_cost_5 : decode cX5_cost 5 = .ok (.ifCond .ne 5, 3) := by decide +kernel
theorem dX5_cost_8 : decode cX5_cost 8 = .ok (.iconst (-1), 1) := by decide +kernel
theorem dX5_cost_9 : decode cX5_cost 9 = .ok (.ireturn, 1) := by decide +kernel
theorem dX5_cost_10 : decode cX5_cost 10 = .ok (.iload_n 2, 1) := by decide +kernel
theorem dX5_cost_11 : decode cX5_cost 11 = .ok (.bipush (-99), 2) := by decide +kernel
theorem dX5_cost_13 : decode cX5_cost 13 = .ok (.if_icmp .lt 9, 3) := by decide +kernel
theorem dX5_cost_16 : decode cX5_cost 16 = .ok (.iload_n 2, 1) := by decide +kernel
theorem dX5_cost_17 : decode cX5_cost 17 = .ok (.bipush 99, 2) := by decide +kernel
theorem dX5_cost_19 : decode cX5_cost 19 = .ok (.if_icmp .le 6, 3) := by decide +kernel
theorem dX5_cost_22 : decode cX5_cost 22 = .ok (.bipush (-2), 2) := by decide +kernel
theorem dX5_cost_24 : decode cX5_cost 24 = .ok (.ireturn, 1) := by decide +kernel
theorem dX5_cost_25 : decode cX5_cost 25 = .ok (.aload_n 0, 1) := by decide +kernel
theorem dX5_cost_26 : decode cX5_cost 26 = .ok (.getfield 16, 3) := by decide +kernel
theorem dX5_cost_29 : decode cX5_cost 29 = .ok (.iload_n 1, 1) := by decide +kernel
theorem dX5_cost_30 : decode cX5_cost 30 = .ok (.iaload, 1) := by decide +kernel
theorem dX5_cost_31 : decode cX5_cost 31 = .ok (.istore_n 3, 1) := by decide +kernel
theorem dX5_cost_32 : decode cX5_cost 32 = .ok (.aload_n 0, 1) := by decide +kernel
theorem dX5_cost_33 : decode cX5_cost 33 = .ok (.getfield 16, 3) := by decide +kernel
theorem dX5_cost_36 : decode cX5_cost 36 = .ok (.iload_n 1, 1) := by decide +kernel
theorem dX5_cost_37 : decode cX5_cost 37 = .ok (.iload_n 2, 1) := by decide +kernel
theorem dX5_cost_38 : decode cX5_cost 38 = .ok (.iastore, 1) := by decide +kernel
theorem dX5_cost_39 : decode cX5_cost 39 = .ok (.aload_n 0, 1) := by decide +kernel
theorem dX5_cost_40 : decode cX5_cost 40 = .ok (.iconst 0, 1) := by decide +kernel
theorem dX5_cost_41 : decode cX5_cost 41 = .ok (.putfield 117, 3) := by decide +kernel
theorem dX5_cost_44 : decode cX5_cost 44 = .ok (.iload_n 3, 1) := by decide +kernel
theorem dX5_cost_45 : decode cX5_cost 45 = .ok (.ireturn, 1) := by decide +kernel
theorem dX5_row_0 : decode cX5_row 0 = .ok (.iload_n 1, 1) := by decide +kernel
theorem dX5_row_1 : decode cX5_row 1 = .ok (.ifCond .lt 22, 3) := by decide +kernel
theorem dX5_row_4 : decode cX5_row 4 = .ok (.iload_n 1, 1) := by decide +kernel
theorem dX5_row_5 : decode cX5_row 5 = .ok (.iconst 2, 1) := by decide +kernel
theorem dX5_row_6 : decode cX5_row 6 = .ok (.if_icmp .gt 17, 3) := by decide +kernel
theorem dX5_row_9 : decode cX5_row 9 = .ok (.iload_n 2, 1) := by decide +kernel
theorem dX5_row_10 : decode cX5_row 10 = .ok (.sipush (-1000), 3) := by decide +kernel
theorem dX5_row_13 : decode cX5_row 13 = .ok (.if_icmp .lt 10, 3) := by decide +kernel
theorem dX5_row_16 : decode cX5_row 16 = .ok (.iload_n 2, 1) := by decide +kernel
theorem dX5_row_17 : decode cX5_row 17 = .ok (.sipush 1000, 3) := by decide +kernel
theorem dX5_row_20 : decode cX5_row 20 = .ok (.if_icmp .le 6, 3) := by decide +kernel
theorem dX5_row_23 : decode cX5_row 23 = .ok (.bipush (-2), 2) := by decide +kernel
theorem dX5_row_25 : decode cX5_row 25 = .ok (.ireturn, 1) := by decide +kernel
theorem dX5_row_26 : decode cX5_row 26 = .ok (.aload_n 0, 1) := by decide +kernel
theorem dX5_row_27 : decode cX5_row 27 = .ok (.getfield 78, 3) := by decide +kernel
theorem dX5_row_30 : decode cX5_row 30 = .ok (.bipush 8, 2) := by decide +kernel
theorem dX5_row_32 : decode cX5_row 32 = .ok (.if_icmp .ne 6, 3) := by decide +kernel
theorem dX5_row_35 : decode cX5_row 35 = .ok (.bipush (-4), 2) := by decide +kernel
theorem dX5_row_37 : decode cX5_row 37 = .ok (.ireturn, 1) := by decide +kernel
theorem dX5_row_38 : decode cX5_row 38 = .ok (.aload_n 0, 1) := by decide +kernel
theorem dX5_row_39 : decode cX5_row 39 = .ok (.getfield 19, 3) := by decide +kernel
theorem dX5_row_42 : decode cX5_row 42 = .ok (.aload_n 0, 1) := by decide +kernel
theorem dX5_row_43 : decode cX5_row 43 = .ok (.getfield 78, 3) := by decide +kernel
theorem dX5_row_46 : decode cX5_row 46 = .ok (.iload_n 1, 1) := by decide +kernel
theorem dX5_row_47 : decode cX5_row 47 = .ok (.iastore, 1) := by decide +kernel
theorem dX5_row_48 : decode cX5_row 48 = .ok (.aload_n 0, 1) := by decide +kernel
theorem dX5_row_49 : decode cX5_row 49 = .ok (.getfield 22, 3) := by decide +kernel
theorem dX5_row_52 : decode cX5_row 52 = .ok (.aload_n 0, 1) := by decide +kernel
theorem dX5_row_53 : decode cX5_row 53 = .ok (.getfield 78, 3) := by decide +kernel
theorem dX5_row_56 : decode cX5_row 56 = .ok (.iload_n 2, 1) := by decide +kernel
theorem dX5_row_57 : decode cX5_row 57 = .ok (.iastore, 1) := by decide +kernel
theorem dX5_row_58 : decode cX5_row 58 = .ok (.aload_n 0, 1) := by decide +kernel
theorem dX5_row_59 : decode cX5_row 59 = .ok (.getfield 28, 3) := by decide +kernel
theorem dX5_row_62 : decode cX5_row 62 = .ok (.aload_n 0, 1) := by decide +kernel
theorem dX5_row_63 : decode cX5_row 63 = .ok (.getfield 78, 3) := by decide +kernel
theorem dX5_row_66 : decode cX5_row 66 = .ok (.iconst 1, 1) := by decide +kernel
theorem dX5_row_67 : decode cX5_row 67 = .ok (.bastore, 1) := by decide +kernel
theorem dX5_row_68 : decode cX5_row 68 = .ok (.iconst 0, 1) := by decide +kernel
theorem dX5_row_69 : decode cX5_row 69 = .ok (.istore_n 3, 1) := by decide +kernel
theorem dX5_row_70 : decode cX5_row 70 = .ok (.iload_n 3, 1) := by decide +kernel
theorem dX5_row_71 : decode cX5_row 71 = .ok (.iconst 5, 1) := by decide +kernel
theorem dX5_row_72 : decode cX5_row 72 = .ok (.if_icmp .ge 23, 3) := by decide +kernel
theorem dX5_row_75 : decode cX5_row 75 = .ok (.aload_n 0, 1) := by decide +kernel
theorem dX5_row_76 : decode cX5_row 76 = .ok (.getfield 25, 3) := by decide +kernel
theorem dX5_row_79 : decode cX5_row 79 = .ok (.iconst 5, 1) := by decide +kernel
theorem dX5_row_80 : decode cX5_row 80 = .ok (.aload_n 0, 1) := by decide +kernel
theorem dX5_row_81 : decode cX5_row 81 = .ok (.getfield 78, 3) := by decide +kernel
theorem dX5_row_84 : decode cX5_row 84 = .ok (.imul, 1) := by decide +kernel
theorem dX5_row_85 : decode cX5_row 85 = .ok (.iload_n 3, 1) := by decide +kernel
theorem dX5_row_86 : decode cX5_row 86 = .ok (.iadd, 1) := by decide +kernel
theorem dX5_row_87 : decode cX5_row 87 = .ok (.iconst 0, 1) := by decide +kernel
theorem dX5_row_88 : decode cX5_row 88 = .ok (.iastore, 1) := by decide +kernel
theorem dX5_row_89 : decode cX5_row 89 = .ok (.iinc 3 1, 3) := by decide +kernel
theorem dX5_row_92 : decode cX5_row 92 = .ok (.goto (-22), 3) := by decide +kernel
theorem dX5_row_95 : decode cX5_row 95 = .ok (.aload_n 0, 1) := by decide +kernel
theorem dX5_row_96 : decode cX5_row 96 = .ok (.dup, 1) := by decide +kernel
theorem dX5_row_97 : decode cX5_row 97 = .ok (.getfield 78, 3) := by decide +kernel
theorem dX5_row_100 : decode cX5_row 100 = .ok (.iconst 1, 1) := by decide +kernel
theorem dX5_row_101 : decode cX5_row 101 = .ok (.iadd, 1) := by decide +kernel
theorem dX5_row_102 : decode cX5_row 102 = .ok (.putfield 78, 3) := by decide +kernel
theorem dX5_row_105 : decode cX5_row 105 = .ok (.aload_n 0, 1) := by decide +kernel
theorem dX5_row_106 : decode cX5_row 106 = .ok (.iconst 0, 1) := by decide +kernel
theorem dX5_row_107 : decode cX5_row 107 = .ok (.putfield 117, 3) := by decide +kernel
theorem dX5_row_110 : decode cX5_row 110 = .ok (.aload_n 0, 1) := by decide +kernel
theorem dX5_row_111 : decode cX5_row 111 = .ok (.getfield 78, 3) := by decide +kernel
theorem dX5_row_114 : decode cX5_row 114 = .ok (.iconst 1, 1) := by decide +kernel
theorem dX5_row_115 : decode cX5_row 115 = .ok (.isub, 1) := by decide +kernel
theorem dX5_row_116 : decode cX5_row 116 = .ok (.ireturn, 1) := by decide +kernel
set_option maxRecDepth 20000 in
theorem ggX5_right_X5_isRow : GoodIn wsX5_right wsX5_isRow := goodIn_r _ [7, 8, 9, 10, 11, 12, 13, 14, 15, 16, 17, 18, 19, 20, 21, 22, 23, 24, 25, 26, 27, 28, 29, 30, 31, 32, 33, 34, 35, 36, 37] rfl (by decide +kernel)
set_option maxRecDepth 20000 in
theorem gX5_right_X5_isRow : GoodIn wsX5_right (wsV RX5 137 RX5 yX5_isRow wsX5_isRow) := goodIn_app (goodIn_of _ (by decide +kernel)) ggX5_right_X5_isRow
theorem dX5_right_0 : decode cX5_right 0 = .ok (.aload_n 0, 1) := by decide +kernel
theorem dX5_right_1 : decode cX5_right 1 = .ok (.iload_n 1, 1) := by decide +kernel
theorem dX5_right_2 : decode cX5_right 2 = .ok (.invokevirtual 137, 3) := by decide +kernel
theorem dX5_right_5 : decode cX5_right 5 = .ok (.ifCond .ne 5, 3) := by decide +kernel
theorem dX5_right_8 : decode cX5_right 8 = .ok (.iconst (-1), 1) := by decide +kernel
theorem dX5_right_9 : decode cX5_right 9 = .ok (.ireturn, 1) := by decide +kernel
theorem dX5_right_10 : decode cX5_right 10 = .ok (.iload_n 2, 1) := by decide +kernel
theorem dX5_right_11 : decode cX5_right 11 = .ok (.sipush (-1000), 3) := by decide +kernel
theorem dX5_right_14 : decode cX5_right 14 = .ok (.if_icmp .lt 10, 3) := by decide +kernel
theorem dX5_right_17 : decode cX5_right 17 = .ok (.iload_n 2, 1) := by decide +kernel
theorem dX5_right_18 : decode cX5_right 18 = .ok (.sipush 1000, 3) := by decide +kernel
theorem dX5_right_21 : decode cX5_right 21 = .ok (.if_icmp .le 6, 3) := by decide +kernel
theorem dX5_right_24 : decode cX5_right 24 = .ok (.bipush (-2), 2) := by decide +kernel
theorem dX5_right_26 : decode cX5_right 26 = .ok (.ireturn, 1) := by decide +kernel
theorem dX5_right_27 : decode cX5_right 27 = .ok (.aload_n 0, 1) := by decide +kernel
theorem dX5_right_28 : decode cX5_right 28 = .ok (.getfield 22, 3) := by decide +kernel
theorem dX5_right_31 : decode cX5_right 31 = .ok (.iload_n 1, 1) := by decide +kernel
theorem dX5_right_32 : decode cX5_right 32 = .ok (.iload_n 2, 1) := by decide +kernel
theorem dX5_right_33 : decode cX5_right 33 = .ok (.iastore, 1) := by decide +kernel
theorem dX5_right_34 : decode cX5_right 34 = .ok (.aload_n 0, 1) := by decide +kernel
theorem dX5_right_35 : decode cX5_right 35 = .ok (.iconst 0, 1) := by decide +kernel
theorem dX5_right_36 : decode cX5_right 36 = .ok (.putfield 117, 3) := by decide +kernel
theorem dX5_right_39 : decode cX5_right 39 = .ok (.iconst 1, 1) := by decide +kernel
theorem dX5_right_40 : decode cX5_right 40 = .ok (.ireturn, 1) := by decide +kernel
set_option maxRecDepth 20000 in
theorem ggX5_factor_X5_isRow : GoodIn wsX5_factor wsX5_isRow := goodIn_r _ [7, 8, 9, 15, 16, 17, 18, 19, 20, 21, 22, 23, 24, 25, 26, 27, 28, 29, 30, 31, 32, 33, 34, 35, 36, 37, 38, 39, 40, 41, 42] rfl (by decide +kernel)
set_option maxRecDepth 20000 in
theorem gX5_factor_X5_isRow : GoodIn wsX5_factor (wsV RX5 137 RX5 yX5_isRow wsX5_isRow) := goodIn_app (goodIn_of _ (by decide +kernel)) ggX5_factor_X5_isRow
set_option maxRecDepth 20000 in
theorem ggX5_factor_X5_isName : GoodIn wsX5_factor wsX5_isName := goodIn_r _ [13, 14, 15, 16, 17, 18, 19, 20, 21, 22, 23, 24, 25, 26, 27, 28, 29, 30, 31, 32, 33, 34, 35, 36, 37, 38, 39, 40, 41, 42] rfl (by decide +kernel)
set_option maxRecDepth 20000 in
theorem gX5_factor_X5_isName : GoodIn wsX5_factor (wsV RX5 134 RX5 yX5_isName wsX5_isName) := goodIn_app (goodIn_of _ (by decide +kernel)) ggX5_factor_X5_isName
theorem dX5_factor_0 : decode cX5_factor 0 = .ok (.aload_n 0, 1) := by decide +kernel
theorem dX5_factor_1 : decode cX5_factor 1 = .ok (.iload_n 1, 1) := by decide +kernel
theorem dX5_factor_2 : decode cX5_factor 2 = .ok (.invokevirtual 137, 3) := by decide +kernel
theorem dX5_factor_5 : decode cX5_factor 5 = .ok (.ifCond .eq 11, 3) := by decide +kernel
theorem dX5_factor_8 : decode cX5_factor 8 = .ok (.aload_n 0, 1) := by decide +kernel
theorem dX5_factor_9 : decode cX5_factor 9 = .ok (.iload_n 2, 1) := by decide +kernel
theorem dX5_factor_10 : decode cX5_factor 10 = .ok (.invokevirtual 134, 3) := by decide +kernel
theorem dX5_factor_13 : decode cX5_factor 13 = .ok (.ifCond .ne 5, 3) := by decide +kernel
theorem dX5_factor_16 : decode cX5_factor 16 = .ok (.iconst (-1), 1) := by decide +kernel
theorem dX5_factor_17 : decode cX5_factor 17 = .ok (.ireturn, 1) := by decide +kernel
theorem dX5_factor_18 : decode cX5_factor 18 = .ok (.iload_n 3, 1) := by decide +kernel
theorem dX5_factor_19 : decode cX5_factor 19 = .ok (.bipush (-9), 2) := by decide +kernel
theorem dX5_factor_21 : decode cX5_factor 21 = .ok (.if_icmp .lt 9, 3) := by decide +kernel
