theorem dX4_init_0 : decode cX4_init 0 = .ok (.aload_n 0, 1) := by decide +kernel
theorem dX4_init_1 : decode cX4_init 1 = .ok (.invokespecial 1, 3) := by decide +kernel
theorem dX4_init_4 : decode cX4_init 4 = .ok (.aload_n 0, 1) := by decide +kernel
theorem dX4_init_5 : decode cX4_init 5 = .ok (.new 7, 3) := by decide +kernel
theorem dX4_init_8 : decode cX4_init 8 = .ok (.dup, 1) := by decide +kernel
theorem dX4_init_9 : decode cX4_init 9 = .ok (.invokespecial 9, 3) := by decide +kernel
theorem dX4_init_12 : decode cX4_init 12 = .ok (.putfield 10, 3) := by decide +kernel
theorem dX4_init_15 : decode cX4_init 15 = .ok (.aload_n 0, 1) := by decide +kernel
theorem dX4_init_16 : decode cX4_init 16 = .ok (.new 16, 3) := by decide +kernel
theorem dX4_init_19 : decode cX4_init 19 = .ok (.dup, 1) := by decide +kernel
theorem dX4_init_20 : decode cX4_init 20 = .ok (.aload_n 0, 1) := by decide +kernel
theorem dX4_init_21 : decode cX4_init 21 = .ok (.getfield 10, 3) := by decide +kernel
theorem dX4_init_24 : decode cX4_init 24 = .ok (.invokespecial 18, 3) := by decide +kernel
theorem dX4_init_27 : decode cX4_init 27 = .ok (.putfield 21, 3) := by decide +kernel
theorem dX4_init_30 : decode cX4_init 30 = .ok (.aload_n 0, 1) := by decide +kernel
theorem dX4_init_31 : decode cX4_init 31 = .ok (.new 25, 3) := by decide +kernel
theorem dX4_init_34 : decode cX4_init 34 = .ok (.dup, 1) := by decide +kernel
theorem dX4_init_35 : decode cX4_init 35 = .ok (.aload_n 0, 1) := by decide +kernel
theorem dX4_init_36 : decode cX4_init 36 = .ok (.getfield 10, 3) := by decide +kernel
theorem dX4_init_39 : decode cX4_init 39 = .ok (.invokespecial 27, 3) := by decide +kernel
theorem dX4_init_42 : decode cX4_init 42 = .ok (.putfield 28, 3) := by decide +kernel
theorem dX4_init_45 : decode cX4_init 45 = .ok (.return_, 1) := by decide +kernel
set_option maxRecDepth 20000 in
theorem ggX4_name_X4_isSpan : GoodIn wsX4_name wsX4_isSpan := goodIn_r _ [5, 6, 7, 4, 8] rfl (by decide +kernel)
set_option maxRecDepth 20000 in
theorem gX4_name_X4_isSpan : GoodIn wsX4_name (va_wsS RX4 32 yX4_isSpan wsX4_isSpan) := goodIn_app (goodIn_of _ (by decide +kernel)) ggX4_name_X4_isSpan
set_option maxRecDepth 20000 in
theorem ggX4_name_X4_forgetAnswers : GoodIn wsX4_name wsX4_forgetAnswers := goodIn_r _ [12, 13, 14, 15, 16, 17, 18, 19, 20, 21, 22, 23, 24, 25, 26, 27, 28, 38, 39, 40, 41, 42, 43, 44, 45, 46, 47, 48, 49, 50, 51, 52, 53, 54, 55, 56, 57, 58, 59, 60] rfl (by decide +kernel)
set_option maxRecDepth 20000 in
theorem gX4_name_X4_forgetAnswers : GoodIn wsX4_name (wsV RX4 36 RX4 yX4_forgetAnswers wsX4_forgetAnswers) := goodIn_app (goodIn_of _ (by decide +kernel)) ggX4_name_X4_forgetAnswers
set_option maxRecDepth 20000 in
theorem ggX4_name_X1_addName : GoodIn wsX4_name wsX1_addName := goodIn_r _ [33, 34, 35, 36, 37, 61, 62, 63, 64, 65, 66, 67, 68, 69] rfl (by decide +kernel)
set_option maxRecDepth 20000 in
theorem gX4_name_X1_addName : GoodIn wsX4_name (wsV RX4 39 RX1 yX1_addName wsX1_addName) := goodIn_app (goodIn_of _ (by decide +kernel)) ggX4_name_X1_addName
theorem dX4_name_0 : decode cX4_name 0 = .ok (.iload_n 1, 1) := by decide +kernel
theorem dX4_name_1 : decode cX4_name 1 = .ok (.iload_n 2, 1) := by decide +kernel
theorem dX4_name_2 : decode cX4_name 2 = .ok (.invokestatic 32, 3) := by decide +kernel
theorem dX4_name_5 : decode cX4_name 5 = .ok (.ifCond .ne 6, 3) := by decide +kernel
theorem dX4_name_8 : decode cX4_name 8 = .ok (.bipush (-2), 2) := by decide +kernel
theorem dX4_name_10 : decode cX4_name 10 = .ok (.ireturn, 1) := by decide +kernel
theorem dX4_name_11 : decode cX4_name 11 = .ok (.aload_n 0, 1) := by decide +kernel
theorem dX4_name_12 : decode cX4_name 12 = .ok (.invokevirtual 36, 3) := by decide +kernel
theorem dX4_name_15 : decode cX4_name 15 = .ok (.aload_n 0, 1) := by decide +kernel
theorem dX4_name_16 : decode cX4_name 16 = .ok (.getfield 10, 3) := by decide +kernel
theorem dX4_name_19 : decode cX4_name 19 = .ok (.iload_n 1, 1) := by decide +kernel
theorem dX4_name_20 : decode cX4_name 20 = .ok (.iload_n 2, 1) := by decide +kernel
theorem dX4_name_21 : decode cX4_name 21 = .ok (.invokevirtual 39, 3) := by decide +kernel
theorem dX4_name_24 : decode cX4_name 24 = .ok (.ireturn, 1) := by decide +kernel
set_option maxRecDepth 20000 in
theorem ggX4_span_X1_hasName : GoodIn wsX4_span wsX1_hasName := goodIn_r _ [8, 9, 40, 41, 42, 43, 44, 45, 46, 47, 48] rfl (by decide +kernel)
set_option maxRecDepth 20000 in
theorem gX4_span_X1_hasName : GoodIn wsX4_span (wsV RX4 43 RX1 yX1_hasName wsX1_hasName) := goodIn_app (goodIn_of _ (by decide +kernel)) ggX4_span_X1_hasName
set_option maxRecDepth 20000 in
theorem ggX4_span_X4_isSpan : GoodIn wsX4_span wsX4_isSpan := goodIn_r _ [13, 14, 15, 12, 16] rfl (by decide +kernel)
set_option maxRecDepth 20000 in
theorem gX4_span_X4_isSpan : GoodIn wsX4_span (va_wsS RX4 32 yX4_isSpan wsX4_isSpan) := goodIn_app (goodIn_of _ (by decide +kernel)) ggX4_span_X4_isSpan
set_option maxRecDepth 20000 in
theorem ggX4_span_X4_forgetAnswers : GoodIn wsX4_span wsX4_forgetAnswers := goodIn_r _ [20, 21, 22, 23, 24, 25, 26, 27, 28, 29, 30, 31, 32, 33, 34, 35, 36, 37, 38, 39, 49, 50, 51, 52, 53, 54, 55, 56, 57, 58, 59, 60, 61, 62, 63, 64, 65, 66, 67, 68] rfl (by decide +kernel)
set_option maxRecDepth 20000 in
theorem gX4_span_X4_forgetAnswers : GoodIn wsX4_span (wsV RX4 36 RX4 yX4_forgetAnswers wsX4_forgetAnswers) := goodIn_app (goodIn_of _ (by decide +kernel)) ggX4_span_X4_forgetAnswers
theorem dX4_span_0 : decode cX4_span 0 = .ok (.aload_n 0, 1) := by decide +kernel
theorem dX4_span_1 : decode cX4_span 1 = .ok (.getfield 10, 3) := by decide +kernel
theorem dX4_span_4 : decode cX4_span 4 = .ok (.iload_n 1, 1) := by decide +kernel
theorem dX4_span_5 : decode cX4_span 5 = .ok (.invokevirtual 43, 3) := by decide +kernel
theorem dX4_span_8 : decode cX4_span 8 = .ok (.ifCond .ne 5, 3) := by decide +kernel
theorem dX4_span_11 : decode cX4_span 11 = .ok (.iconst (-1), 1) := by decide +kernel
theorem dX4_span_12 : decode cX4_span 12 = .ok (.ireturn, 1) := by decide +kernel
theorem dX4_span_13 : decode cX4_span 13 = .ok (.iload_n 2, 1) := by decide +kernel
theorem dX4_span_14 : decode cX4_span 14 = .ok (.iload_n 3, 1) := by decide +kernel
theorem dX4_span_15 : decode cX4_span 15 = .ok (.invokestatic 32, 3) := by decide +kernel
theorem dX4_span_18 : decode cX4_span 18 = .ok (.ifCond .ne 6, 3) := by decide +kernel
theorem dX4_span_21 : decode cX4_span 21 = .ok (.bipush (-2), 2) := by decide +kernel
theorem dX4_span_23 : decode cX4_span 23 = .ok (.ireturn, 1) := by decide +kernel
theorem dX4_span_24 : decode cX4_span 24 = .ok (.aload_n 0, 1) := by decide +kernel
theorem dX4_span_25 : decode cX4_span 25 = .ok (.invokevirtual 36, 3) := by decide +kernel
theorem dX4_span_28 : decode cX4_span 28 = .ok (.aload_n 0, 1) := by decide +kernel
theorem dX4_span_29 : decode cX4_span 29 = .ok (.getfield 10, 3) := by decide +kernel
theorem dX4_span_32 : decode cX4_span 32 = .ok (.getfield 47, 3) := by decide +kernel
theorem dX4_span_35 : decode cX4_span 35 = .ok (.iload_n 1, 1) := by decide +kernel
theorem dX4_span_36 : decode cX4_span 36 = .ok (.iload_n 2, 1) := by decide +kernel
theorem dX4_span_37 : decode cX4_span 37 = .ok (.iastore, 1) := by decide +kernel
theorem dX4_span_38 : decode cX4_span 38 = .ok (.aload_n 0, 1) := by decide +kernel
theorem dX4_span_39 : decode cX4_span 39 = .ok (.getfield 10, 3) := by decide +kernel
theorem dX4_span_42 : decode cX4_span 42 = .ok (.getfield 51, 3) := by decide +kernel
theorem dX4_span_45 : decode cX4_span 45 = .ok (.iload_n 1, 1) := by decide +kernel
theorem dX4_span_46 : decode cX4_span 46 = .ok (.iload_n 3, 1) := by decide +kernel
theorem dX4_span_47 : decode cX4_span 47 = .ok (.iastore, 1) := by decide +kernel
theorem dX4_span_48 : decode cX4_span 48 = .ok (.iconst 1, 1) := by decide +kernel
theorem dX4_span_49 : decode cX4_span 49 = .ok (.ireturn, 1) := by decide +kernel
set_option maxRecDepth 20000 in
theorem ggX4_cost_X1_hasName : GoodIn wsX4_cost wsX1_hasName := goodIn_r _ [7, 8, 36, 37, 38, 39, 40, 41, 42, 43, 44] rfl (by decide +kernel)
set_option maxRecDepth 20000 in
theorem gX4_cost_X1_hasName : GoodIn wsX4_cost (wsV RX4 43 RX1 yX1_hasName wsX1_hasName) := goodIn_app (goodIn_of _ (by decide +kernel)) ggX4_cost_X1_hasName
set_option maxRecDepth 20000 in
theorem ggX4_cost_X4_isWithin : GoodIn wsX4_cost wsX4_isWithin := goodIn_r _ [12] rfl (by decide +kernel)
set_option maxRecDepth 20000 in
theorem gX4_cost_X4_isWithin : GoodIn wsX4_cost (va_wsS RX4 54 yX4_isWithin wsX4_isWithin) := goodIn_app (goodIn_of _ (by decide +kernel)) ggX4_cost_X4_isWithin
set_option maxRecDepth 20000 in
theorem ggX4_cost_X4_forgetAnswers : GoodIn wsX4_cost wsX4_forgetAnswers := goodIn_r _ [16, 17, 18, 19, 20, 21, 22, 23, 24, 25, 26, 27, 28, 29, 30, 31, 32, 33, 34, 35, 45, 46, 47, 48, 49, 50, 51, 52, 53, 54, 55, 56, 57, 58, 59, 60, 61, 62, 63, 64] rfl (by decide +kernel)
set_option maxRecDepth 20000 in
theorem gX4_cost_X4_forgetAnswers : GoodIn wsX4_cost (wsV RX4 36 RX4 yX4_forgetAnswers wsX4_forgetAnswers) := goodIn_app (goodIn_of _ (by decide +kernel)) ggX4_cost_X4_forgetAnswers
theorem dX4_cost_0 : decode cX4_cost 0 = .ok (.aload_n 0, 1) := by decide +kernel
theorem dX4_cost_1 : decode cX4_cost 1 = .ok (.getfield 10, 3) := by decide +kernel
theorem dX4_cost_4 : decode cX4_cost 4 = .ok (.iload_n 1, 1) := by decide +kernel
theorem dX4_cost_5 : decode cX4_cost 5 = .ok (.invokevirtual 43, 3) := by decide +kernel
theorem dX4_cost_8 : decode cX4_cost 8 = .ok (.ifCond .ne 5, 3) := by decide +kernel
theorem dX4_cost_11 : decode cX4_cost 11 = .ok (.iconst (-1), 1) := by decide +kernel
theorem dX4_cost_12 : decode cX4_cost 12 = .ok (.ireturn, 1) := by decide +kernel
theorem dX4_cost_13 : decode cX4_cost 13 = .ok (.iload_n 2, 1) := by decide +kernel
theorem dX4_cost_14 : decode cX4_cost 14 = .ok (.bipush 99, 2) := by decide +kernel
theorem dX4_cost_16 : decode cX4_cost 16 = .ok (.invokestatic 54, 3) := by decide +kernel
theorem dX4_cost_19 : decode cX4_cost 19 = .ok (.ifCond .ne 6, 3) := by decide +kernel
theorem dX4_cost_22 : decode cX4_cost 22 = .ok (.bipush (-2), 2) := by decide +kernel
theorem dX4_cost_24 : decode cX4_cost 24 = .ok (.ireturn, 1) := by decide +kernel
theorem dX4_cost_25 : decode cX4_cost 25 = .ok (.aload_n 0, 1) := by decide +kernel
theorem dX4_cost_26 : decode cX4_cost 26 = .ok (.invokevirtual 36, 3) := by decide +kernel
theorem dX4_cost_29 : decode cX4_cost 29 = .ok (.aload_n 0, 1) := by decide +kernel
theorem dX4_cost_30 : decode cX4_cost 30 = .ok (.getfield 10, 3) := by decide +kernel
theorem dX4_cost_33 : decode cX4_cost 33 = .ok (.getfield 57, 3) := by decide +kernel
theorem dX4_cost_36 : decode cX4_cost 36 = .ok (.iload_n 1, 1) := by decide +kernel
theorem dX4_cost_37 : decode cX4_cost 37 = .ok (.iaload, 1) := by decide +kernel
theorem dX4_cost_38 : decode cX4_cost 38 = .ok (.istore_n 3, 1) := by decide +kernel
theorem dX4_cost_39 : decode cX4_cost 39 = .ok (.aload_n 0, 1) := by decide +kernel
theorem dX4_cost_40 : decode cX4_cost 40 = .ok (.getfield 10, 3) := by decide +kernel
theorem dX4_cost_43 : decode cX4_cost 43 = .ok (.getfield 57, 3) := by decide +kernel
theorem dX4_cost_46 : decode cX4_cost 46 = .ok (.iload_n 1, 1) := by decide +kernel
theorem dX4_cost_47 : decode cX4_cost 47 = .ok (.iload_n 2, 1) := by decide +kernel
theorem dX4_cost_48 : decode cX4_cost 48 = .ok (.iastore, 1) := by decide +kernel
theorem dX4_cost_49 : decode cX4_cost 49 = .ok (.iload_n 3, 1) := by decide +kernel
theorem dX4_cost_50 : decode cX4_cost 50 = .ok (.ireturn, 1) := by decide +kernel
set_option maxRecDepth 20000 in
theorem ggX4_row_X4_isWithin : GoodIn wsX4_row wsX4_isWithin := goodIn_r _ [5] rfl (by decide +kernel)
set_option maxRecDepth 20000 in
theorem gX4_row_X4_isWithin : GoodIn wsX4_row (va_wsS RX4 54 yX4_isWithin wsX4_isWithin) := goodIn_app (goodIn_of _ (by decide +kernel)) ggX4_row_X4_isWithin
set_option maxRecDepth 20000 in
theorem ggX4_row_X4_forgetAnswers : GoodIn wsX4_row wsX4_forgetAnswers := goodIn_r _ [9, 10, 11, 12, 13, 14, 15, 16, 17, 18, 19, 20, 21, 22, 23, 24, 25, 36, 37, 38, 39, 40, 41, 42, 43, 44, 45, 46, 47, 48, 49, 50, 51, 52, 53, 54, 55, 56, 57, 58] rfl (by decide +kernel)
set_option maxRecDepth 20000 in
theorem gX4_row_X4_forgetAnswers : GoodIn wsX4_row (wsV RX4 36 RX4 yX4_forgetAnswers wsX4_forgetAnswers) := goodIn_app (goodIn_of _ (by decide +kernel)) ggX4_row_X4_forgetAnswers
set_option maxRecDepth 20000 in
theorem ggX4_row_X1_addRow : GoodIn wsX4_row wsX1_addRow := goodIn_r _ [30, 31, 32, 33, 34, 35, 59, 60, 61, 62, 63, 64, 65, 66, 67] rfl (by decide +kernel)
set_option maxRecDepth 20000 in
theorem gX4_row_X1_addRow : GoodIn wsX4_row (wsV RX4 60 RX1 yX1_addRow wsX1_addRow) := goodIn_app (goodIn_of _ (by decide +kernel)) ggX4_row_X1_addRow
theorem dX4_row_0 : decode cX4_row 0 = .ok (.iload_n 1, 1) := by decide +kernel
theorem dX4_row_1 : decode cX4_row 1 = .ok (.ifCond .lt 18, 3) := by decide +kernel
theorem dX4_row_4 : decode cX4_row 4 = .ok (.iload_n 1, 1) := by decide +kernel
theorem dX4_row_5 : decode cX4_row 5 = .ok (.iconst 2, 1) := by decide +kernel
theorem dX4_row_6 : decode cX4_row 6 = .ok (.if_icmp .gt 13, 3) := by decide +kernel
theorem dX4_row_9 : decode cX4_row 9 = .ok (.iload_n 2, 1) := by decide +kernel
theorem dX4_row_10 : decode cX4_row 10 = .ok (.sipush 1000, 3) := by decide +kernel
theorem dX4_row_13 : decode cX4_row 13 = .ok (.invokestatic 54, 3) := by decide +kernel
theorem dX4_row_16 : decode cX4_row 16 = .ok (.ifCond .ne 6, 3) := by decide +kernel
theorem dX4_row_19 : decode cX4_row 19 = .ok (.bipush (-2), 2) := by decide +kernel
theorem dX4_row_21 : decode cX4_row 21 = .ok (.ireturn, 1) := by decide +kernel
theorem dX4_row_22 : decode cX4_row 22 = .ok (.aload_n 0, 1) := by decide +kernel
theorem dX4_row_23 : decode cX4_row 23 = .ok (.invokevirtual 36, 3) := by decide +kernel
theorem dX4_row_26 : decode cX4_row 26 = .ok (.aload_n 0, 1) := by decide +kernel
theorem dX4_row_27 : decode cX4_row 27 = .ok (.getfield 10, 3) := by decide +kernel
theorem dX4_row_30 : decode cX4_row 30 = .ok (.iload_n 1, 1) := by decide +kernel
theorem dX4_row_31 : decode cX4_row 31 = .ok (.iload_n 2, 1) := by decide +kernel
theorem dX4_row_32 : decode cX4_row 32 = .ok (.invokevirtual 60, 3) := by decide +kernel
theorem dX4_row_35 : decode cX4_row 35 = .ok (.ireturn, 1) := by decide +kernel
set_option maxRecDepth 20000 in
theorem ggX4_right_X1_hasRow : GoodIn wsX4_right wsX1_hasRow := goodIn_r _ [7, 8, 9, 37, 38, 39, 40, 41, 42, 43, 44, 45] rfl (by decide +kernel)
set_option maxRecDepth 20000 in
theorem gX4_right_X1_hasRow : GoodIn wsX4_right (wsV RX4 63 RX1 yX1_hasRow wsX1_hasRow) := goodIn_app (goodIn_of _ (by decide +kernel)) ggX4_right_X1_hasRow
set_option maxRecDepth 20000 in
theorem ggX4_right_X4_isWithin : GoodIn wsX4_right wsX4_isWithin := goodIn_r _ [13] rfl (by decide +kernel)
set_option maxRecDepth 20000 in
theorem gX4_right_X4_isWithin : GoodIn wsX4_right (va_wsS RX4 54 yX4_isWithin wsX4_isWithin) := goodIn_app (goodIn_of _ (by decide +kernel)) ggX4_right_X4_isWithin
set_option maxRecDepth 20000 in
theorem ggX4_right_X4_forgetAnswers : GoodIn wsX4_right wsX4_forgetAnswers := goodIn_r _ [17, 18, 19, 20, 21, 22, 23, 24, 25, 26, 27, 28, 29, 30, 31, 32, 33, 34, 35, 36, 46, 47, 48, 49, 50, 51, 52, 53, 54, 55, 56, 57, 58, 59, 60, 61, 62, 63, 64, 65] rfl (by decide +kernel)
set_option maxRecDepth 20000 in
theorem gX4_right_X4_forgetAnswers : GoodIn wsX4_right (wsV RX4 36 RX4 yX4_forgetAnswers wsX4_forgetAnswers) := goodIn_app (goodIn_of _ (by decide +kernel)) ggX4_right_X4_forgetAnswers
theorem dX4_right_0 : decode cX4_right 0 = .ok (.aload_n 0, 1) := by decide +kernel
theorem dX4_right_1 : decode cX4_right 1 = .ok (.getfield 10, 3) := by decide +kernel
theorem dX4_right_4 : decode cX4_right 4 = .ok (.iload_n 1, 1) := by decide +kernel
theorem dX4_right_5 : decode cX4_right 5 = .ok (.invokevirtual 63, 3) := by decide +kernel
theorem dX4_right_8 : decode cX4_right 8 = .ok (.ifCond .ne 5, 3) := by decide +kernel
theorem dX4_right_11 : decode cX4_right 11 = .ok (.iconst (-1), 1) := by decide +kernel
theorem dX4_right_12 : decode cX4_right 12 = .ok (.ireturn, 1) := by decide +kernel
theorem dX4_right_13 : decode cX4_right 13 = .ok (.iload_n 2, 1) := by decide +kernel
theorem dX4_right_14 : decode cX4_right 14 = .ok (.sipush 1000, 3) := by decide +kernel
theorem dX4_right_17 : decode cX4_right 17 = .ok (.invokestatic 54, 3) := by decide +kernel
theorem dX4_right_20 : decode cX4_right 20 = .ok (.ifCond .ne 6, 3) := by decide +kernel
theorem dX4_right_23 : decode cX4_right 23 = .ok (.bipush (-2), 2) := by decide +kernel
theorem dX4_right_25 : decode cX4_right 25 = .ok (.ireturn, 1) := by decide +kernel
theorem dX4_right_26 : decode cX4_right 26 = .ok (.aload_n 0, 1) := by decide +kernel
theorem dX4_right_27 : decode cX4_right 27 = .ok (.invokevirtual 36, 3) := by decide +kernel
theorem dX4_right_30 : decode cX4_right 30 = .ok (.aload_n 0, 1) := by decide +kernel
theorem dX4_right_31 : decode cX4_right 31 = .ok (.getfield 10, 3) := by decide +kernel
theorem dX4_right_34 : decode cX4_right 34 = .ok (.getfield 66, 3) := by decide +kernel
theorem dX4_right_37 : decode cX4_right 37 = .ok (.iload_n 1, 1) := by decide +kernel
theorem dX4_right_38 : decode cX4_right 38 = .ok (.iload_n 2, 1) := by decide +kernel
theorem dX4_right_39 : decode cX4_right 39 = .ok (.iastore, 1) := by decide +kernel
theorem dX4_right_40 : decode cX4_right 40 = .ok (.iconst 1, 1) := by decide +kernel
theorem dX4_right_41 : decode cX4_right 41 = .ok (.ireturn, 1) := by decide +kernel
set_option maxRecDepth 20000 in
theorem ggX4_factor_X1_hasRow : GoodIn wsX4_factor wsX1_hasRow := goodIn_r _ [7, 8, 9, 42, 43, 44, 45, 46, 47, 48, 49, 50] rfl (by decide +kernel)
set_option maxRecDepth 20000 in
theorem gX4_factor_X1_hasRow : GoodIn wsX4_factor (wsV RX4 63 RX1 yX1_hasRow wsX1_hasRow) := goodIn_app (goodIn_of _ (by decide +kernel)) ggX4_factor_X1_hasRow
set_option maxRecDepth 20000 in
theorem ggX4_factor_X1_hasName : GoodIn wsX4_factor wsX1_hasName := goodIn_r _ [13, 14, 42, 43, 44, 45, 46, 47, 48, 49, 50] rfl (by decide +kernel)
set_option maxRecDepth 20000 in
theorem gX4_factor_X1_hasName : GoodIn wsX4_factor (wsV RX4 43 RX1 yX1_hasName wsX1_hasName) := goodIn_app (goodIn_of _ (by decide +kernel)) ggX4_factor_X1_hasName
set_option maxRecDepth 20000 in
theorem ggX4_factor_X4_isWithin : GoodIn wsX4_factor wsX4_isWithin := goodIn_r _ [18] rfl (by decide +kernel)
set_option maxRecDepth 20000 in
theorem gX4_factor_X4_isWithin : GoodIn wsX4_factor (va_wsS RX4 54 yX4_isWithin wsX4_isWithin) := goodIn_app (goodIn_of _ (by decide +kernel)) ggX4_factor_X4_isWithin
set_option maxRecDepth 20000 in
theorem ggX4_factor_X4_forgetAnswers : GoodIn wsX4_factor wsX4_forgetAnswers := goodIn_r _ [22, 23, 24, 25, 26, 27, 28, 29, 30, 31, 32, 33, 34, 35, 36, 37, 38, 39, 40, 41, 51, 52, 53, 54, 55, 56, 57, 58, 59, 60, 61, 62, 63, 64, 65, 66, 67, 68, 69, 70] rfl (by decide +kernel)
set_option maxRecDepth 20000 in
theorem gX4_factor_X4_forgetAnswers : GoodIn wsX4_factor (wsV RX4 36 RX4 yX4_forgetAnswers wsX4_forgetAnswers) := goodIn_app (goodIn_of _ (by decide +kernel)) ggX4_factor_X4_forgetAnswers
theorem dX4_factor_0 : decode cX4_factor 0 = .ok (.aload_n 0, 1) := by decide +kernel
theorem dX4_factor_1 : decode cX4_factor 1 = .ok (.getfield 10, 3) := by decide +kernel
theorem dX4_factor_4 : decode cX4_factor 4 = .ok (.iload_n 1, 1) := by decide +kernel
theorem dX4_factor_5 : decode cX4_factor 5 = .ok (.invokevirtual 63, 3) := by decide +kernel
theorem dX4_factor_8 : decode cX4_factor 8 = .ok (.ifCond .eq 14, 3) := by decide +kernel
theorem dX4_factor_11 : decode cX4_factor 11 = .ok (.aload_n 0, 1) := by decide +kernel
theorem dX4_factor_12 : decode cX4_factor 12 = .ok (.getfield 10, 3) := by decide +kernel
theorem dX4_factor_15 : decode cX4_factor 15 = .ok (.iload_n 2, 1) := by decide +kernel
theorem dX4_factor_16 : decode cX4_factor 16 = .ok (.invokevirtual 43, 3) := by decide +kernel
theorem dX4_factor_19 : decode cX4_factor 19 = .ok (.ifCond .ne 5, 3) := by decide +kernel
theorem dX4_factor_22 : decode cX4_factor 22 = .ok (.iconst (-1), 1) := by decide +kernel
theorem dX4_factor_23 : decode cX4_factor 23 = .ok (.ireturn, 1) := by decide +kernel
theorem dX4_factor_24 : decode cX4_factor 24 = .ok (.iload_n 3, 1) := by decide +kernel
theorem dX4_factor_25 : decode cX4_factor 25 = .ok (.bipush 9, 2) := by decide +kernel
theorem dX4_factor_27 : decode cX4_factor 27 = .ok (.invokestatic 54, 3) := by decide +kernel
theorem dX4_factor_30 : decode cX4_factor 30 = .ok (.ifCond .ne 6, 3) := by decide +kernel
theorem dX4_factor_33 : decode cX4_factor 33 = .ok (.bipush (-2), 2) := by decide +kernel
theorem dX4_factor_35 : decode cX4_factor 35 = .ok (.ireturn, 1) := by decide +kernel
theorem dX4_factor_36 : decode cX4_factor 36 = .ok (.aload_n 0, 1) := by decide +kernel
theorem dX4_factor_37 : decode cX4_factor 37 = .ok (.invokevirtual 36, 3) := by decide +kernel
theorem dX4_factor_40 : decode cX4_factor 40 = .ok (.aload_n 0, 1) := by decide +kernel
theorem dX4_factor_41 : decode cX4_factor 41 = .ok (.getfield 10, 3) := by decide +kernel
theorem dX4_factor_44 : decode cX4_factor 44 = .ok (.getfield 69, 3) := by decide +kernel
theorem dX4_factor_47 : decode cX4_factor 47 = .ok (.iload_n 1, 1) := by decide +kernel
theorem dX4_factor_48 : decode cX4_factor 48 = .ok (.aaload, 1) := by decide +kernel
theorem dX4_factor_49 : decode cX4_factor 49 = .ok (.iload_n 2, 1) := by decide +kernel
theorem dX4_factor_50 : decode cX4_factor 50 = .ok (.iload_n 3, 1) := by decide +kernel
theorem dX4_factor_51 : decode cX4_factor 51 = .ok (.iastore, 1) := by decide +kernel
theorem dX4_factor_52 : decode cX4_factor 52 = .ok (.iconst 1, 1) := by decide +kernel
theorem dX4_factor_53 : decode cX4_factor 53 = .ok (.ireturn, 1) := by decide +kernel
set_option maxRecDepth 20000 in
theorem ggX4_drop_X1_hasRow : GoodIn wsX4_drop wsX1_hasRow := goodIn_r _ [7, 8, 9, 38, 39, 40, 41, 42, 43, 44, 45, 46] rfl (by decide +kernel)
set_option maxRecDepth 20000 in
theorem gX4_drop_X1_hasRow : GoodIn wsX4_drop (wsV RX4 63 RX1 yX1_hasRow wsX1_hasRow) := goodIn_app (goodIn_of _ (by decide +kernel)) ggX4_drop_X1_hasRow
set_option maxRecDepth 20000 in
theorem ggX4_drop_X4_forgetAnswers : GoodIn wsX4_drop wsX4_forgetAnswers := goodIn_r _ [14, 15, 16, 17, 18, 19, 20, 21, 22, 23, 24, 25, 26, 27, 28, 29, 30, 35, 36, 37, 47, 48, 49, 50, 51, 52, 53, 54, 55, 56, 57, 58, 59, 60, 61, 62, 63, 64, 65, 66] rfl (by decide +kernel)
set_option maxRecDepth 20000 in
theorem gX4_drop_X4_forgetAnswers : GoodIn wsX4_drop (wsV RX4 36 RX4 yX4_forgetAnswers wsX4_forgetAnswers) := goodIn_app (goodIn_of _ (by decide +kernel)) ggX4_drop_X4_forgetAnswers
set_option maxRecDepth 20000 in
theorem ggX4_drop_X1_countRows : GoodIn wsX4_drop wsX1_countRows := goodIn_r _ [34, 8, 9, 38, 39, 40, 41, 42, 43, 44, 45, 46] rfl (by decide +kernel)
set_option maxRecDepth 20000 in
theorem gX4_drop_X1_countRows : GoodIn wsX4_drop (wsV RX4 77 RX1 yX1_countRows wsX1_countRows) := goodIn_app (goodIn_of _ (by decide +kernel)) ggX4_drop_X1_countRows
theorem dX4_drop_0 : decode cX4_drop 0 = .ok (.aload_n 0, 1) := by decide +kernel
theorem dX4_drop_1 : decode cX4_drop 1 = .ok (.getfield 10, 3) := by decide +kernel
theorem dX4_drop_4 : decode cX4_drop 4 = .ok (.iload_n 1, 1) := by decide +kernel
theorem dX4_drop_5 : decode cX4_drop 5 = .ok (.invokevirtual 63, 3) := by decide +kernel
theorem dX4_drop_8 : decode cX4_drop 8 = .ok (.ifCond .ne 5, 3) := by decide +kernel
theorem dX4_drop_11 : decode cX4_drop 11 = .ok (.iconst (-1), 1) := by decide +kernel
theorem dX4_drop_12 : decode cX4_drop 12 = .ok (.ireturn, 1) := by decide +kernel
theorem dX4_drop_13 : decode cX4_drop 13 = .ok (.aload_n 0, 1) := by decide +kernel
theorem dX4_drop_14 : decode cX4_drop 14 = .ok (.invokevirtual 36, 3) := by decide +kernel
theorem dX4_drop_17 : decode cX4_drop 17 = .ok (.aload_n 0, 1) := by decide +kernel
theorem dX4_drop_18 : decode cX4_drop 18 = .ok (.getfield 10, 3) := by decide +kernel
theorem dX4_drop_21 : decode cX4_drop 21 = .ok (.getfield 73, 3) := by decide +kernel
theorem dX4_drop_24 : decode cX4_drop 24 = .ok (.iload_n 1, 1) := by decide +kernel
theorem dX4_drop_25 : decode cX4_drop 25 = .ok (.iconst 0, 1) := by decide +kernel
theorem dX4_drop_26 : decode cX4_drop 26 = .ok (.bastore, 1) := by decide +kernel
theorem dX4_drop_27 : decode cX4_drop 27 = .ok (.aload_n 0, 1) := by decide +kernel
theorem dX4_drop_28 : decode cX4_drop 28 = .ok (.getfield 10, 3) := by decide +kernel
theorem dX4_drop_31 : decode cX4_drop 31 = .ok (.invokevirtual 77, 3) := by decide +kernel
theorem dX4_drop_34 : decode cX4_drop 34 = .ok (.ireturn, 1) := by decide +kernel
set_option maxRecDepth 20000 in
theorem ggX4_clear_X4_forgetAnswers : GoodIn wsX4_clear wsX4_forgetAnswers := goodIn_r _ [8, 9, 10, 11, 12, 13, 14, 15, 16, 17, 18, 19, 20, 21, 22, 23, 24, 25, 26, 27, 37, 38, 39, 40, 41, 42, 43, 44, 45, 46, 47, 48, 49, 50, 51, 52, 53, 54, 55, 56] rfl (by decide +kernel)
set_option maxRecDepth 20000 in
theorem gX4_clear_X4_forgetAnswers : GoodIn wsX4_clear (wsV RX4 36 RX4 yX4_forgetAnswers wsX4_forgetAnswers) := goodIn_app (goodIn_of _ (by decide +kernel)) ggX4_clear_X4_forgetAnswers
theorem dX4_clear_0 : decode cX4_clear 0 = .ok (.aload_n 0, 1) := by decide +kernel
theorem dX4_clear_1 : decode cX4_clear 1 = .ok (.invokevirtual 36, 3) := by decide +kernel
theorem dX4_clear_4 : decode cX4_clear 4 = .ok (.aload_n 0, 1) := by decide +kernel
theorem dX4_clear_5 : decode cX4_clear 5 = .ok (.getfield 10, 3) := by decide +kernel
theorem dX4_clear_8 : decode cX4_clear 8 = .ok (.getfield 81, 3) := by decide +kernel
theorem dX4_clear_11 : decode cX4_clear 11 = .ok (.istore_n 1, 1) := by decide +kernel
theorem dX4_clear_12 : decode cX4_clear 12 = .ok (.aload_n 0, 1) := by decide +kernel
theorem dX4_clear_13 : decode cX4_clear 13 = .ok (.getfield 10, 3) := by decide +kernel
theorem dX4_clear_16 : decode cX4_clear 16 = .ok (.iconst 0, 1) := by decide +kernel
theorem dX4_clear_17 : decode cX4_clear 17 = .ok (.putfield 81, 3) := by decide +kernel
theorem dX4_clear_20 : decode cX4_clear 20 = .ok (.aload_n 0, 1) := by decide +kernel
theorem dX4_clear_21 : decode cX4_clear 21 = .ok (.getfield 10, 3) := by decide +kernel
theorem dX4_clear_24 : decode cX4_clear 24 = .ok (.iconst 0, 1) := by decide +kernel
theorem dX4_clear_25 : decode cX4_clear 25 = .ok (.putfield 85, 3) := by decide +kernel
theorem dX4_clear_28 : decode cX4_clear 28 = .ok (.iload_n 1, 1) := by decide +kernel
theorem dX4_clear_29 : decode cX4_clear 29 = .ok (.ireturn, 1) := by decide +kernel
set_option maxRecDepth 20000 in
theorem ggX4_run_X2_hasPoint : GoodIn wsX4_run wsX2_hasPoint := goodIn_r _ [6, 7, 8, 9, 10, 11, 5, 12, 13, 14, 15, 16, 17, 18, 19, 20, 21, 22, 23, 24, 25, 26, 27, 28, 29, 30, 31, 32, 33, 34, 35, 36, 37, 38, 39, 40, 41, 42, 43, 44, 45, 46, 47, 48, 49, 50, 51, 52, 53, 54, 55, 56, 57, 58, 59, 60, 61, 62, 63, 64, 65, 66, 67, 68, 69, 70, 71, 72, 73, 74, 75, 76, 77, 78, 79, 80, 81, 82, 83, 84, 85, 86, 87, 88, 89, 90, 91, 92, 93, 94, 95, 96, 97, 101, 102, 103, 104, 105, 106, 107, 108, 109, 110, 111, 112, 113, 114, 115, 116, 117, 118, 119, 120, 121, 122, 123, 124, 125, 126, 127, 128] rfl (by decide +kernel)
set_option maxRecDepth 20000 in
theorem gX4_run_X2_hasPoint : GoodIn wsX4_run (wsV RX4 88 RX2 yX2_hasPoint wsX2_hasPoint) := goodIn_app (goodIn_of _ (by decide +kernel)) ggX4_run_X2_hasPoint
theorem dX4_run_0 : decode cX4_run 0 = .ok (.aload_n 0, 1) := by decide +kernel
theorem dX4_run_1 : decode cX4_run 1 = .ok (.getfield 21, 3) := by decide +kernel
theorem dX4_run_4 : decode cX4_run 4 = .ok (.invokevirtual 88, 3) := by decide +kernel
theorem dX4_run_7 : decode cX4_run 7 = .ok (.ifCond .eq 7, 3) := by decide +kernel
theorem dX4_run_10 : decode cX4_run 10 = .ok (.iconst 1, 1) := by decide +kernel
theorem dX4_run_11 : decode cX4_run 11 = .ok (.goto 4, 3) := by decide +kernel
theorem dX4_run_14 : decode cX4_run 14 = .ok (.iconst 0, 1) := by decide +kernel
theorem dX4_run_15 : decode cX4_run 15 = .ok (.ireturn, 1) := by decide +kernel
set_option maxRecDepth 20000 in
theorem ggX4_least_X4_isZeroOrOne : GoodIn wsX4_least wsX4_isZeroOrOne := goodIn_r _ [7] rfl (by decide +kernel)
set_option maxRecDepth 20000 in
theorem gX4_least_X4_isZeroOrOne : GoodIn wsX4_least (va_wsS RX4 92 yX4_isZeroOrOne wsX4_isZeroOrOne) := goodIn_app (goodIn_of _ (by decide +kernel)) ggX4_least_X4_isZeroOrOne
set_option maxRecDepth 20000 in
theorem ggX4_least_X2_hasPoint : GoodIn wsX4_least wsX2_hasPoint := goodIn_r _ [12, 13, 14, 15, 16, 17, 11, 18, 19, 20, 21, 22, 23, 24, 25, 26, 27, 28, 29, 30, 31, 32, 33, 34, 35, 36, 37, 38, 39, 40, 41, 42, 43, 44, 45, 46, 47, 48, 49, 50, 51, 52, 53, 54, 55, 56, 57, 58, 59, 60, 61, 62, 63, 64, 65, 66, 67, 68, 69, 70, 71, 72, 73, 74, 75, 76, 77, 78, 79, 80, 81, 82, 83, 84, 85, 86, 87, 88, 89, 90, 91, 92, 93, 94, 95, 96, 97, 98, 99, 100, 101, 102, 103, 168, 169, 170, 171, 172, 173, 174, 175, 176, 177, 178, 179, 180, 181, 182, 183, 184, 185, 186, 187, 188, 189, 190, 191, 192, 193, 194, 195] rfl (by decide +kernel)
set_option maxRecDepth 20000 in
theorem gX4_least_X2_hasPoint : GoodIn wsX4_least (wsV RX4 88 RX2 yX2_hasPoint wsX2_hasPoint) := goodIn_app (goodIn_of _ (by decide +kernel)) ggX4_least_X2_hasPoint
set_option maxRecDepth 20000 in
theorem ggX4_least_X2_leastCost : GoodIn wsX4_least wsX2_leastCost := goodIn_r _ [107, 19, 27, 108, 109, 110, 111, 112, 113, 11, 114, 115, 26, 28, 116, 45, 46, 34, 47, 40, 48, 117, 118, 119, 120, 121, 122, 123, 124, 80, 125, 126, 127, 128, 129, 43, 42, 41, 59, 57, 130, 131, 132, 133, 134, 135, 136, 137, 138, 139, 140, 141, 58, 89, 90, 91, 92, 93, 94, 38, 95, 96, 97, 98, 99, 100, 101, 102, 103, 142, 143, 144, 145, 49, 50, 51, 52, 146, 147, 148, 149, 30, 150, 151, 152, 153, 154, 155, 156, 157, 158, 159, 160, 161, 162, 163, 164, 168, 169, 170, 171, 172, 173, 174, 175, 176, 177, 178, 179, 180, 181, 182, 183, 184, 185, 186, 187, 188, 189, 190, 191, 192, 193, 194, 195] rfl (by decide +kernel)
set_option maxRecDepth 20000 in
theorem gX4_least_X2_leastCost : GoodIn wsX4_least (wsV RX4 99 RX2 yX2_leastCost wsX2_leastCost) := goodIn_app (goodIn_of _ (by decide +kernel)) ggX4_least_X2_leastCost
theorem dX4_least_0 : decode cX4_least 0 = .ok (.iload_n 1, 1) := by decide +kernel
theorem dX4_least_1 : decode cX4_least 1 = .ok (.invokestatic 92, 3) := by decide +kernel
theorem dX4_least_4 : decode cX4_least 4 = .ok (.ifCond .ne 7, 3) := by decide +kernel
theorem dX4_least_7 : decode cX4_least 7 = .ok (.ldc2_w 95, 3) := by decide +kernel
theorem dX4_least_10 : decode cX4_least 10 = .ok (.lreturn, 1) := by decide +kernel
theorem dX4_least_11 : decode cX4_least 11 = .ok (.aload_n 0, 1) := by decide +kernel
theorem dX4_least_12 : decode cX4_least 12 = .ok (.getfield 21, 3) := by decide +kernel
theorem dX4_least_15 : decode cX4_least 15 = .ok (.invokevirtual 88, 3) := by decide +kernel
theorem dX4_least_18 : decode cX4_least 18 = .ok (.ifCond .ne 7, 3) := by decide +kernel
theorem dX4_least_21 : decode cX4_least 21 = .ok (.ldc2_w 97, 3) := by decide +kernel
theorem dX4_least_24 : decode cX4_least 24 = .ok (.lreturn, 1) := by decide +kernel
theorem dX4_least_25 : decode cX4_least 25 = .ok (.aload_n 0, 1) := by decide +kernel
theorem dX4_least_26 : decode cX4_least 26 = .ok (.getfield 21, 3) := by decide +kernel
theorem dX4_least_29 : decode cX4_least 29 = .ok (.iload_n 1, 1) := by decide +kernel
theorem dX4_least_30 : decode cX4_least 30 = .ok (.invokevirtual 99, 3) := by decide +kernel
theorem dX4_least_33 : decode cX4_least 33 = .ok (.lreturn, 1) := by decide +kernel
set_option maxRecDepth 20000 in
theorem ggX4_value_X1_hasName : GoodIn wsX4_value wsX1_hasName := goodIn_r _ [10, 11, 175, 176, 177, 178, 179, 180, 181, 182, 183] rfl (by decide +kernel)
set_option maxRecDepth 20000 in
theorem gX4_value_X1_hasName : GoodIn wsX4_value (wsV RX4 43 RX1 yX1_hasName wsX1_hasName) := goodIn_app (goodIn_of _ (by decide +kernel)) ggX4_value_X1_hasName
set_option maxRecDepth 20000 in
theorem ggX4_value_X4_isZeroOrOne : GoodIn wsX4_value wsX4_isZeroOrOne := goodIn_r _ [15] rfl (by decide +kernel)
set_option maxRecDepth 20000 in
theorem gX4_value_X4_isZeroOrOne : GoodIn wsX4_value (va_wsS RX4 92 yX4_isZeroOrOne wsX4_isZeroOrOne) := goodIn_app (goodIn_of _ (by decide +kernel)) ggX4_value_X4_isZeroOrOne
set_option maxRecDepth 20000 in
theorem ggX4_value_X2_hasPoint : GoodIn wsX4_value wsX2_hasPoint := goodIn_r _ [20, 21, 22, 23, 24, 25, 19, 26, 27, 28, 29, 30, 31, 32, 33, 34, 35, 36, 37, 38, 39, 40, 41, 42, 43, 44, 45, 46, 47, 48, 49, 50, 51, 52, 53, 54, 55, 56, 57, 58, 59, 60, 61, 62, 63, 64, 65, 66, 67, 68, 69, 70, 71, 72, 73, 74, 75, 76, 9, 77, 78, 79, 80, 81, 82, 83, 84, 85, 86, 87, 88, 89, 90, 91, 92, 93, 94, 95, 96, 97, 98, 99, 100, 101, 102, 103, 104, 105, 106, 107, 108, 109, 110, 184, 185, 186, 187, 188, 189, 190, 191, 192, 193, 175, 176, 177, 178, 179, 180, 181, 182, 183, 194, 195, 196, 197, 198, 199, 200, 201, 202] rfl (by decide +kernel)
set_option maxRecDepth 20000 in
theorem gX4_value_X2_hasPoint : GoodIn wsX4_value (wsV RX4 88 RX2 yX2_hasPoint wsX2_hasPoint) := goodIn_app (goodIn_of _ (by decide +kernel)) ggX4_value_X2_hasPoint
set_option maxRecDepth 20000 in
theorem ggX4_value_X2_firstBestOf : GoodIn wsX4_value wsX2_firstBestOf := goodIn_r _ [114, 115, 116, 117, 118, 119, 19, 120, 121, 34, 27, 35, 36, 122, 53, 54, 42, 55, 48, 56, 123, 124, 125, 126, 127, 128, 129, 130, 131, 87, 132, 133, 134, 135, 136, 51, 50, 49, 67, 65, 137, 138, 139, 140, 141, 142, 143, 144, 145, 146, 147, 148, 66, 96, 97, 98, 99, 100, 101, 46, 102, 103, 104, 105, 106, 107, 108, 109, 110, 149, 150, 151, 152, 57, 58, 59, 60, 153, 154, 155, 156, 38, 157, 158, 159, 160, 161, 162, 163, 164, 165, 166, 167, 168, 169, 170, 171, 184, 185, 186, 187, 188, 189, 190, 191, 192, 193, 175, 176, 177, 178, 179, 180, 181, 182, 183, 194, 195, 196, 197, 198, 199, 200, 201, 202] rfl (by decide +kernel)
set_option maxRecDepth 20000 in
theorem gX4_value_X2_firstBestOf : GoodIn wsX4_value (wsV RX4 105 RX2 yX2_firstBestOf wsX2_firstBestOf) := goodIn_app (goodIn_of _ (by decide +kernel)) ggX4_value_X2_firstBestOf
theorem dX4_value_0 : decode cX4_value 0 = .ok (.aload_n 0, 1) := by decide +kernel
theorem dX4_value_1 : decode cX4_value 1 = .ok (.getfield 10, 3) := by decide +kernel
theorem dX4_value_4 : decode cX4_value 4 = .ok (.iload_n 1, 1) := by decide +kernel
theorem dX4_value_5 : decode cX4_value 5 = .ok (.invokevirtual 43, 3) := by decide +kernel
theorem dX4_value_8 : decode cX4_value 8 = .ok (.ifCond .ne 7, 3) := by decide +kernel
theorem dX4_value_11 : decode cX4_value 11 = .ok (.ldc2_w 103, 3) := by decide +kernel
theorem dX4_value_14 : decode cX4_value 14 = .ok (.lreturn, 1) := by decide +kernel
theorem dX4_value_15 : decode cX4_value 15 = .ok (.iload_n 2, 1) := by decide +kernel
theorem dX4_value_16 : decode cX4_value 16 = .ok (.invokestatic 92, 3) := by decide +kernel
theorem dX4_value_19 : decode cX4_value 19 = .ok (.ifCond .ne 7, 3) := by decide +kernel
theorem dX4_value_22 : decode cX4_value 22 = .ok (.ldc2_w 95, 3) := by decide +kernel
theorem dX4_value_25 : decode cX4_value 25 = .ok (.lreturn, 1) := by decide +kernel
theorem dX4_value_26 : decode cX4_value 26 = .ok (.aload_n 0, 1) := by decide +kernel
theorem dX4_value_27 : decode cX4_value 27 = .ok (.getfield 21, 3) := by decide +kernel
theorem dX4_value_30 : decode cX4_value 30 = .ok (.invokevirtual 88, 3) := by decide +kernel
theorem dX4_value_33 : decode cX4_value 33 = .ok (.ifCond .ne 7, 3) := by decide +kernel
theorem dX4_value_36 : decode cX4_value 36 = .ok (.ldc2_w 97, 3) := by decide +kernel
theorem dX4_value_39 : decode cX4_value 39 = .ok (.lreturn, 1) := by decide +kernel
theorem dX4_value_40 : decode cX4_value 40 = .ok (.aload_n 0, 1) := by decide +kernel
theorem dX4_value_41 : decode cX4_value 41 = .ok (.getfield 21, 3) := by decide +kernel
theorem dX4_value_44 : decode cX4_value 44 = .ok (.iload_n 1, 1) := by decide +kernel
theorem dX4_value_45 : decode cX4_value 45 = .ok (.iload_n 2, 1) := by decide +kernel
theorem dX4_value_46 : decode cX4_value 46 = .ok (.invokevirtual 105, 3) := by decide +kernel
theorem dX4_value_49 : decode cX4_value 49 = .ok (.lreturn, 1) := by decide +kernel
set_option maxRecDepth 20000 in
theorem ggX4_tight_X1_hasRow : GoodIn wsX4_tight wsX1_hasRow := goodIn_r _ [7, 8, 9, 162, 163, 164, 165, 166, 167, 168, 169, 170] rfl (by decide +kernel)
set_option maxRecDepth 20000 in
theorem gX4_tight_X1_hasRow : GoodIn wsX4_tight (wsV RX4 63 RX1 yX1_hasRow wsX1_hasRow) := goodIn_app (goodIn_of _ (by decide +kernel)) ggX4_tight_X1_hasRow
set_option maxRecDepth 20000 in
theorem ggX4_tight_X2_hasPoint : GoodIn wsX4_tight wsX2_hasPoint := goodIn_r _ [14, 15, 16, 17, 18, 19, 13, 20, 21, 22, 23, 24, 25, 26, 27, 28, 29, 30, 31, 32, 33, 34, 35, 36, 37, 38, 39, 40, 41, 42, 43, 44, 45, 46, 47, 48, 49, 50, 51, 52, 53, 54, 55, 56, 57, 58, 59, 60, 61, 62, 63, 64, 65, 66, 67, 68, 69, 70, 6, 71, 72, 73, 74, 75, 76, 77, 78, 79, 80, 81, 82, 83, 84, 85, 86, 87, 88, 89, 90, 91, 92, 93, 94, 95, 96, 97, 98, 99, 100, 101, 102, 103, 104, 171, 172, 173, 174, 175, 176, 177, 178, 179, 180, 162, 163, 164, 165, 166, 167, 168, 169, 170, 181, 182, 183, 184, 185, 186, 187, 188, 189] rfl (by decide +kernel)
set_option maxRecDepth 20000 in
theorem gX4_tight_X2_hasPoint : GoodIn wsX4_tight (wsV RX4 88 RX2 yX2_hasPoint wsX2_hasPoint) := goodIn_app (goodIn_of _ (by decide +kernel)) ggX4_tight_X2_hasPoint
set_option maxRecDepth 20000 in
theorem ggX4_tight_X2_isTight : GoodIn wsX4_tight wsX2_isTight := goodIn_r _ [108, 21, 29, 66, 109, 67, 110, 111, 112, 113, 13, 114, 115, 28, 30, 116, 47, 48, 36, 49, 42, 50, 117, 118, 119, 120, 121, 122, 123, 124, 125, 81, 126, 127, 128, 129, 130, 45, 44, 43, 61, 59, 131, 132, 133, 134, 135, 136, 137, 138, 139, 140, 141, 142, 60, 90, 91, 92, 93, 94, 95, 40, 96, 97, 98, 99, 100, 101, 102, 103, 104, 143, 144, 145, 146, 51, 52, 53, 54, 147, 148, 149, 150, 32, 151, 152, 153, 154, 155, 156, 157, 158, 171, 172, 173, 174, 175, 176, 177, 178, 179, 180, 162, 163, 164, 165, 166, 167, 168, 169, 170, 181, 182, 183, 184, 185, 186, 187, 188, 189] rfl (by decide +kernel)
set_option maxRecDepth 20000 in
theorem gX4_tight_X2_isTight : GoodIn wsX4_tight (wsV RX4 109 RX2 yX2_isTight wsX2_isTight) := goodIn_app (goodIn_of _ (by decide +kernel)) ggX4_tight_X2_isTight
theorem dX4_tight_0 : decode cX4_tight 0 = .ok (.aload_n 0, 1) := by decide +kernel
theorem dX4_tight_1 : decode cX4_tight 1 = .ok (.getfield 10, 3) := by decide +kernel
theorem dX4_tight_4 : decode cX4_tight 4 = .ok (.iload_n 1, 1) := by decide +kernel
theorem dX4_tight_5 : decode cX4_tight 5 = .ok (.invokevirtual 63, 3) := by decide +kernel
theorem dX4_tight_8 : decode cX4_tight 8 = .ok (.ifCond .ne 5, 3) := by decide +kernel
theorem dX4_tight_11 : decode cX4_tight 11 = .ok (.iconst (-1), 1) := by decide +kernel
theorem dX4_tight_12 : decode cX4_tight 12 = .ok (.ireturn, 1) := by decide +kernel
theorem dX4_tight_13 : decode cX4_tight 13 = .ok (.aload_n 0, 1) := by decide +kernel
theorem dX4_tight_14 : decode cX4_tight 14 = .ok (.getfield 21, 3) := by decide +kernel
theorem dX4_tight_17 : decode cX4_tight 17 = .ok (.invokevirtual 88, 3) := by decide +kernel
theorem dX4_tight_20 : decode cX4_tight 20 = .ok (.ifCond .ne 6, 3) := by decide +kernel
theorem dX4_tight_23 : decode cX4_tight 23 = .ok (.bipush (-3), 2) := by decide +kernel
theorem dX4_tight_25 : decode cX4_tight 25 = .ok (.ireturn, 1) := by decide +kernel
theorem dX4_tight_26 : decode cX4_tight 26 = .ok (.aload_n 0, 1) := by decide +kernel
theorem dX4_tight_27 : decode cX4_tight 27 = .ok (.getfield 21, 3) := by decide +kernel
theorem dX4_tight_30 : decode cX4_tight 30 = .ok (.iload_n 1, 1) := by decide +kernel
theorem dX4_tight_31 : decode cX4_tight 31 = .ok (.invokevirtual 109, 3) := by decide +kernel
theorem dX4_tight_34 : decode cX4_tight 34 = .ok (.ifCond .eq 7, 3) := by decide +kernel
theorem dX4_tight_37 : decode cX4_tight 37 = .ok (.iconst 1, 1) := by decide +kernel
theorem dX4_tight_38 : decode cX4_tight 38 = .ok (.goto 4, 3) := by decide +kernel
theorem dX4_tight_41 : decode cX4_tight 41 = .ok (.iconst 0, 1) := by decide +kernel
theorem dX4_tight_42 : decode cX4_tight 42 = .ok (.ireturn, 1) := by decide +kernel
set_option maxRecDepth 20000 in
theorem ggX4_reach_X4_refusalOfEnd : GoodIn wsX4_reach wsX4_refusalOfEnd := goodIn_r _ [6, 7, 1, 8, 9, 10, 11, 12, 13, 14, 15, 5, 16, 17, 18, 19, 20, 21, 22, 23, 24, 25, 26, 27, 28, 29, 30, 31, 32, 33, 34, 35, 36, 37, 38, 39, 40, 41, 42, 43, 44, 45, 46, 47, 48, 49, 50, 51, 52, 53, 54, 55, 56, 57, 58, 59, 60, 61, 62, 63, 64, 65, 66, 67, 68, 69, 70, 71, 72, 73, 74, 75, 76, 77, 78, 79, 80, 81, 82, 83, 84, 85, 86, 87, 88, 89, 90, 91, 92, 93, 94, 95, 96, 97, 98, 99, 100, 101, 102, 103, 104, 105, 106, 107, 108, 109, 110, 111, 170, 171, 172, 173, 174, 175, 176, 177, 178, 179, 180, 181, 182, 183, 184, 185, 186, 187, 188, 189, 190, 191, 192, 193, 194, 195, 196, 197, 198, 199, 200] rfl (by decide +kernel)
set_option maxRecDepth 20000 in
theorem gX4_reach_X4_refusalOfEnd : GoodIn wsX4_reach (wsV RX4 112 RX4 yX4_refusalOfEnd wsX4_refusalOfEnd) := goodIn_app (goodIn_of _ (by decide +kernel)) ggX4_reach_X4_refusalOfEnd
set_option maxRecDepth 20000 in
theorem ggX4_reach_X2_endAmongBest : GoodIn wsX4_reach wsX2_endAmongBest := goodIn_r _ [115, 35, 116, 54, 55, 43, 56, 49, 57, 117, 118, 119, 20, 120, 28, 121, 122, 123, 124, 125, 88, 126, 127, 128, 129, 130, 52, 51, 50, 68, 66, 131, 132, 133, 134, 135, 136, 137, 138, 139, 140, 141, 142, 67, 97, 98, 99, 100, 101, 102, 47, 103, 104, 105, 106, 107, 108, 109, 110, 111, 143, 144, 145, 146, 147, 148, 149, 150, 37, 58, 59, 60, 61, 151, 152, 153, 154, 39, 155, 156, 157, 158, 159, 160, 161, 162, 163, 164, 165, 166, 167, 168, 169, 182, 183, 184, 185, 186, 187, 188, 189, 190, 191, 192, 193, 194, 195, 196, 197, 198, 199, 200, 173, 174, 175, 176, 177, 178, 179, 180, 181] rfl (by decide +kernel)
set_option maxRecDepth 20000 in
theorem gX4_reach_X2_endAmongBest : GoodIn wsX4_reach (wsV RX4 116 RX2 yX2_endAmongBest wsX2_endAmongBest) := goodIn_app (goodIn_of _ (by decide +kernel)) ggX4_reach_X2_endAmongBest
theorem dX4_reach_0 : decode cX4_reach 0 = .ok (.aload_n 0, 1) := by decide +kernel
theorem dX4_reach_1 : decode cX4_reach 1 = .ok (.iload_n 1, 1) := by decide +kernel
theorem dX4_reach_2 : decode cX4_reach 2 = .ok (.iload_n 2, 1) := by decide +kernel
theorem dX4_reach_3 : decode cX4_reach 3 = .ok (.iload_n 3, 1) := by decide +kernel
theorem dX4_reach_4 : decode cX4_reach 4 = .ok (.invokevirtual 112, 3) := by decide +kernel
theorem dX4_reach_7 : decode cX4_reach 7 = .ok (.istore 4, 2) := by decide +kernel
theorem dX4_reach_9 : decode cX4_reach 9 = .ok (.iload 4, 2) := by decide +kernel
theorem dX4_reach_11 : decode cX4_reach 11 = .ok (.ifCond .eq 9, 3) := by decide +kernel
theorem dX4_reach_14 : decode cX4_reach 14 = .ok (.iload 4, 2) := by decide +kernel
theorem dX4_reach_16 : decode cX4_reach 16 = .ok (.i2l, 1) := by decide +kernel
theorem dX4_reach_17 : decode cX4_reach 17 = .ok (.goto 13, 3) := by decide +kernel
theorem dX4_reach_20 : decode cX4_reach 20 = .ok (.aload_n 0, 1) := by decide +kernel
theorem dX4_reach_21 : decode cX4_reach 21 = .ok (.getfield 21, 3) := by decide +kernel
theorem dX4_reach_24 : decode cX4_reach 24 = .ok (.iload_n 1, 1) := by decide +kernel
theorem dX4_reach_25 : decode cX4_reach 25 = .ok (.iload_n 2, 1) := by decide +kernel
theorem dX4_reach_26 : decode cX4_reach 26 = .ok (.iload_n 3, 1) := by decide +kernel
theorem dX4_reach_27 : decode cX4_reach 27 = .ok (.invokevirtual 116, 3) := by decide +kernel
theorem dX4_reach_30 : decode cX4_reach 30 = .ok (.lreturn, 1) := by decide +kernel
set_option maxRecDepth 20000 in
theorem ggX4_far_X4_refusalOfEnd : GoodIn wsX4_far wsX4_refusalOfEnd := goodIn_r _ [6, 7, 1, 8, 9, 10, 11, 12, 13, 14, 15, 5, 16, 17, 18, 19, 20, 21, 22, 23, 24, 25, 26, 27, 28, 29, 30, 31, 32, 33, 34, 35, 36, 37, 38, 39, 40, 41, 42, 43, 44, 45, 46, 47, 48, 49, 50, 51, 52, 53, 54, 55, 56, 57, 58, 59, 60, 61, 62, 63, 64, 65, 66, 67, 68, 69, 70, 71, 72, 73, 74, 75, 76, 77, 78, 79, 80, 81, 82, 83, 84, 85, 86, 87, 88, 89, 90, 91, 92, 93, 94, 95, 96, 97, 98, 99, 100, 101, 102, 103, 104, 105, 106, 107, 108, 109, 110, 111, 161, 162, 163, 164, 165, 166, 167, 168, 169, 170, 171, 172, 173, 174, 175, 176, 177, 178, 179, 180, 181, 182, 183, 184, 185, 186, 187, 188, 189, 190, 191] rfl (by decide +kernel)
set_option maxRecDepth 20000 in
theorem gX4_far_X4_refusalOfEnd : GoodIn wsX4_far (wsV RX4 112 RX4 yX4_refusalOfEnd wsX4_refusalOfEnd) := goodIn_app (goodIn_of _ (by decide +kernel)) ggX4_far_X4_refusalOfEnd
set_option maxRecDepth 20000 in
theorem ggX4_far_X2_endAmongAll : GoodIn wsX4_far wsX2_endAmongAll := goodIn_r _ [115, 35, 116, 54, 55, 43, 56, 49, 57, 117, 118, 119, 20, 120, 37, 58, 59, 60, 61, 121, 122, 123, 124, 88, 125, 126, 127, 128, 129, 52, 51, 50, 68, 66, 130, 131, 132, 133, 134, 135, 136, 137, 138, 139, 140, 141, 67, 97, 98, 99, 100, 101, 102, 47, 103, 104, 105, 106, 107, 108, 109, 110, 111, 142, 143, 144, 145, 28, 39, 146, 147, 148, 149, 150, 151, 152, 153, 154, 155, 156, 157, 158, 159, 160, 173, 174, 175, 176, 177, 178, 179, 180, 181, 182, 183, 184, 185, 186, 187, 188, 189, 190, 191, 164, 165, 166, 167, 168, 169, 170, 171, 172] rfl (by decide +kernel)
set_option maxRecDepth 20000 in
theorem gX4_far_X2_endAmongAll : GoodIn wsX4_far (wsV RX4 120 RX2 yX2_endAmongAll wsX2_endAmongAll) := goodIn_app (goodIn_of _ (by decide +kernel)) ggX4_far_X2_endAmongAll
theorem dX4_far_0 : decode cX4_far 0 = .ok (.aload_n 0, 1) := by decide +kernel
theorem dX4_far_1 : decode cX4_far 1 = .ok (.iload_n 1, 1) := by decide +kernel
theorem dX4_far_2 : decode cX4_far 2 = .ok (.iload_n 2, 1) := by decide +kernel
theorem dX4_far_3 : decode cX4_far 3 = .ok (.iload_n 3, 1) := by decide +kernel
theorem dX4_far_4 : decode cX4_far 4 = .ok (.invokevirtual 112, 3) := by decide +kernel
theorem dX4_far_7 : decode cX4_far 7 = .ok (.istore 4, 2) := by decide +kernel
theorem dX4_far_9 : decode cX4_far 9 = .ok (.iload 4, 2) := by decide +kernel
theorem dX4_far_11 : decode cX4_far 11 = .ok (.ifCond .eq 9, 3) := by decide +kernel
theorem dX4_far_14 : decode cX4_far 14 = .ok (.iload 4, 2) := by decide +kernel
theorem dX4_far_16 : decode cX4_far 16 = .ok (.i2l, 1) := by decide +kernel
theorem dX4_far_17 : decode cX4_far 17 = .ok (.goto 13, 3) := by decide +kernel
theorem dX4_far_20 : decode cX4_far 20 = .ok (.aload_n 0, 1) := by decide +kernel
theorem dX4_far_21 : decode cX4_far 21 = .ok (.getfield 21, 3) := by decide +kernel
theorem dX4_far_24 : decode cX4_far 24 = .ok (.iload_n 1, 1) := by decide +kernel
theorem dX4_far_25 : decode cX4_far 25 = .ok (.iload_n 2, 1) := by decide +kernel
theorem dX4_far_26 : decode cX4_far 26 = .ok (.iload_n 3, 1) := by decide +kernel
theorem dX4_far_27 : decode cX4_far 27 = .ok (.invokevirtual 120, 3) := by decide +kernel
theorem dX4_far_30 : decode cX4_far 30 = .ok (.lreturn, 1) := by decide +kernel
set_option maxRecDepth 20000 in
theorem ggX4_barred_X2_hasPoint : GoodIn wsX4_barred wsX2_hasPoint := goodIn_r _ [6, 7, 8, 9, 10, 11, 5, 12, 13, 14, 15, 16, 17, 18, 19, 20, 21, 22, 23, 24, 25, 26, 27, 28, 29, 30, 31, 32, 33, 34, 35, 36, 37, 38, 39, 40, 41, 42, 43, 44, 45, 46, 47, 48, 49, 50, 51, 52, 53, 54, 55, 56, 57, 58, 59, 60, 61, 62, 63, 64, 65, 66, 67, 68, 69, 70, 71, 72, 73, 74, 75, 76, 77, 78, 79, 80, 81, 82, 83, 84, 85, 86, 87, 88, 89, 90, 91, 92, 93, 94, 95, 96, 97, 111, 112, 113, 114, 115, 116, 117, 118, 119, 120, 121, 122, 123, 124, 125, 126, 127, 128, 129, 130, 131, 132, 133, 134, 135, 136, 137, 138] rfl (by decide +kernel)
set_option maxRecDepth 20000 in
theorem gX4_barred_X2_hasPoint : GoodIn wsX4_barred (wsV RX4 88 RX2 yX2_hasPoint wsX2_hasPoint) := goodIn_app (goodIn_of _ (by decide +kernel)) ggX4_barred_X2_hasPoint
set_option maxRecDepth 20000 in
theorem ggX4_barred_X2_barredRow : GoodIn wsX4_barred wsX2_barredRow := goodIn_r _ [101, 13, 14, 102, 103, 104, 105, 5, 106, 107, 9, 10, 11, 12, 15, 16, 17, 18, 19, 20, 21, 22, 23, 24, 25, 26, 27, 28, 29, 30, 31, 32, 33, 34, 35, 36, 37, 38, 39, 40, 41, 42, 43, 44, 45, 46, 47, 48, 49, 50, 51, 52, 53, 54, 55, 56, 57, 58, 59, 60, 61, 62, 63, 64, 65, 66, 67, 68, 69, 70, 71, 72, 73, 74, 75, 76, 77, 78, 79, 80, 81, 82, 83, 84, 85, 86, 87, 88, 89, 90, 91, 92, 93, 94, 95, 96, 97, 111, 112, 113, 114, 115, 116, 117, 118, 119, 120, 121, 122, 123, 124, 125, 126, 127, 128, 129, 130, 131, 132, 133, 134, 135, 136, 137, 138] rfl (by decide +kernel)
set_option maxRecDepth 20000 in
theorem gX4_barred_X2_barredRow : GoodIn wsX4_barred (wsV RX4 123 RX2 yX2_barredRow wsX2_barredRow) := goodIn_app (goodIn_of _ (by decide +kernel)) ggX4_barred_X2_barredRow
theorem dX4_barred_0 : decode cX4_barred 0 = .ok (.aload_n 0, 1) := by decide +kernel
theorem dX4_barred_1 : decode cX4_barred 1 = .ok (.getfield 21, 3) := by decide +kernel
theorem dX4_barred_4 : decode cX4_barred 4 = .ok (.invokevirtual 88, 3) := by decide +kernel
theorem dX4_barred_7 : decode cX4_barred 7 = .ok (.ifCond .eq 6, 3) := by decide +kernel
theorem dX4_barred_10 : decode cX4_barred 10 = .ok (.bipush (-3), 2) := by decide +kernel
theorem dX4_barred_12 : decode cX4_barred 12 = .ok (.ireturn, 1) := by decide +kernel
theorem dX4_barred_13 : decode cX4_barred 13 = .ok (.aload_n 0, 1) := by decide +kernel
theorem dX4_barred_14 : decode cX4_barred 14 = .ok (.getfield 21, 3) := by decide +kernel
theorem dX4_barred_17 : decode cX4_barred 17 = .ok (.iload_n 1, 1) := by decide +kernel
theorem dX4_barred_18 : decode cX4_barred 18 = .ok (.invokevirtual 123, 3) := by decide +kernel
theorem dX4_barred_21 : decode cX4_barred 21 = .ok (.istore_n 2, 1) := by decide +kernel
theorem dX4_barred_22 : decode cX4_barred 22 = .ok (.iload_n 2, 1) := by decide +kernel
theorem dX4_barred_23 : decode cX4_barred 23 = .ok (.ifCond .ge 7, 3) := by decide +kernel
theorem dX4_barred_26 : decode cX4_barred 26 = .ok (.iconst (-1), 1) := by decide +kernel
theorem dX4_barred_27 : decode cX4_barred 27 = .ok (.goto 4, 3) := by decide +kernel
theorem dX4_barred_30 : decode cX4_barred 30 = .ok (.iload_n 2, 1) := by decide +kernel
theorem dX4_barred_31 : decode cX4_barred 31 = .ok (.ireturn, 1) := by decide +kernel
set_option maxRecDepth 20000 in
theorem ggX4_whole_X4_refusalOfWhole : GoodIn wsX4_whole wsX4_refusalOfWhole := goodIn_r _ [6, 7, 8, 1, 9, 10, 11, 12, 13, 14, 15, 16, 17, 18, 19, 20, 21, 22, 23, 24, 25, 26, 27, 28, 29, 30, 31, 32, 33, 34, 35, 36, 37, 38, 39, 40, 41, 42, 43, 44, 45, 46, 47, 48, 49, 50, 51, 52, 53, 54, 55, 56, 57, 58, 59, 60, 61, 62, 63, 64, 65, 66, 67, 68, 69, 70, 71, 72, 73, 74, 75, 76, 77, 78, 79, 80, 81, 82, 83, 84, 85, 86, 87, 88, 89, 90, 91, 92, 93, 94, 95, 96, 97, 98, 99, 100, 101, 102, 103, 104, 105, 110, 111, 112, 113, 114, 115, 116, 117, 118, 119, 120, 121, 122, 123, 124, 125, 126, 127, 128, 129, 130, 131] rfl (by decide +kernel)
set_option maxRecDepth 20000 in
theorem gX4_whole_X4_refusalOfWhole : GoodIn wsX4_whole (wsV RX4 127 RX4 yX4_refusalOfWhole wsX4_refusalOfWhole) := goodIn_app (goodIn_of _ (by decide +kernel)) ggX4_whole_X4_refusalOfWhole
set_option maxRecDepth 20000 in
theorem ggX4_whole_X3_leastCost : GoodIn wsX4_whole wsX3_leastCost := goodIn_r _ [109, 56, 122, 123, 124, 125, 126, 127, 128, 129, 130, 131] rfl (by decide +kernel)
set_option maxRecDepth 20000 in
theorem gX4_whole_X3_leastCost : GoodIn wsX4_whole (wsV RX4 130 RX3 yX3_leastCost wsX3_leastCost) := goodIn_app (goodIn_of _ (by decide +kernel)) ggX4_whole_X3_leastCost
theorem dX4_whole_0 : decode cX4_whole 0 = .ok (.aload_n 0, 1) := by decide +kernel
theorem dX4_whole_1 : decode cX4_whole 1 = .ok (.invokevirtual 127, 3) := by decide +kernel
theorem dX4_whole_4 : decode cX4_whole 4 = .ok (.istore_n 1, 1) := by decide +kernel
theorem dX4_whole_5 : decode cX4_whole 5 = .ok (.iload_n 1, 1) := by decide +kernel
theorem dX4_whole_6 : decode cX4_whole 6 = .ok (.ifCond .eq 7, 3) := by decide +kernel
theorem dX4_whole_9 : decode cX4_whole 9 = .ok (.iload_n 1, 1) := by decide +kernel
theorem dX4_whole_10 : decode cX4_whole 10 = .ok (.goto 10, 3) := by decide +kernel
theorem dX4_whole_13 : decode cX4_whole 13 = .ok (.aload_n 0, 1) := by decide +kernel
theorem dX4_whole_14 : decode cX4_whole 14 = .ok (.getfield 28, 3) := by decide +kernel
theorem dX4_whole_17 : decode cX4_whole 17 = .ok (.invokevirtual 130, 3) := by decide +kernel
theorem dX4_whole_20 : decode cX4_whole 20 = .ok (.ireturn, 1) := by decide +kernel
set_option maxRecDepth 20000 in
theorem ggX4_wholeValue_X1_hasName : GoodIn wsX4_wholeValue wsX1_hasName := goodIn_r _ [7, 8, 117, 118, 119, 120, 121, 122, 123, 124, 125] rfl (by decide +kernel)
set_option maxRecDepth 20000 in
theorem gX4_wholeValue_X1_hasName : GoodIn wsX4_wholeValue (wsV RX4 43 RX1 yX1_hasName wsX1_hasName) := goodIn_app (goodIn_of _ (by decide +kernel)) ggX4_wholeValue_X1_hasName
set_option maxRecDepth 20000 in
theorem ggX4_wholeValue_X4_refusalOfWhole : GoodIn wsX4_wholeValue wsX4_refusalOfWhole := goodIn_r _ [13, 1, 14, 2, 15, 16, 17, 6, 18, 8, 19, 20, 21, 22, 23, 24, 25, 26, 27, 28, 29, 30, 31, 32, 33, 34, 35, 36, 37, 38, 39, 40, 41, 42, 43, 44, 45, 46, 47, 48, 49, 50, 51, 52, 53, 54, 55, 56, 57, 58, 59, 60, 61, 62, 63, 64, 65, 66, 67, 68, 69, 70, 71, 72, 73, 74, 75, 76, 77, 78, 79, 80, 81, 82, 83, 84, 85, 86, 87, 88, 89, 90, 91, 92, 93, 94, 95, 96, 97, 98, 99, 100, 101, 102, 103, 104, 105, 106, 107, 108, 109, 114, 115, 116, 117, 118, 119, 120, 121, 122, 123, 124, 125, 126, 127, 128, 129, 130, 131, 132, 133, 134, 135] rfl (by decide +kernel)
set_option maxRecDepth 20000 in
theorem gX4_wholeValue_X4_refusalOfWhole : GoodIn wsX4_wholeValue (wsV RX4 127 RX4 yX4_refusalOfWhole wsX4_refusalOfWhole) := goodIn_app (goodIn_of _ (by decide +kernel)) ggX4_wholeValue_X4_refusalOfWhole
set_option maxRecDepth 20000 in
theorem ggX4_wholeValue_X3_firstBestOf : GoodIn wsX4_wholeValue wsX3_firstBestOf := goodIn_r _ [113, 97, 126, 127, 128, 129, 130, 131, 132, 133, 134, 135] rfl (by decide +kernel)
set_option maxRecDepth 20000 in
theorem gX4_wholeValue_X3_firstBestOf : GoodIn wsX4_wholeValue (wsV RX4 132 RX3 yX3_firstBestOf wsX3_firstBestOf) := goodIn_app (goodIn_of _ (by decide +kernel)) ggX4_wholeValue_X3_firstBestOf
theorem dX4_wholeValue_0 : decode cX4_wholeValue 0 = .ok (.aload_n 0, 1) := by decide +kernel
theorem dX4_wholeValue_1 : decode cX4_wholeValue 1 = .ok (.getfield 10, 3) := by decide +kernel
theorem dX4_wholeValue_4 : decode cX4_wholeValue 4 = .ok (.iload_n 1, 1) := by decide +kernel
theorem dX4_wholeValue_5 : decode cX4_wholeValue 5 = .ok (.invokevirtual 43, 3) := by decide +kernel
theorem dX4_wholeValue_8 : decode cX4_wholeValue 8 = .ok (.ifCond .ne 5, 3) := by decide +kernel
theorem dX4_wholeValue_11 : decode cX4_wholeValue 11 = .ok (.iconst (-1), 1) := by decide +kernel
theorem dX4_wholeValue_12 : decode cX4_wholeValue 12 = .ok (.ireturn, 1) := by decide +kernel
theorem dX4_wholeValue_13 : decode cX4_wholeValue 13 = .ok (.aload_n 0, 1) := by decide +kernel
theorem dX4_wholeValue_14 : decode cX4_wholeValue 14 = .ok (.invokevirtual 127, 3) := by decide +kernel
theorem dX4_wholeValue_17 : decode cX4_wholeValue 17 = .ok (.istore_n 2, 1) := by decide +kernel
theorem dX4_wholeValue_18 : decode cX4_wholeValue 18 = .ok (.iload_n 2, 1) := by decide +kernel
theorem dX4_wholeValue_19 : decode cX4_wholeValue 19 = .ok (.ifCond .eq 7, 3) := by decide +kernel
theorem dX4_wholeValue_22 : decode cX4_wholeValue 22 = .ok (.iload_n 2, 1) := by decide +kernel
theorem dX4_wholeValue_23 : decode cX4_wholeValue 23 = .ok (.goto 11, 3) := by decide +kernel
theorem dX4_wholeValue_26 : decode cX4_wholeValue 26 = .ok (.aload_n 0, 1) := by decide +kernel
theorem dX4_wholeValue_27 : decode cX4_wholeValue 27 = .ok (.getfield 28, 3) := by decide +kernel
theorem dX4_wholeValue_30 : decode cX4_wholeValue 30 = .ok (.iload_n 1, 1) := by decide +kernel
theorem dX4_wholeValue_31 : decode cX4_wholeValue 31 = .ok (.invokevirtual 132, 3) := by decide +kernel
theorem dX4_wholeValue_34 : decode cX4_wholeValue 34 = .ok (.ireturn, 1) := by decide +kernel
set_option maxRecDepth 20000 in
theorem ggX4_isWhole_X4_refusalOfWhole : GoodIn wsX4_isWhole wsX4_refusalOfWhole := goodIn_r _ [5, 6, 7, 8, 9, 10, 11, 12, 13, 14, 15, 16, 17, 18, 19, 20, 21, 22, 23, 24, 25, 26, 27, 28, 29, 30, 31, 32, 33, 34, 35, 36, 37, 38, 39, 40, 41, 42, 43, 44, 45, 46, 47, 48, 49, 50, 51, 52, 53, 54, 55, 56, 57, 58, 59, 60, 61, 62, 63, 64, 65, 66, 67, 68, 69, 70, 71, 72, 73, 74, 75, 76, 77, 78, 79, 80, 81, 82, 83, 84, 85, 86, 87, 88, 89, 90, 91, 92, 93, 94, 95, 96, 97, 98, 99, 100, 101, 102, 103, 104, 105, 106, 107, 108, 109, 110, 111, 112, 113, 114, 115, 116, 117, 118, 119, 120, 121, 122, 123, 124, 125, 126, 127] rfl (by decide +kernel)
set_option maxRecDepth 20000 in
theorem gX4_isWhole_X4_refusalOfWhole : GoodIn wsX4_isWhole (wsV RX4 127 RX4 yX4_refusalOfWhole wsX4_refusalOfWhole) := goodIn_app (goodIn_of _ (by decide +kernel)) ggX4_isWhole_X4_refusalOfWhole
theorem dX4_isWhole_0 : decode cX4_isWhole 0 = .ok (.aload_n 0, 1) := by decide +kernel
theorem dX4_isWhole_1 : decode cX4_isWhole 1 = .ok (.invokevirtual 127, 3) := by decide +kernel
theorem dX4_isWhole_4 : decode cX4_isWhole 4 = .ok (.istore_n 1, 1) := by decide +kernel
theorem dX4_isWhole_5 : decode cX4_isWhole 5 = .ok (.iload_n 1, 1) := by decide +kernel
theorem dX4_isWhole_6 : decode cX4_isWhole 6 = .ok (.bipush (-4), 2) := by decide +kernel
theorem dX4_isWhole_8 : decode cX4_isWhole 8 = .ok (.if_icmp .ne 6, 3) := by decide +kernel
theorem dX4_isWhole_11 : decode cX4_isWhole 11 = .ok (.bipush (-4), 2) := by decide +kernel
theorem dX4_isWhole_13 : decode cX4_isWhole 13 = .ok (.ireturn, 1) := by decide +kernel
theorem dX4_isWhole_14 : decode cX4_isWhole 14 = .ok (.iload_n 1, 1) := by decide +kernel
theorem dX4_isWhole_15 : decode cX4_isWhole 15 = .ok (.ifCond .ne 7, 3) := by decide +kernel
theorem dX4_isWhole_18 : decode cX4_isWhole 18 = .ok (.iconst 1, 1) := by decide +kernel
theorem dX4_isWhole_19 : decode cX4_isWhole 19 = .ok (.goto 4, 3) := by decide +kernel
theorem dX4_isWhole_22 : decode cX4_isWhole 22 = .ok (.iconst 0, 1) := by decide +kernel
theorem dX4_isWhole_23 : decode cX4_isWhole 23 = .ok (.ireturn, 1) := by decide +kernel
set_option maxRecDepth 20000 in
theorem ggX4_told_X1_countRows : GoodIn wsX4_told wsX1_countRows := goodIn_r _ [8, 9, 10, 14, 15, 16, 17, 18, 19, 20, 21, 22] rfl (by decide +kernel)
set_option maxRecDepth 20000 in
theorem gX4_told_X1_countRows : GoodIn wsX4_told (wsV RX4 77 RX1 yX1_countRows wsX1_countRows) := goodIn_app (goodIn_of _ (by decide +kernel)) ggX4_told_X1_countRows
theorem dX4_told_0 : decode cX4_told 0 = .ok (.iload_n 1, 1) := by decide +kernel
theorem dX4_told_1 : decode cX4_told 1 = .ok (.ifCond .ne 11, 3) := by decide +kernel
theorem dX4_told_4 : decode cX4_told 4 = .ok (.aload_n 0, 1) := by decide +kernel
theorem dX4_told_5 : decode cX4_told 5 = .ok (.getfield 10, 3) := by decide +kernel
theorem dX4_told_8 : decode cX4_told 8 = .ok (.getfield 81, 3) := by decide +kernel
theorem dX4_told_11 : decode cX4_told 11 = .ok (.ireturn, 1) := by decide +kernel
theorem dX4_told_12 : decode cX4_told 12 = .ok (.iload_n 1, 1) := by decide +kernel
theorem dX4_told_13 : decode cX4_told 13 = .ok (.iconst 1, 1) := by decide +kernel
theorem dX4_told_14 : decode cX4_told 14 = .ok (.if_icmp .ne 11, 3) := by decide +kernel
theorem dX4_told_17 : decode cX4_told 17 = .ok (.aload_n 0, 1) := by decide +kernel
theorem dX4_told_18 : decode cX4_told 18 = .ok (.getfield 10, 3) := by decide +kernel
theorem dX4_told_21 : decode cX4_told 21 = .ok (.invokevirtual 77, 3) := by decide +kernel
theorem dX4_told_24 : decode cX4_told 24 = .ok (.ireturn, 1) := by decide +kernel
theorem dX4_told_25 : decode cX4_told 25 = .ok (.iload_n 1, 1) := by decide +kernel
theorem dX4_told_26 : decode cX4_told 26 = .ok (.iconst 2, 1) := by decide +kernel
theorem dX4_told_27 : decode cX4_told 27 = .ok (.if_icmp .ne 13, 3) := by decide +kernel
theorem dX4_told_30 : decode cX4_told 30 = .ok (.aload_n 0, 1) := by decide +kernel
theorem dX4_told_31 : decode cX4_told 31 = .ok (.getfield 10, 3) := by decide +kernel
theorem dX4_told_34 : decode cX4_told 34 = .ok (.getfield 85, 3) := by decide +kernel
theorem dX4_told_37 : decode cX4_told 37 = .ok (.goto 5, 3) := by decide +kernel
theorem dX4_told_40 : decode cX4_told 40 = .ok (.bipush (-2), 2) := by decide +kernel
theorem dX4_told_42 : decode cX4_told 42 = .ok (.ireturn, 1) := by decide +kernel
set_option maxRecDepth 20000 in
theorem ggX4_forgetAnswers_X2_forget : GoodIn wsX4_forgetAnswers wsX2_forget := goodIn_r _ [7, 8, 9, 10, 20, 21, 22, 23, 24, 25, 26, 27, 28, 29] rfl (by decide +kernel)
set_option maxRecDepth 20000 in
theorem gX4_forgetAnswers_X2_forget : GoodIn wsX4_forgetAnswers (wsV RX4 134 RX2 yX2_forget wsX2_forget) := goodIn_app (goodIn_of _ (by decide +kernel)) ggX4_forgetAnswers_X2_forget
set_option maxRecDepth 20000 in
theorem ggX4_forgetAnswers_X3_forget : GoodIn wsX4_forgetAnswers wsX3_forget := goodIn_r _ [15, 16, 30, 31, 32, 33, 34, 35, 36, 37, 38, 39] rfl (by decide +kernel)
set_option maxRecDepth 20000 in
theorem gX4_forgetAnswers_X3_forget : GoodIn wsX4_forgetAnswers (wsV RX4 137 RX3 yX3_forget wsX3_forget) := goodIn_app (goodIn_of _ (by decide +kernel)) ggX4_forgetAnswers_X3_forget
theorem dX4_forgetAnswers_0 : decode cX4_forgetAnswers 0 = .ok (.aload_n 0, 1) := by decide +kernel
theorem dX4_forgetAnswers_1 : decode cX4_forgetAnswers 1 = .ok (.getfield 21, 3) := by decide +kernel
theorem dX4_forgetAnswers_4 : decode cX4_forgetAnswers 4 = .ok (.invokevirtual 134, 3) := by decide +kernel
theorem dX4_forgetAnswers_7 : decode cX4_forgetAnswers 7 = .ok (.aload_n 0, 1) := by decide +kernel
theorem dX4_forgetAnswers_8 : decode cX4_forgetAnswers 8 = .ok (.getfield 28, 3) := by decide +kernel
theorem dX4_forgetAnswers_11 : decode cX4_forgetAnswers 11 = .ok (.invokevirtual 137, 3) := by decide +kernel
theorem dX4_forgetAnswers_14 : decode cX4_forgetAnswers 14 = .ok (.return_, 1) := by decide +kernel
set_option maxRecDepth 20000 in
theorem ggX4_refusalOfEnd_X1_hasName : GoodIn wsX4_refusalOfEnd wsX1_hasName := goodIn_r _ [7, 8, 111, 112, 113, 114, 115, 116, 117, 118, 119] rfl (by decide +kernel)
set_option maxRecDepth 20000 in
theorem gX4_refusalOfEnd_X1_hasName : GoodIn wsX4_refusalOfEnd (wsV RX4 43 RX1 yX1_hasName wsX1_hasName) := goodIn_app (goodIn_of _ (by decide +kernel)) ggX4_refusalOfEnd_X1_hasName
set_option maxRecDepth 20000 in
theorem ggX4_refusalOfEnd_X4_isZeroOrOne : GoodIn wsX4_refusalOfEnd wsX4_isZeroOrOne := goodIn_r _ [12] rfl (by decide +kernel)
set_option maxRecDepth 20000 in
theorem gX4_refusalOfEnd_X4_isZeroOrOne : GoodIn wsX4_refusalOfEnd (va_wsS RX4 92 yX4_isZeroOrOne wsX4_isZeroOrOne) := goodIn_app (goodIn_of _ (by decide +kernel)) ggX4_refusalOfEnd_X4_isZeroOrOne
set_option maxRecDepth 20000 in
theorem ggX4_refusalOfEnd_X2_hasPoint : GoodIn wsX4_refusalOfEnd wsX2_hasPoint := goodIn_r _ [17, 18, 19, 20, 21, 22, 16, 23, 24, 25, 26, 27, 28, 29, 30, 31, 32, 33, 34, 35, 36, 37, 38, 39, 40, 41, 42, 43, 44, 45, 46, 47, 48, 49, 50, 51, 52, 53, 54, 55, 56, 57, 58, 59, 60, 61, 62, 63, 64, 65, 66, 67, 68, 69, 70, 71, 72, 73, 6, 74, 75, 76, 77, 78, 79, 80, 81, 82, 83, 84, 85, 86, 87, 88, 89, 90, 91, 92, 93, 94, 95, 96, 97, 98, 99, 100, 101, 102, 103, 104, 105, 106, 107, 120, 121, 122, 123, 124, 125, 126, 127, 128, 129, 111, 112, 113, 114, 115, 116, 117, 118, 119, 130, 131, 132, 133, 134, 135, 136, 137, 138] rfl (by decide +kernel)
set_option maxRecDepth 20000 in
theorem gX4_refusalOfEnd_X2_hasPoint : GoodIn wsX4_refusalOfEnd (wsV RX4 88 RX2 yX2_hasPoint wsX2_hasPoint) := goodIn_app (goodIn_of _ (by decide +kernel)) ggX4_refusalOfEnd_X2_hasPoint
theorem dX4_refusalOfEnd_0 : decode cX4_refusalOfEnd 0 = .ok (.aload_n 0, 1) := by decide +kernel
theorem dX4_refusalOfEnd_1 : decode cX4_refusalOfEnd 1 = .ok (.getfield 10, 3) := by decide +kernel
theorem dX4_refusalOfEnd_4 : decode cX4_refusalOfEnd 4 = .ok (.iload_n 1, 1) := by decide +kernel
theorem dX4_refusalOfEnd_5 : decode cX4_refusalOfEnd 5 = .ok (.invokevirtual 43, 3) := by decide +kernel
theorem dX4_refusalOfEnd_8 : decode cX4_refusalOfEnd 8 = .ok (.ifCond .ne 5, 3) := by decide +kernel
theorem dX4_refusalOfEnd_11 : decode cX4_refusalOfEnd 11 = .ok (.iconst (-1), 1) := by decide +kernel
theorem dX4_refusalOfEnd_12 : decode cX4_refusalOfEnd 12 = .ok (.ireturn, 1) := by decide +kernel
theorem dX4_refusalOfEnd_13 : decode cX4_refusalOfEnd 13 = .ok (.iload_n 2, 1) := by decide +kernel
theorem dX4_refusalOfEnd_14 : decode cX4_refusalOfEnd 14 = .ok (.invokestatic 92, 3) := by decide +kernel
theorem dX4_refusalOfEnd_17 : decode cX4_refusalOfEnd 17 = .ok (.ifCond .eq 10, 3) := by decide +kernel
theorem dX4_refusalOfEnd_20 : decode cX4_refusalOfEnd 20 = .ok (.iload_n 3, 1) := by decide +kernel
theorem dX4_refusalOfEnd_21 : decode cX4_refusalOfEnd 21 = .ok (.invokestatic 92, 3) := by decide +kernel
theorem dX4_refusalOfEnd_24 : decode cX4_refusalOfEnd 24 = .ok (.ifCond .ne 6, 3) := by decide +kernel
theorem dX4_refusalOfEnd_27 : decode cX4_refusalOfEnd 27 = .ok (.bipush (-2), 2) := by decide +kernel
theorem dX4_refusalOfEnd_29 : decode cX4_refusalOfEnd 29 = .ok (.ireturn, 1) := by decide +kernel
theorem dX4_refusalOfEnd_30 : decode cX4_refusalOfEnd 30 = .ok (.aload_n 0, 1) := by decide +kernel
theorem dX4_refusalOfEnd_31 : decode cX4_refusalOfEnd 31 = .ok (.getfield 21, 3) := by decide +kernel
theorem dX4_refusalOfEnd_34 : decode cX4_refusalOfEnd 34 = .ok (.invokevirtual 88, 3) := by decide +kernel
theorem dX4_refusalOfEnd_37 : decode cX4_refusalOfEnd 37 = .ok (.ifCond .eq 7, 3) := by decide +kernel
theorem dX4_refusalOfEnd_40 : decode cX4_refusalOfEnd 40 = .ok (.iconst 0, 1) := by decide +kernel
theorem dX4_refusalOfEnd_41 : decode cX4_refusalOfEnd 41 = .ok (.goto 5, 3) := by decide +kernel
theorem dX4_refusalOfEnd_44 : decode cX4_refusalOfEnd 44 = .ok (.bipush (-3), 2) := by decide +kernel
theorem dX4_refusalOfEnd_46 : decode cX4_refusalOfEnd 46 = .ok (.ireturn, 1) := by decide +kernel
set_option maxRecDepth 20000 in
theorem ggX4_refusalOfWhole_X1_countWhole : GoodIn wsX4_refusalOfWhole wsX1_countWhole := goodIn_r _ [8, 9, 10, 11, 104, 105, 106, 107, 108, 109, 110, 111, 112] rfl (by decide +kernel)
set_option maxRecDepth 20000 in
theorem gX4_refusalOfWhole_X1_countWhole : GoodIn wsX4_refusalOfWhole (wsV RX4 138 RX1 yX1_countWhole wsX1_countWhole) := goodIn_app (goodIn_of _ (by decide +kernel)) ggX4_refusalOfWhole_X1_countWhole
set_option maxRecDepth 20000 in
theorem ggX4_refusalOfWhole_X3_hasPoint : GoodIn wsX4_refusalOfWhole wsX3_hasPoint := goodIn_r _ [16, 17, 18, 19, 20, 21, 22, 23, 24, 25, 26, 15, 27, 28, 29, 30, 31, 32, 33, 34, 35, 36, 37, 38, 39, 40, 41, 42, 43, 44, 45, 46, 47, 48, 49, 50, 51, 52, 53, 54, 7, 55, 56, 57, 58, 59, 60, 61, 62, 63, 64, 65, 66, 67, 68, 69, 70, 71, 72, 73, 74, 75, 76, 77, 78, 79, 80, 81, 82, 83, 84, 85, 86, 87, 88, 89, 90, 91, 92, 93, 94, 95, 96, 97, 98, 99, 100, 113, 114, 115, 116, 117, 118, 119, 120, 121, 122, 104, 105, 106, 107, 108, 109, 110, 111, 112] rfl (by decide +kernel)
set_option maxRecDepth 20000 in
theorem gX4_refusalOfWhole_X3_hasPoint : GoodIn wsX4_refusalOfWhole (wsV RX4 144 RX3 yX3_hasPoint wsX3_hasPoint) := goodIn_app (goodIn_of _ (by decide +kernel)) ggX4_refusalOfWhole_X3_hasPoint
theorem dX4_refusalOfWhole_0 : decode cX4_refusalOfWhole 0 = .ok (.aload_n 0, 1) := by decide +kernel
theorem dX4_refusalOfWhole_1 : decode cX4_refusalOfWhole 1 = .ok (.getfield 10, 3) := by decide +kernel
theorem dX4_refusalOfWhole_4 : decode cX4_refusalOfWhole 4 = .ok (.invokevirtual 138, 3) := by decide +kernel
theorem dX4_refusalOfWhole_7 : decode cX4_refusalOfWhole 7 = .ok (.ldc2_w 142, 3) := by decide +kernel
theorem dX4_refusalOfWhole_10 : decode cX4_refusalOfWhole 10 = .ok (.lcmp, 1) := by decide +kernel
theorem dX4_refusalOfWhole_11 : decode cX4_refusalOfWhole 11 = .ok (.ifCond .le 6, 3) := by decide +kernel
theorem dX4_refusalOfWhole_14 : decode cX4_refusalOfWhole 14 = .ok (.bipush (-4), 2) := by decide +kernel
theorem dX4_refusalOfWhole_16 : decode cX4_refusalOfWhole 16 = .ok (.ireturn, 1) := by decide +kernel
theorem dX4_refusalOfWhole_17 : decode cX4_refusalOfWhole 17 = .ok (.aload_n 0, 1) := by decide +kernel
theorem dX4_refusalOfWhole_18 : decode cX4_refusalOfWhole 18 = .ok (.getfield 28, 3) := by decide +kernel
theorem dX4_refusalOfWhole_21 : decode cX4_refusalOfWhole 21 = .ok (.invokevirtual 144, 3) := by decide +kernel
theorem dX4_refusalOfWhole_24 : decode cX4_refusalOfWhole 24 = .ok (.ifCond .eq 7, 3) := by decide +kernel
theorem dX4_refusalOfWhole_27 : decode cX4_refusalOfWhole 27 = .ok (.iconst 0, 1) := by decide +kernel
theorem dX4_refusalOfWhole_28 : decode cX4_refusalOfWhole 28 = .ok (.goto 5, 3) := by decide +kernel
theorem dX4_refusalOfWhole_31 : decode cX4_refusalOfWhole 31 = .ok (.bipush (-3), 2) := by decide +kernel
theorem dX4_refusalOfWhole_33 : decode cX4_refusalOfWhole 33 = .ok (.ireturn, 1) := by decide +kernel
set_option maxRecDepth 20000 in
theorem ggX4_isSpan_X4_isWithin : GoodIn wsX4_isSpan wsX4_isWithin := goodIn_r _ [4] rfl (by decide +kernel)
set_option maxRecDepth 20000 in
theorem gX4_isSpan_X4_isWithin : GoodIn wsX4_isSpan (va_wsS RX4 54 yX4_isWithin wsX4_isWithin) := goodIn_app (goodIn_of _ (by decide +kernel)) ggX4_isSpan_X4_isWithin
theorem dX4_isSpan_0 : decode cX4_isSpan 0 = .ok (.iload_n 0, 1) := by decide +kernel
theorem dX4_isSpan_1 : decode cX4_isSpan 1 = .ok (.bipush 100, 2) := by decide +kernel
theorem dX4_isSpan_3 : decode cX4_isSpan 3 = .ok (.invokestatic 54, 3) := by decide +kernel
theorem dX4_isSpan_6 : decode cX4_isSpan 6 = .ok (.ifCond .eq 21, 3) := by decide +kernel
theorem dX4_isSpan_9 : decode cX4_isSpan 9 = .ok (.iload_n 1, 1) := by decide +kernel
theorem dX4_isSpan_10 : decode cX4_isSpan 10 = .ok (.bipush 100, 2) := by decide +kernel
theorem dX4_isSpan_12 : decode cX4_isSpan 12 = .ok (.invokestatic 54, 3) := by decide +kernel
theorem dX4_isSpan_15 : decode cX4_isSpan 15 = .ok (.ifCond .eq 12, 3) := by decide +kernel
theorem dX4_isSpan_18 : decode cX4_isSpan 18 = .ok (.iload_n 0, 1) := by decide +kernel
theorem dX4_isSpan_19 : decode cX4_isSpan 19 = .ok (.iload_n 1, 1) := by decide +kernel
theorem dX4_isSpan_20 : decode cX4_isSpan 20 = .ok (.if_icmp .gt 7, 3) := by decide +kernel
theorem dX4_isSpan_23 : decode cX4_isSpan 23 = .ok (.iconst 1, 1) := by decide +kernel
theorem dX4_isSpan_24 : decode cX4_isSpan 24 = .ok (.goto 4, 3) := by decide +kernel
theorem dX4_isSpan_27 : decode cX4_isSpan 27 = .ok (.iconst 0, 1) := by decide +kernel
theorem dX4_isSpan_28 : decode cX4_isSpan 28 = .ok (.ireturn, 1) := by decide +kernel
theorem dX4_isWithin_0 : decode cX4_isWithin 0 = .ok (.iload_n 0, 1) := by decide +kernel
theorem dX4_isWithin_1 : decode cX4_isWithin 1 = .ok (.iload_n 1, 1) := by decide +kernel
theorem dX4_isWithin_2 : decode cX4_isWithin 2 = .ok (.ineg, 1) := by decide +kernel
theorem dX4_isWithin_3 : decode cX4_isWithin 3 = .ok (.if_icmp .lt 12, 3) := by decide +kernel
theorem dX4_isWithin_6 : decode cX4_isWithin 6 = .ok (.iload_n 0, 1) := by decide +kernel
theorem dX4_isWithin_7 : decode cX4_isWithin 7 = .ok (.iload_n 1, 1) := by decide +kernel
theorem dX4_isWithin_8 : decode cX4_isWithin 8 = .ok (.if_icmp .gt 7, 3) := by decide +kernel
theorem dX4_isWithin_11 : decode cX4_isWithin 11 = .ok (.iconst 1, 1) := by decide +kernel
theorem dX4_isWithin_12 : decode cX4_isWithin 12 = .ok (.goto 4, 3) := by decide +kernel
theorem dX4_isWithin_15 : decode cX4_isWithin 15 = .ok (.iconst 0, 1) := by decide +kernel
theorem dX4_isWithin_16 : decode cX4_isWithin 16 = .ok (.ireturn, 1) := by decide +kernel
theorem dX4_isZeroOrOne_0 : decode cX4_isZeroOrOne 0 = .ok (.iload_n 0, 1) := by decide +kernel
theorem dX4_isZeroOrOne_1 : decode cX4_isZeroOrOne 1 = .ok (.ifCond .eq 8, 3) := by decide +kernel
theorem dX4_isZeroOrOne_4 : decode cX4_isZeroOrOne 4 = .ok (.iload_n 0, 1) := by decide +kernel
theorem dX4_isZeroOrOne_5 : decode cX4_isZeroOrOne 5 = .ok (.iconst 1, 1) := by decide +kernel
theorem dX4_isZeroOrOne_6 : decode cX4_isZeroOrOne 6 = .ok (.if_icmp .ne 7, 3) := by decide +kernel
theorem dX4_isZeroOrOne_9 : decode cX4_isZeroOrOne 9 = .ok (.iconst 1, 1) := by decide +kernel
theorem dX4_isZeroOrOne_10 : decode cX4_isZeroOrOne 10 = .ok (.goto 4, 3) := by decide +kernel
theorem dX4_isZeroOrOne_13 : decode cX4_isZeroOrOne 13 = .ok (.iconst 0, 1) := by decide +kernel
theorem dX4_isZeroOrOne_14 : decode cX4_isZeroOrOne 14 = .ok (.ireturn, 1) := by decide +kernel
