theorem dX5_factor_24 : decode cX5_factor 24 = .ok (.iload_n 3, 1) := by decide +kernel
theorem dX5_factor_25 : decode cX5_factor 25 = .ok (.bipush 9, 2) := by decide +kernel
theorem dX5_factor_27 : decode cX5_factor 27 = .ok (.if_icmp .le 6, 3) := by decide +kernel
theorem dX5_factor_30 : decode cX5_factor 30 = .ok (.bipush (-2), 2) := by decide +kernel
theorem dX5_factor_32 : decode cX5_factor 32 = .ok (.ireturn, 1) := by decide +kernel
theorem dX5_factor_33 : decode cX5_factor 33 = .ok (.aload_n 0, 1) := by decide +kernel
theorem dX5_factor_34 : decode cX5_factor 34 = .ok (.getfield 25, 3) := by decide +kernel
theorem dX5_factor_37 : decode cX5_factor 37 = .ok (.iconst 5, 1) := by decide +kernel
theorem dX5_factor_38 : decode cX5_factor 38 = .ok (.iload_n 1, 1) := by decide +kernel
theorem dX5_factor_39 : decode cX5_factor 39 = .ok (.imul, 1) := by decide +kernel
theorem dX5_factor_40 : decode cX5_factor 40 = .ok (.iload_n 2, 1) := by decide +kernel
theorem dX5_factor_41 : decode cX5_factor 41 = .ok (.iadd, 1) := by decide +kernel
theorem dX5_factor_42 : decode cX5_factor 42 = .ok (.iload_n 3, 1) := by decide +kernel
theorem dX5_factor_43 : decode cX5_factor 43 = .ok (.iastore, 1) := by decide +kernel
theorem dX5_factor_44 : decode cX5_factor 44 = .ok (.aload_n 0, 1) := by decide +kernel
theorem dX5_factor_45 : decode cX5_factor 45 = .ok (.iconst 0, 1) := by decide +kernel
theorem dX5_factor_46 : decode cX5_factor 46 = .ok (.putfield 117, 3) := by decide +kernel
theorem dX5_factor_49 : decode cX5_factor 49 = .ok (.iconst 1, 1) := by decide +kernel
theorem dX5_factor_50 : decode cX5_factor 50 = .ok (.ireturn, 1) := by decide +kernel
theorem dX5_rowCount_0 : decode cX5_rowCount 0 = .ok (.iconst 0, 1) := by decide +kernel
theorem dX5_rowCount_1 : decode cX5_rowCount 1 = .ok (.istore_n 1, 1) := by decide +kernel
theorem dX5_rowCount_2 : decode cX5_rowCount 2 = .ok (.iconst 0, 1) := by decide +kernel
theorem dX5_rowCount_3 : decode cX5_rowCount 3 = .ok (.istore_n 2, 1) := by decide +kernel
theorem dX5_rowCount_4 : decode cX5_rowCount 4 = .ok (.iload_n 2, 1) := by decide +kernel
theorem dX5_rowCount_5 : decode cX5_rowCount 5 = .ok (.aload_n 0, 1) := by decide +kernel
theorem dX5_rowCount_6 : decode cX5_rowCount 6 = .ok (.getfield 78, 3) := by decide +kernel
theorem dX5_rowCount_9 : decode cX5_rowCount 9 = .ok (.if_icmp .ge 26, 3) := by decide +kernel
theorem dX5_rowCount_12 : decode cX5_rowCount 12 = .ok (.iload_n 1, 1) := by decide +kernel
theorem dX5_rowCount_13 : decode cX5_rowCount 13 = .ok (.aload_n 0, 1) := by decide +kernel
theorem dX5_rowCount_14 : decode cX5_rowCount 14 = .ok (.getfield 28, 3) := by decide +kernel
theorem dX5_rowCount_17 : decode cX5_rowCount 17 = .ok (.iload_n 2, 1) := by decide +kernel
theorem dX5_rowCount_18 : decode cX5_rowCount 18 = .ok (.baload, 1) := by decide +kernel
theorem dX5_rowCount_19 : decode cX5_rowCount 19 = .ok (.ifCond .eq 7, 3) := by decide +kernel
theorem dX5_rowCount_22 : decode cX5_rowCount 22 = .ok (.iconst 1, 1) := by decide +kernel
theorem dX5_rowCount_23 : decode cX5_rowCount 23 = .ok (.goto 4, 3) := by decide +kernel
theorem dX5_rowCount_26 : decode cX5_rowCount 26 = .ok (.iconst 0, 1) := by decide +kernel
theorem dX5_rowCount_27 : decode cX5_rowCount 27 = .ok (.iadd, 1) := by decide +kernel
theorem dX5_rowCount_28 : decode cX5_rowCount 28 = .ok (.istore_n 1, 1) := by decide +kernel
theorem dX5_rowCount_29 : decode cX5_rowCount 29 = .ok (.iinc 2 1, 3) := by decide +kernel
theorem dX5_rowCount_32 : decode cX5_rowCount 32 = .ok (.goto (-28), 3) := by decide +kernel
theorem dX5_rowCount_35 : decode cX5_rowCount 35 = .ok (.iload_n 1, 1) := by decide +kernel
theorem dX5_rowCount_36 : decode cX5_rowCount 36 = .ok (.ireturn, 1) := by decide +kernel
set_option maxRecDepth 20000 in
theorem ggX5_drop_X5_isRow : GoodIn wsX5_drop wsX5_isRow := goodIn_r _ [7, 8, 1, 13, 14, 15, 16, 17, 18, 19, 20, 21, 22, 23, 24, 25, 26, 27, 28, 29, 30, 31, 32, 33, 34, 35, 36, 37, 38, 39, 40] rfl (by decide +kernel)
set_option maxRecDepth 20000 in
theorem gX5_drop_X5_isRow : GoodIn wsX5_drop (wsV RX5 137 RX5 yX5_isRow wsX5_isRow) := goodIn_app (goodIn_of _ (by decide +kernel)) ggX5_drop_X5_isRow
set_option maxRecDepth 20000 in
theorem ggX5_drop_X5_rowCount : GoodIn wsX5_drop wsX5_rowCount := goodIn_r _ [12, 8, 1, 13, 14, 15, 16, 17, 18, 19, 20, 21, 22, 23, 24, 25, 26, 27, 28, 29, 30, 31, 32, 33, 34, 35, 36, 37, 38, 39, 40] rfl (by decide +kernel)
set_option maxRecDepth 20000 in
theorem gX5_drop_X5_rowCount : GoodIn wsX5_drop (wsV RX5 140 RX5 yX5_rowCount wsX5_rowCount) := goodIn_app (goodIn_of _ (by decide +kernel)) ggX5_drop_X5_rowCount
theorem dX5_drop_0 : decode cX5_drop 0 = .ok (.aload_n 0, 1) := by decide +kernel
theorem dX5_drop_1 : decode cX5_drop 1 = .ok (.iload_n 1, 1) := by decide +kernel
theorem dX5_drop_2 : decode cX5_drop 2 = .ok (.invokevirtual 137, 3) := by decide +kernel
theorem dX5_drop_5 : decode cX5_drop 5 = .ok (.ifCond .ne 5, 3) := by decide +kernel
theorem dX5_drop_8 : decode cX5_drop 8 = .ok (.iconst (-1), 1) := by decide +kernel
theorem dX5_drop_9 : decode cX5_drop 9 = .ok (.ireturn, 1) := by decide +kernel
theorem dX5_drop_10 : decode cX5_drop 10 = .ok (.aload_n 0, 1) := by decide +kernel
theorem dX5_drop_11 : decode cX5_drop 11 = .ok (.getfield 28, 3) := by decide +kernel
theorem dX5_drop_14 : decode cX5_drop 14 = .ok (.iload_n 1, 1) := by decide +kernel
theorem dX5_drop_15 : decode cX5_drop 15 = .ok (.iconst 0, 1) := by decide +kernel
theorem dX5_drop_16 : decode cX5_drop 16 = .ok (.bastore, 1) := by decide +kernel
theorem dX5_drop_17 : decode cX5_drop 17 = .ok (.aload_n 0, 1) := by decide +kernel
theorem dX5_drop_18 : decode cX5_drop 18 = .ok (.iconst 0, 1) := by decide +kernel
theorem dX5_drop_19 : decode cX5_drop 19 = .ok (.putfield 117, 3) := by decide +kernel
theorem dX5_drop_22 : decode cX5_drop 22 = .ok (.aload_n 0, 1) := by decide +kernel
theorem dX5_drop_23 : decode cX5_drop 23 = .ok (.invokevirtual 140, 3) := by decide +kernel
theorem dX5_drop_26 : decode cX5_drop 26 = .ok (.ireturn, 1) := by decide +kernel
theorem dX5_clear_0 : decode cX5_clear 0 = .ok (.aload_n 0, 1) := by decide +kernel
theorem dX5_clear_1 : decode cX5_clear 1 = .ok (.getfield 66, 3) := by decide +kernel
theorem dX5_clear_4 : decode cX5_clear 4 = .ok (.istore_n 1, 1) := by decide +kernel
theorem dX5_clear_5 : decode cX5_clear 5 = .ok (.aload_n 0, 1) := by decide +kernel
theorem dX5_clear_6 : decode cX5_clear 6 = .ok (.iconst 0, 1) := by decide +kernel
theorem dX5_clear_7 : decode cX5_clear 7 = .ok (.putfield 66, 3) := by decide +kernel
theorem dX5_clear_10 : decode cX5_clear 10 = .ok (.aload_n 0, 1) := by decide +kernel
theorem dX5_clear_11 : decode cX5_clear 11 = .ok (.iconst 0, 1) := by decide +kernel
theorem dX5_clear_12 : decode cX5_clear 12 = .ok (.putfield 78, 3) := by decide +kernel
theorem dX5_clear_15 : decode cX5_clear 15 = .ok (.aload_n 0, 1) := by decide +kernel
theorem dX5_clear_16 : decode cX5_clear 16 = .ok (.iconst 0, 1) := by decide +kernel
theorem dX5_clear_17 : decode cX5_clear 17 = .ok (.putfield 117, 3) := by decide +kernel
theorem dX5_clear_20 : decode cX5_clear 20 = .ok (.iload_n 1, 1) := by decide +kernel
theorem dX5_clear_21 : decode cX5_clear 21 = .ok (.ireturn, 1) := by decide +kernel
set_option maxRecDepth 20000 in
theorem ggX5_run_X5_know : GoodIn wsX5_run wsX5_know := goodIn_r _ [6, 7, 8, 1, 9, 10, 11, 12, 5, 13, 14, 15, 16, 17, 18, 19, 20, 21, 22, 23, 24, 25, 26, 27, 28, 29, 30, 31, 32, 33, 34, 35, 36, 37, 38, 39, 40, 41, 42, 43, 44, 45, 46, 47, 48, 49, 50, 51, 52, 53, 54, 55, 56, 57, 58, 59, 60, 61, 62, 63, 64, 65, 66, 67, 68, 69, 70, 71, 72, 73, 74, 75, 76, 77, 78, 79, 80, 81, 82, 83, 84, 85, 86, 87, 88, 89, 90, 91, 92, 93] rfl (by decide +kernel)
set_option maxRecDepth 20000 in
theorem gX5_run_X5_know : GoodIn wsX5_run (wsV RX5 143 RX5 yX5_know wsX5_know) := goodIn_app (goodIn_of _ (by decide +kernel)) ggX5_run_X5_know
theorem dX5_run_0 : decode cX5_run 0 = .ok (.aload_n 0, 1) := by decide +kernel
theorem dX5_run_1 : decode cX5_run 1 = .ok (.invokevirtual 143, 3) := by decide +kernel
theorem dX5_run_4 : decode cX5_run 4 = .ok (.aload_n 0, 1) := by decide +kernel
theorem dX5_run_5 : decode cX5_run 5 = .ok (.getfield 128, 3) := by decide +kernel
theorem dX5_run_8 : decode cX5_run 8 = .ok (.ifCond .eq 7, 3) := by decide +kernel
theorem dX5_run_11 : decode cX5_run 11 = .ok (.iconst 1, 1) := by decide +kernel
theorem dX5_run_12 : decode cX5_run 12 = .ok (.goto 4, 3) := by decide +kernel
theorem dX5_run_15 : decode cX5_run 15 = .ok (.iconst 0, 1) := by decide +kernel
theorem dX5_run_16 : decode cX5_run 16 = .ok (.ireturn, 1) := by decide +kernel
theorem dX5_isPart_0 : decode cX5_isPart 0 = .ok (.iload_n 0, 1) := by decide +kernel
theorem dX5_isPart_1 : decode cX5_isPart 1 = .ok (.ifCond .eq 8, 3) := by decide +kernel
theorem dX5_isPart_4 : decode cX5_isPart 4 = .ok (.iload_n 0, 1) := by decide +kernel
theorem dX5_isPart_5 : decode cX5_isPart 5 = .ok (.iconst 1, 1) := by decide +kernel
theorem dX5_isPart_6 : decode cX5_isPart 6 = .ok (.if_icmp .ne 7, 3) := by decide +kernel
theorem dX5_isPart_9 : decode cX5_isPart 9 = .ok (.iconst 1, 1) := by decide +kernel
theorem dX5_isPart_10 : decode cX5_isPart 10 = .ok (.goto 4, 3) := by decide +kernel
theorem dX5_isPart_13 : decode cX5_isPart 13 = .ok (.iconst 0, 1) := by decide +kernel
theorem dX5_isPart_14 : decode cX5_isPart 14 = .ok (.ireturn, 1) := by decide +kernel
set_option maxRecDepth 20000 in
theorem ggX5_least_X5_isPart : GoodIn wsX5_least wsX5_isPart := goodIn_r _ [9] rfl (by decide +kernel)
set_option maxRecDepth 20000 in
theorem gX5_least_X5_isPart : GoodIn wsX5_least (va_wsS RX5 146 yX5_isPart wsX5_isPart) := goodIn_app (goodIn_of _ (by decide +kernel)) ggX5_least_X5_isPart
set_option maxRecDepth 20000 in
theorem ggX5_least_X5_know : GoodIn wsX5_least wsX5_know := goodIn_r _ [13, 14, 15, 2, 16, 17, 18, 19, 8, 20, 21, 22, 23, 24, 25, 26, 27, 28, 29, 30, 31, 32, 33, 34, 35, 36, 37, 38, 39, 40, 41, 42, 43, 44, 45, 46, 3, 4, 47, 48, 49, 50, 51, 52, 53, 54, 55, 56, 57, 58, 59, 60, 61, 62, 63, 64, 65, 66, 67, 68, 69, 70, 74, 75, 76, 77, 78, 79, 80, 81, 82, 83, 84, 85, 86, 87, 88, 89, 90, 91, 92, 93, 94, 95, 96, 97, 98, 99, 100, 101] rfl (by decide +kernel)
set_option maxRecDepth 20000 in
theorem gX5_least_X5_know : GoodIn wsX5_least (wsV RX5 143 RX5 yX5_know wsX5_know) := goodIn_app (goodIn_of _ (by decide +kernel)) ggX5_least_X5_know
set_option maxRecDepth 20000 in
theorem ggX5_least_X5_lowest : GoodIn wsX5_least wsX5_lowest := goodIn_r _ [73] rfl (by decide +kernel)
set_option maxRecDepth 20000 in
theorem gX5_least_X5_lowest : GoodIn wsX5_least (va_wsS RX5 151 yX5_lowest wsX5_lowest) := goodIn_app (goodIn_of _ (by decide +kernel)) ggX5_least_X5_lowest
theorem dX5_least_0 : decode cX5_least 0 = .ok (.iload_n 1, 1) := by decide +kernel
theorem dX5_least_1 : decode cX5_least 1 = .ok (.invokestatic 146, 3) := by decide +kernel
theorem dX5_least_4 : decode cX5_least 4 = .ok (.ifCond .ne 7, 3) := by decide +kernel
theorem dX5_least_7 : decode cX5_least 7 = .ok (.ldc2_w 149, 3) := by decide +kernel
theorem dX5_least_10 : decode cX5_least 10 = .ok (.lreturn, 1) := by decide +kernel
theorem dX5_least_11 : decode cX5_least 11 = .ok (.aload_n 0, 1) := by decide +kernel
theorem dX5_least_12 : decode cX5_least 12 = .ok (.invokevirtual 143, 3) := by decide +kernel
theorem dX5_least_15 : decode cX5_least 15 = .ok (.aload_n 0, 1) := by decide +kernel
theorem dX5_least_16 : decode cX5_least 16 = .ok (.getfield 128, 3) := by decide +kernel
theorem dX5_least_19 : decode cX5_least 19 = .ok (.ifCond .eq 18, 3) := by decide +kernel
theorem dX5_least_22 : decode cX5_least 22 = .ok (.aload_n 0, 1) := by decide +kernel
theorem dX5_least_23 : decode cX5_least 23 = .ok (.getfield 108, 3) := by decide +kernel
theorem dX5_least_26 : decode cX5_least 26 = .ok (.aload_n 0, 1) := by decide +kernel
theorem dX5_least_27 : decode cX5_least 27 = .ok (.getfield 111, 3) := by decide +kernel
theorem dX5_least_30 : decode cX5_least 30 = .ok (.iload_n 1, 1) := by decide +kernel
theorem dX5_least_31 : decode cX5_least 31 = .ok (.invokestatic 151, 3) := by decide +kernel
theorem dX5_least_34 : decode cX5_least 34 = .ok (.goto 6, 3) := by decide +kernel
theorem dX5_least_37 : decode cX5_least 37 = .ok (.ldc2_w 155, 3) := by decide +kernel
theorem dX5_least_40 : decode cX5_least 40 = .ok (.lreturn, 1) := by decide +kernel
set_option maxRecDepth 20000 in
theorem ggX5_value_X5_isName : GoodIn wsX5_value wsX5_isName := goodIn_r _ [11, 12, 79, 80, 81, 82, 83, 84, 85, 86, 87, 88, 89, 90, 91, 92, 93, 94, 95, 96, 97, 98, 99, 100, 101, 102, 103, 104, 105, 106] rfl (by decide +kernel)
set_option maxRecDepth 20000 in
theorem gX5_value_X5_isName : GoodIn wsX5_value (wsV RX5 134 RX5 yX5_isName wsX5_isName) := goodIn_app (goodIn_of _ (by decide +kernel)) ggX5_value_X5_isName
set_option maxRecDepth 20000 in
theorem ggX5_value_X5_isPart : GoodIn wsX5_value wsX5_isPart := goodIn_r _ [15] rfl (by decide +kernel)
set_option maxRecDepth 20000 in
theorem gX5_value_X5_isPart : GoodIn wsX5_value (va_wsS RX5 146 yX5_isPart wsX5_isPart) := goodIn_app (goodIn_of _ (by decide +kernel)) ggX5_value_X5_isPart
set_option maxRecDepth 20000 in
theorem ggX5_value_X5_know : GoodIn wsX5_value wsX5_know := goodIn_r _ [19, 20, 21, 3, 22, 23, 24, 25, 10, 26, 27, 28, 29, 30, 31, 32, 33, 12, 34, 35, 36, 37, 38, 39, 40, 41, 42, 43, 44, 45, 46, 47, 48, 49, 50, 51, 52, 53, 54, 55, 4, 5, 56, 57, 58, 59, 60, 61, 62, 63, 64, 65, 66, 67, 68, 69, 70, 71, 72, 73, 74, 75, 79, 80, 81, 82, 83, 84, 85, 86, 87, 88, 89, 90, 91, 92, 93, 94, 95, 96, 97, 98, 99, 100, 101, 102, 103, 104, 105, 106] rfl (by decide +kernel)
set_option maxRecDepth 20000 in
theorem gX5_value_X5_know : GoodIn wsX5_value (wsV RX5 143 RX5 yX5_know wsX5_know) := goodIn_app (goodIn_of _ (by decide +kernel)) ggX5_value_X5_know
set_option maxRecDepth 20000 in
theorem ggX5_value_X5_lowest : GoodIn wsX5_value wsX5_lowest := goodIn_r _ [78] rfl (by decide +kernel)
set_option maxRecDepth 20000 in
theorem gX5_value_X5_lowest : GoodIn wsX5_value (va_wsS RX5 151 yX5_lowest wsX5_lowest) := goodIn_app (goodIn_of _ (by decide +kernel)) ggX5_value_X5_lowest
theorem dX5_value_0 : decode cX5_value 0 = .ok (.aload_n 0, 1) := by decide +kernel
theorem dX5_value_1 : decode cX5_value 1 = .ok (.iload_n 1, 1) := by decide +kernel
theorem dX5_value_2 : decode cX5_value 2 = .ok (.invokevirtual 134, 3) := by decide +kernel
theorem dX5_value_5 : decode cX5_value 5 = .ok (.ifCond .ne 7, 3) := by decide +kernel
theorem dX5_value_8 : decode cX5_value 8 = .ok (.ldc2_w 157, 3) := by decide +kernel
theorem dX5_value_11 : decode cX5_value 11 = .ok (.lreturn, 1) := by decide +kernel
theorem dX5_value_12 : decode cX5_value 12 = .ok (.iload_n 2, 1) := by decide +kernel
theorem dX5_value_13 : decode cX5_value 13 = .ok (.invokestatic 146, 3) := by decide +kernel
theorem dX5_value_16 : decode cX5_value 16 = .ok (.ifCond .ne 7, 3) := by decide +kernel
theorem dX5_value_19 : decode cX5_value 19 = .ok (.ldc2_w 149, 3) := by decide +kernel
theorem dX5_value_22 : decode cX5_value 22 = .ok (.lreturn, 1) := by decide +kernel
theorem dX5_value_23 : decode cX5_value 23 = .ok (.aload_n 0, 1) := by decide +kernel
theorem dX5_value_24 : decode cX5_value 24 = .ok (.invokevirtual 143, 3) := by decide +kernel
theorem dX5_value_27 : decode cX5_value 27 = .ok (.aload_n 0, 1) := by decide +kernel
theorem dX5_value_28 : decode cX5_value 28 = .ok (.getfield 128, 3) := by decide +kernel
theorem dX5_value_31 : decode cX5_value 31 = .ok (.ifCond .eq 20, 3) := by decide +kernel
theorem dX5_value_34 : decode cX5_value 34 = .ok (.aload_n 0, 1) := by decide +kernel
theorem dX5_value_35 : decode cX5_value 35 = .ok (.getfield 32, 3) := by decide +kernel
theorem dX5_value_38 : decode cX5_value 38 = .ok (.iload_n 1, 1) := by decide +kernel
theorem dX5_value_39 : decode cX5_value 39 = .ok (.laload, 1) := by decide +kernel
theorem dX5_value_40 : decode cX5_value 40 = .ok (.aload_n 0, 1) := by decide +kernel
theorem dX5_value_41 : decode cX5_value 41 = .ok (.getfield 114, 3) := by decide +kernel
theorem dX5_value_44 : decode cX5_value 44 = .ok (.iload_n 2, 1) := by decide +kernel
theorem dX5_value_45 : decode cX5_value 45 = .ok (.invokestatic 151, 3) := by decide +kernel
theorem dX5_value_48 : decode cX5_value 48 = .ok (.goto 6, 3) := by decide +kernel
theorem dX5_value_51 : decode cX5_value 51 = .ok (.ldc2_w 155, 3) := by decide +kernel
theorem dX5_value_54 : decode cX5_value 54 = .ok (.lreturn, 1) := by decide +kernel
set_option maxRecDepth 20000 in
theorem ggX5_tight_X5_isRow : GoodIn wsX5_tight wsX5_isRow := goodIn_r _ [11, 12, 13, 70, 71, 72, 73, 74, 75, 76, 77, 78, 79, 80, 81, 82, 83, 84, 85, 86, 87, 88, 89, 90, 91, 92, 93, 94, 95, 96, 97] rfl (by decide +kernel)
set_option maxRecDepth 20000 in
theorem gX5_tight_X5_isRow : GoodIn wsX5_tight (wsV RX5 137 RX5 yX5_isRow wsX5_isRow) := goodIn_app (goodIn_of _ (by decide +kernel)) ggX5_tight_X5_isRow
set_option maxRecDepth 20000 in
theorem ggX5_tight_X5_know : GoodIn wsX5_tight wsX5_know := goodIn_r _ [17, 18, 19, 1, 20, 21, 22, 23, 10, 24, 12, 13, 25, 26, 27, 28, 29, 2, 30, 31, 32, 33, 34, 35, 36, 37, 3, 5, 38, 39, 40, 41, 42, 43, 44, 45, 46, 47, 48, 49, 6, 4, 50, 51, 52, 53, 54, 55, 56, 57, 58, 59, 60, 61, 62, 63, 64, 65, 66, 67, 68, 69, 70, 71, 72, 73, 74, 75, 76, 77, 78, 79, 80, 81, 82, 83, 84, 85, 86, 87, 88, 89, 90, 91, 92, 93, 94, 95, 96, 97] rfl (by decide +kernel)
set_option maxRecDepth 20000 in
theorem gX5_tight_X5_know : GoodIn wsX5_tight (wsV RX5 143 RX5 yX5_know wsX5_know) := goodIn_app (goodIn_of _ (by decide +kernel)) ggX5_tight_X5_know
theorem dX5_tight_0 : decode cX5_tight 0 = .ok (.aload_n 0, 1) := by decide +kernel
theorem dX5_tight_1 : decode cX5_tight 1 = .ok (.iload_n 1, 1) := by decide +kernel
theorem dX5_tight_2 : decode cX5_tight 2 = .ok (.invokevirtual 137, 3) := by decide +kernel
theorem dX5_tight_5 : decode cX5_tight 5 = .ok (.ifCond .ne 5, 3) := by decide +kernel
theorem dX5_tight_8 : decode cX5_tight 8 = .ok (.iconst (-1), 1) := by decide +kernel
theorem dX5_tight_9 : decode cX5_tight 9 = .ok (.ireturn, 1) := by decide +kernel
theorem dX5_tight_10 : decode cX5_tight 10 = .ok (.aload_n 0, 1) := by decide +kernel
theorem dX5_tight_11 : decode cX5_tight 11 = .ok (.invokevirtual 143, 3) := by decide +kernel
theorem dX5_tight_14 : decode cX5_tight 14 = .ok (.aload_n 0, 1) := by decide +kernel
theorem dX5_tight_15 : decode cX5_tight 15 = .ok (.getfield 128, 3) := by decide +kernel
theorem dX5_tight_18 : decode cX5_tight 18 = .ok (.ifCond .ne 6, 3) := by decide +kernel
theorem dX5_tight_21 : decode cX5_tight 21 = .ok (.bipush (-3), 2) := by decide +kernel
theorem dX5_tight_23 : decode cX5_tight 23 = .ok (.ireturn, 1) := by decide +kernel
theorem dX5_tight_24 : decode cX5_tight 24 = .ok (.aload_n 0, 1) := by decide +kernel
theorem dX5_tight_25 : decode cX5_tight 25 = .ok (.getfield 66, 3) := by decide +kernel
theorem dX5_tight_28 : decode cX5_tight 28 = .ok (.ifCond .ne 14, 3) := by decide +kernel
theorem dX5_tight_31 : decode cX5_tight 31 = .ok (.aload_n 0, 1) := by decide +kernel
theorem dX5_tight_32 : decode cX5_tight 32 = .ok (.getfield 22, 3) := by decide +kernel
theorem dX5_tight_35 : decode cX5_tight 35 = .ok (.iload_n 1, 1) := by decide +kernel
theorem dX5_tight_36 : decode cX5_tight 36 = .ok (.iaload, 1) := by decide +kernel
theorem dX5_tight_37 : decode cX5_tight 37 = .ok (.ineg, 1) := by decide +kernel
theorem dX5_tight_38 : decode cX5_tight 38 = .ok (.i2l, 1) := by decide +kernel
theorem dX5_tight_39 : decode cX5_tight 39 = .ok (.goto 16, 3) := by decide +kernel
theorem dX5_tight_42 : decode cX5_tight 42 = .ok (.aload_n 0, 1) := by decide +kernel
theorem dX5_tight_43 : decode cX5_tight 43 = .ok (.getfield 22, 3) := by decide +kernel
theorem dX5_tight_46 : decode cX5_tight 46 = .ok (.iload_n 1, 1) := by decide +kernel
theorem dX5_tight_47 : decode cX5_tight 47 = .ok (.iaload, 1) := by decide +kernel
theorem dX5_tight_48 : decode cX5_tight 48 = .ok (.ineg, 1) := by decide +kernel
theorem dX5_tight_49 : decode cX5_tight 49 = .ok (.i2l, 1) := by decide +kernel
theorem dX5_tight_50 : decode cX5_tight 50 = .ok (.aload_n 0, 1) := by decide +kernel
theorem dX5_tight_51 : decode cX5_tight 51 = .ok (.getfield 114, 3) := by decide +kernel
theorem dX5_tight_54 : decode cX5_tight 54 = .ok (.lmul, 1) := by decide +kernel
theorem dX5_tight_55 : decode cX5_tight 55 = .ok (.lstore_n 2, 1) := by decide +kernel
theorem dX5_tight_56 : decode cX5_tight 56 = .ok (.iconst 0, 1) := by decide +kernel
theorem dX5_tight_57 : decode cX5_tight 57 = .ok (.istore 4, 2) := by decide +kernel
theorem dX5_tight_59 : decode cX5_tight 59 = .ok (.iload 4, 2) := by decide +kernel
theorem dX5_tight_61 : decode cX5_tight 61 = .ok (.aload_n 0, 1) := by decide +kernel
theorem dX5_tight_62 : decode cX5_tight 62 = .ok (.getfield 66, 3) := by decide +kernel
theorem dX5_tight_65 : decode cX5_tight 65 = .ok (.if_icmp .ge 32, 3) := by decide +kernel
theorem dX5_tight_68 : decode cX5_tight 68 = .ok (.lload_n 2, 1) := by decide +kernel
theorem dX5_tight_69 : decode cX5_tight 69 = .ok (.aload_n 0, 1) := by decide +kernel
theorem dX5_tight_70 : decode cX5_tight 70 = .ok (.getfield 25, 3) := by decide +kernel
theorem dX5_tight_73 : decode cX5_tight 73 = .ok (.iconst 5, 1) := by decide +kernel
theorem dX5_tight_74 : decode cX5_tight 74 = .ok (.iload_n 1, 1) := by decide +kernel
theorem dX5_tight_75 : decode cX5_tight 75 = .ok (.imul, 1) := by decide +kernel
theorem dX5_tight_76 : decode cX5_tight 76 = .ok (.iload 4, 2) := by decide +kernel
theorem dX5_tight_78 : decode cX5_tight 78 = .ok (.iadd, 1) := by decide +kernel
theorem dX5_tight_79 : decode cX5_tight 79 = .ok (.iaload, 1) := by decide +kernel
theorem dX5_tight_80 : decode cX5_tight 80 = .ok (.i2l, 1) := by decide +kernel
theorem dX5_tight_81 : decode cX5_tight 81 = .ok (.aload_n 0, 1) := by decide +kernel
theorem dX5_tight_82 : decode cX5_tight 82 = .ok (.getfield 32, 3) := by decide +kernel
theorem dX5_tight_85 : decode cX5_tight 85 = .ok (.iload 4, 2) := by decide +kernel
theorem dX5_tight_87 : decode cX5_tight 87 = .ok (.laload, 1) := by decide +kernel
theorem dX5_tight_88 : decode cX5_tight 88 = .ok (.lmul, 1) := by decide +kernel
theorem dX5_tight_89 : decode cX5_tight 89 = .ok (.ladd, 1) := by decide +kernel
theorem dX5_tight_90 : decode cX5_tight 90 = .ok (.lstore_n 2, 1) := by decide +kernel
theorem dX5_tight_91 : decode cX5_tight 91 = .ok (.iinc 4 1, 3) := by decide +kernel
theorem dX5_tight_94 : decode cX5_tight 94 = .ok (.goto (-35), 3) := by decide +kernel
theorem dX5_tight_97 : decode cX5_tight 97 = .ok (.lload_n 2, 1) := by decide +kernel
theorem dX5_tight_98 : decode cX5_tight 98 = .ok (.lconst 0, 1) := by decide +kernel
theorem dX5_tight_99 : decode cX5_tight 99 = .ok (.lcmp, 1) := by decide +kernel
theorem dX5_tight_100 : decode cX5_tight 100 = .ok (.ifCond .ne 7, 3) := by decide +kernel
theorem dX5_tight_103 : decode cX5_tight 103 = .ok (.iconst 1, 1) := by decide +kernel
theorem dX5_tight_104 : decode cX5_tight 104 = .ok (.goto 4, 3) := by decide +kernel
theorem dX5_tight_107 : decode cX5_tight 107 = .ok (.iconst 0, 1) := by decide +kernel
theorem dX5_tight_108 : decode cX5_tight 108 = .ok (.ireturn, 1) := by decide +kernel
set_option maxRecDepth 20000 in
theorem ggX5_reach_X5_isName : GoodIn wsX5_reach wsX5_isName := goodIn_r _ [11, 12, 79, 80, 81, 82, 83, 84, 85, 86, 87, 88, 89, 90, 91, 92, 93, 94, 95, 96, 97, 98, 99, 100, 101, 102, 103, 104, 105, 106] rfl (by decide +kernel)
set_option maxRecDepth 20000 in
theorem gX5_reach_X5_isName : GoodIn wsX5_reach (wsV RX5 134 RX5 yX5_isName wsX5_isName) := goodIn_app (goodIn_of _ (by decide +kernel)) ggX5_reach_X5_isName
set_option maxRecDepth 20000 in
theorem ggX5_reach_X5_isPart : GoodIn wsX5_reach wsX5_isPart := goodIn_r _ [15] rfl (by decide +kernel)
set_option maxRecDepth 20000 in
theorem gX5_reach_X5_isPart : GoodIn wsX5_reach (va_wsS RX5 146 yX5_isPart wsX5_isPart) := goodIn_app (goodIn_of _ (by decide +kernel)) ggX5_reach_X5_isPart
set_option maxRecDepth 20000 in
theorem ggX5_reach_X5_know : GoodIn wsX5_reach wsX5_know := goodIn_r _ [19, 20, 21, 3, 22, 23, 24, 25, 10, 26, 27, 28, 29, 30, 31, 32, 33, 12, 34, 35, 36, 37, 38, 39, 40, 41, 42, 43, 44, 45, 46, 47, 48, 49, 50, 51, 52, 53, 4, 5, 54, 55, 56, 57, 58, 59, 60, 61, 62, 63, 64, 65, 66, 67, 68, 69, 70, 71, 72, 73, 74, 75, 79, 80, 81, 82, 83, 84, 85, 86, 87, 88, 89, 90, 91, 92, 93, 94, 95, 96, 97, 98, 99, 100, 101, 102, 103, 104, 105, 106] rfl (by decide +kernel)
set_option maxRecDepth 20000 in
theorem gX5_reach_X5_know : GoodIn wsX5_reach (wsV RX5 143 RX5 yX5_know wsX5_know) := goodIn_app (goodIn_of _ (by decide +kernel)) ggX5_reach_X5_know
set_option maxRecDepth 20000 in
theorem ggX5_reach_X5_lowest : GoodIn wsX5_reach wsX5_lowest := goodIn_r _ [78] rfl (by decide +kernel)
set_option maxRecDepth 20000 in
theorem gX5_reach_X5_lowest : GoodIn wsX5_reach (va_wsS RX5 151 yX5_lowest wsX5_lowest) := goodIn_app (goodIn_of _ (by decide +kernel)) ggX5_reach_X5_lowest
theorem dX5_reach_0 : decode cX5_reach 0 = .ok (.aload_n 0, 1) := by decide +kernel
theorem dX5_reach_1 : decode cX5_reach 1 = .ok (.iload_n 1, 1) := by decide +kernel
theorem dX5_reach_2 : decode cX5_reach 2 = .ok (.invokevirtual 134, 3) := by decide +kernel
theorem dX5_reach_5 : decode cX5_reach 5 = .ok (.ifCond .ne 7, 3) := by decide +kernel
theorem dX5_reach_8 : decode cX5_reach 8 = .ok (.ldc2_w 157, 3) := by decide +kernel
theorem dX5_reach_11 : decode cX5_reach 11 = .ok (.lreturn, 1) := by decide +kernel
theorem dX5_reach_12 : decode cX5_reach 12 = .ok (.iload_n 2, 1) := by decide +kernel
theorem dX5_reach_13 : decode cX5_reach 13 = .ok (.invokestatic 146, 3) := by decide +kernel
theorem dX5_reach_16 : decode cX5_reach 16 = .ok (.ifCond .eq 10, 3) := by decide +kernel
theorem dX5_reach_19 : decode cX5_reach 19 = .ok (.iload_n 3, 1) := by decide +kernel
theorem dX5_reach_20 : decode cX5_reach 20 = .ok (.invokestatic 146, 3) := by decide +kernel
theorem dX5_reach_23 : decode cX5_reach 23 = .ok (.ifCond .ne 7, 3) := by decide +kernel
theorem dX5_reach_26 : decode cX5_reach 26 = .ok (.ldc2_w 149, 3) := by decide +kernel
theorem dX5_reach_29 : decode cX5_reach 29 = .ok (.lreturn, 1) := by decide +kernel
theorem dX5_reach_30 : decode cX5_reach 30 = .ok (.aload_n 0, 1) := by decide +kernel
theorem dX5_reach_31 : decode cX5_reach 31 = .ok (.invokevirtual 143, 3) := by decide +kernel
theorem dX5_reach_34 : decode cX5_reach 34 = .ok (.aload_n 0, 1) := by decide +kernel
theorem dX5_reach_35 : decode cX5_reach 35 = .ok (.getfield 128, 3) := by decide +kernel
theorem dX5_reach_38 : decode cX5_reach 38 = .ok (.ifCond .eq 30, 3) := by decide +kernel
theorem dX5_reach_41 : decode cX5_reach 41 = .ok (.aload_n 0, 1) := by decide +kernel
theorem dX5_reach_42 : decode cX5_reach 42 = .ok (.getfield 36, 3) := by decide +kernel
theorem dX5_reach_45 : decode cX5_reach 45 = .ok (.iconst 2, 1) := by decide +kernel
theorem dX5_reach_46 : decode cX5_reach 46 = .ok (.iload_n 1, 1) := by decide +kernel
theorem dX5_reach_47 : decode cX5_reach 47 = .ok (.imul, 1) := by decide +kernel
theorem dX5_reach_48 : decode cX5_reach 48 = .ok (.iload_n 2, 1) := by decide +kernel
theorem dX5_reach_49 : decode cX5_reach 49 = .ok (.iadd, 1) := by decide +kernel
theorem dX5_reach_50 : decode cX5_reach 50 = .ok (.laload, 1) := by decide +kernel
theorem dX5_reach_51 : decode cX5_reach 51 = .ok (.aload_n 0, 1) := by decide +kernel
theorem dX5_reach_52 : decode cX5_reach 52 = .ok (.getfield 39, 3) := by decide +kernel
theorem dX5_reach_55 : decode cX5_reach 55 = .ok (.iconst 2, 1) := by decide +kernel
theorem dX5_reach_56 : decode cX5_reach 56 = .ok (.iload_n 1, 1) := by decide +kernel
theorem dX5_reach_57 : decode cX5_reach 57 = .ok (.imul, 1) := by decide +kernel
theorem dX5_reach_58 : decode cX5_reach 58 = .ok (.iload_n 2, 1) := by decide +kernel
theorem dX5_reach_59 : decode cX5_reach 59 = .ok (.iadd, 1) := by decide +kernel
theorem dX5_reach_60 : decode cX5_reach 60 = .ok (.laload, 1) := by decide +kernel
theorem dX5_reach_61 : decode cX5_reach 61 = .ok (.iload_n 3, 1) := by decide +kernel
theorem dX5_reach_62 : decode cX5_reach 62 = .ok (.invokestatic 151, 3) := by decide +kernel
theorem dX5_reach_65 : decode cX5_reach 65 = .ok (.goto 6, 3) := by decide +kernel
theorem dX5_reach_68 : decode cX5_reach 68 = .ok (.ldc2_w 155, 3) := by decide +kernel
theorem dX5_reach_71 : decode cX5_reach 71 = .ok (.lreturn, 1) := by decide +kernel
set_option maxRecDepth 20000 in
theorem ggX5_far_X5_isName : GoodIn wsX5_far wsX5_isName := goodIn_r _ [11, 12, 79, 80, 81, 82, 83, 84, 85, 86, 87, 88, 89, 90, 91, 92, 93, 94, 95, 96, 97, 98, 99, 100, 101, 102, 103, 104, 105, 106] rfl (by decide +kernel)
set_option maxRecDepth 20000 in
theorem gX5_far_X5_isName : GoodIn wsX5_far (wsV RX5 134 RX5 yX5_isName wsX5_isName) := goodIn_app (goodIn_of _ (by decide +kernel)) ggX5_far_X5_isName
set_option maxRecDepth 20000 in
theorem ggX5_far_X5_isPart : GoodIn wsX5_far wsX5_isPart := goodIn_r _ [15] rfl (by decide +kernel)
set_option maxRecDepth 20000 in
theorem gX5_far_X5_isPart : GoodIn wsX5_far (va_wsS RX5 146 yX5_isPart wsX5_isPart) := goodIn_app (goodIn_of _ (by decide +kernel)) ggX5_far_X5_isPart
set_option maxRecDepth 20000 in
theorem ggX5_far_X5_know : GoodIn wsX5_far wsX5_know := goodIn_r _ [19, 20, 21, 3, 22, 23, 24, 25, 10, 26, 27, 28, 29, 30, 31, 32, 33, 12, 34, 35, 36, 37, 38, 39, 40, 41, 42, 43, 44, 45, 46, 47, 48, 49, 4, 5, 50, 51, 52, 53, 54, 55, 56, 57, 58, 59, 60, 61, 62, 63, 64, 65, 66, 67, 68, 69, 70, 71, 72, 73, 74, 75, 79, 80, 81, 82, 83, 84, 85, 86, 87, 88, 89, 90, 91, 92, 93, 94, 95, 96, 97, 98, 99, 100, 101, 102, 103, 104, 105, 106] rfl (by decide +kernel)
set_option maxRecDepth 20000 in
theorem gX5_far_X5_know : GoodIn wsX5_far (wsV RX5 143 RX5 yX5_know wsX5_know) := goodIn_app (goodIn_of _ (by decide +kernel)) ggX5_far_X5_know
set_option maxRecDepth 20000 in
theorem ggX5_far_X5_lowest : GoodIn wsX5_far wsX5_lowest := goodIn_r _ [78] rfl (by decide +kernel)
set_option maxRecDepth 20000 in
theorem gX5_far_X5_lowest : GoodIn wsX5_far (va_wsS RX5 151 yX5_lowest wsX5_lowest) := goodIn_app (goodIn_of _ (by decide +kernel)) ggX5_far_X5_lowest
theorem dX5_far_0 : decode cX5_far 0 = .ok (.aload_n 0, 1) := by decide +kernel
theorem dX5_far_1 : decode cX5_far 1 = .ok (.iload_n 1, 1) := by decide +kernel
theorem dX5_far_2 : decode cX5_far 2 = .ok (.invokevirtual 134, 3) := by decide +kernel
theorem dX5_far_5 : decode cX5_far 5 = .ok (.ifCond .ne 7, 3) := by decide +kernel
theorem dX5_far_8 : decode cX5_far 8 = .ok (.ldc2_w 157, 3) := by decide +kernel
theorem dX5_far_11 : decode cX5_far 11 = .ok (.lreturn, 1) := by decide +kernel
theorem dX5_far_12 : decode cX5_far 12 = .ok (.iload_n 2, 1) := by decide +kernel
