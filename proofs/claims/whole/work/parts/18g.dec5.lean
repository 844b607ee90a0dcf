theorem dX5_wholeValue_19 : decode cX5_wholeValue 19 = .ok (.ireturn, 1) := by decide +kernel
theorem dX5_wholeValue_20 : decode cX5_wholeValue 20 = .ok (.aload_n 0, 1) := by decide +kernel
theorem dX5_wholeValue_21 : decode cX5_wholeValue 21 = .ok (.invokevirtual 170, 3) := by decide +kernel
theorem dX5_wholeValue_24 : decode cX5_wholeValue 24 = .ok (.ifCond .eq 12, 3) := by decide +kernel
theorem dX5_wholeValue_27 : decode cX5_wholeValue 27 = .ok (.aload_n 0, 1) := by decide +kernel
theorem dX5_wholeValue_28 : decode cX5_wholeValue 28 = .ok (.getfield 63, 3) := by decide +kernel
theorem dX5_wholeValue_31 : decode cX5_wholeValue 31 = .ok (.iload_n 1, 1) := by decide +kernel
theorem dX5_wholeValue_32 : decode cX5_wholeValue 32 = .ok (.iaload, 1) := by decide +kernel
theorem dX5_wholeValue_33 : decode cX5_wholeValue 33 = .ok (.goto 5, 3) := by decide +kernel
theorem dX5_wholeValue_36 : decode cX5_wholeValue 36 = .ok (.bipush (-3), 2) := by decide +kernel
theorem dX5_wholeValue_38 : decode cX5_wholeValue 38 = .ok (.ireturn, 1) := by decide +kernel
set_option maxRecDepth 20000 in
theorem ggX5_isWhole_X5_isLarge : GoodIn wsX5_isWhole wsX5_isLarge := goodIn_r _ [5, 6, 7, 8, 9, 27, 28, 29, 30, 31, 32, 33, 34, 35, 36, 37, 38, 39, 40, 41, 42, 43, 44, 45, 46, 47, 48, 49, 50, 51, 52, 53, 54] rfl (by decide +kernel)
set_option maxRecDepth 20000 in
theorem gX5_isWhole_X5_isLarge : GoodIn wsX5_isWhole (wsV RX5 167 RX5 yX5_isLarge wsX5_isLarge) := goodIn_app (goodIn_of _ (by decide +kernel)) ggX5_isWhole_X5_isLarge
set_option maxRecDepth 20000 in
theorem ggX5_isWhole_X5_findWhole : GoodIn wsX5_isWhole wsX5_findWhole := goodIn_r _ [13, 6, 14, 8, 15, 16, 17, 7, 18, 19, 20, 4, 21, 22, 23, 24, 25, 26, 27, 28, 29, 30, 31, 32, 33, 34, 35, 36, 37, 38, 39, 40, 41, 42, 43, 44, 45, 46, 47, 48, 49, 50, 51, 52, 53, 54] rfl (by decide +kernel)
set_option maxRecDepth 20000 in
theorem gX5_isWhole_X5_findWhole : GoodIn wsX5_isWhole (wsV RX5 170 RX5 yX5_findWhole wsX5_findWhole) := goodIn_app (goodIn_of _ (by decide +kernel)) ggX5_isWhole_X5_findWhole
theorem dX5_isWhole_0 : decode cX5_isWhole 0 = .ok (.aload_n 0, 1) := by decide +kernel
theorem dX5_isWhole_1 : decode cX5_isWhole 1 = .ok (.invokevirtual 167, 3) := by decide +kernel
theorem dX5_isWhole_4 : decode cX5_isWhole 4 = .ok (.ifCond .eq 6, 3) := by decide +kernel
theorem dX5_isWhole_7 : decode cX5_isWhole 7 = .ok (.bipush (-4), 2) := by decide +kernel
theorem dX5_isWhole_9 : decode cX5_isWhole 9 = .ok (.ireturn, 1) := by decide +kernel
theorem dX5_isWhole_10 : decode cX5_isWhole 10 = .ok (.aload_n 0, 1) := by decide +kernel
theorem dX5_isWhole_11 : decode cX5_isWhole 11 = .ok (.invokevirtual 170, 3) := by decide +kernel
theorem dX5_isWhole_14 : decode cX5_isWhole 14 = .ok (.ifCond .eq 7, 3) := by decide +kernel
theorem dX5_isWhole_17 : decode cX5_isWhole 17 = .ok (.iconst 1, 1) := by decide +kernel
theorem dX5_isWhole_18 : decode cX5_isWhole 18 = .ok (.goto 4, 3) := by decide +kernel
theorem dX5_isWhole_21 : decode cX5_isWhole 21 = .ok (.iconst 0, 1) := by decide +kernel
theorem dX5_isWhole_22 : decode cX5_isWhole 22 = .ok (.ireturn, 1) := by decide +kernel
set_option maxRecDepth 20000 in
theorem ggX5_told_X5_rowCount : GoodIn wsX5_told wsX5_rowCount := goodIn_r _ [7, 2, 8, 9, 10, 11, 12, 13, 14, 15, 16, 17, 18, 19, 20, 21, 22, 23, 24, 25, 26, 27, 28, 29, 30, 31, 32, 33, 34, 35, 36] rfl (by decide +kernel)
set_option maxRecDepth 20000 in
theorem gX5_told_X5_rowCount : GoodIn wsX5_told (wsV RX5 140 RX5 yX5_rowCount wsX5_rowCount) := goodIn_app (goodIn_of _ (by decide +kernel)) ggX5_told_X5_rowCount
theorem dX5_told_0 : decode cX5_told 0 = .ok (.iload_n 1, 1) := by decide +kernel
theorem dX5_told_1 : decode cX5_told 1 = .ok (.ifCond .ne 10, 3) := by decide +kernel
theorem dX5_told_4 : decode cX5_told 4 = .ok (.aload_n 0, 1) := by decide +kernel
theorem dX5_told_5 : decode cX5_told 5 = .ok (.getfield 66, 3) := by decide +kernel
theorem dX5_told_8 : decode cX5_told 8 = .ok (.goto 29, 3) := by decide +kernel
theorem dX5_told_11 : decode cX5_told 11 = .ok (.iload_n 1, 1) := by decide +kernel
theorem dX5_told_12 : decode cX5_told 12 = .ok (.iconst 1, 1) := by decide +kernel
theorem dX5_told_13 : decode cX5_told 13 = .ok (.if_icmp .ne 10, 3) := by decide +kernel
theorem dX5_told_16 : decode cX5_told 16 = .ok (.aload_n 0, 1) := by decide +kernel
theorem dX5_told_17 : decode cX5_told 17 = .ok (.invokevirtual 140, 3) := by decide +kernel
theorem dX5_told_20 : decode cX5_told 20 = .ok (.goto 17, 3) := by decide +kernel
theorem dX5_told_23 : decode cX5_told 23 = .ok (.iload_n 1, 1) := by decide +kernel
theorem dX5_told_24 : decode cX5_told 24 = .ok (.iconst 2, 1) := by decide +kernel
theorem dX5_told_25 : decode cX5_told 25 = .ok (.if_icmp .ne 10, 3) := by decide +kernel
theorem dX5_told_28 : decode cX5_told 28 = .ok (.aload_n 0, 1) := by decide +kernel
theorem dX5_told_29 : decode cX5_told 29 = .ok (.getfield 78, 3) := by decide +kernel
theorem dX5_told_32 : decode cX5_told 32 = .ok (.goto 5, 3) := by decide +kernel
theorem dX5_told_35 : decode cX5_told 35 = .ok (.bipush (-2), 2) := by decide +kernel
theorem dX5_told_37 : decode cX5_told 37 = .ok (.ireturn, 1) := by decide +kernel
