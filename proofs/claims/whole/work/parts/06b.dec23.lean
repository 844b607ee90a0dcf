theorem dX2_init_0 : decode cX2_init 0 = .ok (.aload_n 0, 1) := by decide +kernel
theorem dX2_init_1 : decode cX2_init 1 = .ok (.invokespecial 3, 3) := by decide +kernel
theorem dX2_init_4 : decode cX2_init 4 = .ok (.aload_n 0, 1) := by decide +kernel
theorem dX2_init_5 : decode cX2_init 5 = .ok (.new 9, 3) := by decide +kernel
theorem dX2_init_8 : decode cX2_init 8 = .ok (.dup, 1) := by decide +kernel
theorem dX2_init_9 : decode cX2_init 9 = .ok (.invokespecial 11, 3) := by decide +kernel
theorem dX2_init_12 : decode cX2_init 12 = .ok (.putfield 12, 3) := by decide +kernel
theorem dX2_init_15 : decode cX2_init 15 = .ok (.aload_n 0, 1) := by decide +kernel
theorem dX2_init_16 : decode cX2_init 16 = .ok (.iconst 5, 1) := by decide +kernel
theorem dX2_init_17 : decode cX2_init 17 = .ok (.newarray .int, 2) := by decide +kernel
theorem dX2_init_19 : decode cX2_init 19 = .ok (.putfield 18, 3) := by decide +kernel
theorem dX2_init_22 : decode cX2_init 22 = .ok (.aload_n 0, 1) := by decide +kernel
theorem dX2_init_23 : decode cX2_init 23 = .ok (.iconst 5, 1) := by decide +kernel
theorem dX2_init_24 : decode cX2_init 24 = .ok (.newarray .long, 2) := by decide +kernel
theorem dX2_init_26 : decode cX2_init 26 = .ok (.putfield 22, 3) := by decide +kernel
theorem dX2_init_29 : decode cX2_init 29 = .ok (.aload_n 0, 1) := by decide +kernel
theorem dX2_init_30 : decode cX2_init 30 = .ok (.lconst 1, 1) := by decide +kernel
theorem dX2_init_31 : decode cX2_init 31 = .ok (.putfield 26, 3) := by decide +kernel
theorem dX2_init_34 : decode cX2_init 34 = .ok (.aload_n 0, 1) := by decide +kernel
theorem dX2_init_35 : decode cX2_init 35 = .ok (.aload_n 1, 1) := by decide +kernel
theorem dX2_init_36 : decode cX2_init 36 = .ok (.putfield 30, 3) := by decide +kernel
theorem dX2_init_39 : decode cX2_init 39 = .ok (.return_, 1) := by decide +kernel
theorem dX2_forget_0 : decode cX2_forget 0 = .ok (.aload_n 0, 1) := by decide +kernel
theorem dX2_forget_1 : decode cX2_forget 1 = .ok (.iconst 0, 1) := by decide +kernel
theorem dX2_forget_2 : decode cX2_forget 2 = .ok (.putfield 34, 3) := by decide +kernel
theorem dX2_forget_5 : decode cX2_forget 5 = .ok (.aload_n 0, 1) := by decide +kernel
theorem dX2_forget_6 : decode cX2_forget 6 = .ok (.iconst 0, 1) := by decide +kernel
theorem dX2_forget_7 : decode cX2_forget 7 = .ok (.putfield 38, 3) := by decide +kernel
theorem dX2_forget_10 : decode cX2_forget 10 = .ok (.aload_n 0, 1) := by decide +kernel
theorem dX2_forget_11 : decode cX2_forget 11 = .ok (.iconst 0, 1) := by decide +kernel
theorem dX2_forget_12 : decode cX2_forget 12 = .ok (.putfield 41, 3) := by decide +kernel
theorem dX2_forget_15 : decode cX2_forget 15 = .ok (.return_, 1) := by decide +kernel
set_option maxRecDepth 20000 in
theorem ggX2_hasPoint_X2_allRows : GoodIn wsX2_hasPoint wsX2_allRows := goodIn_r _ [7, 8, 9, 10, 93, 94, 95, 96, 97, 98, 99, 100, 101, 102, 103, 104, 105, 106, 107, 108, 109, 110, 111] rfl (by decide +kernel)
set_option maxRecDepth 20000 in
theorem gX2_hasPoint_X2_allRows : GoodIn wsX2_hasPoint (wsV RX2 44 RX2 yX2_allRows wsX2_allRows) := goodIn_app (goodIn_of _ (by decide +kernel)) ggX2_hasPoint_X2_allRows
set_option maxRecDepth 20000 in
theorem ggX2_hasPoint_X2_canKeep : GoodIn wsX2_hasPoint wsX2_canKeep := goodIn_r _ [14, 15, 8, 16, 17, 18, 19, 9, 20, 21, 22, 23, 24, 25, 26, 27, 28, 29, 30, 31, 32, 33, 34, 35, 36, 37, 38, 39, 40, 6, 41, 42, 43, 44, 45, 46, 47, 48, 49, 50, 51, 52, 53, 54, 55, 56, 57, 58, 59, 60, 61, 62, 63, 64, 65, 66, 67, 68, 69, 70, 71, 72, 73, 74, 75, 76, 77, 78, 79, 80, 81, 82, 83, 84, 85, 86, 87, 88, 89, 90, 91, 92, 93, 94, 95, 96, 97, 98, 99, 100, 101, 102, 103, 104, 105, 106, 107, 108, 109, 110, 111, 112, 113, 114, 115, 116, 117, 118, 119, 120] rfl (by decide +kernel)
set_option maxRecDepth 20000 in
theorem gX2_hasPoint_X2_canKeep : GoodIn wsX2_hasPoint (wsV RX2 48 RX2 yX2_canKeep wsX2_canKeep) := goodIn_app (goodIn_of _ (by decide +kernel)) ggX2_hasPoint_X2_canKeep
theorem dX2_hasPoint_0 : decode cX2_hasPoint 0 = .ok (.aload_n 0, 1) := by decide +kernel
theorem dX2_hasPoint_1 : decode cX2_hasPoint 1 = .ok (.getfield 34, 3) := by decide +kernel
theorem dX2_hasPoint_4 : decode cX2_hasPoint 4 = .ok (.ifCond .ne 20, 3) := by decide +kernel
theorem dX2_hasPoint_7 : decode cX2_hasPoint 7 = .ok (.aload_n 0, 1) := by decide +kernel
theorem dX2_hasPoint_8 : decode cX2_hasPoint 8 = .ok (.aload_n 0, 1) := by decide +kernel
theorem dX2_hasPoint_9 : decode cX2_hasPoint 9 = .ok (.aload_n 0, 1) := by decide +kernel
theorem dX2_hasPoint_10 : decode cX2_hasPoint 10 = .ok (.invokevirtual 44, 3) := by decide +kernel
theorem dX2_hasPoint_13 : decode cX2_hasPoint 13 = .ok (.invokevirtual 48, 3) := by decide +kernel
theorem dX2_hasPoint_16 : decode cX2_hasPoint 16 = .ok (.putfield 52, 3) := by decide +kernel
theorem dX2_hasPoint_19 : decode cX2_hasPoint 19 = .ok (.aload_n 0, 1) := by decide +kernel
theorem dX2_hasPoint_20 : decode cX2_hasPoint 20 = .ok (.iconst 1, 1) := by decide +kernel
theorem dX2_hasPoint_21 : decode cX2_hasPoint 21 = .ok (.putfield 34, 3) := by decide +kernel
theorem dX2_hasPoint_24 : decode cX2_hasPoint 24 = .ok (.aload_n 0, 1) := by decide +kernel
theorem dX2_hasPoint_25 : decode cX2_hasPoint 25 = .ok (.getfield 52, 3) := by decide +kernel
theorem dX2_hasPoint_28 : decode cX2_hasPoint 28 = .ok (.ireturn, 1) := by decide +kernel
set_option maxRecDepth 20000 in
theorem ggX2_leastCost_X2_findFirstBest : GoodIn wsX2_leastCost wsX2_findFirstBest := goodIn_r _ [10, 11, 12, 1, 2, 13, 4, 5, 14, 15, 16, 17, 18, 19, 20, 21, 22, 23, 9, 24, 3, 25, 26, 27, 28, 29, 30, 31, 32, 33, 34, 35, 36, 37, 38, 39, 40, 41, 42, 43, 44, 45, 46, 47, 48, 49, 50, 51, 52, 53, 54, 55, 56, 57, 58, 59, 60, 61, 62, 63, 64, 65, 66, 67, 68, 69, 70, 71, 72, 73, 74, 75, 76, 77, 78, 79, 80, 81, 82, 83, 84, 85, 86, 87, 88, 89, 97, 98, 99, 100, 101, 102, 103, 104, 105, 106, 107, 108, 109, 110, 111, 112, 113, 114, 115, 116, 117, 118, 119, 120, 121, 122, 123, 124] rfl (by decide +kernel)
set_option maxRecDepth 20000 in
theorem gX2_leastCost_X2_findFirstBest : GoodIn wsX2_leastCost (wsV RX2 55 RX2 yX2_findFirstBest wsX2_findFirstBest) := goodIn_app (goodIn_of _ (by decide +kernel)) ggX2_leastCost_X2_findFirstBest
set_option maxRecDepth 20000 in
theorem ggX2_leastCost_X2_partOf : GoodIn wsX2_leastCost wsX2_partOf := goodIn_r _ [92, 93, 94, 9, 95, 96, 58, 59, 60] rfl (by decide +kernel)
set_option maxRecDepth 20000 in
theorem gX2_leastCost_X2_partOf : GoodIn wsX2_leastCost (va_wsS RX2 67 yX2_partOf wsX2_partOf) := goodIn_app (goodIn_of _ (by decide +kernel)) ggX2_leastCost_X2_partOf
theorem dX2_leastCost_0 : decode cX2_leastCost 0 = .ok (.aload_n 0, 1) := by decide +kernel
theorem dX2_leastCost_1 : decode cX2_leastCost 1 = .ok (.invokevirtual 55, 3) := by decide +kernel
theorem dX2_leastCost_4 : decode cX2_leastCost 4 = .ok (.lconst 0, 1) := by decide +kernel
theorem dX2_leastCost_5 : decode cX2_leastCost 5 = .ok (.lstore_n 2, 1) := by decide +kernel
theorem dX2_leastCost_6 : decode cX2_leastCost 6 = .ok (.iconst 0, 1) := by decide +kernel
theorem dX2_leastCost_7 : decode cX2_leastCost 7 = .ok (.istore 4, 2) := by decide +kernel
theorem dX2_leastCost_9 : decode cX2_leastCost 9 = .ok (.iload 4, 2) := by decide +kernel
theorem dX2_leastCost_11 : decode cX2_leastCost 11 = .ok (.aload_n 0, 1) := by decide +kernel
theorem dX2_leastCost_12 : decode cX2_leastCost 12 = .ok (.getfield 30, 3) := by decide +kernel
theorem dX2_leastCost_15 : decode cX2_leastCost 15 = .ok (.getfield 58, 3) := by decide +kernel
theorem dX2_leastCost_18 : decode cX2_leastCost 18 = .ok (.if_icmp .ge 31, 3) := by decide +kernel
theorem dX2_leastCost_21 : decode cX2_leastCost 21 = .ok (.lload_n 2, 1) := by decide +kernel
theorem dX2_leastCost_22 : decode cX2_leastCost 22 = .ok (.aload_n 0, 1) := by decide +kernel
theorem dX2_leastCost_23 : decode cX2_leastCost 23 = .ok (.getfield 30, 3) := by decide +kernel
theorem dX2_leastCost_26 : decode cX2_leastCost 26 = .ok (.getfield 64, 3) := by decide +kernel
theorem dX2_leastCost_29 : decode cX2_leastCost 29 = .ok (.iload 4, 2) := by decide +kernel
theorem dX2_leastCost_31 : decode cX2_leastCost 31 = .ok (.iaload, 1) := by decide +kernel
theorem dX2_leastCost_32 : decode cX2_leastCost 32 = .ok (.i2l, 1) := by decide +kernel
theorem dX2_leastCost_33 : decode cX2_leastCost 33 = .ok (.aload_n 0, 1) := by decide +kernel
theorem dX2_leastCost_34 : decode cX2_leastCost 34 = .ok (.getfield 22, 3) := by decide +kernel
theorem dX2_leastCost_37 : decode cX2_leastCost 37 = .ok (.iload 4, 2) := by decide +kernel
theorem dX2_leastCost_39 : decode cX2_leastCost 39 = .ok (.laload, 1) := by decide +kernel
theorem dX2_leastCost_40 : decode cX2_leastCost 40 = .ok (.lmul, 1) := by decide +kernel
theorem dX2_leastCost_41 : decode cX2_leastCost 41 = .ok (.ladd, 1) := by decide +kernel
theorem dX2_leastCost_42 : decode cX2_leastCost 42 = .ok (.lstore_n 2, 1) := by decide +kernel
theorem dX2_leastCost_43 : decode cX2_leastCost 43 = .ok (.iinc 4 1, 3) := by decide +kernel
theorem dX2_leastCost_46 : decode cX2_leastCost 46 = .ok (.goto (-37), 3) := by decide +kernel
theorem dX2_leastCost_49 : decode cX2_leastCost 49 = .ok (.lload_n 2, 1) := by decide +kernel
theorem dX2_leastCost_50 : decode cX2_leastCost 50 = .ok (.aload_n 0, 1) := by decide +kernel
theorem dX2_leastCost_51 : decode cX2_leastCost 51 = .ok (.getfield 26, 3) := by decide +kernel
theorem dX2_leastCost_54 : decode cX2_leastCost 54 = .ok (.iload_n 1, 1) := by decide +kernel
theorem dX2_leastCost_55 : decode cX2_leastCost 55 = .ok (.invokestatic 67, 3) := by decide +kernel
theorem dX2_leastCost_58 : decode cX2_leastCost 58 = .ok (.lreturn, 1) := by decide +kernel
set_option maxRecDepth 20000 in
theorem ggX2_firstBestOf_X2_findFirstBest : GoodIn wsX2_firstBestOf wsX2_findFirstBest := goodIn_r _ [7, 8, 9, 10, 11, 12, 1, 2, 13, 14, 15, 16, 17, 18, 19, 20, 21, 22, 6, 23, 24, 25, 26, 27, 28, 29, 30, 31, 32, 33, 34, 35, 36, 37, 38, 39, 40, 41, 42, 43, 44, 45, 46, 47, 48, 49, 50, 51, 52, 53, 54, 55, 56, 57, 58, 59, 60, 61, 62, 63, 64, 65, 66, 67, 68, 69, 70, 71, 72, 73, 74, 75, 76, 77, 78, 79, 80, 81, 82, 83, 84, 85, 86, 87, 88, 89, 97, 98, 99, 100, 101, 102, 103, 104, 105, 106, 107, 108, 109, 110, 111, 112, 113, 114, 115, 116, 117, 118, 119, 120, 121, 122, 123, 124] rfl (by decide +kernel)
set_option maxRecDepth 20000 in
theorem gX2_firstBestOf_X2_findFirstBest : GoodIn wsX2_firstBestOf (wsV RX2 55 RX2 yX2_findFirstBest wsX2_findFirstBest) := goodIn_app (goodIn_of _ (by decide +kernel)) ggX2_firstBestOf_X2_findFirstBest
set_option maxRecDepth 20000 in
theorem ggX2_firstBestOf_X2_partOf : GoodIn wsX2_firstBestOf wsX2_partOf := goodIn_r _ [92, 93, 94, 6, 95, 96, 58, 59, 60] rfl (by decide +kernel)
set_option maxRecDepth 20000 in
theorem gX2_firstBestOf_X2_partOf : GoodIn wsX2_firstBestOf (va_wsS RX2 67 yX2_partOf wsX2_partOf) := goodIn_app (goodIn_of _ (by decide +kernel)) ggX2_firstBestOf_X2_partOf
theorem dX2_firstBestOf_0 : decode cX2_firstBestOf 0 = .ok (.aload_n 0, 1) := by decide +kernel
theorem dX2_firstBestOf_1 : decode cX2_firstBestOf 1 = .ok (.invokevirtual 55, 3) := by decide +kernel
theorem dX2_firstBestOf_4 : decode cX2_firstBestOf 4 = .ok (.aload_n 0, 1) := by decide +kernel
theorem dX2_firstBestOf_5 : decode cX2_firstBestOf 5 = .ok (.getfield 22, 3) := by decide +kernel
theorem dX2_firstBestOf_8 : decode cX2_firstBestOf 8 = .ok (.iload_n 1, 1) := by decide +kernel
theorem dX2_firstBestOf_9 : decode cX2_firstBestOf 9 = .ok (.laload, 1) := by decide +kernel
theorem dX2_firstBestOf_10 : decode cX2_firstBestOf 10 = .ok (.aload_n 0, 1) := by decide +kernel
theorem dX2_firstBestOf_11 : decode cX2_firstBestOf 11 = .ok (.getfield 26, 3) := by decide +kernel
theorem dX2_firstBestOf_14 : decode cX2_firstBestOf 14 = .ok (.iload_n 2, 1) := by decide +kernel
theorem dX2_firstBestOf_15 : decode cX2_firstBestOf 15 = .ok (.invokestatic 67, 3) := by decide +kernel
theorem dX2_firstBestOf_18 : decode cX2_firstBestOf 18 = .ok (.lreturn, 1) := by decide +kernel
set_option maxRecDepth 20000 in
theorem ggX2_isTight_X2_findFirstBest : GoodIn wsX2_isTight wsX2_findFirstBest := goodIn_r _ [11, 12, 13, 1, 2, 14, 4, 6, 15, 16, 17, 18, 19, 20, 21, 22, 23, 24, 10, 25, 26, 27, 28, 29, 30, 31, 32, 33, 34, 35, 36, 37, 38, 39, 40, 41, 42, 43, 44, 45, 46, 47, 48, 49, 50, 51, 52, 53, 54, 55, 56, 57, 58, 59, 60, 61, 62, 63, 64, 65, 66, 67, 68, 69, 70, 71, 72, 73, 74, 75, 76, 77, 78, 79, 80, 81, 82, 83, 84, 85, 86, 87, 88, 89, 90, 91, 92, 93, 94, 95, 96, 97, 98, 99, 100, 101, 102, 103, 104, 105, 106, 107, 108, 109, 110, 111, 112, 113, 114, 115, 116, 117, 118, 119] rfl (by decide +kernel)
set_option maxRecDepth 20000 in
theorem gX2_isTight_X2_findFirstBest : GoodIn wsX2_isTight (wsV RX2 55 RX2 yX2_findFirstBest wsX2_findFirstBest) := goodIn_app (goodIn_of _ (by decide +kernel)) ggX2_isTight_X2_findFirstBest
theorem dX2_isTight_0 : decode cX2_isTight 0 = .ok (.aload_n 0, 1) := by decide +kernel
theorem dX2_isTight_1 : decode cX2_isTight 1 = .ok (.invokevirtual 55, 3) := by decide +kernel
theorem dX2_isTight_4 : decode cX2_isTight 4 = .ok (.lconst 0, 1) := by decide +kernel
theorem dX2_isTight_5 : decode cX2_isTight 5 = .ok (.lstore_n 2, 1) := by decide +kernel
theorem dX2_isTight_6 : decode cX2_isTight 6 = .ok (.iconst 0, 1) := by decide +kernel
theorem dX2_isTight_7 : decode cX2_isTight 7 = .ok (.istore 4, 2) := by decide +kernel
theorem dX2_isTight_9 : decode cX2_isTight 9 = .ok (.iload 4, 2) := by decide +kernel
theorem dX2_isTight_11 : decode cX2_isTight 11 = .ok (.aload_n 0, 1) := by decide +kernel
theorem dX2_isTight_12 : decode cX2_isTight 12 = .ok (.getfield 30, 3) := by decide +kernel
theorem dX2_isTight_15 : decode cX2_isTight 15 = .ok (.getfield 58, 3) := by decide +kernel
theorem dX2_isTight_18 : decode cX2_isTight 18 = .ok (.if_icmp .ge 33, 3) := by decide +kernel
theorem dX2_isTight_21 : decode cX2_isTight 21 = .ok (.lload_n 2, 1) := by decide +kernel
theorem dX2_isTight_22 : decode cX2_isTight 22 = .ok (.aload_n 0, 1) := by decide +kernel
theorem dX2_isTight_23 : decode cX2_isTight 23 = .ok (.getfield 30, 3) := by decide +kernel
theorem dX2_isTight_26 : decode cX2_isTight 26 = .ok (.getfield 71, 3) := by decide +kernel
theorem dX2_isTight_29 : decode cX2_isTight 29 = .ok (.iload_n 1, 1) := by decide +kernel
theorem dX2_isTight_30 : decode cX2_isTight 30 = .ok (.aaload, 1) := by decide +kernel
theorem dX2_isTight_31 : decode cX2_isTight 31 = .ok (.iload 4, 2) := by decide +kernel
theorem dX2_isTight_33 : decode cX2_isTight 33 = .ok (.iaload, 1) := by decide +kernel
theorem dX2_isTight_34 : decode cX2_isTight 34 = .ok (.i2l, 1) := by decide +kernel
theorem dX2_isTight_35 : decode cX2_isTight 35 = .ok (.aload_n 0, 1) := by decide +kernel
theorem dX2_isTight_36 : decode cX2_isTight 36 = .ok (.getfield 22, 3) := by decide +kernel
theorem dX2_isTight_39 : decode cX2_isTight 39 = .ok (.iload 4, 2) := by decide +kernel
theorem dX2_isTight_41 : decode cX2_isTight 41 = .ok (.laload, 1) := by decide +kernel
theorem dX2_isTight_42 : decode cX2_isTight 42 = .ok (.lmul, 1) := by decide +kernel
theorem dX2_isTight_43 : decode cX2_isTight 43 = .ok (.ladd, 1) := by decide +kernel
theorem dX2_isTight_44 : decode cX2_isTight 44 = .ok (.lstore_n 2, 1) := by decide +kernel
theorem dX2_isTight_45 : decode cX2_isTight 45 = .ok (.iinc 4 1, 3) := by decide +kernel
theorem dX2_isTight_48 : decode cX2_isTight 48 = .ok (.goto (-39), 3) := by decide +kernel
theorem dX2_isTight_51 : decode cX2_isTight 51 = .ok (.lload_n 2, 1) := by decide +kernel
theorem dX2_isTight_52 : decode cX2_isTight 52 = .ok (.aload_n 0, 1) := by decide +kernel
theorem dX2_isTight_53 : decode cX2_isTight 53 = .ok (.getfield 30, 3) := by decide +kernel
theorem dX2_isTight_56 : decode cX2_isTight 56 = .ok (.getfield 75, 3) := by decide +kernel
theorem dX2_isTight_59 : decode cX2_isTight 59 = .ok (.iload_n 1, 1) := by decide +kernel
theorem dX2_isTight_60 : decode cX2_isTight 60 = .ok (.iaload, 1) := by decide +kernel
theorem dX2_isTight_61 : decode cX2_isTight 61 = .ok (.i2l, 1) := by decide +kernel
theorem dX2_isTight_62 : decode cX2_isTight 62 = .ok (.aload_n 0, 1) := by decide +kernel
theorem dX2_isTight_63 : decode cX2_isTight 63 = .ok (.getfield 26, 3) := by decide +kernel
theorem dX2_isTight_66 : decode cX2_isTight 66 = .ok (.lmul, 1) := by decide +kernel
theorem dX2_isTight_67 : decode cX2_isTight 67 = .ok (.lcmp, 1) := by decide +kernel
theorem dX2_isTight_68 : decode cX2_isTight 68 = .ok (.ifCond .ne 7, 3) := by decide +kernel
theorem dX2_isTight_71 : decode cX2_isTight 71 = .ok (.iconst 1, 1) := by decide +kernel
theorem dX2_isTight_72 : decode cX2_isTight 72 = .ok (.goto 4, 3) := by decide +kernel
theorem dX2_isTight_75 : decode cX2_isTight 75 = .ok (.iconst 0, 1) := by decide +kernel
theorem dX2_isTight_76 : decode cX2_isTight 76 = .ok (.ireturn, 1) := by decide +kernel
set_option maxRecDepth 20000 in
theorem ggX2_endAmongBest_X0_thawAll : GoodIn wsX2_endAmongBest wsX0_thawAll := goodIn_r _ [6, 7, 8, 103, 104, 105, 106, 107, 108, 109, 110, 111] rfl (by decide +kernel)
set_option maxRecDepth 20000 in
theorem gX2_endAmongBest_X0_thawAll : GoodIn wsX2_endAmongBest (wsV RX2 78 RX0 yX0_thawAll wsX0_thawAll) := goodIn_app (goodIn_of _ (by decide +kernel)) ggX2_endAmongBest_X0_thawAll
set_option maxRecDepth 20000 in
theorem ggX2_endAmongBest_X2_keepToBest : GoodIn wsX2_endAmongBest wsX2_keepToBest := goodIn_r _ [13, 1, 14, 15, 16, 17, 18, 5, 19, 7, 20, 21, 22, 23, 24, 25, 26, 27, 28, 29, 30, 31, 32, 33, 34, 8, 35, 36, 37, 38, 39, 40, 41, 42, 43, 44, 45, 46, 47, 48, 49, 50, 51, 52, 53, 54, 55, 56, 57, 58, 59, 60, 61, 62, 63, 93, 94, 95, 96, 97, 98, 99, 100, 101, 102, 112, 113, 114, 115, 116, 117, 118, 119, 120, 103, 104, 105, 106, 107, 108, 109, 110, 111] rfl (by decide +kernel)
set_option maxRecDepth 20000 in
theorem gX2_endAmongBest_X2_keepToBest : GoodIn wsX2_endAmongBest (wsV RX2 81 RX2 yX2_keepToBest wsX2_keepToBest) := goodIn_app (goodIn_of _ (by decide +kernel)) ggX2_endAmongBest_X2_keepToBest
set_option maxRecDepth 20000 in
theorem ggX2_endAmongBest_X2_endFromHere : GoodIn wsX2_endAmongBest wsX2_endFromHere := goodIn_r _ [67, 1, 68, 69, 70, 71, 12, 72, 16, 17, 18, 5, 19, 7, 20, 21, 22, 23, 24, 25, 26, 27, 28, 29, 30, 31, 32, 33, 34, 8, 35, 36, 37, 38, 39, 40, 41, 42, 43, 44, 45, 46, 47, 48, 49, 50, 51, 52, 53, 54, 55, 56, 57, 58, 59, 73, 74, 75, 76, 14, 77, 78, 79, 80, 81, 82, 83, 84, 85, 86, 87, 88, 89, 90, 91, 92, 93, 94, 95, 96, 97, 98, 99, 100, 101, 102, 103, 104, 105, 106, 107, 108, 109, 110, 111, 112, 113, 114, 115, 116, 117, 118, 119, 120] rfl (by decide +kernel)
set_option maxRecDepth 20000 in
theorem gX2_endAmongBest_X2_endFromHere : GoodIn wsX2_endAmongBest (wsV RX2 84 RX2 yX2_endFromHere wsX2_endFromHere) := goodIn_app (goodIn_of _ (by decide +kernel)) ggX2_endAmongBest_X2_endFromHere
theorem dX2_endAmongBest_0 : decode cX2_endAmongBest 0 = .ok (.aload_n 0, 1) := by decide +kernel
theorem dX2_endAmongBest_1 : decode cX2_endAmongBest 1 = .ok (.getfield 12, 3) := by decide +kernel
theorem dX2_endAmongBest_4 : decode cX2_endAmongBest 4 = .ok (.invokevirtual 78, 3) := by decide +kernel
theorem dX2_endAmongBest_7 : decode cX2_endAmongBest 7 = .ok (.aload_n 0, 1) := by decide +kernel
theorem dX2_endAmongBest_8 : decode cX2_endAmongBest 8 = .ok (.invokevirtual 81, 3) := by decide +kernel
theorem dX2_endAmongBest_11 : decode cX2_endAmongBest 11 = .ok (.aload_n 0, 1) := by decide +kernel
theorem dX2_endAmongBest_12 : decode cX2_endAmongBest 12 = .ok (.iload_n 1, 1) := by decide +kernel
theorem dX2_endAmongBest_13 : decode cX2_endAmongBest 13 = .ok (.iload_n 2, 1) := by decide +kernel
theorem dX2_endAmongBest_14 : decode cX2_endAmongBest 14 = .ok (.iload_n 3, 1) := by decide +kernel
theorem dX2_endAmongBest_15 : decode cX2_endAmongBest 15 = .ok (.invokevirtual 84, 3) := by decide +kernel
theorem dX2_endAmongBest_18 : decode cX2_endAmongBest 18 = .ok (.lreturn, 1) := by decide +kernel
set_option maxRecDepth 20000 in
theorem ggX2_endAmongAll_X0_thawAll : GoodIn wsX2_endAmongAll wsX0_thawAll := goodIn_r _ [6, 7, 8, 94, 95, 96, 97, 98, 99, 100, 101, 102] rfl (by decide +kernel)
set_option maxRecDepth 20000 in
theorem gX2_endAmongAll_X0_thawAll : GoodIn wsX2_endAmongAll (wsV RX2 78 RX0 yX0_thawAll wsX0_thawAll) := goodIn_app (goodIn_of _ (by decide +kernel)) ggX2_endAmongAll_X0_thawAll
set_option maxRecDepth 20000 in
theorem ggX2_endAmongAll_X2_endFromHere : GoodIn wsX2_endAmongAll wsX2_endFromHere := goodIn_r _ [13, 1, 14, 15, 16, 17, 12, 18, 19, 20, 21, 5, 22, 7, 23, 24, 25, 26, 27, 28, 29, 30, 31, 32, 33, 34, 35, 36, 37, 8, 38, 39, 40, 41, 42, 43, 44, 45, 46, 47, 48, 49, 50, 51, 52, 53, 54, 55, 56, 57, 58, 59, 60, 61, 62, 63, 64, 65, 66, 67, 68, 69, 70, 71, 72, 73, 74, 75, 76, 77, 78, 79, 80, 81, 82, 83, 84, 85, 86, 87, 88, 89, 90, 91, 92, 93, 94, 95, 96, 97, 98, 99, 100, 101, 102, 103, 104, 105, 106, 107, 108, 109, 110, 111] rfl (by decide +kernel)
set_option maxRecDepth 20000 in
theorem gX2_endAmongAll_X2_endFromHere : GoodIn wsX2_endAmongAll (wsV RX2 84 RX2 yX2_endFromHere wsX2_endFromHere) := goodIn_app (goodIn_of _ (by decide +kernel)) ggX2_endAmongAll_X2_endFromHere
theorem dX2_endAmongAll_0 : decode cX2_endAmongAll 0 = .ok (.aload_n 0, 1) := by decide +kernel
theorem dX2_endAmongAll_1 : decode cX2_endAmongAll 1 = .ok (.getfield 12, 3) := by decide +kernel
theorem dX2_endAmongAll_4 : decode cX2_endAmongAll 4 = .ok (.invokevirtual 78, 3) := by decide +kernel
theorem dX2_endAmongAll_7 : decode cX2_endAmongAll 7 = .ok (.aload_n 0, 1) := by decide +kernel
theorem dX2_endAmongAll_8 : decode cX2_endAmongAll 8 = .ok (.iload_n 1, 1) := by decide +kernel
theorem dX2_endAmongAll_9 : decode cX2_endAmongAll 9 = .ok (.iload_n 2, 1) := by decide +kernel
theorem dX2_endAmongAll_10 : decode cX2_endAmongAll 10 = .ok (.iload_n 3, 1) := by decide +kernel
theorem dX2_endAmongAll_11 : decode cX2_endAmongAll 11 = .ok (.invokevirtual 84, 3) := by decide +kernel
theorem dX2_endAmongAll_14 : decode cX2_endAmongAll 14 = .ok (.lreturn, 1) := by decide +kernel
set_option maxRecDepth 20000 in
theorem ggX2_barredRow_X2_findBarred : GoodIn wsX2_barredRow wsX2_findBarred := goodIn_r _ [8, 9, 1, 2, 3, 10, 11, 12, 7, 13, 14, 15, 16, 17, 18, 19, 20, 21, 22, 23, 24, 25, 26, 27, 28, 29, 30, 31, 32, 33, 34, 35, 36, 37, 38, 39, 40, 41, 42, 43, 44, 45, 46, 47, 48, 49, 50, 51, 52, 53, 54, 55, 56, 57, 58, 59, 60, 61, 62, 63, 64, 65, 66, 67, 68, 69, 70, 71, 72, 73, 74, 75, 76, 77, 78, 79, 80, 81, 82, 83, 84, 85, 86, 87, 88, 89, 90, 91, 92, 93, 94, 95, 96, 97, 98, 99, 100, 101, 102, 103, 104, 105, 106, 107, 108, 109, 110, 111, 112, 113, 114, 115, 116, 117, 118, 119, 120, 121, 122, 123, 124] rfl (by decide +kernel)
set_option maxRecDepth 20000 in
theorem gX2_barredRow_X2_findBarred : GoodIn wsX2_barredRow (wsV RX2 88 RX2 yX2_findBarred wsX2_findBarred) := goodIn_app (goodIn_of _ (by decide +kernel)) ggX2_barredRow_X2_findBarred
theorem dX2_barredRow_0 : decode cX2_barredRow 0 = .ok (.aload_n 0, 1) := by decide +kernel
theorem dX2_barredRow_1 : decode cX2_barredRow 1 = .ok (.invokevirtual 88, 3) := by decide +kernel
theorem dX2_barredRow_4 : decode cX2_barredRow 4 = .ok (.iconst 0, 1) := by decide +kernel
theorem dX2_barredRow_5 : decode cX2_barredRow 5 = .ok (.istore_n 2, 1) := by decide +kernel
theorem dX2_barredRow_6 : decode cX2_barredRow 6 = .ok (.iconst 0, 1) := by decide +kernel
theorem dX2_barredRow_7 : decode cX2_barredRow 7 = .ok (.istore_n 3, 1) := by decide +kernel
theorem dX2_barredRow_8 : decode cX2_barredRow 8 = .ok (.iload_n 3, 1) := by decide +kernel
theorem dX2_barredRow_9 : decode cX2_barredRow 9 = .ok (.aload_n 0, 1) := by decide +kernel
theorem dX2_barredRow_10 : decode cX2_barredRow 10 = .ok (.getfield 30, 3) := by decide +kernel
theorem dX2_barredRow_13 : decode cX2_barredRow 13 = .ok (.getfield 91, 3) := by decide +kernel
theorem dX2_barredRow_16 : decode cX2_barredRow 16 = .ok (.if_icmp .ge 30, 3) := by decide +kernel
theorem dX2_barredRow_19 : decode cX2_barredRow 19 = .ok (.aload_n 0, 1) := by decide +kernel
theorem dX2_barredRow_20 : decode cX2_barredRow 20 = .ok (.getfield 94, 3) := by decide +kernel
theorem dX2_barredRow_23 : decode cX2_barredRow 23 = .ok (.iconst 1, 1) := by decide +kernel
theorem dX2_barredRow_24 : decode cX2_barredRow 24 = .ok (.iload_n 3, 1) := by decide +kernel
theorem dX2_barredRow_25 : decode cX2_barredRow 25 = .ok (.ishl, 1) := by decide +kernel
theorem dX2_barredRow_26 : decode cX2_barredRow 26 = .ok (.iand, 1) := by decide +kernel
theorem dX2_barredRow_27 : decode cX2_barredRow 27 = .ok (.ifCond .eq 13, 3) := by decide +kernel
theorem dX2_barredRow_30 : decode cX2_barredRow 30 = .ok (.iload_n 2, 1) := by decide +kernel
theorem dX2_barredRow_31 : decode cX2_barredRow 31 = .ok (.iload_n 1, 1) := by decide +kernel
theorem dX2_barredRow_32 : decode cX2_barredRow 32 = .ok (.if_icmp .ne 5, 3) := by decide +kernel
theorem dX2_barredRow_35 : decode cX2_barredRow 35 = .ok (.iload_n 3, 1) := by decide +kernel
theorem dX2_barredRow_36 : decode cX2_barredRow 36 = .ok (.ireturn, 1) := by decide +kernel
theorem dX2_barredRow_37 : decode cX2_barredRow 37 = .ok (.iinc 2 1, 3) := by decide +kernel
theorem dX2_barredRow_40 : decode cX2_barredRow 40 = .ok (.iinc 3 1, 3) := by decide +kernel
theorem dX2_barredRow_43 : decode cX2_barredRow 43 = .ok (.goto (-35), 3) := by decide +kernel
theorem dX2_barredRow_46 : decode cX2_barredRow 46 = .ok (.iconst (-1), 1) := by decide +kernel
theorem dX2_barredRow_47 : decode cX2_barredRow 47 = .ok (.ireturn, 1) := by decide +kernel
set_option maxRecDepth 20000 in
theorem ggX2_endFromHere_X2_aimAt : GoodIn wsX2_endFromHere wsX2_aimAt := goodIn_r _ [7, 2, 76, 77, 78, 79, 80, 81, 82, 83, 84, 85] rfl (by decide +kernel)
set_option maxRecDepth 20000 in
theorem gX2_endFromHere_X2_aimAt : GoodIn wsX2_endFromHere (wsV RX2 97 RX2 yX2_aimAt wsX2_aimAt) := goodIn_app (goodIn_of _ (by decide +kernel)) ggX2_endFromHere_X2_aimAt
set_option maxRecDepth 20000 in
theorem ggX2_endFromHere_X0_minimise : GoodIn wsX2_endFromHere wsX0_minimise := goodIn_r _ [12, 13, 14, 15, 16, 17, 11, 18, 19, 20, 21, 22, 23, 24, 25, 26, 27, 28, 29, 30, 31, 32, 33, 34, 35, 36, 37, 38, 39, 40, 41, 42, 43, 44, 45, 46, 47, 48, 49, 50, 51, 52, 53, 54, 86, 87, 88, 89, 90, 91, 92, 93, 94] rfl (by decide +kernel)
set_option maxRecDepth 20000 in
theorem gX2_endFromHere_X0_minimise : GoodIn wsX2_endFromHere (wsV RX2 101 RX0 yX0_minimise wsX0_minimise) := goodIn_app (goodIn_of _ (by decide +kernel)) ggX2_endFromHere_X0_minimise
set_option maxRecDepth 20000 in
theorem ggX2_endFromHere_X2_numeratorOf : GoodIn wsX2_endFromHere wsX2_numeratorOf := goodIn_r _ [58, 59, 60, 1, 61, 62, 63, 11, 64, 21, 65, 66, 67, 68, 22, 23, 38, 76, 77, 78, 79, 80, 81, 82, 83, 84, 85, 95, 96, 97, 98, 99, 100, 101, 102, 103, 86, 87, 88, 89, 90, 91, 92, 93, 94] rfl (by decide +kernel)
set_option maxRecDepth 20000 in
theorem gX2_endFromHere_X2_numeratorOf : GoodIn wsX2_endFromHere (wsV RX2 105 RX2 yX2_numeratorOf wsX2_numeratorOf) := goodIn_app (goodIn_of _ (by decide +kernel)) ggX2_endFromHere_X2_numeratorOf
set_option maxRecDepth 20000 in
theorem ggX2_endFromHere_X0_denominator : GoodIn wsX2_endFromHere wsX0_denominator := goodIn_r _ [64, 21, 86, 87, 88, 89, 90, 91, 92, 93, 94] rfl (by decide +kernel)
set_option maxRecDepth 20000 in
theorem gX2_endFromHere_X0_denominator : GoodIn wsX2_endFromHere (wsV RX2 109 RX0 yX0_denominator wsX0_denominator) := goodIn_app (goodIn_of _ (by decide +kernel)) ggX2_endFromHere_X0_denominator
set_option maxRecDepth 20000 in
theorem ggX2_endFromHere_X2_partOf : GoodIn wsX2_endFromHere wsX2_partOf := goodIn_r _ [71, 72, 73, 6, 74, 75, 44, 45, 46] rfl (by decide +kernel)
set_option maxRecDepth 20000 in
theorem gX2_endFromHere_X2_partOf : GoodIn wsX2_endFromHere (va_wsS RX2 67 yX2_partOf wsX2_partOf) := goodIn_app (goodIn_of _ (by decide +kernel)) ggX2_endFromHere_X2_partOf
theorem dX2_endFromHere_0 : decode cX2_endFromHere 0 = .ok (.aload_n 0, 1) := by decide +kernel
theorem dX2_endFromHere_1 : decode cX2_endFromHere 1 = .ok (.iload_n 1, 1) := by decide +kernel
theorem dX2_endFromHere_2 : decode cX2_endFromHere 2 = .ok (.iload_n 2, 1) := by decide +kernel
theorem dX2_endFromHere_3 : decode cX2_endFromHere 3 = .ok (.ifCond .ne 7, 3) := by decide +kernel
theorem dX2_endFromHere_6 : decode cX2_endFromHere 6 = .ok (.iconst 1, 1) := by decide +kernel
theorem dX2_endFromHere_7 : decode cX2_endFromHere 7 = .ok (.goto 4, 3) := by decide +kernel
theorem dX2_endFromHere_10 : decode cX2_endFromHere 10 = .ok (.iconst (-1), 1) := by decide +kernel
theorem dX2_endFromHere_11 : decode cX2_endFromHere 11 = .ok (.invokevirtual 97, 3) := by decide +kernel
theorem dX2_endFromHere_14 : decode cX2_endFromHere 14 = .ok (.aload_n 0, 1) := by decide +kernel
theorem dX2_endFromHere_15 : decode cX2_endFromHere 15 = .ok (.getfield 12, 3) := by decide +kernel
theorem dX2_endFromHere_18 : decode cX2_endFromHere 18 = .ok (.aload_n 0, 1) := by decide +kernel
theorem dX2_endFromHere_19 : decode cX2_endFromHere 19 = .ok (.getfield 18, 3) := by decide +kernel
theorem dX2_endFromHere_22 : decode cX2_endFromHere 22 = .ok (.invokevirtual 101, 3) := by decide +kernel
theorem dX2_endFromHere_25 : decode cX2_endFromHere 25 = .ok (.aload_n 0, 1) := by decide +kernel
theorem dX2_endFromHere_26 : decode cX2_endFromHere 26 = .ok (.iload_n 1, 1) := by decide +kernel
theorem dX2_endFromHere_27 : decode cX2_endFromHere 27 = .ok (.invokevirtual 105, 3) := by decide +kernel
theorem dX2_endFromHere_30 : decode cX2_endFromHere 30 = .ok (.aload_n 0, 1) := by decide +kernel
theorem dX2_endFromHere_31 : decode cX2_endFromHere 31 = .ok (.getfield 12, 3) := by decide +kernel
theorem dX2_endFromHere_34 : decode cX2_endFromHere 34 = .ok (.invokevirtual 109, 3) := by decide +kernel
theorem dX2_endFromHere_37 : decode cX2_endFromHere 37 = .ok (.iload_n 3, 1) := by decide +kernel
theorem dX2_endFromHere_38 : decode cX2_endFromHere 38 = .ok (.invokestatic 67, 3) := by decide +kernel
theorem dX2_endFromHere_41 : decode cX2_endFromHere 41 = .ok (.lreturn, 1) := by decide +kernel
set_option maxRecDepth 20000 in
theorem ggX2_findFirstBest_X0_thawAll : GoodIn wsX2_findFirstBest wsX0_thawAll := goodIn_r _ [12, 13, 14, 105, 106, 107, 108, 109, 110, 111, 112, 113] rfl (by decide +kernel)
set_option maxRecDepth 20000 in
theorem gX2_findFirstBest_X0_thawAll : GoodIn wsX2_findFirstBest (wsV RX2 78 RX0 yX0_thawAll wsX0_thawAll) := goodIn_app (goodIn_of _ (by decide +kernel)) ggX2_findFirstBest_X0_thawAll
set_option maxRecDepth 20000 in
theorem ggX2_findFirstBest_X2_keepToBest : GoodIn wsX2_findFirstBest wsX2_keepToBest := goodIn_r _ [19, 2, 3, 20, 21, 22, 23, 11, 24, 13, 25, 26, 27, 28, 29, 30, 31, 32, 33, 34, 35, 36, 37, 38, 39, 14, 40, 41, 42, 43, 44, 45, 46, 47, 48, 49, 50, 51, 52, 53, 54, 55, 56, 57, 58, 59, 60, 61, 62, 63, 64, 65, 66, 67, 68, 86, 87, 88, 89, 90, 91, 92, 93, 94, 95, 96, 97, 98, 99, 100, 101, 102, 103, 104, 105, 106, 107, 108, 109, 110, 111, 112, 113] rfl (by decide +kernel)
set_option maxRecDepth 20000 in
theorem gX2_findFirstBest_X2_keepToBest : GoodIn wsX2_findFirstBest (wsV RX2 81 RX2 yX2_keepToBest wsX2_keepToBest) := goodIn_app (goodIn_of _ (by decide +kernel)) ggX2_findFirstBest_X2_keepToBest
set_option maxRecDepth 20000 in
theorem ggX2_findFirstBest_X2_aimAt : GoodIn wsX2_findFirstBest wsX2_aimAt := goodIn_r _ [72, 5, 86, 87, 88, 89, 90, 91, 92, 93, 94, 95] rfl (by decide +kernel)
set_option maxRecDepth 20000 in
theorem gX2_findFirstBest_X2_aimAt : GoodIn wsX2_findFirstBest (wsV RX2 97 RX2 yX2_aimAt wsX2_aimAt) := goodIn_app (goodIn_of _ (by decide +kernel)) ggX2_findFirstBest_X2_aimAt
set_option maxRecDepth 20000 in
theorem ggX2_findFirstBest_X0_minimise : GoodIn wsX2_findFirstBest wsX0_minimise := goodIn_r _ [24, 13, 25, 26, 27, 28, 11, 29, 30, 31, 32, 33, 34, 35, 36, 37, 38, 39, 14, 40, 41, 42, 43, 44, 45, 46, 47, 48, 49, 50, 51, 52, 53, 54, 55, 56, 57, 58, 59, 60, 61, 62, 63, 64, 105, 106, 107, 108, 109, 110, 111, 112, 113] rfl (by decide +kernel)
set_option maxRecDepth 20000 in
theorem gX2_findFirstBest_X0_minimise : GoodIn wsX2_findFirstBest (wsV RX2 101 RX0 yX0_minimise wsX0_minimise) := goodIn_app (goodIn_of _ (by decide +kernel)) ggX2_findFirstBest_X0_minimise
set_option maxRecDepth 20000 in
theorem ggX2_findFirstBest_X0_freezeDear : GoodIn wsX2_findFirstBest wsX0_freezeDear := goodIn_r _ [68, 13, 30, 14, 105, 106, 107, 108, 109, 110, 111, 112, 113] rfl (by decide +kernel)
set_option maxRecDepth 20000 in
theorem gX2_findFirstBest_X0_freezeDear : GoodIn wsX2_findFirstBest (wsV RX2 113 RX0 yX0_freezeDear wsX0_freezeDear) := goodIn_app (goodIn_of _ (by decide +kernel)) ggX2_findFirstBest_X0_freezeDear
set_option maxRecDepth 20000 in
theorem ggX2_findFirstBest_X2_numeratorOf : GoodIn wsX2_findFirstBest wsX2_numeratorOf := goodIn_r _ [76, 3, 77, 2, 78, 79, 80, 11, 81, 32, 82, 83, 84, 85, 33, 34, 48, 86, 87, 88, 89, 90, 91, 92, 93, 94, 95, 96, 97, 98, 99, 100, 101, 102, 103, 104, 105, 106, 107, 108, 109, 110, 111, 112, 113] rfl (by decide +kernel)
set_option maxRecDepth 20000 in
theorem gX2_findFirstBest_X2_numeratorOf : GoodIn wsX2_findFirstBest (wsV RX2 105 RX2 yX2_numeratorOf wsX2_numeratorOf) := goodIn_app (goodIn_of _ (by decide +kernel)) ggX2_findFirstBest_X2_numeratorOf
set_option maxRecDepth 20000 in
theorem ggX2_findFirstBest_X0_denominator : GoodIn wsX2_findFirstBest wsX0_denominator := goodIn_r _ [81, 32, 105, 106, 107, 108, 109, 110, 111, 112, 113] rfl (by decide +kernel)
set_option maxRecDepth 20000 in
theorem gX2_findFirstBest_X0_denominator : GoodIn wsX2_findFirstBest (wsV RX2 109 RX0 yX0_denominator wsX0_denominator) := goodIn_app (goodIn_of _ (by decide +kernel)) ggX2_findFirstBest_X0_denominator
theorem dX2_findFirstBest_0 : decode cX2_findFirstBest 0 = .ok (.aload_n 0, 1) := by decide +kernel
theorem dX2_findFirstBest_1 : decode cX2_findFirstBest 1 = .ok (.getfield 38, 3) := by decide +kernel
theorem dX2_findFirstBest_4 : decode cX2_findFirstBest 4 = .ok (.ifCond .eq 4, 3) := by decide +kernel
theorem dX2_findFirstBest_7 : decode cX2_findFirstBest 7 = .ok (.return_, 1) := by decide +kernel
theorem dX2_findFirstBest_8 : decode cX2_findFirstBest 8 = .ok (.aload_n 0, 1) := by decide +kernel
theorem dX2_findFirstBest_9 : decode cX2_findFirstBest 9 = .ok (.getfield 12, 3) := by decide +kernel
theorem dX2_findFirstBest_12 : decode cX2_findFirstBest 12 = .ok (.invokevirtual 78, 3) := by decide +kernel
theorem dX2_findFirstBest_15 : decode cX2_findFirstBest 15 = .ok (.aload_n 0, 1) := by decide +kernel
theorem dX2_findFirstBest_16 : decode cX2_findFirstBest 16 = .ok (.invokevirtual 81, 3) := by decide +kernel
theorem dX2_findFirstBest_19 : decode cX2_findFirstBest 19 = .ok (.iconst 0, 1) := by decide +kernel
theorem dX2_findFirstBest_20 : decode cX2_findFirstBest 20 = .ok (.istore_n 1, 1) := by decide +kernel
theorem dX2_findFirstBest_21 : decode cX2_findFirstBest 21 = .ok (.iload_n 1, 1) := by decide +kernel
theorem dX2_findFirstBest_22 : decode cX2_findFirstBest 22 = .ok (.aload_n 0, 1) := by decide +kernel
theorem dX2_findFirstBest_23 : decode cX2_findFirstBest 23 = .ok (.getfield 30, 3) := by decide +kernel
theorem dX2_findFirstBest_26 : decode cX2_findFirstBest 26 = .ok (.getfield 58, 3) := by decide +kernel
theorem dX2_findFirstBest_29 : decode cX2_findFirstBest 29 = .ok (.if_icmp .ge 33, 3) := by decide +kernel
theorem dX2_findFirstBest_32 : decode cX2_findFirstBest 32 = .ok (.aload_n 0, 1) := by decide +kernel
theorem dX2_findFirstBest_33 : decode cX2_findFirstBest 33 = .ok (.iload_n 1, 1) := by decide +kernel
theorem dX2_findFirstBest_34 : decode cX2_findFirstBest 34 = .ok (.iconst 1, 1) := by decide +kernel
theorem dX2_findFirstBest_35 : decode cX2_findFirstBest 35 = .ok (.invokevirtual 97, 3) := by decide +kernel
theorem dX2_findFirstBest_38 : decode cX2_findFirstBest 38 = .ok (.aload_n 0, 1) := by decide +kernel
theorem dX2_findFirstBest_39 : decode cX2_findFirstBest 39 = .ok (.getfield 12, 3) := by decide +kernel
theorem dX2_findFirstBest_42 : decode cX2_findFirstBest 42 = .ok (.aload_n 0, 1) := by decide +kernel
theorem dX2_findFirstBest_43 : decode cX2_findFirstBest 43 = .ok (.getfield 18, 3) := by decide +kernel
theorem dX2_findFirstBest_46 : decode cX2_findFirstBest 46 = .ok (.invokevirtual 101, 3) := by decide +kernel
theorem dX2_findFirstBest_49 : decode cX2_findFirstBest 49 = .ok (.aload_n 0, 1) := by decide +kernel
theorem dX2_findFirstBest_50 : decode cX2_findFirstBest 50 = .ok (.getfield 12, 3) := by decide +kernel
theorem dX2_findFirstBest_53 : decode cX2_findFirstBest 53 = .ok (.invokevirtual 113, 3) := by decide +kernel
theorem dX2_findFirstBest_56 : decode cX2_findFirstBest 56 = .ok (.iinc 1 1, 3) := by decide +kernel
theorem dX2_findFirstBest_59 : decode cX2_findFirstBest 59 = .ok (.goto (-38), 3) := by decide +kernel
theorem dX2_findFirstBest_62 : decode cX2_findFirstBest 62 = .ok (.iconst 0, 1) := by decide +kernel
theorem dX2_findFirstBest_63 : decode cX2_findFirstBest 63 = .ok (.istore_n 1, 1) := by decide +kernel
theorem dX2_findFirstBest_64 : decode cX2_findFirstBest 64 = .ok (.iload_n 1, 1) := by decide +kernel
theorem dX2_findFirstBest_65 : decode cX2_findFirstBest 65 = .ok (.aload_n 0, 1) := by decide +kernel
theorem dX2_findFirstBest_66 : decode cX2_findFirstBest 66 = .ok (.getfield 30, 3) := by decide +kernel
theorem dX2_findFirstBest_69 : decode cX2_findFirstBest 69 = .ok (.getfield 58, 3) := by decide +kernel
theorem dX2_findFirstBest_72 : decode cX2_findFirstBest 72 = .ok (.if_icmp .ge 20, 3) := by decide +kernel
theorem dX2_findFirstBest_75 : decode cX2_findFirstBest 75 = .ok (.aload_n 0, 1) := by decide +kernel
theorem dX2_findFirstBest_76 : decode cX2_findFirstBest 76 = .ok (.getfield 22, 3) := by decide +kernel
theorem dX2_findFirstBest_79 : decode cX2_findFirstBest 79 = .ok (.iload_n 1, 1) := by decide +kernel
theorem dX2_findFirstBest_80 : decode cX2_findFirstBest 80 = .ok (.aload_n 0, 1) := by decide +kernel
theorem dX2_findFirstBest_81 : decode cX2_findFirstBest 81 = .ok (.iload_n 1, 1) := by decide +kernel
theorem dX2_findFirstBest_82 : decode cX2_findFirstBest 82 = .ok (.invokevirtual 105, 3) := by decide +kernel
theorem dX2_findFirstBest_85 : decode cX2_findFirstBest 85 = .ok (.lastore, 1) := by decide +kernel
theorem dX2_findFirstBest_86 : decode cX2_findFirstBest 86 = .ok (.iinc 1 1, 3) := by decide +kernel
theorem dX2_findFirstBest_89 : decode cX2_findFirstBest 89 = .ok (.goto (-25), 3) := by decide +kernel
theorem dX2_findFirstBest_92 : decode cX2_findFirstBest 92 = .ok (.aload_n 0, 1) := by decide +kernel
theorem dX2_findFirstBest_93 : decode cX2_findFirstBest 93 = .ok (.aload_n 0, 1) := by decide +kernel
theorem dX2_findFirstBest_94 : decode cX2_findFirstBest 94 = .ok (.getfield 12, 3) := by decide +kernel
theorem dX2_findFirstBest_97 : decode cX2_findFirstBest 97 = .ok (.invokevirtual 109, 3) := by decide +kernel
theorem dX2_findFirstBest_100 : decode cX2_findFirstBest 100 = .ok (.putfield 26, 3) := by decide +kernel
theorem dX2_findFirstBest_103 : decode cX2_findFirstBest 103 = .ok (.aload_n 0, 1) := by decide +kernel
theorem dX2_findFirstBest_104 : decode cX2_findFirstBest 104 = .ok (.iconst 1, 1) := by decide +kernel
theorem dX2_findFirstBest_105 : decode cX2_findFirstBest 105 = .ok (.putfield 38, 3) := by decide +kernel
theorem dX2_findFirstBest_108 : decode cX2_findFirstBest 108 = .ok (.return_, 1) := by decide +kernel
set_option maxRecDepth 20000 in
theorem ggX2_keepToBest_X0_minimise : GoodIn wsX2_keepToBest wsX0_minimise := goodIn_r _ [8, 9, 10, 11, 12, 13, 7, 14, 15, 16, 17, 18, 19, 20, 21, 22, 23, 24, 25, 26, 27, 28, 29, 30, 31, 32, 33, 34, 35, 36, 37, 38, 39, 40, 41, 42, 43, 44, 45, 46, 47, 48, 49, 50, 74, 75, 76, 77, 78, 79, 80, 81, 82] rfl (by decide +kernel)
set_option maxRecDepth 20000 in
theorem gX2_keepToBest_X0_minimise : GoodIn wsX2_keepToBest (wsV RX2 101 RX0 yX0_minimise wsX0_minimise) := goodIn_app (goodIn_of _ (by decide +kernel)) ggX2_keepToBest_X0_minimise
set_option maxRecDepth 20000 in
theorem ggX2_keepToBest_X0_freezeDear : GoodIn wsX2_keepToBest wsX0_freezeDear := goodIn_r _ [54, 9, 15, 25, 74, 75, 76, 77, 78, 79, 80, 81, 82] rfl (by decide +kernel)
set_option maxRecDepth 20000 in
theorem gX2_keepToBest_X0_freezeDear : GoodIn wsX2_keepToBest (wsV RX2 113 RX0 yX0_freezeDear wsX0_freezeDear) := goodIn_app (goodIn_of _ (by decide +kernel)) ggX2_keepToBest_X0_freezeDear
theorem dX2_keepToBest_0 : decode cX2_keepToBest 0 = .ok (.aload_n 0, 1) := by decide +kernel
theorem dX2_keepToBest_1 : decode cX2_keepToBest 1 = .ok (.getfield 12, 3) := by decide +kernel
theorem dX2_keepToBest_4 : decode cX2_keepToBest 4 = .ok (.aload_n 0, 1) := by decide +kernel
theorem dX2_keepToBest_5 : decode cX2_keepToBest 5 = .ok (.getfield 30, 3) := by decide +kernel
theorem dX2_keepToBest_8 : decode cX2_keepToBest 8 = .ok (.getfield 64, 3) := by decide +kernel
theorem dX2_keepToBest_11 : decode cX2_keepToBest 11 = .ok (.invokevirtual 101, 3) := by decide +kernel
theorem dX2_keepToBest_14 : decode cX2_keepToBest 14 = .ok (.aload_n 0, 1) := by decide +kernel
theorem dX2_keepToBest_15 : decode cX2_keepToBest 15 = .ok (.getfield 12, 3) := by decide +kernel
theorem dX2_keepToBest_18 : decode cX2_keepToBest 18 = .ok (.invokevirtual 113, 3) := by decide +kernel
theorem dX2_keepToBest_21 : decode cX2_keepToBest 21 = .ok (.return_, 1) := by decide +kernel
theorem dX2_aimAt_0 : decode cX2_aimAt 0 = .ok (.iconst 0, 1) := by decide +kernel
theorem dX2_aimAt_1 : decode cX2_aimAt 1 = .ok (.istore_n 3, 1) := by decide +kernel
theorem dX2_aimAt_2 : decode cX2_aimAt 2 = .ok (.iload_n 3, 1) := by decide +kernel
theorem dX2_aimAt_3 : decode cX2_aimAt 3 = .ok (.iconst 5, 1) := by decide +kernel
theorem dX2_aimAt_4 : decode cX2_aimAt 4 = .ok (.if_icmp .ge 25, 3) := by decide +kernel
theorem dX2_aimAt_7 : decode cX2_aimAt 7 = .ok (.aload_n 0, 1) := by decide +kernel
theorem dX2_aimAt_8 : decode cX2_aimAt 8 = .ok (.getfield 18, 3) := by decide +kernel
theorem dX2_aimAt_11 : decode cX2_aimAt 11 = .ok (.iload_n 3, 1) := by decide +kernel
theorem dX2_aimAt_12 : decode cX2_aimAt 12 = .ok (.iload_n 3, 1) := by decide +kernel
theorem dX2_aimAt_13 : decode cX2_aimAt 13 = .ok (.iload_n 1, 1) := by decide +kernel
theorem dX2_aimAt_14 : decode cX2_aimAt 14 = .ok (.if_icmp .ne 7, 3) := by decide +kernel
theorem dX2_aimAt_17 : decode cX2_aimAt 17 = .ok (.iload_n 2, 1) := by decide +kernel
theorem dX2_aimAt_18 : decode cX2_aimAt 18 = .ok (.goto 4, 3) := by decide +kernel
theorem dX2_aimAt_21 : decode cX2_aimAt 21 = .ok (.iconst 0, 1) := by decide +kernel
theorem dX2_aimAt_22 : decode cX2_aimAt 22 = .ok (.iastore, 1) := by decide +kernel
theorem dX2_aimAt_23 : decode cX2_aimAt 23 = .ok (.iinc 3 1, 3) := by decide +kernel
theorem dX2_aimAt_26 : decode cX2_aimAt 26 = .ok (.goto (-24), 3) := by decide +kernel
theorem dX2_aimAt_29 : decode cX2_aimAt 29 = .ok (.return_, 1) := by decide +kernel
set_option maxRecDepth 20000 in
theorem ggX2_numeratorOf_X0_denominator : GoodIn wsX2_numeratorOf wsX0_denominator := goodIn_r _ [8, 9, 36, 37, 38, 39, 40, 41, 42, 43, 44] rfl (by decide +kernel)
set_option maxRecDepth 20000 in
theorem gX2_numeratorOf_X0_denominator : GoodIn wsX2_numeratorOf (wsV RX2 109 RX0 yX0_denominator wsX0_denominator) := goodIn_app (goodIn_of _ (by decide +kernel)) ggX2_numeratorOf_X0_denominator
set_option maxRecDepth 20000 in
theorem ggX2_numeratorOf_X0_numerator : GoodIn wsX2_numeratorOf wsX0_numerator := goodIn_r _ [13, 14, 15, 16, 36, 37, 38, 39, 40, 41, 42, 43, 44] rfl (by decide +kernel)
set_option maxRecDepth 20000 in
theorem gX2_numeratorOf_X0_numerator : GoodIn wsX2_numeratorOf (wsV RX2 119 RX0 yX0_numerator wsX0_numerator) := goodIn_app (goodIn_of _ (by decide +kernel)) ggX2_numeratorOf_X0_numerator
theorem dX2_numeratorOf_0 : decode cX2_numeratorOf 0 = .ok (.aload_n 0, 1) := by decide +kernel
theorem dX2_numeratorOf_1 : decode cX2_numeratorOf 1 = .ok (.getfield 30, 3) := by decide +kernel
theorem dX2_numeratorOf_4 : decode cX2_numeratorOf 4 = .ok (.getfield 116, 3) := by decide +kernel
theorem dX2_numeratorOf_7 : decode cX2_numeratorOf 7 = .ok (.iload_n 1, 1) := by decide +kernel
theorem dX2_numeratorOf_8 : decode cX2_numeratorOf 8 = .ok (.iaload, 1) := by decide +kernel
theorem dX2_numeratorOf_9 : decode cX2_numeratorOf 9 = .ok (.i2l, 1) := by decide +kernel
theorem dX2_numeratorOf_10 : decode cX2_numeratorOf 10 = .ok (.aload_n 0, 1) := by decide +kernel
theorem dX2_numeratorOf_11 : decode cX2_numeratorOf 11 = .ok (.getfield 12, 3) := by decide +kernel
theorem dX2_numeratorOf_14 : decode cX2_numeratorOf 14 = .ok (.invokevirtual 109, 3) := by decide +kernel
theorem dX2_numeratorOf_17 : decode cX2_numeratorOf 17 = .ok (.lmul, 1) := by decide +kernel
theorem dX2_numeratorOf_18 : decode cX2_numeratorOf 18 = .ok (.aload_n 0, 1) := by decide +kernel
theorem dX2_numeratorOf_19 : decode cX2_numeratorOf 19 = .ok (.getfield 12, 3) := by decide +kernel
theorem dX2_numeratorOf_22 : decode cX2_numeratorOf 22 = .ok (.iload_n 1, 1) := by decide +kernel
theorem dX2_numeratorOf_23 : decode cX2_numeratorOf 23 = .ok (.invokevirtual 119, 3) := by decide +kernel
theorem dX2_numeratorOf_26 : decode cX2_numeratorOf 26 = .ok (.ladd, 1) := by decide +kernel
theorem dX2_numeratorOf_27 : decode cX2_numeratorOf 27 = .ok (.lreturn, 1) := by decide +kernel
set_option maxRecDepth 20000 in
theorem ggX2_findBarred_X2_allRows : GoodIn wsX2_findBarred wsX2_allRows := goodIn_r _ [9, 2, 3, 10, 93, 94, 95, 96, 97, 98, 99, 100, 101, 102, 103, 104, 105, 106, 107, 108, 109, 110, 111] rfl (by decide +kernel)
set_option maxRecDepth 20000 in
theorem gX2_findBarred_X2_allRows : GoodIn wsX2_findBarred (wsV RX2 44 RX2 yX2_allRows wsX2_allRows) := goodIn_app (goodIn_of _ (by decide +kernel)) ggX2_findBarred_X2_allRows
set_option maxRecDepth 20000 in
theorem ggX2_findBarred_X2_canKeep : GoodIn wsX2_findBarred wsX2_canKeep := goodIn_r _ [14, 15, 2, 16, 17, 18, 19, 3, 20, 21, 22, 23, 24, 25, 26, 27, 28, 29, 30, 31, 32, 33, 34, 35, 36, 37, 38, 39, 40, 8, 41, 42, 43, 44, 45, 46, 47, 48, 49, 50, 51, 52, 53, 54, 55, 56, 57, 58, 59, 60, 61, 62, 63, 64, 65, 66, 67, 68, 69, 70, 71, 72, 73, 74, 75, 76, 77, 78, 79, 80, 81, 82, 83, 84, 85, 86, 87, 88, 89, 90, 91, 92, 93, 94, 95, 96, 97, 98, 99, 100, 101, 102, 103, 104, 105, 106, 107, 108, 109, 110, 111, 112, 113, 114, 115, 116, 117, 118, 119, 120] rfl (by decide +kernel)
set_option maxRecDepth 20000 in
theorem gX2_findBarred_X2_canKeep : GoodIn wsX2_findBarred (wsV RX2 48 RX2 yX2_canKeep wsX2_canKeep) := goodIn_app (goodIn_of _ (by decide +kernel)) ggX2_findBarred_X2_canKeep
theorem dX2_findBarred_0 : decode cX2_findBarred 0 = .ok (.aload_n 0, 1) := by decide +kernel
theorem dX2_findBarred_1 : decode cX2_findBarred 1 = .ok (.getfield 41, 3) := by decide +kernel
theorem dX2_findBarred_4 : decode cX2_findBarred 4 = .ok (.ifCond .eq 4, 3) := by decide +kernel
theorem dX2_findBarred_7 : decode cX2_findBarred 7 = .ok (.return_, 1) := by decide +kernel
theorem dX2_findBarred_8 : decode cX2_findBarred 8 = .ok (.aload_n 0, 1) := by decide +kernel
theorem dX2_findBarred_9 : decode cX2_findBarred 9 = .ok (.invokevirtual 44, 3) := by decide +kernel
theorem dX2_findBarred_12 : decode cX2_findBarred 12 = .ok (.istore_n 1, 1) := by decide +kernel
theorem dX2_findBarred_13 : decode cX2_findBarred 13 = .ok (.aload_n 0, 1) := by decide +kernel
theorem dX2_findBarred_14 : decode cX2_findBarred 14 = .ok (.getfield 30, 3) := by decide +kernel
theorem dX2_findBarred_17 : decode cX2_findBarred 17 = .ok (.getfield 91, 3) := by decide +kernel
theorem dX2_findBarred_20 : decode cX2_findBarred 20 = .ok (.iconst 1, 1) := by decide +kernel
theorem dX2_findBarred_21 : decode cX2_findBarred 21 = .ok (.isub, 1) := by decide +kernel
theorem dX2_findBarred_22 : decode cX2_findBarred 22 = .ok (.istore_n 2, 1) := by decide +kernel
theorem dX2_findBarred_23 : decode cX2_findBarred 23 = .ok (.iload_n 2, 1) := by decide +kernel
theorem dX2_findBarred_24 : decode cX2_findBarred 24 = .ok (.ifCond .lt 32, 3) := by decide +kernel
theorem dX2_findBarred_27 : decode cX2_findBarred 27 = .ok (.iload_n 1, 1) := by decide +kernel
theorem dX2_findBarred_28 : decode cX2_findBarred 28 = .ok (.iconst 1, 1) := by decide +kernel
theorem dX2_findBarred_29 : decode cX2_findBarred 29 = .ok (.iload_n 2, 1) := by decide +kernel
theorem dX2_findBarred_30 : decode cX2_findBarred 30 = .ok (.ishl, 1) := by decide +kernel
theorem dX2_findBarred_31 : decode cX2_findBarred 31 = .ok (.iconst (-1), 1) := by decide +kernel
theorem dX2_findBarred_32 : decode cX2_findBarred 32 = .ok (.ixor, 1) := by decide +kernel
theorem dX2_findBarred_33 : decode cX2_findBarred 33 = .ok (.iand, 1) := by decide +kernel
theorem dX2_findBarred_34 : decode cX2_findBarred 34 = .ok (.istore_n 3, 1) := by decide +kernel
theorem dX2_findBarred_35 : decode cX2_findBarred 35 = .ok (.iload_n 3, 1) := by decide +kernel
theorem dX2_findBarred_36 : decode cX2_findBarred 36 = .ok (.iload_n 1, 1) := by decide +kernel
theorem dX2_findBarred_37 : decode cX2_findBarred 37 = .ok (.if_icmp .eq 13, 3) := by decide +kernel
theorem dX2_findBarred_40 : decode cX2_findBarred 40 = .ok (.aload_n 0, 1) := by decide +kernel
theorem dX2_findBarred_41 : decode cX2_findBarred 41 = .ok (.iload_n 3, 1) := by decide +kernel
theorem dX2_findBarred_42 : decode cX2_findBarred 42 = .ok (.invokevirtual 48, 3) := by decide +kernel
theorem dX2_findBarred_45 : decode cX2_findBarred 45 = .ok (.ifCond .ne 5, 3) := by decide +kernel
theorem dX2_findBarred_48 : decode cX2_findBarred 48 = .ok (.iload_n 3, 1) := by decide +kernel
theorem dX2_findBarred_49 : decode cX2_findBarred 49 = .ok (.istore_n 1, 1) := by decide +kernel
theorem dX2_findBarred_50 : decode cX2_findBarred 50 = .ok (.iinc 2 (-1), 3) := by decide +kernel
theorem dX2_findBarred_53 : decode cX2_findBarred 53 = .ok (.goto (-30), 3) := by decide +kernel
theorem dX2_findBarred_56 : decode cX2_findBarred 56 = .ok (.aload_n 0, 1) := by decide +kernel
theorem dX2_findBarred_57 : decode cX2_findBarred 57 = .ok (.iload_n 1, 1) := by decide +kernel
theorem dX2_findBarred_58 : decode cX2_findBarred 58 = .ok (.putfield 94, 3) := by decide +kernel
theorem dX2_findBarred_61 : decode cX2_findBarred 61 = .ok (.aload_n 0, 1) := by decide +kernel
theorem dX2_findBarred_62 : decode cX2_findBarred 62 = .ok (.iconst 1, 1) := by decide +kernel
theorem dX2_findBarred_63 : decode cX2_findBarred 63 = .ok (.putfield 41, 3) := by decide +kernel
theorem dX2_findBarred_66 : decode cX2_findBarred 66 = .ok (.return_, 1) := by decide +kernel
theorem dX2_allRows_0 : decode cX2_allRows 0 = .ok (.iconst 0, 1) := by decide +kernel
theorem dX2_allRows_1 : decode cX2_allRows 1 = .ok (.istore_n 1, 1) := by decide +kernel
theorem dX2_allRows_2 : decode cX2_allRows 2 = .ok (.iconst 0, 1) := by decide +kernel
theorem dX2_allRows_3 : decode cX2_allRows 3 = .ok (.istore_n 2, 1) := by decide +kernel
theorem dX2_allRows_4 : decode cX2_allRows 4 = .ok (.iload_n 2, 1) := by decide +kernel
theorem dX2_allRows_5 : decode cX2_allRows 5 = .ok (.aload_n 0, 1) := by decide +kernel
theorem dX2_allRows_6 : decode cX2_allRows 6 = .ok (.getfield 30, 3) := by decide +kernel
theorem dX2_allRows_9 : decode cX2_allRows 9 = .ok (.getfield 91, 3) := by decide +kernel
theorem dX2_allRows_12 : decode cX2_allRows 12 = .ok (.if_icmp .ge 27, 3) := by decide +kernel
theorem dX2_allRows_15 : decode cX2_allRows 15 = .ok (.aload_n 0, 1) := by decide +kernel
theorem dX2_allRows_16 : decode cX2_allRows 16 = .ok (.getfield 30, 3) := by decide +kernel
theorem dX2_allRows_19 : decode cX2_allRows 19 = .ok (.getfield 122, 3) := by decide +kernel
theorem dX2_allRows_22 : decode cX2_allRows 22 = .ok (.iload_n 2, 1) := by decide +kernel
theorem dX2_allRows_23 : decode cX2_allRows 23 = .ok (.baload, 1) := by decide +kernel
theorem dX2_allRows_24 : decode cX2_allRows 24 = .ok (.ifCond .eq 9, 3) := by decide +kernel
theorem dX2_allRows_27 : decode cX2_allRows 27 = .ok (.iload_n 1, 1) := by decide +kernel
theorem dX2_allRows_28 : decode cX2_allRows 28 = .ok (.iconst 1, 1) := by decide +kernel
theorem dX2_allRows_29 : decode cX2_allRows 29 = .ok (.iload_n 2, 1) := by decide +kernel
theorem dX2_allRows_30 : decode cX2_allRows 30 = .ok (.ishl, 1) := by decide +kernel
theorem dX2_allRows_31 : decode cX2_allRows 31 = .ok (.ior, 1) := by decide +kernel
theorem dX2_allRows_32 : decode cX2_allRows 32 = .ok (.istore_n 1, 1) := by decide +kernel
theorem dX2_allRows_33 : decode cX2_allRows 33 = .ok (.iinc 2 1, 3) := by decide +kernel
theorem dX2_allRows_36 : decode cX2_allRows 36 = .ok (.goto (-32), 3) := by decide +kernel
theorem dX2_allRows_39 : decode cX2_allRows 39 = .ok (.iload_n 1, 1) := by decide +kernel
theorem dX2_allRows_40 : decode cX2_allRows 40 = .ok (.ireturn, 1) := by decide +kernel
set_option maxRecDepth 20000 in
theorem ggX2_canKeep_X0_begin : GoodIn wsX2_canKeep wsX0_begin := goodIn_r _ [12, 13, 14, 15, 16, 17, 18, 19, 20, 21, 22, 23, 11, 24, 25, 101, 102, 103, 104, 105, 106, 107, 108, 109] rfl (by decide +kernel)
set_option maxRecDepth 20000 in
theorem gX2_canKeep_X0_begin : GoodIn wsX2_canKeep (wsV RX2 126 RX0 yX0_begin wsX0_begin) := goodIn_app (goodIn_of _ (by decide +kernel)) ggX2_canKeep_X0_begin
set_option maxRecDepth 20000 in
theorem ggX2_canKeep_X2_aimAt : GoodIn wsX2_canKeep wsX2_aimAt := goodIn_r _ [30, 4, 82, 83, 84, 85, 86, 87, 88, 89, 90, 91] rfl (by decide +kernel)
set_option maxRecDepth 20000 in
theorem gX2_canKeep_X2_aimAt : GoodIn wsX2_canKeep (wsV RX2 97 RX2 yX2_aimAt wsX2_aimAt) := goodIn_app (goodIn_of _ (by decide +kernel)) ggX2_canKeep_X2_aimAt
set_option maxRecDepth 20000 in
theorem ggX2_canKeep_X0_addAtMost : GoodIn wsX2_canKeep wsX0_addAtMost := goodIn_r _ [34, 18, 17, 35, 36, 37, 101, 102, 103, 104, 105, 106, 107, 108, 109] rfl (by decide +kernel)
set_option maxRecDepth 20000 in
theorem gX2_canKeep_X0_addAtMost : GoodIn wsX2_canKeep (wsV RX2 133 RX0 yX0_addAtMost wsX0_addAtMost) := goodIn_app (goodIn_of _ (by decide +kernel)) ggX2_canKeep_X0_addAtMost
set_option maxRecDepth 20000 in
theorem ggX2_canKeep_X2_addRow : GoodIn wsX2_canKeep wsX2_addRow := goodIn_r _ [41, 2, 42, 43, 3, 6, 1, 44, 45, 46, 47, 48, 49, 31, 32, 33, 11, 34, 18, 17, 35, 36, 37, 50, 51, 52, 53, 82, 83, 84, 85, 86, 87, 88, 89, 90, 91, 92, 93, 94, 95, 96, 97, 98, 99, 100, 101, 102, 103, 104, 105, 106, 107, 108, 109] rfl (by decide +kernel)
set_option maxRecDepth 20000 in
theorem gX2_canKeep_X2_addRow : GoodIn wsX2_canKeep (wsV RX2 137 RX2 yX2_addRow wsX2_addRow) := goodIn_app (goodIn_of _ (by decide +kernel)) ggX2_canKeep_X2_addRow
set_option maxRecDepth 20000 in
theorem ggX2_canKeep_X0_findPoint : GoodIn wsX2_canKeep wsX0_findPoint := goodIn_r _ [57, 58, 59, 60, 61, 11, 62, 18, 36, 37, 63, 64, 65, 66, 17, 35, 20, 67, 68, 69, 70, 19, 71, 72, 15, 73, 74, 75, 76, 77, 78, 79, 80, 81, 101, 102, 103, 104, 105, 106, 107, 108, 109] rfl (by decide +kernel)
set_option maxRecDepth 20000 in
theorem gX2_canKeep_X0_findPoint : GoodIn wsX2_canKeep (wsV RX2 140 RX0 yX0_findPoint wsX0_findPoint) := goodIn_app (goodIn_of _ (by decide +kernel)) ggX2_canKeep_X0_findPoint
theorem dX2_canKeep_0 : decode cX2_canKeep 0 = .ok (.aload_n 0, 1) := by decide +kernel
theorem dX2_canKeep_1 : decode cX2_canKeep 1 = .ok (.getfield 12, 3) := by decide +kernel
theorem dX2_canKeep_4 : decode cX2_canKeep 4 = .ok (.aload_n 0, 1) := by decide +kernel
theorem dX2_canKeep_5 : decode cX2_canKeep 5 = .ok (.getfield 30, 3) := by decide +kernel
theorem dX2_canKeep_8 : decode cX2_canKeep 8 = .ok (.getfield 58, 3) := by decide +kernel
theorem dX2_canKeep_11 : decode cX2_canKeep 11 = .ok (.invokevirtual 126, 3) := by decide +kernel
theorem dX2_canKeep_14 : decode cX2_canKeep 14 = .ok (.iconst 0, 1) := by decide +kernel
theorem dX2_canKeep_15 : decode cX2_canKeep 15 = .ok (.istore_n 2, 1) := by decide +kernel
theorem dX2_canKeep_16 : decode cX2_canKeep 16 = .ok (.iload_n 2, 1) := by decide +kernel
theorem dX2_canKeep_17 : decode cX2_canKeep 17 = .ok (.aload_n 0, 1) := by decide +kernel
theorem dX2_canKeep_18 : decode cX2_canKeep 18 = .ok (.getfield 30, 3) := by decide +kernel
theorem dX2_canKeep_21 : decode cX2_canKeep 21 = .ok (.getfield 58, 3) := by decide +kernel
theorem dX2_canKeep_24 : decode cX2_canKeep 24 = .ok (.if_icmp .ge 46, 3) := by decide +kernel
theorem dX2_canKeep_27 : decode cX2_canKeep 27 = .ok (.aload_n 0, 1) := by decide +kernel
theorem dX2_canKeep_28 : decode cX2_canKeep 28 = .ok (.iload_n 2, 1) := by decide +kernel
theorem dX2_canKeep_29 : decode cX2_canKeep 29 = .ok (.iconst 1, 1) := by decide +kernel
theorem dX2_canKeep_30 : decode cX2_canKeep 30 = .ok (.invokevirtual 97, 3) := by decide +kernel
theorem dX2_canKeep_33 : decode cX2_canKeep 33 = .ok (.aload_n 0, 1) := by decide +kernel
theorem dX2_canKeep_34 : decode cX2_canKeep 34 = .ok (.getfield 12, 3) := by decide +kernel
theorem dX2_canKeep_37 : decode cX2_canKeep 37 = .ok (.aload_n 0, 1) := by decide +kernel
theorem dX2_canKeep_38 : decode cX2_canKeep 38 = .ok (.getfield 18, 3) := by decide +kernel
theorem dX2_canKeep_41 : decode cX2_canKeep 41 = .ok (.iconst 1, 1) := by decide +kernel
theorem dX2_canKeep_42 : decode cX2_canKeep 42 = .ok (.aload_n 0, 1) := by decide +kernel
theorem dX2_canKeep_43 : decode cX2_canKeep 43 = .ok (.getfield 30, 3) := by decide +kernel
theorem dX2_canKeep_46 : decode cX2_canKeep 46 = .ok (.getfield 130, 3) := by decide +kernel
theorem dX2_canKeep_49 : decode cX2_canKeep 49 = .ok (.iload_n 2, 1) := by decide +kernel
theorem dX2_canKeep_50 : decode cX2_canKeep 50 = .ok (.iaload, 1) := by decide +kernel
theorem dX2_canKeep_51 : decode cX2_canKeep 51 = .ok (.aload_n 0, 1) := by decide +kernel
theorem dX2_canKeep_52 : decode cX2_canKeep 52 = .ok (.getfield 30, 3) := by decide +kernel
theorem dX2_canKeep_55 : decode cX2_canKeep 55 = .ok (.getfield 116, 3) := by decide +kernel
theorem dX2_canKeep_58 : decode cX2_canKeep 58 = .ok (.iload_n 2, 1) := by decide +kernel
theorem dX2_canKeep_59 : decode cX2_canKeep 59 = .ok (.iaload, 1) := by decide +kernel
theorem dX2_canKeep_60 : decode cX2_canKeep 60 = .ok (.isub, 1) := by decide +kernel
theorem dX2_canKeep_61 : decode cX2_canKeep 61 = .ok (.invokevirtual 133, 3) := by decide +kernel
theorem dX2_canKeep_64 : decode cX2_canKeep 64 = .ok (.iinc 2 1, 3) := by decide +kernel
theorem dX2_canKeep_67 : decode cX2_canKeep 67 = .ok (.goto (-51), 3) := by decide +kernel
theorem dX2_canKeep_70 : decode cX2_canKeep 70 = .ok (.iconst 0, 1) := by decide +kernel
theorem dX2_canKeep_71 : decode cX2_canKeep 71 = .ok (.istore_n 2, 1) := by decide +kernel
theorem dX2_canKeep_72 : decode cX2_canKeep 72 = .ok (.iload_n 2, 1) := by decide +kernel
theorem dX2_canKeep_73 : decode cX2_canKeep 73 = .ok (.aload_n 0, 1) := by decide +kernel
theorem dX2_canKeep_74 : decode cX2_canKeep 74 = .ok (.getfield 30, 3) := by decide +kernel
theorem dX2_canKeep_77 : decode cX2_canKeep 77 = .ok (.getfield 91, 3) := by decide +kernel
theorem dX2_canKeep_80 : decode cX2_canKeep 80 = .ok (.if_icmp .ge 22, 3) := by decide +kernel
theorem dX2_canKeep_83 : decode cX2_canKeep 83 = .ok (.iload_n 1, 1) := by decide +kernel
theorem dX2_canKeep_84 : decode cX2_canKeep 84 = .ok (.iconst 1, 1) := by decide +kernel
theorem dX2_canKeep_85 : decode cX2_canKeep 85 = .ok (.iload_n 2, 1) := by decide +kernel
theorem dX2_canKeep_86 : decode cX2_canKeep 86 = .ok (.ishl, 1) := by decide +kernel
theorem dX2_canKeep_87 : decode cX2_canKeep 87 = .ok (.iand, 1) := by decide +kernel
theorem dX2_canKeep_88 : decode cX2_canKeep 88 = .ok (.ifCond .eq 8, 3) := by decide +kernel
theorem dX2_canKeep_91 : decode cX2_canKeep 91 = .ok (.aload_n 0, 1) := by decide +kernel
theorem dX2_canKeep_92 : decode cX2_canKeep 92 = .ok (.iload_n 2, 1) := by decide +kernel
theorem dX2_canKeep_93 : decode cX2_canKeep 93 = .ok (.invokevirtual 137, 3) := by decide +kernel
theorem dX2_canKeep_96 : decode cX2_canKeep 96 = .ok (.iinc 2 1, 3) := by decide +kernel
theorem dX2_canKeep_99 : decode cX2_canKeep 99 = .ok (.goto (-27), 3) := by decide +kernel
theorem dX2_canKeep_102 : decode cX2_canKeep 102 = .ok (.aload_n 0, 1) := by decide +kernel
theorem dX2_canKeep_103 : decode cX2_canKeep 103 = .ok (.getfield 12, 3) := by decide +kernel
theorem dX2_canKeep_106 : decode cX2_canKeep 106 = .ok (.invokevirtual 140, 3) := by decide +kernel
theorem dX2_canKeep_109 : decode cX2_canKeep 109 = .ok (.ireturn, 1) := by decide +kernel
set_option maxRecDepth 20000 in
theorem ggX2_addRow_X1_limitsFromAbove : GoodIn wsX2_addRow wsX1_limitsFromAbove := goodIn_r _ [11, 12, 37, 38, 39, 40, 41, 42, 43, 44, 45] rfl (by decide +kernel)
set_option maxRecDepth 20000 in
theorem gX2_addRow_X1_limitsFromAbove : GoodIn wsX2_addRow (wsV RX2 144 RX1 yX1_limitsFromAbove wsX1_limitsFromAbove) := goodIn_app (goodIn_of _ (by decide +kernel)) ggX2_addRow_X1_limitsFromAbove
set_option maxRecDepth 20000 in
theorem ggX2_addRow_X0_addAtMost : GoodIn wsX2_addRow wsX0_addAtMost := goodIn_r _ [17, 18, 19, 20, 21, 22, 46, 47, 48, 49, 50, 51, 52, 53, 54] rfl (by decide +kernel)
set_option maxRecDepth 20000 in
theorem gX2_addRow_X0_addAtMost : GoodIn wsX2_addRow (wsV RX2 133 RX0 yX0_addAtMost wsX0_addAtMost) := goodIn_app (goodIn_of _ (by decide +kernel)) ggX2_addRow_X0_addAtMost
set_option maxRecDepth 20000 in
theorem ggX2_addRow_X1_limitsFromBelow : GoodIn wsX2_addRow wsX1_limitsFromBelow := goodIn_r _ [26, 12, 37, 38, 39, 40, 41, 42, 43, 44, 45] rfl (by decide +kernel)
set_option maxRecDepth 20000 in
theorem gX2_addRow_X1_limitsFromBelow : GoodIn wsX2_addRow (wsV RX2 147 RX1 yX1_limitsFromBelow wsX1_limitsFromBelow) := goodIn_app (goodIn_of _ (by decide +kernel)) ggX2_addRow_X1_limitsFromBelow
theorem dX2_addRow_0 : decode cX2_addRow 0 = .ok (.aload_n 0, 1) := by decide +kernel
theorem dX2_addRow_1 : decode cX2_addRow 1 = .ok (.getfield 30, 3) := by decide +kernel
theorem dX2_addRow_4 : decode cX2_addRow 4 = .ok (.getfield 71, 3) := by decide +kernel
theorem dX2_addRow_7 : decode cX2_addRow 7 = .ok (.iload_n 1, 1) := by decide +kernel
theorem dX2_addRow_8 : decode cX2_addRow 8 = .ok (.aaload, 1) := by decide +kernel
theorem dX2_addRow_9 : decode cX2_addRow 9 = .ok (.astore_n 2, 1) := by decide +kernel
theorem dX2_addRow_10 : decode cX2_addRow 10 = .ok (.aload_n 0, 1) := by decide +kernel
theorem dX2_addRow_11 : decode cX2_addRow 11 = .ok (.getfield 30, 3) := by decide +kernel
theorem dX2_addRow_14 : decode cX2_addRow 14 = .ok (.getfield 75, 3) := by decide +kernel
theorem dX2_addRow_17 : decode cX2_addRow 17 = .ok (.iload_n 1, 1) := by decide +kernel
theorem dX2_addRow_18 : decode cX2_addRow 18 = .ok (.iaload, 1) := by decide +kernel
theorem dX2_addRow_19 : decode cX2_addRow 19 = .ok (.istore_n 3, 1) := by decide +kernel
theorem dX2_addRow_20 : decode cX2_addRow 20 = .ok (.iconst 0, 1) := by decide +kernel
theorem dX2_addRow_21 : decode cX2_addRow 21 = .ok (.istore 4, 2) := by decide +kernel
theorem dX2_addRow_23 : decode cX2_addRow 23 = .ok (.iload 4, 2) := by decide +kernel
theorem dX2_addRow_25 : decode cX2_addRow 25 = .ok (.aload_n 0, 1) := by decide +kernel
theorem dX2_addRow_26 : decode cX2_addRow 26 = .ok (.getfield 30, 3) := by decide +kernel
theorem dX2_addRow_29 : decode cX2_addRow 29 = .ok (.getfield 58, 3) := by decide +kernel
theorem dX2_addRow_32 : decode cX2_addRow 32 = .ok (.if_icmp .ge 27, 3) := by decide +kernel
theorem dX2_addRow_35 : decode cX2_addRow 35 = .ok (.iload_n 3, 1) := by decide +kernel
theorem dX2_addRow_36 : decode cX2_addRow 36 = .ok (.aload_n 2, 1) := by decide +kernel
theorem dX2_addRow_37 : decode cX2_addRow 37 = .ok (.iload 4, 2) := by decide +kernel
theorem dX2_addRow_39 : decode cX2_addRow 39 = .ok (.iaload, 1) := by decide +kernel
theorem dX2_addRow_40 : decode cX2_addRow 40 = .ok (.aload_n 0, 1) := by decide +kernel
theorem dX2_addRow_41 : decode cX2_addRow 41 = .ok (.getfield 30, 3) := by decide +kernel
theorem dX2_addRow_44 : decode cX2_addRow 44 = .ok (.getfield 116, 3) := by decide +kernel
theorem dX2_addRow_47 : decode cX2_addRow 47 = .ok (.iload 4, 2) := by decide +kernel
theorem dX2_addRow_49 : decode cX2_addRow 49 = .ok (.iaload, 1) := by decide +kernel
theorem dX2_addRow_50 : decode cX2_addRow 50 = .ok (.imul, 1) := by decide +kernel
theorem dX2_addRow_51 : decode cX2_addRow 51 = .ok (.isub, 1) := by decide +kernel
theorem dX2_addRow_52 : decode cX2_addRow 52 = .ok (.istore_n 3, 1) := by decide +kernel
theorem dX2_addRow_53 : decode cX2_addRow 53 = .ok (.iinc 4 1, 3) := by decide +kernel
theorem dX2_addRow_56 : decode cX2_addRow 56 = .ok (.goto (-33), 3) := by decide +kernel
theorem dX2_addRow_59 : decode cX2_addRow 59 = .ok (.aload_n 0, 1) := by decide +kernel
theorem dX2_addRow_60 : decode cX2_addRow 60 = .ok (.getfield 30, 3) := by decide +kernel
theorem dX2_addRow_63 : decode cX2_addRow 63 = .ok (.iload_n 1, 1) := by decide +kernel
theorem dX2_addRow_64 : decode cX2_addRow 64 = .ok (.invokevirtual 144, 3) := by decide +kernel
theorem dX2_addRow_67 : decode cX2_addRow 67 = .ok (.ifCond .eq 13, 3) := by decide +kernel
theorem dX2_addRow_70 : decode cX2_addRow 70 = .ok (.aload_n 0, 1) := by decide +kernel
theorem dX2_addRow_71 : decode cX2_addRow 71 = .ok (.getfield 12, 3) := by decide +kernel
theorem dX2_addRow_74 : decode cX2_addRow 74 = .ok (.aload_n 2, 1) := by decide +kernel
theorem dX2_addRow_75 : decode cX2_addRow 75 = .ok (.iconst 1, 1) := by decide +kernel
theorem dX2_addRow_76 : decode cX2_addRow 76 = .ok (.iload_n 3, 1) := by decide +kernel
theorem dX2_addRow_77 : decode cX2_addRow 77 = .ok (.invokevirtual 133, 3) := by decide +kernel
theorem dX2_addRow_80 : decode cX2_addRow 80 = .ok (.aload_n 0, 1) := by decide +kernel
theorem dX2_addRow_81 : decode cX2_addRow 81 = .ok (.getfield 30, 3) := by decide +kernel
theorem dX2_addRow_84 : decode cX2_addRow 84 = .ok (.iload_n 1, 1) := by decide +kernel
theorem dX2_addRow_85 : decode cX2_addRow 85 = .ok (.invokevirtual 147, 3) := by decide +kernel
theorem dX2_addRow_88 : decode cX2_addRow 88 = .ok (.ifCond .eq 14, 3) := by decide +kernel
theorem dX2_addRow_91 : decode cX2_addRow 91 = .ok (.aload_n 0, 1) := by decide +kernel
theorem dX2_addRow_92 : decode cX2_addRow 92 = .ok (.getfield 12, 3) := by decide +kernel
theorem dX2_addRow_95 : decode cX2_addRow 95 = .ok (.aload_n 2, 1) := by decide +kernel
theorem dX2_addRow_96 : decode cX2_addRow 96 = .ok (.iconst (-1), 1) := by decide +kernel
theorem dX2_addRow_97 : decode cX2_addRow 97 = .ok (.iload_n 3, 1) := by decide +kernel
theorem dX2_addRow_98 : decode cX2_addRow 98 = .ok (.ineg, 1) := by decide +kernel
theorem dX2_addRow_99 : decode cX2_addRow 99 = .ok (.invokevirtual 133, 3) := by decide +kernel
theorem dX2_addRow_102 : decode cX2_addRow 102 = .ok (.return_, 1) := by decide +kernel
set_option maxRecDepth 20000 in
theorem ggX2_partOf_X2_greatestDivisor : GoodIn wsX2_partOf wsX2_greatestDivisor := goodIn_r _ [4, 5, 6, 7, 8] rfl (by decide +kernel)
set_option maxRecDepth 20000 in
theorem gX2_partOf_X2_greatestDivisor : GoodIn wsX2_partOf (va_wsS RX2 150 yX2_greatestDivisor wsX2_greatestDivisor) := goodIn_app (goodIn_of _ (by decide +kernel)) ggX2_partOf_X2_greatestDivisor
theorem dX2_partOf_0 : decode cX2_partOf 0 = .ok (.lload_n 0, 1) := by decide +kernel
theorem dX2_partOf_1 : decode cX2_partOf 1 = .ok (.lload_n 2, 1) := by decide +kernel
theorem dX2_partOf_2 : decode cX2_partOf 2 = .ok (.invokestatic 150, 3) := by decide +kernel
theorem dX2_partOf_5 : decode cX2_partOf 5 = .ok (.lstore 5, 2) := by decide +kernel
theorem dX2_partOf_7 : decode cX2_partOf 7 = .ok (.lload 5, 2) := by decide +kernel
theorem dX2_partOf_9 : decode cX2_partOf 9 = .ok (.lconst 0, 1) := by decide +kernel
theorem dX2_partOf_10 : decode cX2_partOf 10 = .ok (.lcmp, 1) := by decide +kernel
theorem dX2_partOf_11 : decode cX2_partOf 11 = .ok (.ifCond .ne 5, 3) := by decide +kernel
theorem dX2_partOf_14 : decode cX2_partOf 14 = .ok (.lconst 0, 1) := by decide +kernel
theorem dX2_partOf_15 : decode cX2_partOf 15 = .ok (.lreturn, 1) := by decide +kernel
theorem dX2_partOf_16 : decode cX2_partOf 16 = .ok (.iload 4, 2) := by decide +kernel
theorem dX2_partOf_18 : decode cX2_partOf 18 = .ok (.ifCond .ne 10, 3) := by decide +kernel
theorem dX2_partOf_21 : decode cX2_partOf 21 = .ok (.lload_n 0, 1) := by decide +kernel
theorem dX2_partOf_22 : decode cX2_partOf 22 = .ok (.lload 5, 2) := by decide +kernel
theorem dX2_partOf_24 : decode cX2_partOf 24 = .ok (.ldiv, 1) := by decide +kernel
theorem dX2_partOf_25 : decode cX2_partOf 25 = .ok (.goto 7, 3) := by decide +kernel
theorem dX2_partOf_28 : decode cX2_partOf 28 = .ok (.lload_n 2, 1) := by decide +kernel
theorem dX2_partOf_29 : decode cX2_partOf 29 = .ok (.lload 5, 2) := by decide +kernel
theorem dX2_partOf_31 : decode cX2_partOf 31 = .ok (.ldiv, 1) := by decide +kernel
theorem dX2_partOf_32 : decode cX2_partOf 32 = .ok (.lreturn, 1) := by decide +kernel
theorem dX2_greatestDivisor_0 : decode cX2_greatestDivisor 0 = .ok (.lload_n 0, 1) := by decide +kernel
theorem dX2_greatestDivisor_1 : decode cX2_greatestDivisor 1 = .ok (.invokestatic 154, 3) := by decide +kernel
theorem dX2_greatestDivisor_4 : decode cX2_greatestDivisor 4 = .ok (.lstore 4, 2) := by decide +kernel
theorem dX2_greatestDivisor_6 : decode cX2_greatestDivisor 6 = .ok (.lload_n 2, 1) := by decide +kernel
theorem dX2_greatestDivisor_7 : decode cX2_greatestDivisor 7 = .ok (.invokestatic 154, 3) := by decide +kernel
theorem dX2_greatestDivisor_10 : decode cX2_greatestDivisor 10 = .ok (.lstore 6, 2) := by decide +kernel
theorem dX2_greatestDivisor_12 : decode cX2_greatestDivisor 12 = .ok (.iconst 0, 1) := by decide +kernel
theorem dX2_greatestDivisor_13 : decode cX2_greatestDivisor 13 = .ok (.istore 8, 2) := by decide +kernel
theorem dX2_greatestDivisor_15 : decode cX2_greatestDivisor 15 = .ok (.iload 8, 2) := by decide +kernel
theorem dX2_greatestDivisor_17 : decode cX2_greatestDivisor 17 = .ok (.sipush 200, 3) := by decide +kernel
theorem dX2_greatestDivisor_20 : decode cX2_greatestDivisor 20 = .ok (.if_icmp .ge 31, 3) := by decide +kernel
theorem dX2_greatestDivisor_23 : decode cX2_greatestDivisor 23 = .ok (.lload 6, 2) := by decide +kernel
theorem dX2_greatestDivisor_25 : decode cX2_greatestDivisor 25 = .ok (.lconst 0, 1) := by decide +kernel
theorem dX2_greatestDivisor_26 : decode cX2_greatestDivisor 26 = .ok (.lcmp, 1) := by decide +kernel
theorem dX2_greatestDivisor_27 : decode cX2_greatestDivisor 27 = .ok (.ifCond .eq 24, 3) := by decide +kernel
theorem dX2_greatestDivisor_30 : decode cX2_greatestDivisor 30 = .ok (.lload 4, 2) := by decide +kernel
theorem dX2_greatestDivisor_32 : decode cX2_greatestDivisor 32 = .ok (.lload 6, 2) := by decide +kernel
theorem dX2_greatestDivisor_34 : decode cX2_greatestDivisor 34 = .ok (.lrem, 1) := by decide +kernel
theorem dX2_greatestDivisor_35 : decode cX2_greatestDivisor 35 = .ok (.lstore 9, 2) := by decide +kernel
theorem dX2_greatestDivisor_37 : decode cX2_greatestDivisor 37 = .ok (.lload 6, 2) := by decide +kernel
theorem dX2_greatestDivisor_39 : decode cX2_greatestDivisor 39 = .ok (.lstore 4, 2) := by decide +kernel
theorem dX2_greatestDivisor_41 : decode cX2_greatestDivisor 41 = .ok (.lload 9, 2) := by decide +kernel
theorem dX2_greatestDivisor_43 : decode cX2_greatestDivisor 43 = .ok (.lstore 6, 2) := by decide +kernel
theorem dX2_greatestDivisor_45 : decode cX2_greatestDivisor 45 = .ok (.iinc 8 1, 3) := by decide +kernel
theorem dX2_greatestDivisor_48 : decode cX2_greatestDivisor 48 = .ok (.goto (-33), 3) := by decide +kernel
theorem dX2_greatestDivisor_51 : decode cX2_greatestDivisor 51 = .ok (.lload 4, 2) := by decide +kernel
theorem dX2_greatestDivisor_53 : decode cX2_greatestDivisor 53 = .ok (.lreturn, 1) := by decide +kernel
theorem dX3_init_0 : decode cX3_init 0 = .ok (.aload_n 0, 1) := by decide +kernel
theorem dX3_init_1 : decode cX3_init 1 = .ok (.invokespecial 3, 3) := by decide +kernel
theorem dX3_init_4 : decode cX3_init 4 = .ok (.aload_n 0, 1) := by decide +kernel
theorem dX3_init_5 : decode cX3_init 5 = .ok (.iconst 5, 1) := by decide +kernel
theorem dX3_init_6 : decode cX3_init 6 = .ok (.newarray .int, 2) := by decide +kernel
theorem dX3_init_8 : decode cX3_init 8 = .ok (.putfield 9, 3) := by decide +kernel
theorem dX3_init_11 : decode cX3_init 11 = .ok (.aload_n 0, 1) := by decide +kernel
theorem dX3_init_12 : decode cX3_init 12 = .ok (.iconst 5, 1) := by decide +kernel
theorem dX3_init_13 : decode cX3_init 13 = .ok (.newarray .int, 2) := by decide +kernel
theorem dX3_init_15 : decode cX3_init 15 = .ok (.putfield 15, 3) := by decide +kernel
theorem dX3_init_18 : decode cX3_init 18 = .ok (.aload_n 0, 1) := by decide +kernel
theorem dX3_init_19 : decode cX3_init 19 = .ok (.iconst 5, 1) := by decide +kernel
theorem dX3_init_20 : decode cX3_init 20 = .ok (.newarray .int, 2) := by decide +kernel
theorem dX3_init_22 : decode cX3_init 22 = .ok (.putfield 18, 3) := by decide +kernel
theorem dX3_init_25 : decode cX3_init 25 = .ok (.aload_n 0, 1) := by decide +kernel
theorem dX3_init_26 : decode cX3_init 26 = .ok (.bipush 6, 2) := by decide +kernel
theorem dX3_init_28 : decode cX3_init 28 = .ok (.bipush 9, 2) := by decide +kernel
theorem dX3_init_30 : decode cX3_init 30 = .ok (.multianewarray 21 2, 4) := by decide +kernel
theorem dX3_init_34 : decode cX3_init 34 = .ok (.putfield 23, 3) := by decide +kernel
theorem dX3_init_37 : decode cX3_init 37 = .ok (.aload_n 0, 1) := by decide +kernel
theorem dX3_init_38 : decode cX3_init 38 = .ok (.bipush 6, 2) := by decide +kernel
theorem dX3_init_40 : decode cX3_init 40 = .ok (.bipush 9, 2) := by decide +kernel
theorem dX3_init_42 : decode cX3_init 42 = .ok (.multianewarray 21 2, 4) := by decide +kernel
theorem dX3_init_46 : decode cX3_init 46 = .ok (.putfield 26, 3) := by decide +kernel
theorem dX3_init_49 : decode cX3_init 49 = .ok (.aload_n 0, 1) := by decide +kernel
theorem dX3_init_50 : decode cX3_init 50 = .ok (.bipush 6, 2) := by decide +kernel
theorem dX3_init_52 : decode cX3_init 52 = .ok (.bipush 9, 2) := by decide +kernel
theorem dX3_init_54 : decode cX3_init 54 = .ok (.multianewarray 21 2, 4) := by decide +kernel
theorem dX3_init_58 : decode cX3_init 58 = .ok (.putfield 29, 3) := by decide +kernel
theorem dX3_init_61 : decode cX3_init 61 = .ok (.aload_n 0, 1) := by decide +kernel
theorem dX3_init_62 : decode cX3_init 62 = .ok (.aload_n 1, 1) := by decide +kernel
theorem dX3_init_63 : decode cX3_init 63 = .ok (.putfield 32, 3) := by decide +kernel
theorem dX3_init_66 : decode cX3_init 66 = .ok (.return_, 1) := by decide +kernel
theorem dX3_forget_0 : decode cX3_forget 0 = .ok (.aload_n 0, 1) := by decide +kernel
theorem dX3_forget_1 : decode cX3_forget 1 = .ok (.iconst 0, 1) := by decide +kernel
theorem dX3_forget_2 : decode cX3_forget 2 = .ok (.putfield 36, 3) := by decide +kernel
theorem dX3_forget_5 : decode cX3_forget 5 = .ok (.return_, 1) := by decide +kernel
set_option maxRecDepth 20000 in
theorem ggX3_hasPoint_X3_weighOthers : GoodIn wsX3_hasPoint wsX3_weighOthers := goodIn_r _ [12, 4, 5, 13, 14, 15, 16, 17, 18, 19, 20, 21, 22, 23, 24, 25, 26, 27, 11, 28, 29, 30, 87, 88, 89, 90, 91, 92, 93, 94, 95, 96, 97, 98, 99, 100, 101, 102, 103, 104, 105] rfl (by decide +kernel)
set_option maxRecDepth 20000 in
theorem gX3_hasPoint_X3_weighOthers : GoodIn wsX3_hasPoint (wsV RX3 43 RX3 yX3_weighOthers wsX3_weighOthers) := goodIn_app (goodIn_of _ (by decide +kernel)) ggX3_hasPoint_X3_weighOthers
set_option maxRecDepth 20000 in
theorem ggX3_hasPoint_X3_openName : GoodIn wsX3_hasPoint wsX3_openName := goodIn_r _ [34, 4, 5, 6, 16, 7, 17, 35, 2, 36, 13, 14, 29, 37, 38, 39, 40, 41, 42, 43, 44, 45, 46, 11, 47, 30, 48, 15, 49, 50, 51, 52, 53, 54, 55, 56, 57, 18, 19, 20, 21, 22, 23, 24, 58, 59, 60, 61, 62, 63, 64, 65, 66, 67, 68, 69, 87, 88, 89, 90, 91, 92, 93, 94, 95, 96, 97, 98, 99, 100, 101, 102, 103, 104, 105] rfl (by decide +kernel)
set_option maxRecDepth 20000 in
theorem gX3_hasPoint_X3_openName : GoodIn wsX3_hasPoint (wsV RX3 46 RX3 yX3_openName wsX3_openName) := goodIn_app (goodIn_of _ (by decide +kernel)) ggX3_hasPoint_X3_openName
set_option maxRecDepth 20000 in
theorem ggX3_hasPoint_X3_takePoint : GoodIn wsX3_hasPoint wsX3_takePoint := goodIn_r _ [73, 4, 5, 2, 13, 36, 74, 6, 75, 76, 77, 11, 78, 35, 48, 37, 38, 39, 40, 41, 42, 43, 49, 50, 51, 52, 53, 62, 63, 64, 65, 79, 80, 81, 82, 14, 87, 88, 89, 90, 91, 92, 93, 94, 95, 96, 97, 98, 99, 100, 101, 102, 103, 104, 105] rfl (by decide +kernel)
set_option maxRecDepth 20000 in
theorem gX3_hasPoint_X3_takePoint : GoodIn wsX3_hasPoint (wsV RX3 57 RX3 yX3_takePoint wsX3_takePoint) := goodIn_app (goodIn_of _ (by decide +kernel)) ggX3_hasPoint_X3_takePoint
set_option maxRecDepth 20000 in
theorem ggX3_hasPoint_X3_addUp : GoodIn wsX3_hasPoint wsX3_addUp := goodIn_r _ [86, 4, 35, 13, 30, 6, 29, 87, 88, 89, 90, 91, 92, 93, 94, 95, 96, 97, 98, 99, 100, 101, 102, 103, 104, 105] rfl (by decide +kernel)
set_option maxRecDepth 20000 in
theorem gX3_hasPoint_X3_addUp : GoodIn wsX3_hasPoint (wsV RX3 60 RX3 yX3_addUp wsX3_addUp) := goodIn_app (goodIn_of _ (by decide +kernel)) ggX3_hasPoint_X3_addUp
set_option maxRecDepth 20000 in
theorem ggX3_hasPoint_X3_mayBeCheaper : GoodIn wsX3_hasPoint wsX3_mayBeCheaper := goodIn_r _ [82, 2, 13, 14, 36, 87, 88, 89, 90, 91, 92, 93, 94, 95, 96] rfl (by decide +kernel)
set_option maxRecDepth 20000 in
theorem gX3_hasPoint_X3_mayBeCheaper : GoodIn wsX3_hasPoint (wsV RX3 63 RX3 yX3_mayBeCheaper wsX3_mayBeCheaper) := goodIn_app (goodIn_of _ (by decide +kernel)) ggX3_hasPoint_X3_mayBeCheaper
theorem dX3_hasPoint_0 : decode cX3_hasPoint 0 = .ok (.aload_n 0, 1) := by decide +kernel
theorem dX3_hasPoint_1 : decode cX3_hasPoint 1 = .ok (.getfield 36, 3) := by decide +kernel
theorem dX3_hasPoint_4 : decode cX3_hasPoint 4 = .ok (.ifCond .eq 8, 3) := by decide +kernel
theorem dX3_hasPoint_7 : decode cX3_hasPoint 7 = .ok (.aload_n 0, 1) := by decide +kernel
theorem dX3_hasPoint_8 : decode cX3_hasPoint 8 = .ok (.getfield 40, 3) := by decide +kernel
theorem dX3_hasPoint_11 : decode cX3_hasPoint 11 = .ok (.ireturn, 1) := by decide +kernel
theorem dX3_hasPoint_12 : decode cX3_hasPoint 12 = .ok (.aload_n 0, 1) := by decide +kernel
theorem dX3_hasPoint_13 : decode cX3_hasPoint 13 = .ok (.iconst 0, 1) := by decide +kernel
theorem dX3_hasPoint_14 : decode cX3_hasPoint 14 = .ok (.putfield 40, 3) := by decide +kernel
theorem dX3_hasPoint_17 : decode cX3_hasPoint 17 = .ok (.aload_n 0, 1) := by decide +kernel
theorem dX3_hasPoint_18 : decode cX3_hasPoint 18 = .ok (.iconst 1, 1) := by decide +kernel
theorem dX3_hasPoint_19 : decode cX3_hasPoint 19 = .ok (.putfield 36, 3) := by decide +kernel
theorem dX3_hasPoint_22 : decode cX3_hasPoint 22 = .ok (.aload_n 0, 1) := by decide +kernel
theorem dX3_hasPoint_23 : decode cX3_hasPoint 23 = .ok (.invokevirtual 43, 3) := by decide +kernel
theorem dX3_hasPoint_26 : decode cX3_hasPoint 26 = .ok (.iconst 0, 1) := by decide +kernel
theorem dX3_hasPoint_27 : decode cX3_hasPoint 27 = .ok (.istore_n 1, 1) := by decide +kernel
theorem dX3_hasPoint_28 : decode cX3_hasPoint 28 = .ok (.aload_n 0, 1) := by decide +kernel
theorem dX3_hasPoint_29 : decode cX3_hasPoint 29 = .ok (.iload_n 1, 1) := by decide +kernel
theorem dX3_hasPoint_30 : decode cX3_hasPoint 30 = .ok (.invokevirtual 46, 3) := by decide +kernel
theorem dX3_hasPoint_33 : decode cX3_hasPoint 33 = .ok (.iconst 0, 1) := by decide +kernel
theorem dX3_hasPoint_34 : decode cX3_hasPoint 34 = .ok (.istore_n 2, 1) := by decide +kernel
theorem dX3_hasPoint_35 : decode cX3_hasPoint 35 = .ok (.iload_n 2, 1) := by decide +kernel
theorem dX3_hasPoint_36 : decode cX3_hasPoint 36 = .ok (.ldc 50, 2) := by decide +kernel
theorem dX3_hasPoint_38 : decode cX3_hasPoint 38 = .ok (.if_icmp .ge 88, 3) := by decide +kernel
theorem dX3_hasPoint_41 : decode cX3_hasPoint 41 = .ok (.iload_n 1, 1) := by decide +kernel
theorem dX3_hasPoint_42 : decode cX3_hasPoint 42 = .ok (.ifCond .lt 84, 3) := by decide +kernel
theorem dX3_hasPoint_45 : decode cX3_hasPoint 45 = .ok (.iload_n 1, 1) := by decide +kernel
theorem dX3_hasPoint_46 : decode cX3_hasPoint 46 = .ok (.aload_n 0, 1) := by decide +kernel
theorem dX3_hasPoint_47 : decode cX3_hasPoint 47 = .ok (.getfield 32, 3) := by decide +kernel
theorem dX3_hasPoint_50 : decode cX3_hasPoint 50 = .ok (.getfield 51, 3) := by decide +kernel
theorem dX3_hasPoint_53 : decode cX3_hasPoint 53 = .ok (.if_icmp .lt 13, 3) := by decide +kernel
theorem dX3_hasPoint_56 : decode cX3_hasPoint 56 = .ok (.aload_n 0, 1) := by decide +kernel
theorem dX3_hasPoint_57 : decode cX3_hasPoint 57 = .ok (.invokevirtual 57, 3) := by decide +kernel
theorem dX3_hasPoint_60 : decode cX3_hasPoint 60 = .ok (.iinc 1 (-1), 3) := by decide +kernel
theorem dX3_hasPoint_63 : decode cX3_hasPoint 63 = .ok (.goto 57, 3) := by decide +kernel
theorem dX3_hasPoint_66 : decode cX3_hasPoint 66 = .ok (.aload_n 0, 1) := by decide +kernel
theorem dX3_hasPoint_67 : decode cX3_hasPoint 67 = .ok (.getfield 9, 3) := by decide +kernel
theorem dX3_hasPoint_70 : decode cX3_hasPoint 70 = .ok (.iload_n 1, 1) := by decide +kernel
theorem dX3_hasPoint_71 : decode cX3_hasPoint 71 = .ok (.iaload, 1) := by decide +kernel
theorem dX3_hasPoint_72 : decode cX3_hasPoint 72 = .ok (.aload_n 0, 1) := by decide +kernel
theorem dX3_hasPoint_73 : decode cX3_hasPoint 73 = .ok (.getfield 15, 3) := by decide +kernel
theorem dX3_hasPoint_76 : decode cX3_hasPoint 76 = .ok (.iload_n 1, 1) := by decide +kernel
theorem dX3_hasPoint_77 : decode cX3_hasPoint 77 = .ok (.iaload, 1) := by decide +kernel
theorem dX3_hasPoint_78 : decode cX3_hasPoint 78 = .ok (.if_icmp .lt 9, 3) := by decide +kernel
theorem dX3_hasPoint_81 : decode cX3_hasPoint 81 = .ok (.iinc 1 (-1), 3) := by decide +kernel
theorem dX3_hasPoint_84 : decode cX3_hasPoint 84 = .ok (.goto 36, 3) := by decide +kernel
theorem dX3_hasPoint_87 : decode cX3_hasPoint 87 = .ok (.aload_n 0, 1) := by decide +kernel
theorem dX3_hasPoint_88 : decode cX3_hasPoint 88 = .ok (.getfield 9, 3) := by decide +kernel
theorem dX3_hasPoint_91 : decode cX3_hasPoint 91 = .ok (.iload_n 1, 1) := by decide +kernel
theorem dX3_hasPoint_92 : decode cX3_hasPoint 92 = .ok (.dup2, 1) := by decide +kernel
theorem dX3_hasPoint_93 : decode cX3_hasPoint 93 = .ok (.iaload, 1) := by decide +kernel
theorem dX3_hasPoint_94 : decode cX3_hasPoint 94 = .ok (.iconst 1, 1) := by decide +kernel
theorem dX3_hasPoint_95 : decode cX3_hasPoint 95 = .ok (.iadd, 1) := by decide +kernel
theorem dX3_hasPoint_96 : decode cX3_hasPoint 96 = .ok (.iastore, 1) := by decide +kernel
theorem dX3_hasPoint_97 : decode cX3_hasPoint 97 = .ok (.aload_n 0, 1) := by decide +kernel
theorem dX3_hasPoint_98 : decode cX3_hasPoint 98 = .ok (.iload_n 1, 1) := by decide +kernel
theorem dX3_hasPoint_99 : decode cX3_hasPoint 99 = .ok (.invokevirtual 60, 3) := by decide +kernel
theorem dX3_hasPoint_102 : decode cX3_hasPoint 102 = .ok (.aload_n 0, 1) := by decide +kernel
theorem dX3_hasPoint_103 : decode cX3_hasPoint 103 = .ok (.iload_n 1, 1) := by decide +kernel
theorem dX3_hasPoint_104 : decode cX3_hasPoint 104 = .ok (.iconst 1, 1) := by decide +kernel
theorem dX3_hasPoint_105 : decode cX3_hasPoint 105 = .ok (.iadd, 1) := by decide +kernel
theorem dX3_hasPoint_106 : decode cX3_hasPoint 106 = .ok (.invokevirtual 63, 3) := by decide +kernel
theorem dX3_hasPoint_109 : decode cX3_hasPoint 109 = .ok (.ifCond .eq 11, 3) := by decide +kernel
theorem dX3_hasPoint_112 : decode cX3_hasPoint 112 = .ok (.iinc 1 1, 3) := by decide +kernel
theorem dX3_hasPoint_115 : decode cX3_hasPoint 115 = .ok (.aload_n 0, 1) := by decide +kernel
theorem dX3_hasPoint_116 : decode cX3_hasPoint 116 = .ok (.iload_n 1, 1) := by decide +kernel
theorem dX3_hasPoint_117 : decode cX3_hasPoint 117 = .ok (.invokevirtual 46, 3) := by decide +kernel
theorem dX3_hasPoint_120 : decode cX3_hasPoint 120 = .ok (.iinc 2 1, 3) := by decide +kernel
theorem dX3_hasPoint_123 : decode cX3_hasPoint 123 = .ok (.goto (-88), 3) := by decide +kernel
theorem dX3_hasPoint_126 : decode cX3_hasPoint 126 = .ok (.aload_n 0, 1) := by decide +kernel
theorem dX3_hasPoint_127 : decode cX3_hasPoint 127 = .ok (.getfield 40, 3) := by decide +kernel
theorem dX3_hasPoint_130 : decode cX3_hasPoint 130 = .ok (.ireturn, 1) := by decide +kernel
theorem dX3_leastCost_0 : decode cX3_leastCost 0 = .ok (.aload_n 0, 1) := by decide +kernel
theorem dX3_leastCost_1 : decode cX3_leastCost 1 = .ok (.getfield 67, 3) := by decide +kernel
theorem dX3_leastCost_4 : decode cX3_leastCost 4 = .ok (.ireturn, 1) := by decide +kernel
theorem dX3_firstBestOf_0 : decode cX3_firstBestOf 0 = .ok (.aload_n 0, 1) := by decide +kernel
theorem dX3_firstBestOf_1 : decode cX3_firstBestOf 1 = .ok (.getfield 18, 3) := by decide +kernel
theorem dX3_firstBestOf_4 : decode cX3_firstBestOf 4 = .ok (.iload_n 1, 1) := by decide +kernel
theorem dX3_firstBestOf_5 : decode cX3_firstBestOf 5 = .ok (.iaload, 1) := by decide +kernel
theorem dX3_firstBestOf_6 : decode cX3_firstBestOf 6 = .ok (.ireturn, 1) := by decide +kernel
set_option maxRecDepth 20000 in
theorem ggX3_weighOthers_X3_weight : GoodIn wsX3_weighOthers wsX3_weight := goodIn_r _ [19, 1, 20, 21, 22, 23, 24, 25, 26, 27, 28, 29, 30, 31, 32, 33, 34, 35, 36, 37, 38, 39, 40] rfl (by decide +kernel)
set_option maxRecDepth 20000 in
theorem gX3_weighOthers_X3_weight : GoodIn wsX3_weighOthers (wsV RX3 70 RX3 yX3_weight wsX3_weight) := goodIn_app (goodIn_of _ (by decide +kernel)) ggX3_weighOthers_X3_weight
theorem dX3_weighOthers_0 : decode cX3_weighOthers 0 = .ok (.aload_n 0, 1) := by decide +kernel
theorem dX3_weighOthers_1 : decode cX3_weighOthers 1 = .ok (.getfield 32, 3) := by decide +kernel
theorem dX3_weighOthers_4 : decode cX3_weighOthers 4 = .ok (.getfield 51, 3) := by decide +kernel
theorem dX3_weighOthers_7 : decode cX3_weighOthers 7 = .ok (.istore_n 1, 1) := by decide +kernel
theorem dX3_weighOthers_8 : decode cX3_weighOthers 8 = .ok (.iconst 0, 1) := by decide +kernel
theorem dX3_weighOthers_9 : decode cX3_weighOthers 9 = .ok (.istore_n 2, 1) := by decide +kernel
theorem dX3_weighOthers_10 : decode cX3_weighOthers 10 = .ok (.iload_n 2, 1) := by decide +kernel
theorem dX3_weighOthers_11 : decode cX3_weighOthers 11 = .ok (.bipush 9, 2) := by decide +kernel
theorem dX3_weighOthers_13 : decode cX3_weighOthers 13 = .ok (.if_icmp .ge 138, 3) := by decide +kernel
theorem dX3_weighOthers_16 : decode cX3_weighOthers 16 = .ok (.aload_n 0, 1) := by decide +kernel
theorem dX3_weighOthers_17 : decode cX3_weighOthers 17 = .ok (.getfield 23, 3) := by decide +kernel
theorem dX3_weighOthers_20 : decode cX3_weighOthers 20 = .ok (.iconst 0, 1) := by decide +kernel
theorem dX3_weighOthers_21 : decode cX3_weighOthers 21 = .ok (.aaload, 1) := by decide +kernel
theorem dX3_weighOthers_22 : decode cX3_weighOthers 22 = .ok (.iload_n 2, 1) := by decide +kernel
theorem dX3_weighOthers_23 : decode cX3_weighOthers 23 = .ok (.iconst 0, 1) := by decide +kernel
theorem dX3_weighOthers_24 : decode cX3_weighOthers 24 = .ok (.iastore, 1) := by decide +kernel
theorem dX3_weighOthers_25 : decode cX3_weighOthers 25 = .ok (.aload_n 0, 1) := by decide +kernel
theorem dX3_weighOthers_26 : decode cX3_weighOthers 26 = .ok (.getfield 26, 3) := by decide +kernel
theorem dX3_weighOthers_29 : decode cX3_weighOthers 29 = .ok (.iload_n 1, 1) := by decide +kernel
theorem dX3_weighOthers_30 : decode cX3_weighOthers 30 = .ok (.aaload, 1) := by decide +kernel
theorem dX3_weighOthers_31 : decode cX3_weighOthers 31 = .ok (.iload_n 2, 1) := by decide +kernel
theorem dX3_weighOthers_32 : decode cX3_weighOthers 32 = .ok (.iconst 0, 1) := by decide +kernel
theorem dX3_weighOthers_33 : decode cX3_weighOthers 33 = .ok (.iastore, 1) := by decide +kernel
theorem dX3_weighOthers_34 : decode cX3_weighOthers 34 = .ok (.aload_n 0, 1) := by decide +kernel
theorem dX3_weighOthers_35 : decode cX3_weighOthers 35 = .ok (.getfield 29, 3) := by decide +kernel
theorem dX3_weighOthers_38 : decode cX3_weighOthers 38 = .ok (.iload_n 1, 1) := by decide +kernel
theorem dX3_weighOthers_39 : decode cX3_weighOthers 39 = .ok (.aaload, 1) := by decide +kernel
theorem dX3_weighOthers_40 : decode cX3_weighOthers 40 = .ok (.iload_n 2, 1) := by decide +kernel
theorem dX3_weighOthers_41 : decode cX3_weighOthers 41 = .ok (.iconst 0, 1) := by decide +kernel
theorem dX3_weighOthers_42 : decode cX3_weighOthers 42 = .ok (.iastore, 1) := by decide +kernel
theorem dX3_weighOthers_43 : decode cX3_weighOthers 43 = .ok (.iload_n 1, 1) := by decide +kernel
theorem dX3_weighOthers_44 : decode cX3_weighOthers 44 = .ok (.iconst 1, 1) := by decide +kernel
theorem dX3_weighOthers_45 : decode cX3_weighOthers 45 = .ok (.isub, 1) := by decide +kernel
theorem dX3_weighOthers_46 : decode cX3_weighOthers 46 = .ok (.istore_n 3, 1) := by decide +kernel
theorem dX3_weighOthers_47 : decode cX3_weighOthers 47 = .ok (.iload_n 3, 1) := by decide +kernel
theorem dX3_weighOthers_48 : decode cX3_weighOthers 48 = .ok (.ifCond .lt 97, 3) := by decide +kernel
theorem dX3_weighOthers_51 : decode cX3_weighOthers 51 = .ok (.aload_n 0, 1) := by decide +kernel
theorem dX3_weighOthers_52 : decode cX3_weighOthers 52 = .ok (.iload_n 2, 1) := by decide +kernel
theorem dX3_weighOthers_53 : decode cX3_weighOthers 53 = .ok (.iload_n 3, 1) := by decide +kernel
theorem dX3_weighOthers_54 : decode cX3_weighOthers 54 = .ok (.invokevirtual 70, 3) := by decide +kernel
theorem dX3_weighOthers_57 : decode cX3_weighOthers 57 = .ok (.aload_n 0, 1) := by decide +kernel
theorem dX3_weighOthers_58 : decode cX3_weighOthers 58 = .ok (.getfield 32, 3) := by decide +kernel
theorem dX3_weighOthers_61 : decode cX3_weighOthers 61 = .ok (.getfield 74, 3) := by decide +kernel
theorem dX3_weighOthers_64 : decode cX3_weighOthers 64 = .ok (.iload_n 3, 1) := by decide +kernel
theorem dX3_weighOthers_65 : decode cX3_weighOthers 65 = .ok (.iaload, 1) := by decide +kernel
theorem dX3_weighOthers_66 : decode cX3_weighOthers 66 = .ok (.imul, 1) := by decide +kernel
theorem dX3_weighOthers_67 : decode cX3_weighOthers 67 = .ok (.istore 4, 2) := by decide +kernel
theorem dX3_weighOthers_69 : decode cX3_weighOthers 69 = .ok (.aload_n 0, 1) := by decide +kernel
theorem dX3_weighOthers_70 : decode cX3_weighOthers 70 = .ok (.iload_n 2, 1) := by decide +kernel
theorem dX3_weighOthers_71 : decode cX3_weighOthers 71 = .ok (.iload_n 3, 1) := by decide +kernel
theorem dX3_weighOthers_72 : decode cX3_weighOthers 72 = .ok (.invokevirtual 70, 3) := by decide +kernel
theorem dX3_weighOthers_75 : decode cX3_weighOthers 75 = .ok (.aload_n 0, 1) := by decide +kernel
theorem dX3_weighOthers_76 : decode cX3_weighOthers 76 = .ok (.getfield 32, 3) := by decide +kernel
theorem dX3_weighOthers_79 : decode cX3_weighOthers 79 = .ok (.getfield 77, 3) := by decide +kernel
theorem dX3_weighOthers_82 : decode cX3_weighOthers 82 = .ok (.iload_n 3, 1) := by decide +kernel
theorem dX3_weighOthers_83 : decode cX3_weighOthers 83 = .ok (.iaload, 1) := by decide +kernel
theorem dX3_weighOthers_84 : decode cX3_weighOthers 84 = .ok (.imul, 1) := by decide +kernel
theorem dX3_weighOthers_85 : decode cX3_weighOthers 85 = .ok (.istore 5, 2) := by decide +kernel
theorem dX3_weighOthers_87 : decode cX3_weighOthers 87 = .ok (.aload_n 0, 1) := by decide +kernel
theorem dX3_weighOthers_88 : decode cX3_weighOthers 88 = .ok (.getfield 26, 3) := by decide +kernel
theorem dX3_weighOthers_91 : decode cX3_weighOthers 91 = .ok (.iload_n 3, 1) := by decide +kernel
theorem dX3_weighOthers_92 : decode cX3_weighOthers 92 = .ok (.aaload, 1) := by decide +kernel
theorem dX3_weighOthers_93 : decode cX3_weighOthers 93 = .ok (.iload_n 2, 1) := by decide +kernel
theorem dX3_weighOthers_94 : decode cX3_weighOthers 94 = .ok (.aload_n 0, 1) := by decide +kernel
theorem dX3_weighOthers_95 : decode cX3_weighOthers 95 = .ok (.getfield 26, 3) := by decide +kernel
theorem dX3_weighOthers_98 : decode cX3_weighOthers 98 = .ok (.iload_n 3, 1) := by decide +kernel
theorem dX3_weighOthers_99 : decode cX3_weighOthers 99 = .ok (.iconst 1, 1) := by decide +kernel
theorem dX3_weighOthers_100 : decode cX3_weighOthers 100 = .ok (.iadd, 1) := by decide +kernel
theorem dX3_weighOthers_101 : decode cX3_weighOthers 101 = .ok (.aaload, 1) := by decide +kernel
theorem dX3_weighOthers_102 : decode cX3_weighOthers 102 = .ok (.iload_n 2, 1) := by decide +kernel
theorem dX3_weighOthers_103 : decode cX3_weighOthers 103 = .ok (.iaload, 1) := by decide +kernel
theorem dX3_weighOthers_104 : decode cX3_weighOthers 104 = .ok (.iload 4, 2) := by decide +kernel
theorem dX3_weighOthers_106 : decode cX3_weighOthers 106 = .ok (.iload 5, 2) := by decide +kernel
theorem dX3_weighOthers_108 : decode cX3_weighOthers 108 = .ok (.invokestatic 80, 3) := by decide +kernel
theorem dX3_weighOthers_111 : decode cX3_weighOthers 111 = .ok (.iadd, 1) := by decide +kernel
theorem dX3_weighOthers_112 : decode cX3_weighOthers 112 = .ok (.iastore, 1) := by decide +kernel
theorem dX3_weighOthers_113 : decode cX3_weighOthers 113 = .ok (.aload_n 0, 1) := by decide +kernel
theorem dX3_weighOthers_114 : decode cX3_weighOthers 114 = .ok (.getfield 29, 3) := by decide +kernel
theorem dX3_weighOthers_117 : decode cX3_weighOthers 117 = .ok (.iload_n 3, 1) := by decide +kernel
theorem dX3_weighOthers_118 : decode cX3_weighOthers 118 = .ok (.aaload, 1) := by decide +kernel
theorem dX3_weighOthers_119 : decode cX3_weighOthers 119 = .ok (.iload_n 2, 1) := by decide +kernel
theorem dX3_weighOthers_120 : decode cX3_weighOthers 120 = .ok (.aload_n 0, 1) := by decide +kernel
theorem dX3_weighOthers_121 : decode cX3_weighOthers 121 = .ok (.getfield 29, 3) := by decide +kernel
theorem dX3_weighOthers_124 : decode cX3_weighOthers 124 = .ok (.iload_n 3, 1) := by decide +kernel
theorem dX3_weighOthers_125 : decode cX3_weighOthers 125 = .ok (.iconst 1, 1) := by decide +kernel
theorem dX3_weighOthers_126 : decode cX3_weighOthers 126 = .ok (.iadd, 1) := by decide +kernel
theorem dX3_weighOthers_127 : decode cX3_weighOthers 127 = .ok (.aaload, 1) := by decide +kernel
theorem dX3_weighOthers_128 : decode cX3_weighOthers 128 = .ok (.iload_n 2, 1) := by decide +kernel
theorem dX3_weighOthers_129 : decode cX3_weighOthers 129 = .ok (.iaload, 1) := by decide +kernel
theorem dX3_weighOthers_130 : decode cX3_weighOthers 130 = .ok (.iload 4, 2) := by decide +kernel
theorem dX3_weighOthers_132 : decode cX3_weighOthers 132 = .ok (.iload 5, 2) := by decide +kernel
theorem dX3_weighOthers_134 : decode cX3_weighOthers 134 = .ok (.invokestatic 85, 3) := by decide +kernel
theorem dX3_weighOthers_137 : decode cX3_weighOthers 137 = .ok (.iadd, 1) := by decide +kernel
theorem dX3_weighOthers_138 : decode cX3_weighOthers 138 = .ok (.iastore, 1) := by decide +kernel
theorem dX3_weighOthers_139 : decode cX3_weighOthers 139 = .ok (.iinc 3 (-1), 3) := by decide +kernel
theorem dX3_weighOthers_142 : decode cX3_weighOthers 142 = .ok (.goto (-95), 3) := by decide +kernel
theorem dX3_weighOthers_145 : decode cX3_weighOthers 145 = .ok (.iinc 2 1, 3) := by decide +kernel
theorem dX3_weighOthers_148 : decode cX3_weighOthers 148 = .ok (.goto (-138), 3) := by decide +kernel
theorem dX3_weighOthers_151 : decode cX3_weighOthers 151 = .ok (.return_, 1) := by decide +kernel
theorem dX3_weight_0 : decode cX3_weight 0 = .ok (.iload_n 1, 1) := by decide +kernel
theorem dX3_weight_1 : decode cX3_weight 1 = .ok (.bipush 8, 2) := by decide +kernel
theorem dX3_weight_3 : decode cX3_weight 3 = .ok (.if_icmp .ne 15, 3) := by decide +kernel
theorem dX3_weight_6 : decode cX3_weight 6 = .ok (.aload_n 0, 1) := by decide +kernel
theorem dX3_weight_7 : decode cX3_weight 7 = .ok (.getfield 32, 3) := by decide +kernel
theorem dX3_weight_10 : decode cX3_weight 10 = .ok (.getfield 88, 3) := by decide +kernel
theorem dX3_weight_13 : decode cX3_weight 13 = .ok (.iload_n 2, 1) := by decide +kernel
theorem dX3_weight_14 : decode cX3_weight 14 = .ok (.iaload, 1) := by decide +kernel
theorem dX3_weight_15 : decode cX3_weight 15 = .ok (.goto 14, 3) := by decide +kernel
theorem dX3_weight_18 : decode cX3_weight 18 = .ok (.aload_n 0, 1) := by decide +kernel
theorem dX3_weight_19 : decode cX3_weight 19 = .ok (.getfield 32, 3) := by decide +kernel
theorem dX3_weight_22 : decode cX3_weight 22 = .ok (.getfield 91, 3) := by decide +kernel
theorem dX3_weight_25 : decode cX3_weight 25 = .ok (.iload_n 1, 1) := by decide +kernel
theorem dX3_weight_26 : decode cX3_weight 26 = .ok (.aaload, 1) := by decide +kernel
theorem dX3_weight_27 : decode cX3_weight 27 = .ok (.iload_n 2, 1) := by decide +kernel
theorem dX3_weight_28 : decode cX3_weight 28 = .ok (.iaload, 1) := by decide +kernel
theorem dX3_weight_29 : decode cX3_weight 29 = .ok (.ireturn, 1) := by decide +kernel
set_option maxRecDepth 20000 in
theorem ggX3_openName_X1_hasRow : GoodIn wsX3_openName wsX1_hasRow := goodIn_r _ [17, 18, 19, 66, 67, 68, 69, 70, 71, 72, 73, 74] rfl (by decide +kernel)
set_option maxRecDepth 20000 in
theorem gX3_openName_X1_hasRow : GoodIn wsX3_openName (wsV RX3 97 RX1 yX1_hasRow wsX1_hasRow) := goodIn_app (goodIn_of _ (by decide +kernel)) ggX3_openName_X1_hasRow
set_option maxRecDepth 20000 in
theorem ggX3_openName_X3_narrowByRow : GoodIn wsX3_openName wsX3_narrowByRow := goodIn_r _ [24, 1, 25, 26, 10, 11, 27, 28, 29, 30, 16, 31, 32, 33, 34, 35, 23, 36, 5, 37, 38, 39, 40, 3, 41, 42, 43, 4, 44, 45, 46, 47, 48, 49, 50, 51, 56, 57, 58, 59, 60, 61, 62, 63, 64, 65, 66, 67, 68, 69, 70, 71, 72, 73, 74] rfl (by decide +kernel)
set_option maxRecDepth 20000 in
theorem gX3_openName_X3_narrowByRow : GoodIn wsX3_openName (wsV RX3 100 RX3 yX3_narrowByRow wsX3_narrowByRow) := goodIn_app (goodIn_of _ (by decide +kernel)) ggX3_openName_X3_narrowByRow
set_option maxRecDepth 20000 in
theorem ggX3_openName_X3_narrow : GoodIn wsX3_openName wsX3_narrow := goodIn_r _ [36, 5, 37, 38, 39, 40, 3, 41, 42, 43, 1, 4, 44, 45, 46, 47, 56, 57, 58, 59, 60, 61, 62, 63, 64, 65, 66, 67, 68, 69, 70, 71, 72, 73, 74] rfl (by decide +kernel)
set_option maxRecDepth 20000 in
theorem gX3_openName_X3_narrow : GoodIn wsX3_openName (wsV RX3 104 RX3 yX3_narrow wsX3_narrow) := goodIn_app (goodIn_of _ (by decide +kernel)) ggX3_openName_X3_narrow
set_option maxRecDepth 20000 in
theorem ggX3_openName_X3_keepCheapest : GoodIn wsX3_openName wsX3_keepCheapest := goodIn_r _ [55, 1, 12, 3, 5, 41, 42, 39, 43, 37, 38, 40, 56, 57, 58, 59, 60, 61, 62, 63, 64, 65, 66, 67, 68, 69, 70, 71, 72, 73, 74] rfl (by decide +kernel)
set_option maxRecDepth 20000 in
theorem gX3_openName_X3_keepCheapest : GoodIn wsX3_openName (wsV RX3 108 RX3 yX3_keepCheapest wsX3_keepCheapest) := goodIn_app (goodIn_of _ (by decide +kernel)) ggX3_openName_X3_keepCheapest
theorem dX3_openName_0 : decode cX3_openName 0 = .ok (.iload_n 1, 1) := by decide +kernel
theorem dX3_openName_1 : decode cX3_openName 1 = .ok (.aload_n 0, 1) := by decide +kernel
theorem dX3_openName_2 : decode cX3_openName 2 = .ok (.getfield 32, 3) := by decide +kernel
theorem dX3_openName_5 : decode cX3_openName 5 = .ok (.getfield 51, 3) := by decide +kernel
theorem dX3_openName_8 : decode cX3_openName 8 = .ok (.if_icmp .lt 4, 3) := by decide +kernel
theorem dX3_openName_11 : decode cX3_openName 11 = .ok (.return_, 1) := by decide +kernel
theorem dX3_openName_12 : decode cX3_openName 12 = .ok (.aload_n 0, 1) := by decide +kernel
theorem dX3_openName_13 : decode cX3_openName 13 = .ok (.getfield 9, 3) := by decide +kernel
theorem dX3_openName_16 : decode cX3_openName 16 = .ok (.iload_n 1, 1) := by decide +kernel
theorem dX3_openName_17 : decode cX3_openName 17 = .ok (.aload_n 0, 1) := by decide +kernel
theorem dX3_openName_18 : decode cX3_openName 18 = .ok (.getfield 32, 3) := by decide +kernel
theorem dX3_openName_21 : decode cX3_openName 21 = .ok (.getfield 74, 3) := by decide +kernel
theorem dX3_openName_24 : decode cX3_openName 24 = .ok (.iload_n 1, 1) := by decide +kernel
theorem dX3_openName_25 : decode cX3_openName 25 = .ok (.iaload, 1) := by decide +kernel
theorem dX3_openName_26 : decode cX3_openName 26 = .ok (.iconst 1, 1) := by decide +kernel
theorem dX3_openName_27 : decode cX3_openName 27 = .ok (.isub, 1) := by decide +kernel
theorem dX3_openName_28 : decode cX3_openName 28 = .ok (.iastore, 1) := by decide +kernel
theorem dX3_openName_29 : decode cX3_openName 29 = .ok (.aload_n 0, 1) := by decide +kernel
theorem dX3_openName_30 : decode cX3_openName 30 = .ok (.getfield 15, 3) := by decide +kernel
theorem dX3_openName_33 : decode cX3_openName 33 = .ok (.iload_n 1, 1) := by decide +kernel
theorem dX3_openName_34 : decode cX3_openName 34 = .ok (.aload_n 0, 1) := by decide +kernel
theorem dX3_openName_35 : decode cX3_openName 35 = .ok (.getfield 32, 3) := by decide +kernel
theorem dX3_openName_38 : decode cX3_openName 38 = .ok (.getfield 77, 3) := by decide +kernel
theorem dX3_openName_41 : decode cX3_openName 41 = .ok (.iload_n 1, 1) := by decide +kernel
theorem dX3_openName_42 : decode cX3_openName 42 = .ok (.iaload, 1) := by decide +kernel
theorem dX3_openName_43 : decode cX3_openName 43 = .ok (.iastore, 1) := by decide +kernel
theorem dX3_openName_44 : decode cX3_openName 44 = .ok (.iconst 0, 1) := by decide +kernel
theorem dX3_openName_45 : decode cX3_openName 45 = .ok (.istore_n 2, 1) := by decide +kernel
theorem dX3_openName_46 : decode cX3_openName 46 = .ok (.iload_n 2, 1) := by decide +kernel
theorem dX3_openName_47 : decode cX3_openName 47 = .ok (.aload_n 0, 1) := by decide +kernel
theorem dX3_openName_48 : decode cX3_openName 48 = .ok (.getfield 32, 3) := by decide +kernel
theorem dX3_openName_51 : decode cX3_openName 51 = .ok (.getfield 94, 3) := by decide +kernel
theorem dX3_openName_54 : decode cX3_openName 54 = .ok (.if_icmp .ge 26, 3) := by decide +kernel
theorem dX3_openName_57 : decode cX3_openName 57 = .ok (.aload_n 0, 1) := by decide +kernel
theorem dX3_openName_58 : decode cX3_openName 58 = .ok (.getfield 32, 3) := by decide +kernel
theorem dX3_openName_61 : decode cX3_openName 61 = .ok (.iload_n 2, 1) := by decide +kernel
theorem dX3_openName_62 : decode cX3_openName 62 = .ok (.invokevirtual 97, 3) := by decide +kernel
theorem dX3_openName_65 : decode cX3_openName 65 = .ok (.ifCond .eq 9, 3) := by decide +kernel
theorem dX3_openName_68 : decode cX3_openName 68 = .ok (.aload_n 0, 1) := by decide +kernel
theorem dX3_openName_69 : decode cX3_openName 69 = .ok (.iload_n 1, 1) := by decide +kernel
theorem dX3_openName_70 : decode cX3_openName 70 = .ok (.iload_n 2, 1) := by decide +kernel
theorem dX3_openName_71 : decode cX3_openName 71 = .ok (.invokevirtual 100, 3) := by decide +kernel
theorem dX3_openName_74 : decode cX3_openName 74 = .ok (.iinc 2 1, 3) := by decide +kernel
theorem dX3_openName_77 : decode cX3_openName 77 = .ok (.goto (-31), 3) := by decide +kernel
theorem dX3_openName_80 : decode cX3_openName 80 = .ok (.aload_n 0, 1) := by decide +kernel
theorem dX3_openName_81 : decode cX3_openName 81 = .ok (.getfield 40, 3) := by decide +kernel
theorem dX3_openName_84 : decode cX3_openName 84 = .ok (.ifCond .eq 47, 3) := by decide +kernel
theorem dX3_openName_87 : decode cX3_openName 87 = .ok (.aload_n 0, 1) := by decide +kernel
theorem dX3_openName_88 : decode cX3_openName 88 = .ok (.getfield 67, 3) := by decide +kernel
theorem dX3_openName_91 : decode cX3_openName 91 = .ok (.iconst 1, 1) := by decide +kernel
theorem dX3_openName_92 : decode cX3_openName 92 = .ok (.isub, 1) := by decide +kernel
theorem dX3_openName_93 : decode cX3_openName 93 = .ok (.aload_n 0, 1) := by decide +kernel
theorem dX3_openName_94 : decode cX3_openName 94 = .ok (.getfield 23, 3) := by decide +kernel
theorem dX3_openName_97 : decode cX3_openName 97 = .ok (.iload_n 1, 1) := by decide +kernel
theorem dX3_openName_98 : decode cX3_openName 98 = .ok (.aaload, 1) := by decide +kernel
theorem dX3_openName_99 : decode cX3_openName 99 = .ok (.bipush 8, 2) := by decide +kernel
theorem dX3_openName_101 : decode cX3_openName 101 = .ok (.iaload, 1) := by decide +kernel
theorem dX3_openName_102 : decode cX3_openName 102 = .ok (.isub, 1) := by decide +kernel
theorem dX3_openName_103 : decode cX3_openName 103 = .ok (.aload_n 0, 1) := by decide +kernel
theorem dX3_openName_104 : decode cX3_openName 104 = .ok (.getfield 26, 3) := by decide +kernel
theorem dX3_openName_107 : decode cX3_openName 107 = .ok (.iload_n 1, 1) := by decide +kernel
theorem dX3_openName_108 : decode cX3_openName 108 = .ok (.iconst 1, 1) := by decide +kernel
theorem dX3_openName_109 : decode cX3_openName 109 = .ok (.iadd, 1) := by decide +kernel
theorem dX3_openName_110 : decode cX3_openName 110 = .ok (.aaload, 1) := by decide +kernel
theorem dX3_openName_111 : decode cX3_openName 111 = .ok (.bipush 8, 2) := by decide +kernel
theorem dX3_openName_113 : decode cX3_openName 113 = .ok (.iaload, 1) := by decide +kernel
theorem dX3_openName_114 : decode cX3_openName 114 = .ok (.isub, 1) := by decide +kernel
theorem dX3_openName_115 : decode cX3_openName 115 = .ok (.istore_n 2, 1) := by decide +kernel
theorem dX3_openName_116 : decode cX3_openName 116 = .ok (.aload_n 0, 1) := by decide +kernel
theorem dX3_openName_117 : decode cX3_openName 117 = .ok (.iload_n 1, 1) := by decide +kernel
theorem dX3_openName_118 : decode cX3_openName 118 = .ok (.aload_n 0, 1) := by decide +kernel
theorem dX3_openName_119 : decode cX3_openName 119 = .ok (.getfield 32, 3) := by decide +kernel
theorem dX3_openName_122 : decode cX3_openName 122 = .ok (.getfield 88, 3) := by decide +kernel
theorem dX3_openName_125 : decode cX3_openName 125 = .ok (.iload_n 1, 1) := by decide +kernel
theorem dX3_openName_126 : decode cX3_openName 126 = .ok (.iaload, 1) := by decide +kernel
theorem dX3_openName_127 : decode cX3_openName 127 = .ok (.iload_n 2, 1) := by decide +kernel
theorem dX3_openName_128 : decode cX3_openName 128 = .ok (.invokevirtual 104, 3) := by decide +kernel
theorem dX3_openName_131 : decode cX3_openName 131 = .ok (.iload_n 1, 1) := by decide +kernel
theorem dX3_openName_132 : decode cX3_openName 132 = .ok (.aload_n 0, 1) := by decide +kernel
theorem dX3_openName_133 : decode cX3_openName 133 = .ok (.getfield 32, 3) := by decide +kernel
theorem dX3_openName_136 : decode cX3_openName 136 = .ok (.getfield 51, 3) := by decide +kernel
theorem dX3_openName_139 : decode cX3_openName 139 = .ok (.iconst 1, 1) := by decide +kernel
theorem dX3_openName_140 : decode cX3_openName 140 = .ok (.isub, 1) := by decide +kernel
theorem dX3_openName_141 : decode cX3_openName 141 = .ok (.if_icmp .ne 8, 3) := by decide +kernel
theorem dX3_openName_144 : decode cX3_openName 144 = .ok (.aload_n 0, 1) := by decide +kernel
theorem dX3_openName_145 : decode cX3_openName 145 = .ok (.iload_n 1, 1) := by decide +kernel
theorem dX3_openName_146 : decode cX3_openName 146 = .ok (.invokevirtual 108, 3) := by decide +kernel
theorem dX3_openName_149 : decode cX3_openName 149 = .ok (.return_, 1) := by decide +kernel
set_option maxRecDepth 20000 in
theorem ggX3_narrowByRow_X1_limitsFromAbove : GoodIn wsX3_narrowByRow wsX1_limitsFromAbove := goodIn_r _ [11, 12, 46, 47, 48, 49, 50, 51, 52, 53, 54] rfl (by decide +kernel)
set_option maxRecDepth 20000 in
theorem gX3_narrowByRow_X1_limitsFromAbove : GoodIn wsX3_narrowByRow (wsV RX3 114 RX1 yX1_limitsFromAbove wsX1_limitsFromAbove) := goodIn_app (goodIn_of _ (by decide +kernel)) ggX3_narrowByRow_X1_limitsFromAbove
set_option maxRecDepth 20000 in
theorem ggX3_narrowByRow_X3_narrow : GoodIn wsX3_narrowByRow wsX3_narrow := goodIn_r _ [17, 18, 19, 20, 21, 22, 23, 24, 25, 26, 1, 27, 28, 29, 30, 31, 36, 37, 38, 39, 40, 41, 42, 43, 44, 45, 46, 47, 48, 49, 50, 51, 52, 53, 54] rfl (by decide +kernel)
set_option maxRecDepth 20000 in
theorem gX3_narrowByRow_X3_narrow : GoodIn wsX3_narrowByRow (wsV RX3 104 RX3 yX3_narrow wsX3_narrow) := goodIn_app (goodIn_of _ (by decide +kernel)) ggX3_narrowByRow_X3_narrow
set_option maxRecDepth 20000 in
theorem ggX3_narrowByRow_X1_limitsFromBelow : GoodIn wsX3_narrowByRow wsX1_limitsFromBelow := goodIn_r _ [35, 12, 46, 47, 48, 49, 50, 51, 52, 53, 54] rfl (by decide +kernel)
set_option maxRecDepth 20000 in
theorem gX3_narrowByRow_X1_limitsFromBelow : GoodIn wsX3_narrowByRow (wsV RX3 117 RX1 yX1_limitsFromBelow wsX1_limitsFromBelow) := goodIn_app (goodIn_of _ (by decide +kernel)) ggX3_narrowByRow_X1_limitsFromBelow
theorem dX3_narrowByRow_0 : decode cX3_narrowByRow 0 = .ok (.aload_n 0, 1) := by decide +kernel
theorem dX3_narrowByRow_1 : decode cX3_narrowByRow 1 = .ok (.getfield 32, 3) := by decide +kernel
theorem dX3_narrowByRow_4 : decode cX3_narrowByRow 4 = .ok (.getfield 91, 3) := by decide +kernel
theorem dX3_narrowByRow_7 : decode cX3_narrowByRow 7 = .ok (.iload_n 2, 1) := by decide +kernel
theorem dX3_narrowByRow_8 : decode cX3_narrowByRow 8 = .ok (.aaload, 1) := by decide +kernel
theorem dX3_narrowByRow_9 : decode cX3_narrowByRow 9 = .ok (.iload_n 1, 1) := by decide +kernel
theorem dX3_narrowByRow_10 : decode cX3_narrowByRow 10 = .ok (.iaload, 1) := by decide +kernel
theorem dX3_narrowByRow_11 : decode cX3_narrowByRow 11 = .ok (.istore_n 3, 1) := by decide +kernel
theorem dX3_narrowByRow_12 : decode cX3_narrowByRow 12 = .ok (.aload_n 0, 1) := by decide +kernel
theorem dX3_narrowByRow_13 : decode cX3_narrowByRow 13 = .ok (.getfield 32, 3) := by decide +kernel
theorem dX3_narrowByRow_16 : decode cX3_narrowByRow 16 = .ok (.getfield 111, 3) := by decide +kernel
theorem dX3_narrowByRow_19 : decode cX3_narrowByRow 19 = .ok (.iload_n 2, 1) := by decide +kernel
theorem dX3_narrowByRow_20 : decode cX3_narrowByRow 20 = .ok (.iaload, 1) := by decide +kernel
theorem dX3_narrowByRow_21 : decode cX3_narrowByRow 21 = .ok (.aload_n 0, 1) := by decide +kernel
theorem dX3_narrowByRow_22 : decode cX3_narrowByRow 22 = .ok (.getfield 23, 3) := by decide +kernel
theorem dX3_narrowByRow_25 : decode cX3_narrowByRow 25 = .ok (.iload_n 1, 1) := by decide +kernel
theorem dX3_narrowByRow_26 : decode cX3_narrowByRow 26 = .ok (.aaload, 1) := by decide +kernel
theorem dX3_narrowByRow_27 : decode cX3_narrowByRow 27 = .ok (.iload_n 2, 1) := by decide +kernel
theorem dX3_narrowByRow_28 : decode cX3_narrowByRow 28 = .ok (.iaload, 1) := by decide +kernel
theorem dX3_narrowByRow_29 : decode cX3_narrowByRow 29 = .ok (.isub, 1) := by decide +kernel
theorem dX3_narrowByRow_30 : decode cX3_narrowByRow 30 = .ok (.istore 4, 2) := by decide +kernel
theorem dX3_narrowByRow_32 : decode cX3_narrowByRow 32 = .ok (.aload_n 0, 1) := by decide +kernel
theorem dX3_narrowByRow_33 : decode cX3_narrowByRow 33 = .ok (.getfield 32, 3) := by decide +kernel
theorem dX3_narrowByRow_36 : decode cX3_narrowByRow 36 = .ok (.iload_n 2, 1) := by decide +kernel
theorem dX3_narrowByRow_37 : decode cX3_narrowByRow 37 = .ok (.invokevirtual 114, 3) := by decide +kernel
theorem dX3_narrowByRow_40 : decode cX3_narrowByRow 40 = .ok (.ifCond .eq 22, 3) := by decide +kernel
theorem dX3_narrowByRow_43 : decode cX3_narrowByRow 43 = .ok (.aload_n 0, 1) := by decide +kernel
theorem dX3_narrowByRow_44 : decode cX3_narrowByRow 44 = .ok (.iload_n 1, 1) := by decide +kernel
theorem dX3_narrowByRow_45 : decode cX3_narrowByRow 45 = .ok (.iload_n 3, 1) := by decide +kernel
theorem dX3_narrowByRow_46 : decode cX3_narrowByRow 46 = .ok (.iload 4, 2) := by decide +kernel
theorem dX3_narrowByRow_48 : decode cX3_narrowByRow 48 = .ok (.aload_n 0, 1) := by decide +kernel
theorem dX3_narrowByRow_49 : decode cX3_narrowByRow 49 = .ok (.getfield 26, 3) := by decide +kernel
theorem dX3_narrowByRow_52 : decode cX3_narrowByRow 52 = .ok (.iload_n 1, 1) := by decide +kernel
theorem dX3_narrowByRow_53 : decode cX3_narrowByRow 53 = .ok (.iconst 1, 1) := by decide +kernel
theorem dX3_narrowByRow_54 : decode cX3_narrowByRow 54 = .ok (.iadd, 1) := by decide +kernel
theorem dX3_narrowByRow_55 : decode cX3_narrowByRow 55 = .ok (.aaload, 1) := by decide +kernel
theorem dX3_narrowByRow_56 : decode cX3_narrowByRow 56 = .ok (.iload_n 2, 1) := by decide +kernel
theorem dX3_narrowByRow_57 : decode cX3_narrowByRow 57 = .ok (.iaload, 1) := by decide +kernel
theorem dX3_narrowByRow_58 : decode cX3_narrowByRow 58 = .ok (.isub, 1) := by decide +kernel
theorem dX3_narrowByRow_59 : decode cX3_narrowByRow 59 = .ok (.invokevirtual 104, 3) := by decide +kernel
theorem dX3_narrowByRow_62 : decode cX3_narrowByRow 62 = .ok (.aload_n 0, 1) := by decide +kernel
theorem dX3_narrowByRow_63 : decode cX3_narrowByRow 63 = .ok (.getfield 32, 3) := by decide +kernel
theorem dX3_narrowByRow_66 : decode cX3_narrowByRow 66 = .ok (.iload_n 2, 1) := by decide +kernel
theorem dX3_narrowByRow_67 : decode cX3_narrowByRow 67 = .ok (.invokevirtual 117, 3) := by decide +kernel
theorem dX3_narrowByRow_70 : decode cX3_narrowByRow 70 = .ok (.ifCond .eq 23, 3) := by decide +kernel
theorem dX3_narrowByRow_73 : decode cX3_narrowByRow 73 = .ok (.aload_n 0, 1) := by decide +kernel
theorem dX3_narrowByRow_74 : decode cX3_narrowByRow 74 = .ok (.iload_n 1, 1) := by decide +kernel
theorem dX3_narrowByRow_75 : decode cX3_narrowByRow 75 = .ok (.iload_n 3, 1) := by decide +kernel
theorem dX3_narrowByRow_76 : decode cX3_narrowByRow 76 = .ok (.ineg, 1) := by decide +kernel
theorem dX3_narrowByRow_77 : decode cX3_narrowByRow 77 = .ok (.aload_n 0, 1) := by decide +kernel
theorem dX3_narrowByRow_78 : decode cX3_narrowByRow 78 = .ok (.getfield 29, 3) := by decide +kernel
theorem dX3_narrowByRow_81 : decode cX3_narrowByRow 81 = .ok (.iload_n 1, 1) := by decide +kernel
theorem dX3_narrowByRow_82 : decode cX3_narrowByRow 82 = .ok (.iconst 1, 1) := by decide +kernel
theorem dX3_narrowByRow_83 : decode cX3_narrowByRow 83 = .ok (.iadd, 1) := by decide +kernel
theorem dX3_narrowByRow_84 : decode cX3_narrowByRow 84 = .ok (.aaload, 1) := by decide +kernel
theorem dX3_narrowByRow_85 : decode cX3_narrowByRow 85 = .ok (.iload_n 2, 1) := by decide +kernel
theorem dX3_narrowByRow_86 : decode cX3_narrowByRow 86 = .ok (.iaload, 1) := by decide +kernel
theorem dX3_narrowByRow_87 : decode cX3_narrowByRow 87 = .ok (.iload 4, 2) := by decide +kernel
theorem dX3_narrowByRow_89 : decode cX3_narrowByRow 89 = .ok (.isub, 1) := by decide +kernel
theorem dX3_narrowByRow_90 : decode cX3_narrowByRow 90 = .ok (.invokevirtual 104, 3) := by decide +kernel
theorem dX3_narrowByRow_93 : decode cX3_narrowByRow 93 = .ok (.return_, 1) := by decide +kernel
set_option maxRecDepth 20000 in
theorem ggX3_narrow_J9_floorDiv_7cf53 : GoodIn wsX3_narrow wsJ9_floorDiv_7cf53 := goodIn_r _ [15] rfl (by decide +kernel)
set_option maxRecDepth 20000 in
theorem gX3_narrow_J9_floorDiv_7cf53 : GoodIn wsX3_narrow (va_wsS RX3 120 yJ9_floorDiv_7cf53 wsJ9_floorDiv_7cf53) := goodIn_app (goodIn_of _ (by decide +kernel)) ggX3_narrow_J9_floorDiv_7cf53
theorem dX3_narrow_0 : decode cX3_narrow 0 = .ok (.iload_n 2, 1) := by decide +kernel
theorem dX3_narrow_1 : decode cX3_narrow 1 = .ok (.ifCond .le 26, 3) := by decide +kernel
theorem dX3_narrow_4 : decode cX3_narrow 4 = .ok (.aload_n 0, 1) := by decide +kernel
theorem dX3_narrow_5 : decode cX3_narrow 5 = .ok (.getfield 15, 3) := by decide +kernel
theorem dX3_narrow_8 : decode cX3_narrow 8 = .ok (.iload_n 1, 1) := by decide +kernel
theorem dX3_narrow_9 : decode cX3_narrow 9 = .ok (.aload_n 0, 1) := by decide +kernel
theorem dX3_narrow_10 : decode cX3_narrow 10 = .ok (.getfield 15, 3) := by decide +kernel
theorem dX3_narrow_13 : decode cX3_narrow 13 = .ok (.iload_n 1, 1) := by decide +kernel
theorem dX3_narrow_14 : decode cX3_narrow 14 = .ok (.iaload, 1) := by decide +kernel
theorem dX3_narrow_15 : decode cX3_narrow 15 = .ok (.iload_n 3, 1) := by decide +kernel
theorem dX3_narrow_16 : decode cX3_narrow 16 = .ok (.iload_n 2, 1) := by decide +kernel
theorem dX3_narrow_17 : decode cX3_narrow 17 = .ok (.invokestatic 120, 3) := by decide +kernel
theorem dX3_narrow_20 : decode cX3_narrow 20 = .ok (.invokestatic 80, 3) := by decide +kernel
theorem dX3_narrow_23 : decode cX3_narrow 23 = .ok (.iastore, 1) := by decide +kernel
theorem dX3_narrow_24 : decode cX3_narrow 24 = .ok (.goto 55, 3) := by decide +kernel
theorem dX3_narrow_27 : decode cX3_narrow 27 = .ok (.iload_n 2, 1) := by decide +kernel
theorem dX3_narrow_28 : decode cX3_narrow 28 = .ok (.ifCond .ge 30, 3) := by decide +kernel
theorem dX3_narrow_31 : decode cX3_narrow 31 = .ok (.aload_n 0, 1) := by decide +kernel
theorem dX3_narrow_32 : decode cX3_narrow 32 = .ok (.getfield 9, 3) := by decide +kernel
theorem dX3_narrow_35 : decode cX3_narrow 35 = .ok (.iload_n 1, 1) := by decide +kernel
theorem dX3_narrow_36 : decode cX3_narrow 36 = .ok (.aload_n 0, 1) := by decide +kernel
theorem dX3_narrow_37 : decode cX3_narrow 37 = .ok (.getfield 9, 3) := by decide +kernel
theorem dX3_narrow_40 : decode cX3_narrow 40 = .ok (.iload_n 1, 1) := by decide +kernel
theorem dX3_narrow_41 : decode cX3_narrow 41 = .ok (.iaload, 1) := by decide +kernel
theorem dX3_narrow_42 : decode cX3_narrow 42 = .ok (.iload_n 3, 1) := by decide +kernel
theorem dX3_narrow_43 : decode cX3_narrow 43 = .ok (.iload_n 2, 1) := by decide +kernel
theorem dX3_narrow_44 : decode cX3_narrow 44 = .ok (.ineg, 1) := by decide +kernel
theorem dX3_narrow_45 : decode cX3_narrow 45 = .ok (.invokestatic 120, 3) := by decide +kernel
theorem dX3_narrow_48 : decode cX3_narrow 48 = .ok (.ineg, 1) := by decide +kernel
theorem dX3_narrow_49 : decode cX3_narrow 49 = .ok (.iconst 1, 1) := by decide +kernel
theorem dX3_narrow_50 : decode cX3_narrow 50 = .ok (.isub, 1) := by decide +kernel
theorem dX3_narrow_51 : decode cX3_narrow 51 = .ok (.invokestatic 85, 3) := by decide +kernel
theorem dX3_narrow_54 : decode cX3_narrow 54 = .ok (.iastore, 1) := by decide +kernel
theorem dX3_narrow_55 : decode cX3_narrow 55 = .ok (.goto 24, 3) := by decide +kernel
theorem dX3_narrow_58 : decode cX3_narrow 58 = .ok (.iload_n 3, 1) := by decide +kernel
theorem dX3_narrow_59 : decode cX3_narrow 59 = .ok (.ifCond .ge 20, 3) := by decide +kernel
theorem dX3_narrow_62 : decode cX3_narrow 62 = .ok (.aload_n 0, 1) := by decide +kernel
theorem dX3_narrow_63 : decode cX3_narrow 63 = .ok (.getfield 15, 3) := by decide +kernel
theorem dX3_narrow_66 : decode cX3_narrow 66 = .ok (.iload_n 1, 1) := by decide +kernel
theorem dX3_narrow_67 : decode cX3_narrow 67 = .ok (.aload_n 0, 1) := by decide +kernel
theorem dX3_narrow_68 : decode cX3_narrow 68 = .ok (.getfield 32, 3) := by decide +kernel
theorem dX3_narrow_71 : decode cX3_narrow 71 = .ok (.getfield 74, 3) := by decide +kernel
theorem dX3_narrow_74 : decode cX3_narrow 74 = .ok (.iload_n 1, 1) := by decide +kernel
theorem dX3_narrow_75 : decode cX3_narrow 75 = .ok (.iaload, 1) := by decide +kernel
theorem dX3_narrow_76 : decode cX3_narrow 76 = .ok (.iconst 1, 1) := by decide +kernel
theorem dX3_narrow_77 : decode cX3_narrow 77 = .ok (.isub, 1) := by decide +kernel
theorem dX3_narrow_78 : decode cX3_narrow 78 = .ok (.iastore, 1) := by decide +kernel
theorem dX3_narrow_79 : decode cX3_narrow 79 = .ok (.return_, 1) := by decide +kernel
theorem dX3_keepCheapest_0 : decode cX3_keepCheapest 0 = .ok (.aload_n 0, 1) := by decide +kernel
theorem dX3_keepCheapest_1 : decode cX3_keepCheapest 1 = .ok (.getfield 32, 3) := by decide +kernel
theorem dX3_keepCheapest_4 : decode cX3_keepCheapest 4 = .ok (.getfield 88, 3) := by decide +kernel
theorem dX3_keepCheapest_7 : decode cX3_keepCheapest 7 = .ok (.iload_n 1, 1) := by decide +kernel
theorem dX3_keepCheapest_8 : decode cX3_keepCheapest 8 = .ok (.iaload, 1) := by decide +kernel
theorem dX3_keepCheapest_9 : decode cX3_keepCheapest 9 = .ok (.ifCond .ge 29, 3) := by decide +kernel
theorem dX3_keepCheapest_12 : decode cX3_keepCheapest 12 = .ok (.aload_n 0, 1) := by decide +kernel
theorem dX3_keepCheapest_13 : decode cX3_keepCheapest 13 = .ok (.getfield 9, 3) := by decide +kernel
theorem dX3_keepCheapest_16 : decode cX3_keepCheapest 16 = .ok (.iload_n 1, 1) := by decide +kernel
theorem dX3_keepCheapest_17 : decode cX3_keepCheapest 17 = .ok (.aload_n 0, 1) := by decide +kernel
theorem dX3_keepCheapest_18 : decode cX3_keepCheapest 18 = .ok (.getfield 9, 3) := by decide +kernel
theorem dX3_keepCheapest_21 : decode cX3_keepCheapest 21 = .ok (.iload_n 1, 1) := by decide +kernel
theorem dX3_keepCheapest_22 : decode cX3_keepCheapest 22 = .ok (.iaload, 1) := by decide +kernel
theorem dX3_keepCheapest_23 : decode cX3_keepCheapest 23 = .ok (.aload_n 0, 1) := by decide +kernel
theorem dX3_keepCheapest_24 : decode cX3_keepCheapest 24 = .ok (.getfield 15, 3) := by decide +kernel
theorem dX3_keepCheapest_27 : decode cX3_keepCheapest 27 = .ok (.iload_n 1, 1) := by decide +kernel
theorem dX3_keepCheapest_28 : decode cX3_keepCheapest 28 = .ok (.iaload, 1) := by decide +kernel
theorem dX3_keepCheapest_29 : decode cX3_keepCheapest 29 = .ok (.iconst 1, 1) := by decide +kernel
theorem dX3_keepCheapest_30 : decode cX3_keepCheapest 30 = .ok (.isub, 1) := by decide +kernel
theorem dX3_keepCheapest_31 : decode cX3_keepCheapest 31 = .ok (.invokestatic 85, 3) := by decide +kernel
theorem dX3_keepCheapest_34 : decode cX3_keepCheapest 34 = .ok (.iastore, 1) := by decide +kernel
theorem dX3_keepCheapest_35 : decode cX3_keepCheapest 35 = .ok (.goto 26, 3) := by decide +kernel
theorem dX3_keepCheapest_38 : decode cX3_keepCheapest 38 = .ok (.aload_n 0, 1) := by decide +kernel
theorem dX3_keepCheapest_39 : decode cX3_keepCheapest 39 = .ok (.getfield 15, 3) := by decide +kernel
theorem dX3_keepCheapest_42 : decode cX3_keepCheapest 42 = .ok (.iload_n 1, 1) := by decide +kernel
theorem dX3_keepCheapest_43 : decode cX3_keepCheapest 43 = .ok (.aload_n 0, 1) := by decide +kernel
theorem dX3_keepCheapest_44 : decode cX3_keepCheapest 44 = .ok (.getfield 15, 3) := by decide +kernel
theorem dX3_keepCheapest_47 : decode cX3_keepCheapest 47 = .ok (.iload_n 1, 1) := by decide +kernel
theorem dX3_keepCheapest_48 : decode cX3_keepCheapest 48 = .ok (.iaload, 1) := by decide +kernel
theorem dX3_keepCheapest_49 : decode cX3_keepCheapest 49 = .ok (.aload_n 0, 1) := by decide +kernel
theorem dX3_keepCheapest_50 : decode cX3_keepCheapest 50 = .ok (.getfield 9, 3) := by decide +kernel
theorem dX3_keepCheapest_53 : decode cX3_keepCheapest 53 = .ok (.iload_n 1, 1) := by decide +kernel
theorem dX3_keepCheapest_54 : decode cX3_keepCheapest 54 = .ok (.iaload, 1) := by decide +kernel
theorem dX3_keepCheapest_55 : decode cX3_keepCheapest 55 = .ok (.iconst 1, 1) := by decide +kernel
theorem dX3_keepCheapest_56 : decode cX3_keepCheapest 56 = .ok (.iadd, 1) := by decide +kernel
theorem dX3_keepCheapest_57 : decode cX3_keepCheapest 57 = .ok (.invokestatic 80, 3) := by decide +kernel
theorem dX3_keepCheapest_60 : decode cX3_keepCheapest 60 = .ok (.iastore, 1) := by decide +kernel
theorem dX3_keepCheapest_61 : decode cX3_keepCheapest 61 = .ok (.return_, 1) := by decide +kernel
theorem dX3_addUp_0 : decode cX3_addUp 0 = .ok (.iconst 0, 1) := by decide +kernel
theorem dX3_addUp_1 : decode cX3_addUp 1 = .ok (.istore_n 2, 1) := by decide +kernel
theorem dX3_addUp_2 : decode cX3_addUp 2 = .ok (.iload_n 2, 1) := by decide +kernel
theorem dX3_addUp_3 : decode cX3_addUp 3 = .ok (.aload_n 0, 1) := by decide +kernel
theorem dX3_addUp_4 : decode cX3_addUp 4 = .ok (.getfield 32, 3) := by decide +kernel
theorem dX3_addUp_7 : decode cX3_addUp 7 = .ok (.getfield 94, 3) := by decide +kernel
theorem dX3_addUp_10 : decode cX3_addUp 10 = .ok (.if_icmp .ge 46, 3) := by decide +kernel
theorem dX3_addUp_13 : decode cX3_addUp 13 = .ok (.aload_n 0, 1) := by decide +kernel
theorem dX3_addUp_14 : decode cX3_addUp 14 = .ok (.getfield 23, 3) := by decide +kernel
theorem dX3_addUp_17 : decode cX3_addUp 17 = .ok (.iload_n 1, 1) := by decide +kernel
theorem dX3_addUp_18 : decode cX3_addUp 18 = .ok (.iconst 1, 1) := by decide +kernel
theorem dX3_addUp_19 : decode cX3_addUp 19 = .ok (.iadd, 1) := by decide +kernel
theorem dX3_addUp_20 : decode cX3_addUp 20 = .ok (.aaload, 1) := by decide +kernel
theorem dX3_addUp_21 : decode cX3_addUp 21 = .ok (.iload_n 2, 1) := by decide +kernel
theorem dX3_addUp_22 : decode cX3_addUp 22 = .ok (.aload_n 0, 1) := by decide +kernel
theorem dX3_addUp_23 : decode cX3_addUp 23 = .ok (.getfield 23, 3) := by decide +kernel
theorem dX3_addUp_26 : decode cX3_addUp 26 = .ok (.iload_n 1, 1) := by decide +kernel
theorem dX3_addUp_27 : decode cX3_addUp 27 = .ok (.aaload, 1) := by decide +kernel
theorem dX3_addUp_28 : decode cX3_addUp 28 = .ok (.iload_n 2, 1) := by decide +kernel
theorem dX3_addUp_29 : decode cX3_addUp 29 = .ok (.iaload, 1) := by decide +kernel
theorem dX3_addUp_30 : decode cX3_addUp 30 = .ok (.aload_n 0, 1) := by decide +kernel
theorem dX3_addUp_31 : decode cX3_addUp 31 = .ok (.getfield 32, 3) := by decide +kernel
theorem dX3_addUp_34 : decode cX3_addUp 34 = .ok (.getfield 91, 3) := by decide +kernel
theorem dX3_addUp_37 : decode cX3_addUp 37 = .ok (.iload_n 2, 1) := by decide +kernel
theorem dX3_addUp_38 : decode cX3_addUp 38 = .ok (.aaload, 1) := by decide +kernel
theorem dX3_addUp_39 : decode cX3_addUp 39 = .ok (.iload_n 1, 1) := by decide +kernel
theorem dX3_addUp_40 : decode cX3_addUp 40 = .ok (.iaload, 1) := by decide +kernel
theorem dX3_addUp_41 : decode cX3_addUp 41 = .ok (.aload_n 0, 1) := by decide +kernel
theorem dX3_addUp_42 : decode cX3_addUp 42 = .ok (.getfield 9, 3) := by decide +kernel
theorem dX3_addUp_45 : decode cX3_addUp 45 = .ok (.iload_n 1, 1) := by decide +kernel
theorem dX3_addUp_46 : decode cX3_addUp 46 = .ok (.iaload, 1) := by decide +kernel
theorem dX3_addUp_47 : decode cX3_addUp 47 = .ok (.imul, 1) := by decide +kernel
theorem dX3_addUp_48 : decode cX3_addUp 48 = .ok (.iadd, 1) := by decide +kernel
theorem dX3_addUp_49 : decode cX3_addUp 49 = .ok (.iastore, 1) := by decide +kernel
theorem dX3_addUp_50 : decode cX3_addUp 50 = .ok (.iinc 2 1, 3) := by decide +kernel
theorem dX3_addUp_53 : decode cX3_addUp 53 = .ok (.goto (-51), 3) := by decide +kernel
theorem dX3_addUp_56 : decode cX3_addUp 56 = .ok (.aload_n 0, 1) := by decide +kernel
theorem dX3_addUp_57 : decode cX3_addUp 57 = .ok (.getfield 23, 3) := by decide +kernel
theorem dX3_addUp_60 : decode cX3_addUp 60 = .ok (.iload_n 1, 1) := by decide +kernel
theorem dX3_addUp_61 : decode cX3_addUp 61 = .ok (.iconst 1, 1) := by decide +kernel
theorem dX3_addUp_62 : decode cX3_addUp 62 = .ok (.iadd, 1) := by decide +kernel
theorem dX3_addUp_63 : decode cX3_addUp 63 = .ok (.aaload, 1) := by decide +kernel
theorem dX3_addUp_64 : decode cX3_addUp 64 = .ok (.bipush 8, 2) := by decide +kernel
theorem dX3_addUp_66 : decode cX3_addUp 66 = .ok (.aload_n 0, 1) := by decide +kernel
theorem dX3_addUp_67 : decode cX3_addUp 67 = .ok (.getfield 23, 3) := by decide +kernel
theorem dX3_addUp_70 : decode cX3_addUp 70 = .ok (.iload_n 1, 1) := by decide +kernel
theorem dX3_addUp_71 : decode cX3_addUp 71 = .ok (.aaload, 1) := by decide +kernel
theorem dX3_addUp_72 : decode cX3_addUp 72 = .ok (.bipush 8, 2) := by decide +kernel
theorem dX3_addUp_74 : decode cX3_addUp 74 = .ok (.iaload, 1) := by decide +kernel
theorem dX3_addUp_75 : decode cX3_addUp 75 = .ok (.aload_n 0, 1) := by decide +kernel
theorem dX3_addUp_76 : decode cX3_addUp 76 = .ok (.getfield 32, 3) := by decide +kernel
theorem dX3_addUp_79 : decode cX3_addUp 79 = .ok (.getfield 88, 3) := by decide +kernel
theorem dX3_addUp_82 : decode cX3_addUp 82 = .ok (.iload_n 1, 1) := by decide +kernel
theorem dX3_addUp_83 : decode cX3_addUp 83 = .ok (.iaload, 1) := by decide +kernel
theorem dX3_addUp_84 : decode cX3_addUp 84 = .ok (.aload_n 0, 1) := by decide +kernel
theorem dX3_addUp_85 : decode cX3_addUp 85 = .ok (.getfield 9, 3) := by decide +kernel
theorem dX3_addUp_88 : decode cX3_addUp 88 = .ok (.iload_n 1, 1) := by decide +kernel
theorem dX3_addUp_89 : decode cX3_addUp 89 = .ok (.iaload, 1) := by decide +kernel
theorem dX3_addUp_90 : decode cX3_addUp 90 = .ok (.imul, 1) := by decide +kernel
theorem dX3_addUp_91 : decode cX3_addUp 91 = .ok (.iadd, 1) := by decide +kernel
theorem dX3_addUp_92 : decode cX3_addUp 92 = .ok (.iastore, 1) := by decide +kernel
theorem dX3_addUp_93 : decode cX3_addUp 93 = .ok (.return_, 1) := by decide +kernel
theorem dX3_mayBeCheaper_0 : decode cX3_mayBeCheaper 0 = .ok (.aload_n 0, 1) := by decide +kernel
theorem dX3_mayBeCheaper_1 : decode cX3_mayBeCheaper 1 = .ok (.getfield 40, 3) := by decide +kernel
theorem dX3_mayBeCheaper_4 : decode cX3_mayBeCheaper 4 = .ok (.ifCond .eq 29, 3) := by decide +kernel
theorem dX3_mayBeCheaper_7 : decode cX3_mayBeCheaper 7 = .ok (.aload_n 0, 1) := by decide +kernel
theorem dX3_mayBeCheaper_8 : decode cX3_mayBeCheaper 8 = .ok (.getfield 23, 3) := by decide +kernel
theorem dX3_mayBeCheaper_11 : decode cX3_mayBeCheaper 11 = .ok (.iload_n 1, 1) := by decide +kernel
theorem dX3_mayBeCheaper_12 : decode cX3_mayBeCheaper 12 = .ok (.aaload, 1) := by decide +kernel
theorem dX3_mayBeCheaper_13 : decode cX3_mayBeCheaper 13 = .ok (.bipush 8, 2) := by decide +kernel
theorem dX3_mayBeCheaper_15 : decode cX3_mayBeCheaper 15 = .ok (.iaload, 1) := by decide +kernel
theorem dX3_mayBeCheaper_16 : decode cX3_mayBeCheaper 16 = .ok (.aload_n 0, 1) := by decide +kernel
theorem dX3_mayBeCheaper_17 : decode cX3_mayBeCheaper 17 = .ok (.getfield 26, 3) := by decide +kernel
theorem dX3_mayBeCheaper_20 : decode cX3_mayBeCheaper 20 = .ok (.iload_n 1, 1) := by decide +kernel
theorem dX3_mayBeCheaper_21 : decode cX3_mayBeCheaper 21 = .ok (.aaload, 1) := by decide +kernel
theorem dX3_mayBeCheaper_22 : decode cX3_mayBeCheaper 22 = .ok (.bipush 8, 2) := by decide +kernel
theorem dX3_mayBeCheaper_24 : decode cX3_mayBeCheaper 24 = .ok (.iaload, 1) := by decide +kernel
theorem dX3_mayBeCheaper_25 : decode cX3_mayBeCheaper 25 = .ok (.iadd, 1) := by decide +kernel
theorem dX3_mayBeCheaper_26 : decode cX3_mayBeCheaper 26 = .ok (.aload_n 0, 1) := by decide +kernel
theorem dX3_mayBeCheaper_27 : decode cX3_mayBeCheaper 27 = .ok (.getfield 67, 3) := by decide +kernel
theorem dX3_mayBeCheaper_30 : decode cX3_mayBeCheaper 30 = .ok (.if_icmp .ge 7, 3) := by decide +kernel
theorem dX3_mayBeCheaper_33 : decode cX3_mayBeCheaper 33 = .ok (.iconst 1, 1) := by decide +kernel
theorem dX3_mayBeCheaper_34 : decode cX3_mayBeCheaper 34 = .ok (.goto 4, 3) := by decide +kernel
theorem dX3_mayBeCheaper_37 : decode cX3_mayBeCheaper 37 = .ok (.iconst 0, 1) := by decide +kernel
theorem dX3_mayBeCheaper_38 : decode cX3_mayBeCheaper 38 = .ok (.ireturn, 1) := by decide +kernel
set_option maxRecDepth 20000 in
theorem ggX3_takePoint_X3_keepsRows : GoodIn wsX3_takePoint wsX3_keepsRows := goodIn_r _ [12, 1, 13, 4, 2, 14, 15, 16, 17, 18, 19, 20, 21, 22, 23, 24, 25, 26, 27, 28, 29, 30, 36, 37, 38, 39, 40, 41, 42, 43, 44, 45, 46, 47, 48, 49, 50, 51, 52, 53, 54] rfl (by decide +kernel)
set_option maxRecDepth 20000 in
theorem gX3_takePoint_X3_keepsRows : GoodIn wsX3_takePoint (wsV RX3 123 RX3 yX3_keepsRows wsX3_keepsRows) := goodIn_app (goodIn_of _ (by decide +kernel)) ggX3_takePoint_X3_keepsRows
set_option maxRecDepth 20000 in
theorem ggX3_takePoint_X3_mayBeCheaper : GoodIn wsX3_takePoint wsX3_mayBeCheaper := goodIn_r _ [34, 3, 4, 35, 5, 36, 37, 38, 39, 40, 41, 42, 43, 44, 45] rfl (by decide +kernel)
set_option maxRecDepth 20000 in
theorem gX3_takePoint_X3_mayBeCheaper : GoodIn wsX3_takePoint (wsV RX3 63 RX3 yX3_mayBeCheaper wsX3_mayBeCheaper) := goodIn_app (goodIn_of _ (by decide +kernel)) ggX3_takePoint_X3_mayBeCheaper
theorem dX3_takePoint_0 : decode cX3_takePoint 0 = .ok (.aload_n 0, 1) := by decide +kernel
theorem dX3_takePoint_1 : decode cX3_takePoint 1 = .ok (.getfield 32, 3) := by decide +kernel
theorem dX3_takePoint_4 : decode cX3_takePoint 4 = .ok (.getfield 51, 3) := by decide +kernel
theorem dX3_takePoint_7 : decode cX3_takePoint 7 = .ok (.istore_n 1, 1) := by decide +kernel
theorem dX3_takePoint_8 : decode cX3_takePoint 8 = .ok (.aload_n 0, 1) := by decide +kernel
theorem dX3_takePoint_9 : decode cX3_takePoint 9 = .ok (.invokevirtual 123, 3) := by decide +kernel
theorem dX3_takePoint_12 : decode cX3_takePoint 12 = .ok (.ifCond .eq 11, 3) := by decide +kernel
theorem dX3_takePoint_15 : decode cX3_takePoint 15 = .ok (.aload_n 0, 1) := by decide +kernel
theorem dX3_takePoint_16 : decode cX3_takePoint 16 = .ok (.iload_n 1, 1) := by decide +kernel
theorem dX3_takePoint_17 : decode cX3_takePoint 17 = .ok (.invokevirtual 63, 3) := by decide +kernel
theorem dX3_takePoint_20 : decode cX3_takePoint 20 = .ok (.ifCond .ne 4, 3) := by decide +kernel
theorem dX3_takePoint_23 : decode cX3_takePoint 23 = .ok (.return_, 1) := by decide +kernel
theorem dX3_takePoint_24 : decode cX3_takePoint 24 = .ok (.aload_n 0, 1) := by decide +kernel
theorem dX3_takePoint_25 : decode cX3_takePoint 25 = .ok (.iconst 1, 1) := by decide +kernel
theorem dX3_takePoint_26 : decode cX3_takePoint 26 = .ok (.putfield 40, 3) := by decide +kernel
theorem dX3_takePoint_29 : decode cX3_takePoint 29 = .ok (.aload_n 0, 1) := by decide +kernel
theorem dX3_takePoint_30 : decode cX3_takePoint 30 = .ok (.aload_n 0, 1) := by decide +kernel
theorem dX3_takePoint_31 : decode cX3_takePoint 31 = .ok (.getfield 23, 3) := by decide +kernel
theorem dX3_takePoint_34 : decode cX3_takePoint 34 = .ok (.iload_n 1, 1) := by decide +kernel
theorem dX3_takePoint_35 : decode cX3_takePoint 35 = .ok (.aaload, 1) := by decide +kernel
theorem dX3_takePoint_36 : decode cX3_takePoint 36 = .ok (.bipush 8, 2) := by decide +kernel
theorem dX3_takePoint_38 : decode cX3_takePoint 38 = .ok (.iaload, 1) := by decide +kernel
theorem dX3_takePoint_39 : decode cX3_takePoint 39 = .ok (.putfield 67, 3) := by decide +kernel
theorem dX3_takePoint_42 : decode cX3_takePoint 42 = .ok (.iconst 0, 1) := by decide +kernel
theorem dX3_takePoint_43 : decode cX3_takePoint 43 = .ok (.istore_n 2, 1) := by decide +kernel
theorem dX3_takePoint_44 : decode cX3_takePoint 44 = .ok (.iload_n 2, 1) := by decide +kernel
theorem dX3_takePoint_45 : decode cX3_takePoint 45 = .ok (.iload_n 1, 1) := by decide +kernel
theorem dX3_takePoint_46 : decode cX3_takePoint 46 = .ok (.if_icmp .ge 21, 3) := by decide +kernel
theorem dX3_takePoint_49 : decode cX3_takePoint 49 = .ok (.aload_n 0, 1) := by decide +kernel
theorem dX3_takePoint_50 : decode cX3_takePoint 50 = .ok (.getfield 18, 3) := by decide +kernel
theorem dX3_takePoint_53 : decode cX3_takePoint 53 = .ok (.iload_n 2, 1) := by decide +kernel
theorem dX3_takePoint_54 : decode cX3_takePoint 54 = .ok (.aload_n 0, 1) := by decide +kernel
theorem dX3_takePoint_55 : decode cX3_takePoint 55 = .ok (.getfield 9, 3) := by decide +kernel
theorem dX3_takePoint_58 : decode cX3_takePoint 58 = .ok (.iload_n 2, 1) := by decide +kernel
theorem dX3_takePoint_59 : decode cX3_takePoint 59 = .ok (.iaload, 1) := by decide +kernel
theorem dX3_takePoint_60 : decode cX3_takePoint 60 = .ok (.iastore, 1) := by decide +kernel
theorem dX3_takePoint_61 : decode cX3_takePoint 61 = .ok (.iinc 2 1, 3) := by decide +kernel
theorem dX3_takePoint_64 : decode cX3_takePoint 64 = .ok (.goto (-20), 3) := by decide +kernel
theorem dX3_takePoint_67 : decode cX3_takePoint 67 = .ok (.return_, 1) := by decide +kernel
set_option maxRecDepth 20000 in
theorem ggX3_keepsRows_X1_hasRow : GoodIn wsX3_keepsRows wsX1_hasRow := goodIn_r _ [10, 11, 12, 32, 33, 34, 35, 36, 37, 38, 39, 40] rfl (by decide +kernel)
set_option maxRecDepth 20000 in
theorem gX3_keepsRows_X1_hasRow : GoodIn wsX3_keepsRows (wsV RX3 97 RX1 yX1_hasRow wsX1_hasRow) := goodIn_app (goodIn_of _ (by decide +kernel)) ggX3_keepsRows_X1_hasRow
set_option maxRecDepth 20000 in
theorem ggX3_keepsRows_X1_limitsFromAbove : GoodIn wsX3_keepsRows wsX1_limitsFromAbove := goodIn_r _ [16, 17, 32, 33, 34, 35, 36, 37, 38, 39, 40] rfl (by decide +kernel)
set_option maxRecDepth 20000 in
theorem gX3_keepsRows_X1_limitsFromAbove : GoodIn wsX3_keepsRows (wsV RX3 114 RX1 yX1_limitsFromAbove wsX1_limitsFromAbove) := goodIn_app (goodIn_of _ (by decide +kernel)) ggX3_keepsRows_X1_limitsFromAbove
set_option maxRecDepth 20000 in
theorem ggX3_keepsRows_X1_limitsFromBelow : GoodIn wsX3_keepsRows wsX1_limitsFromBelow := goodIn_r _ [21, 17, 32, 33, 34, 35, 36, 37, 38, 39, 40] rfl (by decide +kernel)
set_option maxRecDepth 20000 in
theorem gX3_keepsRows_X1_limitsFromBelow : GoodIn wsX3_keepsRows (wsV RX3 117 RX1 yX1_limitsFromBelow wsX1_limitsFromBelow) := goodIn_app (goodIn_of _ (by decide +kernel)) ggX3_keepsRows_X1_limitsFromBelow
theorem dX3_keepsRows_0 : decode cX3_keepsRows 0 = .ok (.iconst 0, 1) := by decide +kernel
theorem dX3_keepsRows_1 : decode cX3_keepsRows 1 = .ok (.istore_n 1, 1) := by decide +kernel
theorem dX3_keepsRows_2 : decode cX3_keepsRows 2 = .ok (.iload_n 1, 1) := by decide +kernel
theorem dX3_keepsRows_3 : decode cX3_keepsRows 3 = .ok (.aload_n 0, 1) := by decide +kernel
theorem dX3_keepsRows_4 : decode cX3_keepsRows 4 = .ok (.getfield 32, 3) := by decide +kernel
theorem dX3_keepsRows_7 : decode cX3_keepsRows 7 = .ok (.getfield 94, 3) := by decide +kernel
theorem dX3_keepsRows_10 : decode cX3_keepsRows 10 = .ok (.if_icmp .ge 77, 3) := by decide +kernel
theorem dX3_keepsRows_13 : decode cX3_keepsRows 13 = .ok (.aload_n 0, 1) := by decide +kernel
theorem dX3_keepsRows_14 : decode cX3_keepsRows 14 = .ok (.getfield 23, 3) := by decide +kernel
theorem dX3_keepsRows_17 : decode cX3_keepsRows 17 = .ok (.aload_n 0, 1) := by decide +kernel
theorem dX3_keepsRows_18 : decode cX3_keepsRows 18 = .ok (.getfield 32, 3) := by decide +kernel
theorem dX3_keepsRows_21 : decode cX3_keepsRows 21 = .ok (.getfield 51, 3) := by decide +kernel
theorem dX3_keepsRows_24 : decode cX3_keepsRows 24 = .ok (.aaload, 1) := by decide +kernel
theorem dX3_keepsRows_25 : decode cX3_keepsRows 25 = .ok (.iload_n 1, 1) := by decide +kernel
theorem dX3_keepsRows_26 : decode cX3_keepsRows 26 = .ok (.iaload, 1) := by decide +kernel
theorem dX3_keepsRows_27 : decode cX3_keepsRows 27 = .ok (.aload_n 0, 1) := by decide +kernel
theorem dX3_keepsRows_28 : decode cX3_keepsRows 28 = .ok (.getfield 32, 3) := by decide +kernel
theorem dX3_keepsRows_31 : decode cX3_keepsRows 31 = .ok (.getfield 111, 3) := by decide +kernel
theorem dX3_keepsRows_34 : decode cX3_keepsRows 34 = .ok (.iload_n 1, 1) := by decide +kernel
theorem dX3_keepsRows_35 : decode cX3_keepsRows 35 = .ok (.iaload, 1) := by decide +kernel
theorem dX3_keepsRows_36 : decode cX3_keepsRows 36 = .ok (.isub, 1) := by decide +kernel
theorem dX3_keepsRows_37 : decode cX3_keepsRows 37 = .ok (.istore_n 2, 1) := by decide +kernel
theorem dX3_keepsRows_38 : decode cX3_keepsRows 38 = .ok (.aload_n 0, 1) := by decide +kernel
theorem dX3_keepsRows_39 : decode cX3_keepsRows 39 = .ok (.getfield 32, 3) := by decide +kernel
theorem dX3_keepsRows_42 : decode cX3_keepsRows 42 = .ok (.iload_n 1, 1) := by decide +kernel
theorem dX3_keepsRows_43 : decode cX3_keepsRows 43 = .ok (.invokevirtual 97, 3) := by decide +kernel
theorem dX3_keepsRows_46 : decode cX3_keepsRows 46 = .ok (.ifCond .eq 35, 3) := by decide +kernel
theorem dX3_keepsRows_49 : decode cX3_keepsRows 49 = .ok (.iload_n 2, 1) := by decide +kernel
theorem dX3_keepsRows_50 : decode cX3_keepsRows 50 = .ok (.ifCond .le 14, 3) := by decide +kernel
theorem dX3_keepsRows_53 : decode cX3_keepsRows 53 = .ok (.aload_n 0, 1) := by decide +kernel
theorem dX3_keepsRows_54 : decode cX3_keepsRows 54 = .ok (.getfield 32, 3) := by decide +kernel
theorem dX3_keepsRows_57 : decode cX3_keepsRows 57 = .ok (.iload_n 1, 1) := by decide +kernel
theorem dX3_keepsRows_58 : decode cX3_keepsRows 58 = .ok (.invokevirtual 114, 3) := by decide +kernel
theorem dX3_keepsRows_61 : decode cX3_keepsRows 61 = .ok (.ifCond .ne 18, 3) := by decide +kernel
theorem dX3_keepsRows_64 : decode cX3_keepsRows 64 = .ok (.iload_n 2, 1) := by decide +kernel
theorem dX3_keepsRows_65 : decode cX3_keepsRows 65 = .ok (.ifCond .ge 16, 3) := by decide +kernel
theorem dX3_keepsRows_68 : decode cX3_keepsRows 68 = .ok (.aload_n 0, 1) := by decide +kernel
theorem dX3_keepsRows_69 : decode cX3_keepsRows 69 = .ok (.getfield 32, 3) := by decide +kernel
theorem dX3_keepsRows_72 : decode cX3_keepsRows 72 = .ok (.iload_n 1, 1) := by decide +kernel
theorem dX3_keepsRows_73 : decode cX3_keepsRows 73 = .ok (.invokevirtual 117, 3) := by decide +kernel
theorem dX3_keepsRows_76 : decode cX3_keepsRows 76 = .ok (.ifCond .eq 5, 3) := by decide +kernel
theorem dX3_keepsRows_79 : decode cX3_keepsRows 79 = .ok (.iconst 0, 1) := by decide +kernel
theorem dX3_keepsRows_80 : decode cX3_keepsRows 80 = .ok (.ireturn, 1) := by decide +kernel
theorem dX3_keepsRows_81 : decode cX3_keepsRows 81 = .ok (.iinc 1 1, 3) := by decide +kernel
theorem dX3_keepsRows_84 : decode cX3_keepsRows 84 = .ok (.goto (-82), 3) := by decide +kernel
theorem dX3_keepsRows_87 : decode cX3_keepsRows 87 = .ok (.iconst 1, 1) := by decide +kernel
theorem dX3_keepsRows_88 : decode cX3_keepsRows 88 = .ok (.ireturn, 1) := by decide +kernel
set_option maxRecDepth 20000 in
theorem ggX4_init_X1_init : GoodIn wsX4_init wsX1_init := goodIn_r _ [17, 18, 2, 3, 19, 20, 21, 22, 23, 24, 25, 26, 27, 28, 65, 66, 67, 68, 69, 70, 71, 72, 73] rfl (by decide +kernel)
set_option maxRecDepth 20000 in
theorem gX4_init_X1_init_n9 : GoodIn wsX4_init (wsX1_init) := ggX4_init_X1_init
set_option maxRecDepth 20000 in
theorem ggX4_init_X2_init : GoodIn wsX4_init wsX2_init := goodIn_r _ [31, 32, 2, 3, 33, 34, 35, 36, 19, 37, 38, 39, 40, 41, 42, 43, 44, 45, 46, 47, 48, 49, 27, 50, 51, 52, 97, 98, 99, 100, 101, 102, 103, 104, 105, 77, 78, 79, 80, 81, 82, 83, 84, 85, 86] rfl (by decide +kernel)
set_option maxRecDepth 20000 in
theorem gX4_init_X2_init : GoodIn wsX4_init (wsX2_init) := ggX4_init_X2_init
set_option maxRecDepth 20000 in
theorem ggX4_init_X3_init : GoodIn wsX4_init wsX3_init := goodIn_r _ [55, 56, 2, 3, 19, 57, 58, 59, 60, 61, 62, 63, 64, 87, 88, 89, 90, 91, 92, 93, 94, 95, 96] rfl (by decide +kernel)
set_option maxRecDepth 20000 in
theorem gX4_init_X3_init : GoodIn wsX4_init (wsX3_init) := ggX4_init_X3_init
