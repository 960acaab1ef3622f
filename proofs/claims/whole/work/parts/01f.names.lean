set_option maxRecDepth 20000 in
theorem gX3_draws_X1_countSigns : GoodIn wsX3_draws (wsV RX3 65 RX1 yX1_countSigns wsX1_countSigns) := goodIn_app (goodIn_of _ (by decide +kernel)) ggX3_draws_X1_countSigns
set_option maxRecDepth 20000 in
theorem ggX3_draws_X1_cellsToDraw : GoodIn wsX3_draws wsX1_cellsToDraw := goodIn_r _ [26, 11, 12, 13, 5, 14, 15, 27, 28, 29, 30, 31, 91, 92, 93, 94, 95, 96, 97, 98] (by decide +kernel) (by decide +kernel)
set_option maxRecDepth 20000 in
theorem gX3_draws_X1_cellsToDraw : GoodIn wsX3_draws (wsV RX3 141 RX1 yX1_cellsToDraw wsX1_cellsToDraw) := goodIn_app (goodIn_of _ (by decide +kernel)) ggX3_draws_X1_cellsToDraw
set_option maxRecDepth 20000 in
theorem ggX3_draws_X3_bestTrueSign : GoodIn wsX3_draws wsX3_bestTrueSign := goodIn_r _ [36, 37, 1, 38, 39, 35, 40, 41, 42, 43, 5, 44, 31, 15, 45, 46, 47, 48, 49, 50, 28, 29, 30, 51, 52, 53, 54, 55, 56, 57, 58, 59, 60, 61, 62, 63, 64, 65, 66, 67, 68, 69, 70, 71, 72, 73, 74, 75, 11, 12, 13, 14, 27, 76, 77, 78, 79, 80, 81, 82, 83, 84, 85, 86, 87, 88, 89, 90, 91, 92, 93, 94, 95, 96, 97, 98] (by decide +kernel) (by decide +kernel)
set_option maxRecDepth 20000 in
theorem gX3_draws_X3_bestTrueSign : GoodIn wsX3_draws (wsV RX3 138 RX3 yX3_bestTrueSign wsX3_bestTrueSign) := goodIn_app (goodIn_of _ (by decide +kernel)) ggX3_draws_X3_bestTrueSign
theorem dX3_draws_0 : decode cX3_draws 0 = .ok (.iload_n 1, 1) := by decide +kernel
theorem dX3_draws_1 : decode cX3_draws 1 = .ok (.iconst 1, 1) := by decide +kernel
theorem dX3_draws_2 : decode cX3_draws 2 = .ok (.if_icmp .lt 8, 3) := by decide +kernel
theorem dX3_draws_5 : decode cX3_draws 5 = .ok (.iload_n 1, 1) := by decide +kernel
theorem dX3_draws_6 : decode cX3_draws 6 = .ok (.iconst 3, 1) := by decide +kernel
theorem dX3_draws_7 : decode cX3_draws 7 = .ok (.if_icmp .le 6, 3) := by decide +kernel
theorem dX3_draws_10 : decode cX3_draws 10 = .ok (.bipush (-2), 2) := by decide +kernel
theorem dX3_draws_12 : decode cX3_draws 12 = .ok (.ireturn, 1) := by decide +kernel
theorem dX3_draws_13 : decode cX3_draws 13 = .ok (.aload_n 0, 1) := by decide +kernel
theorem dX3_draws_14 : decode cX3_draws 14 = .ok (.getfield 21, 3) := by decide +kernel
theorem dX3_draws_17 : decode cX3_draws 17 = .ok (.invokevirtual 65, 3) := by decide +kernel
theorem dX3_draws_20 : decode cX3_draws 20 = .ok (.bipush 8, 2) := by decide +kernel
theorem dX3_draws_22 : decode cX3_draws 22 = .ok (.if_icmp .lt 6, 3) := by decide +kernel
theorem dX3_draws_25 : decode cX3_draws 25 = .ok (.bipush (-9), 2) := by decide +kernel
theorem dX3_draws_27 : decode cX3_draws 27 = .ok (.ireturn, 1) := by decide +kernel
theorem dX3_draws_28 : decode cX3_draws 28 = .ok (.aload_n 0, 1) := by decide +kernel
theorem dX3_draws_29 : decode cX3_draws 29 = .ok (.aload_n 0, 1) := by decide +kernel
theorem dX3_draws_30 : decode cX3_draws 30 = .ok (.getfield 21, 3) := by decide +kernel
theorem dX3_draws_33 : decode cX3_draws 33 = .ok (.invokevirtual 141, 3) := by decide +kernel
theorem dX3_draws_36 : decode cX3_draws 36 = .ok (.iload_n 1, 1) := by decide +kernel
theorem dX3_draws_37 : decode cX3_draws 37 = .ok (.invokevirtual 138, 3) := by decide +kernel
theorem dX3_draws_40 : decode cX3_draws 40 = .ok (.ireturn, 1) := by decide +kernel
set_option maxRecDepth 20000 in
theorem ggX3_judge_X3_isRow : GoodIn wsX3_judge wsX3_isRow := goodIn_r _ [7] (by decide +kernel) (by decide +kernel)
set_option maxRecDepth 20000 in
theorem gX3_judge_X3_isRow : GoodIn wsX3_judge (va_wsS RX3 144 yX3_isRow wsX3_isRow) := goodIn_app (goodIn_of _ (by decide +kernel)) ggX3_judge_X3_isRow
set_option maxRecDepth 20000 in
theorem ggX3_judge_X1_become : GoodIn wsX3_judge wsX1_become := goodIn_r _ [12, 13, 14, 15, 16, 17, 18, 19, 58, 59, 60, 61, 62, 63, 64, 65] (by decide +kernel) (by decide +kernel)
set_option maxRecDepth 20000 in
theorem gX3_judge_X1_become : GoodIn wsX3_judge (wsV RX3 112 RX1 yX1_become wsX1_become) := goodIn_app (goodIn_of _ (by decide +kernel)) ggX3_judge_X1_become
set_option maxRecDepth 20000 in
theorem ggX3_judge_X3_figureOf : GoodIn wsX3_judge wsX3_figureOf := goodIn_r _ [22] (by decide +kernel) (by decide +kernel)
set_option maxRecDepth 20000 in
theorem gX3_judge_X3_figureOf : GoodIn wsX3_judge (va_wsS RX3 148 yX3_figureOf wsX3_figureOf) := goodIn_app (goodIn_of _ (by decide +kernel)) ggX3_judge_X3_figureOf
set_option maxRecDepth 20000 in
theorem ggX3_judge_X1_live : GoodIn wsX3_judge wsX1_live := goodIn_r _ [26, 16, 15, 19, 27, 6, 28, 29, 30, 31, 11, 32, 33, 34, 35, 36, 14, 37, 38, 39, 40, 13, 41, 42, 43, 44, 17, 18, 45, 46, 47, 48, 49, 50, 58, 59, 60, 61, 62, 63, 64, 65] (by decide +kernel) (by decide +kernel)
set_option maxRecDepth 20000 in
theorem gX3_judge_X1_live : GoodIn wsX3_judge (wsV RX3 115 RX1 yX1_live wsX1_live) := goodIn_app (goodIn_of _ (by decide +kernel)) ggX3_judge_X1_live
theorem dX3_judge_0 : decode cX3_judge 0 = .ok (.iload_n 1, 1) := by decide +kernel
theorem dX3_judge_1 : decode cX3_judge 1 = .ok (.iconst 1, 1) := by decide +kernel
theorem dX3_judge_2 : decode cX3_judge 2 = .ok (.if_icmp .lt 17, 3) := by decide +kernel
theorem dX3_judge_5 : decode cX3_judge 5 = .ok (.iload_n 1, 1) := by decide +kernel
theorem dX3_judge_6 : decode cX3_judge 6 = .ok (.bipush 6, 2) := by decide +kernel
theorem dX3_judge_8 : decode cX3_judge 8 = .ok (.if_icmp .gt 11, 3) := by decide +kernel
theorem dX3_judge_11 : decode cX3_judge 11 = .ok (.iload_n 1, 1) := by decide +kernel
theorem dX3_judge_12 : decode cX3_judge 12 = .ok (.iload_n 2, 1) := by decide +kernel
theorem dX3_judge_13 : decode cX3_judge 13 = .ok (.invokestatic 144, 3) := by decide +kernel
theorem dX3_judge_16 : decode cX3_judge 16 = .ok (.ifCond .ne 6, 3) := by decide +kernel
theorem dX3_judge_19 : decode cX3_judge 19 = .ok (.bipush (-2), 2) := by decide +kernel
theorem dX3_judge_21 : decode cX3_judge 21 = .ok (.ireturn, 1) := by decide +kernel
theorem dX3_judge_22 : decode cX3_judge 22 = .ok (.aload_n 0, 1) := by decide +kernel
theorem dX3_judge_23 : decode cX3_judge 23 = .ok (.getfield 40, 3) := by decide +kernel
theorem dX3_judge_26 : decode cX3_judge 26 = .ok (.aload_n 0, 1) := by decide +kernel
theorem dX3_judge_27 : decode cX3_judge 27 = .ok (.getfield 21, 3) := by decide +kernel
theorem dX3_judge_30 : decode cX3_judge 30 = .ok (.invokevirtual 112, 3) := by decide +kernel
theorem dX3_judge_33 : decode cX3_judge 33 = .ok (.iconst 0, 1) := by decide +kernel
theorem dX3_judge_34 : decode cX3_judge 34 = .ok (.istore_n 3, 1) := by decide +kernel
theorem dX3_judge_35 : decode cX3_judge 35 = .ok (.iload_n 3, 1) := by decide +kernel
theorem dX3_judge_36 : decode cX3_judge 36 = .ok (.iload_n 1, 1) := by decide +kernel
theorem dX3_judge_37 : decode cX3_judge 37 = .ok (.if_icmp .ge 44, 3) := by decide +kernel
theorem dX3_judge_40 : decode cX3_judge 40 = .ok (.aload_n 0, 1) := by decide +kernel
theorem dX3_judge_41 : decode cX3_judge 41 = .ok (.getfield 40, 3) := by decide +kernel
theorem dX3_judge_44 : decode cX3_judge 44 = .ok (.iload_n 1, 1) := by decide +kernel
theorem dX3_judge_45 : decode cX3_judge 45 = .ok (.iload_n 2, 1) := by decide +kernel
theorem dX3_judge_46 : decode cX3_judge 46 = .ok (.iload_n 3, 1) := by decide +kernel
theorem dX3_judge_47 : decode cX3_judge 47 = .ok (.invokestatic 148, 3) := by decide +kernel
theorem dX3_judge_50 : decode cX3_judge 50 = .ok (.invokevirtual 115, 3) := by decide +kernel
theorem dX3_judge_53 : decode cX3_judge 53 = .ok (.ifCond .eq 20, 3) := by decide +kernel
theorem dX3_judge_56 : decode cX3_judge 56 = .ok (.aload_n 0, 1) := by decide +kernel
theorem dX3_judge_57 : decode cX3_judge 57 = .ok (.getfield 40, 3) := by decide +kernel
theorem dX3_judge_60 : decode cX3_judge 60 = .ok (.getfield 74, 3) := by decide +kernel
theorem dX3_judge_63 : decode cX3_judge 63 = .ok (.aload_n 0, 1) := by decide +kernel
theorem dX3_judge_64 : decode cX3_judge 64 = .ok (.getfield 21, 3) := by decide +kernel
theorem dX3_judge_67 : decode cX3_judge 67 = .ok (.getfield 74, 3) := by decide +kernel
theorem dX3_judge_70 : decode cX3_judge 70 = .ok (.if_icmp .le 5, 3) := by decide +kernel
theorem dX3_judge_73 : decode cX3_judge 73 = .ok (.iload_n 3, 1) := by decide +kernel
theorem dX3_judge_74 : decode cX3_judge 74 = .ok (.ireturn, 1) := by decide +kernel
theorem dX3_judge_75 : decode cX3_judge 75 = .ok (.iinc 3 1, 3) := by decide +kernel
theorem dX3_judge_78 : decode cX3_judge 78 = .ok (.goto (-43), 3) := by decide +kernel
theorem dX3_judge_81 : decode cX3_judge 81 = .ok (.bipush (-9), 2) := by decide +kernel
theorem dX3_judge_83 : decode cX3_judge 83 = .ok (.ireturn, 1) := by decide +kernel
set_option maxRecDepth 20000 in
theorem ggX3_starts_X3_isRow : GoodIn wsX3_starts wsX3_isRow := goodIn_r _ [9] (by decide +kernel) (by decide +kernel)
set_option maxRecDepth 20000 in
theorem gX3_starts_X3_isRow : GoodIn wsX3_starts (va_wsS RX3 144 yX3_isRow wsX3_isRow) := goodIn_app (goodIn_of _ (by decide +kernel)) ggX3_starts_X3_isRow
set_option maxRecDepth 20000 in
theorem ggX3_starts_X1_openCells : GoodIn wsX3_starts wsX1_openCells := goodIn_r _ [14, 15, 16, 17, 13, 18, 19, 20, 21, 22, 23, 24, 25, 26, 27, 28, 69, 70, 71, 72, 73, 74, 75, 76] (by decide +kernel) (by decide +kernel)
set_option maxRecDepth 20000 in
theorem gX3_starts_X1_openCells : GoodIn wsX3_starts (wsV RX3 118 RX1 yX1_openCells wsX1_openCells) := goodIn_app (goodIn_of _ (by decide +kernel)) ggX3_starts_X1_openCells
set_option maxRecDepth 20000 in
theorem ggX3_starts_X3_hasCell : GoodIn wsX3_starts wsX3_hasCell := goodIn_r _ [31] (by decide +kernel) (by decide +kernel)
set_option maxRecDepth 20000 in
theorem gX3_starts_X3_hasCell : GoodIn wsX3_starts (va_wsS RX3 151 yX3_hasCell wsX3_hasCell) := goodIn_app (goodIn_of _ (by decide +kernel)) ggX3_starts_X3_hasCell
set_option maxRecDepth 20000 in
theorem ggX3_starts_X1_become : GoodIn wsX3_starts wsX1_become := goodIn_r _ [35, 28, 23, 36, 37, 38, 39, 40, 69, 70, 71, 72, 73, 74, 75, 76] (by decide +kernel) (by decide +kernel)
set_option maxRecDepth 20000 in
theorem gX3_starts_X1_become : GoodIn wsX3_starts (wsV RX3 112 RX1 yX1_become wsX1_become) := goodIn_app (goodIn_of _ (by decide +kernel)) ggX3_starts_X1_become
set_option maxRecDepth 20000 in
theorem ggX3_starts_X3_livedBy : GoodIn wsX3_starts wsX3_livedBy := goodIn_r _ [44, 2, 45, 46, 8, 47, 48, 49, 50, 13, 51, 37, 36, 40, 52, 53, 15, 16, 17, 18, 19, 20, 21, 22, 23, 24, 25, 26, 27, 28, 54, 55, 56, 57, 38, 39, 30, 31, 58, 59, 60, 61, 62, 63, 64, 65, 66, 67, 68, 69, 70, 71, 72, 73, 74, 75, 76] (by decide +kernel) (by decide +kernel)
set_option maxRecDepth 20000 in
theorem gX3_starts_X3_livedBy : GoodIn wsX3_starts (wsV RX3 154 RX3 yX3_livedBy wsX3_livedBy) := goodIn_app (goodIn_of _ (by decide +kernel)) ggX3_starts_X3_livedBy
theorem dX3_starts_0 : decode cX3_starts 0 = .ok (.iload_n 1, 1) := by decide +kernel
theorem dX3_starts_1 : decode cX3_starts 1 = .ok (.iconst 1, 1) := by decide +kernel
theorem dX3_starts_2 : decode cX3_starts 2 = .ok (.if_icmp .lt 26, 3) := by decide +kernel
theorem dX3_starts_5 : decode cX3_starts 5 = .ok (.iload_n 1, 1) := by decide +kernel
theorem dX3_starts_6 : decode cX3_starts 6 = .ok (.iconst 5, 1) := by decide +kernel
theorem dX3_starts_7 : decode cX3_starts 7 = .ok (.if_icmp .gt 21, 3) := by decide +kernel
theorem dX3_starts_10 : decode cX3_starts 10 = .ok (.iload_n 1, 1) := by decide +kernel
theorem dX3_starts_11 : decode cX3_starts 11 = .ok (.iload_n 2, 1) := by decide +kernel
theorem dX3_starts_12 : decode cX3_starts 12 = .ok (.invokestatic 144, 3) := by decide +kernel
theorem dX3_starts_15 : decode cX3_starts 15 = .ok (.ifCond .eq 13, 3) := by decide +kernel
theorem dX3_starts_18 : decode cX3_starts 18 = .ok (.iload_n 3, 1) := by decide +kernel
theorem dX3_starts_19 : decode cX3_starts 19 = .ok (.ifCond .lt 9, 3) := by decide +kernel
theorem dX3_starts_22 : decode cX3_starts 22 = .ok (.iload_n 3, 1) := by decide +kernel
theorem dX3_starts_23 : decode cX3_starts 23 = .ok (.bipush 30, 2) := by decide +kernel
theorem dX3_starts_25 : decode cX3_starts 25 = .ok (.if_icmp .le 6, 3) := by decide +kernel
theorem dX3_starts_28 : decode cX3_starts 28 = .ok (.bipush (-2), 2) := by decide +kernel
theorem dX3_starts_30 : decode cX3_starts 30 = .ok (.ireturn, 1) := by decide +kernel
theorem dX3_starts_31 : decode cX3_starts 31 = .ok (.aload_n 0, 1) := by decide +kernel
theorem dX3_starts_32 : decode cX3_starts 32 = .ok (.getfield 21, 3) := by decide +kernel
theorem dX3_starts_35 : decode cX3_starts 35 = .ok (.iconst 1, 1) := by decide +kernel
theorem dX3_starts_36 : decode cX3_starts 36 = .ok (.invokevirtual 118, 3) := by decide +kernel
theorem dX3_starts_39 : decode cX3_starts 39 = .ok (.istore 4, 2) := by decide +kernel
theorem dX3_starts_41 : decode cX3_starts 41 = .ok (.iconst 0, 1) := by decide +kernel
theorem dX3_starts_42 : decode cX3_starts 42 = .ok (.istore 5, 2) := by decide +kernel
theorem dX3_starts_44 : decode cX3_starts 44 = .ok (.iconst 0, 1) := by decide +kernel
theorem dX3_starts_45 : decode cX3_starts 45 = .ok (.istore 6, 2) := by decide +kernel
theorem dX3_starts_47 : decode cX3_starts 47 = .ok (.iload 6, 2) := by decide +kernel
theorem dX3_starts_49 : decode cX3_starts 49 = .ok (.bipush 12, 2) := by decide +kernel
theorem dX3_starts_51 : decode cX3_starts 51 = .ok (.if_icmp .ge 79, 3) := by decide +kernel
theorem dX3_starts_54 : decode cX3_starts 54 = .ok (.iload 4, 2) := by decide +kernel
theorem dX3_starts_56 : decode cX3_starts 56 = .ok (.iload 6, 2) := by decide +kernel
theorem dX3_starts_58 : decode cX3_starts 58 = .ok (.invokestatic 151, 3) := by decide +kernel
theorem dX3_starts_61 : decode cX3_starts 61 = .ok (.ifCond .ne 6, 3) := by decide +kernel
theorem dX3_starts_64 : decode cX3_starts 64 = .ok (.goto 60, 3) := by decide +kernel
theorem dX3_starts_67 : decode cX3_starts 67 = .ok (.aload_n 0, 1) := by decide +kernel
theorem dX3_starts_68 : decode cX3_starts 68 = .ok (.getfield 40, 3) := by decide +kernel
theorem dX3_starts_71 : decode cX3_starts 71 = .ok (.aload_n 0, 1) := by decide +kernel
theorem dX3_starts_72 : decode cX3_starts 72 = .ok (.getfield 21, 3) := by decide +kernel
theorem dX3_starts_75 : decode cX3_starts 75 = .ok (.invokevirtual 112, 3) := by decide +kernel
theorem dX3_starts_78 : decode cX3_starts 78 = .ok (.aload_n 0, 1) := by decide +kernel
theorem dX3_starts_79 : decode cX3_starts 79 = .ok (.getfield 40, 3) := by decide +kernel
theorem dX3_starts_82 : decode cX3_starts 82 = .ok (.iload 6, 2) := by decide +kernel
theorem dX3_starts_84 : decode cX3_starts 84 = .ok (.putfield 68, 3) := by decide +kernel
theorem dX3_starts_87 : decode cX3_starts 87 = .ok (.aload_n 0, 1) := by decide +kernel
theorem dX3_starts_88 : decode cX3_starts 88 = .ok (.getfield 40, 3) := by decide +kernel
theorem dX3_starts_91 : decode cX3_starts 91 = .ok (.iconst 0, 1) := by decide +kernel
theorem dX3_starts_92 : decode cX3_starts 92 = .ok (.putfield 77, 3) := by decide +kernel
theorem dX3_starts_95 : decode cX3_starts 95 = .ok (.aload_n 0, 1) := by decide +kernel
theorem dX3_starts_96 : decode cX3_starts 96 = .ok (.iload_n 1, 1) := by decide +kernel
theorem dX3_starts_97 : decode cX3_starts 97 = .ok (.iload_n 2, 1) := by decide +kernel
theorem dX3_starts_98 : decode cX3_starts 98 = .ok (.invokevirtual 154, 3) := by decide +kernel
theorem dX3_starts_101 : decode cX3_starts 101 = .ok (.ifCond .eq 23, 3) := by decide +kernel
theorem dX3_starts_104 : decode cX3_starts 104 = .ok (.aload_n 0, 1) := by decide +kernel
theorem dX3_starts_105 : decode cX3_starts 105 = .ok (.getfield 40, 3) := by decide +kernel
theorem dX3_starts_108 : decode cX3_starts 108 = .ok (.getfield 71, 3) := by decide +kernel
theorem dX3_starts_111 : decode cX3_starts 111 = .ok (.iload_n 3, 1) := by decide +kernel
theorem dX3_starts_112 : decode cX3_starts 112 = .ok (.if_icmp .ne 12, 3) := by decide +kernel
theorem dX3_starts_115 : decode cX3_starts 115 = .ok (.iload 5, 2) := by decide +kernel
theorem dX3_starts_117 : decode cX3_starts 117 = .ok (.iconst 1, 1) := by decide +kernel
theorem dX3_starts_118 : decode cX3_starts 118 = .ok (.iload 6, 2) := by decide +kernel
theorem dX3_starts_120 : decode cX3_starts 120 = .ok (.ishl, 1) := by decide +kernel
theorem dX3_starts_121 : decode cX3_starts 121 = .ok (.ior, 1) := by decide +kernel
theorem dX3_starts_122 : decode cX3_starts 122 = .ok (.istore 5, 2) := by decide +kernel
theorem dX3_starts_124 : decode cX3_starts 124 = .ok (.iinc 6 1, 3) := by decide +kernel
theorem dX3_starts_127 : decode cX3_starts 127 = .ok (.goto (-80), 3) := by decide +kernel
theorem dX3_starts_130 : decode cX3_starts 130 = .ok (.iload 5, 2) := by decide +kernel
theorem dX3_starts_132 : decode cX3_starts 132 = .ok (.ireturn, 1) := by decide +kernel
set_option maxRecDepth 20000 in
theorem ggX3_share_X3_isCell : GoodIn wsX3_share wsX3_isCell := goodIn_r _ [5] (by decide +kernel) (by decide +kernel)
set_option maxRecDepth 20000 in
theorem gX3_share_X3_isCell : GoodIn wsX3_share (va_wsS RX3 86 yX3_isCell wsX3_isCell) := goodIn_app (goodIn_of _ (by decide +kernel)) ggX3_share_X3_isCell
set_option maxRecDepth 20000 in
theorem ggX3_share_X1_signOf : GoodIn wsX3_share wsX1_signOf := goodIn_r _ [10, 11, 98, 99, 100, 101, 102, 103, 104, 105] (by decide +kernel) (by decide +kernel)
set_option maxRecDepth 20000 in
theorem gX3_share_X1_signOf : GoodIn wsX3_share (wsV RX3 93 RX1 yX1_signOf wsX1_signOf) := goodIn_app (goodIn_of _ (by decide +kernel)) ggX3_share_X1_signOf
set_option maxRecDepth 20000 in
theorem ggX3_share_X1_signedCells : GoodIn wsX3_share wsX1_signedCells := goodIn_r _ [15, 16, 7, 8, 9, 10, 11, 98, 99, 100, 101, 102, 103, 104, 105] (by decide +kernel) (by decide +kernel)
set_option maxRecDepth 20000 in
theorem gX3_share_X1_signedCells : GoodIn wsX3_share (wsV RX3 157 RX1 yX1_signedCells wsX1_signedCells) := goodIn_app (goodIn_of _ (by decide +kernel)) ggX3_share_X1_signedCells
set_option maxRecDepth 20000 in
theorem ggX3_share_J6_bitCount_0f7a4 : GoodIn wsX3_share wsJ6_bitCount_0f7a4 := goodIn_r _ [20, 21, 22, 23] (by decide +kernel) (by decide +kernel)
set_option maxRecDepth 20000 in
theorem gX3_share_J6_bitCount_0f7a4 : GoodIn wsX3_share (va_wsS RX3 160 yJ6_bitCount_0f7a4 wsJ6_bitCount_0f7a4) := goodIn_app (goodIn_of _ (by decide +kernel)) ggX3_share_J6_bitCount_0f7a4
set_option maxRecDepth 20000 in
theorem ggX3_share_X3_foodOfTwoDays : GoodIn wsX3_share wsX3_foodOfTwoDays := goodIn_r _ [27, 28, 1, 29, 30, 31, 32, 33, 34, 35, 9, 36, 37, 11, 38, 39, 40, 41, 42, 43, 44, 45, 46, 47, 4, 48, 49, 50, 51, 52, 53, 54, 55, 56, 57, 58, 59, 60, 61, 62, 63, 64, 65, 66, 67, 68, 69, 16, 7, 8, 10, 70, 71, 72, 73, 74, 75, 76, 77, 78, 79, 80, 81, 91, 92, 93, 94, 95, 96, 97, 98, 99, 100, 101, 102, 103, 104, 105] (by decide +kernel) (by decide +kernel)
set_option maxRecDepth 20000 in
theorem gX3_share_X3_foodOfTwoDays : GoodIn wsX3_share (wsV RX3 165 RX3 yX3_foodOfTwoDays wsX3_foodOfTwoDays) := goodIn_app (goodIn_of _ (by decide +kernel)) ggX3_share_X3_foodOfTwoDays
set_option maxRecDepth 20000 in
theorem ggX3_share_X3_ordersOf : GoodIn wsX3_share wsX3_ordersOf := goodIn_r _ [84] (by decide +kernel) (by decide +kernel)
set_option maxRecDepth 20000 in
theorem gX3_share_X3_ordersOf : GoodIn wsX3_share (va_wsS RX3 168 yX3_ordersOf wsX3_ordersOf) := goodIn_app (goodIn_of _ (by decide +kernel)) ggX3_share_X3_ordersOf
set_option maxRecDepth 20000 in
theorem ggX3_share_X3_fraction : GoodIn wsX3_share wsX3_fraction := goodIn_r _ [87, 88, 89, 31, 90] (by decide +kernel) (by decide +kernel)
set_option maxRecDepth 20000 in
theorem gX3_share_X3_fraction : GoodIn wsX3_share (va_wsS RX3 172 yX3_fraction wsX3_fraction) := goodIn_app (goodIn_of _ (by decide +kernel)) ggX3_share_X3_fraction
theorem dX3_share_0 : decode cX3_share 0 = .ok (.iload_n 1, 1) := by decide +kernel
theorem dX3_share_1 : decode cX3_share 1 = .ok (.invokestatic 86, 3) := by decide +kernel
theorem dX3_share_4 : decode cX3_share 4 = .ok (.ifCond .ne 5, 3) := by decide +kernel
theorem dX3_share_7 : decode cX3_share 7 = .ok (.iconst (-1), 1) := by decide +kernel
theorem dX3_share_8 : decode cX3_share 8 = .ok (.ireturn, 1) := by decide +kernel
theorem dX3_share_9 : decode cX3_share 9 = .ok (.aload_n 0, 1) := by decide +kernel
theorem dX3_share_10 : decode cX3_share 10 = .ok (.getfield 21, 3) := by decide +kernel
theorem dX3_share_13 : decode cX3_share 13 = .ok (.iload_n 1, 1) := by decide +kernel
theorem dX3_share_14 : decode cX3_share 14 = .ok (.invokevirtual 93, 3) := by decide +kernel
theorem dX3_share_17 : decode cX3_share 17 = .ok (.ifCond .ne 6, 3) := by decide +kernel
theorem dX3_share_20 : decode cX3_share 20 = .ok (.bipush (-3), 2) := by decide +kernel
theorem dX3_share_22 : decode cX3_share 22 = .ok (.ireturn, 1) := by decide +kernel
theorem dX3_share_23 : decode cX3_share 23 = .ok (.aload_n 0, 1) := by decide +kernel
theorem dX3_share_24 : decode cX3_share 24 = .ok (.getfield 21, 3) := by decide +kernel
theorem dX3_share_27 : decode cX3_share 27 = .ok (.invokevirtual 157, 3) := by decide +kernel
theorem dX3_share_30 : decode cX3_share 30 = .ok (.iconst 1, 1) := by decide +kernel
theorem dX3_share_31 : decode cX3_share 31 = .ok (.iload_n 1, 1) := by decide +kernel
theorem dX3_share_32 : decode cX3_share 32 = .ok (.ishl, 1) := by decide +kernel
theorem dX3_share_33 : decode cX3_share 33 = .ok (.iconst (-1), 1) := by decide +kernel
theorem dX3_share_34 : decode cX3_share 34 = .ok (.ixor, 1) := by decide +kernel
theorem dX3_share_35 : decode cX3_share 35 = .ok (.iand, 1) := by decide +kernel
theorem dX3_share_36 : decode cX3_share 36 = .ok (.istore_n 3, 1) := by decide +kernel
theorem dX3_share_37 : decode cX3_share 37 = .ok (.iload_n 3, 1) := by decide +kernel
theorem dX3_share_38 : decode cX3_share 38 = .ok (.invokestatic 160, 3) := by decide +kernel
theorem dX3_share_41 : decode cX3_share 41 = .ok (.istore 4, 2) := by decide +kernel
theorem dX3_share_43 : decode cX3_share 43 = .ok (.lconst 0, 1) := by decide +kernel
theorem dX3_share_44 : decode cX3_share 44 = .ok (.lstore 5, 2) := by decide +kernel
theorem dX3_share_46 : decode cX3_share 46 = .ok (.iconst 0, 1) := by decide +kernel
theorem dX3_share_47 : decode cX3_share 47 = .ok (.istore 7, 2) := by decide +kernel
theorem dX3_share_49 : decode cX3_share 49 = .ok (.iload 7, 2) := by decide +kernel
theorem dX3_share_51 : decode cX3_share 51 = .ok (.sipush 4096, 3) := by decide +kernel
theorem dX3_share_54 : decode cX3_share 54 = .ok (.if_icmp .ge 67, 3) := by decide +kernel
theorem dX3_share_57 : decode cX3_share 57 = .ok (.iload 7, 2) := by decide +kernel
theorem dX3_share_59 : decode cX3_share 59 = .ok (.iload_n 3, 1) := by decide +kernel
theorem dX3_share_60 : decode cX3_share 60 = .ok (.iconst (-1), 1) := by decide +kernel
theorem dX3_share_61 : decode cX3_share 61 = .ok (.ixor, 1) := by decide +kernel
theorem dX3_share_62 : decode cX3_share 62 = .ok (.iand, 1) := by decide +kernel
theorem dX3_share_63 : decode cX3_share 63 = .ok (.ifCond .ne 52, 3) := by decide +kernel
theorem dX3_share_66 : decode cX3_share 66 = .ok (.iload 7, 2) := by decide +kernel
theorem dX3_share_68 : decode cX3_share 68 = .ok (.invokestatic 160, 3) := by decide +kernel
theorem dX3_share_71 : decode cX3_share 71 = .ok (.istore 8, 2) := by decide +kernel
theorem dX3_share_73 : decode cX3_share 73 = .ok (.aload_n 0, 1) := by decide +kernel
theorem dX3_share_74 : decode cX3_share 74 = .ok (.iload 7, 2) := by decide +kernel
theorem dX3_share_76 : decode cX3_share 76 = .ok (.iconst 1, 1) := by decide +kernel
theorem dX3_share_77 : decode cX3_share 77 = .ok (.iload_n 1, 1) := by decide +kernel
theorem dX3_share_78 : decode cX3_share 78 = .ok (.ishl, 1) := by decide +kernel
theorem dX3_share_79 : decode cX3_share 79 = .ok (.ior, 1) := by decide +kernel
theorem dX3_share_80 : decode cX3_share 80 = .ok (.invokevirtual 165, 3) := by decide +kernel
theorem dX3_share_83 : decode cX3_share 83 = .ok (.aload_n 0, 1) := by decide +kernel
theorem dX3_share_84 : decode cX3_share 84 = .ok (.iload 7, 2) := by decide +kernel
theorem dX3_share_86 : decode cX3_share 86 = .ok (.invokevirtual 165, 3) := by decide +kernel
theorem dX3_share_89 : decode cX3_share 89 = .ok (.isub, 1) := by decide +kernel
theorem dX3_share_90 : decode cX3_share 90 = .ok (.istore 9, 2) := by decide +kernel
theorem dX3_share_92 : decode cX3_share 92 = .ok (.lload 5, 2) := by decide +kernel
theorem dX3_share_94 : decode cX3_share 94 = .ok (.iload 8, 2) := by decide +kernel
theorem dX3_share_96 : decode cX3_share 96 = .ok (.invokestatic 168, 3) := by decide +kernel
theorem dX3_share_99 : decode cX3_share 99 = .ok (.iload 4, 2) := by decide +kernel
theorem dX3_share_101 : decode cX3_share 101 = .ok (.iload 8, 2) := by decide +kernel
theorem dX3_share_103 : decode cX3_share 103 = .ok (.isub, 1) := by decide +kernel
theorem dX3_share_104 : decode cX3_share 104 = .ok (.invokestatic 168, 3) := by decide +kernel
theorem dX3_share_107 : decode cX3_share 107 = .ok (.lmul, 1) := by decide +kernel
theorem dX3_share_108 : decode cX3_share 108 = .ok (.iload 9, 2) := by decide +kernel
theorem dX3_share_110 : decode cX3_share 110 = .ok (.i2l, 1) := by decide +kernel
theorem dX3_share_111 : decode cX3_share 111 = .ok (.lmul, 1) := by decide +kernel
theorem dX3_share_112 : decode cX3_share 112 = .ok (.ladd, 1) := by decide +kernel
theorem dX3_share_113 : decode cX3_share 113 = .ok (.lstore 5, 2) := by decide +kernel
theorem dX3_share_115 : decode cX3_share 115 = .ok (.iinc 7 1, 3) := by decide +kernel
theorem dX3_share_118 : decode cX3_share 118 = .ok (.goto (-69), 3) := by decide +kernel
theorem dX3_share_121 : decode cX3_share 121 = .ok (.lload 5, 2) := by decide +kernel
theorem dX3_share_123 : decode cX3_share 123 = .ok (.iload 4, 2) := by decide +kernel
theorem dX3_share_125 : decode cX3_share 125 = .ok (.iconst 1, 1) := by decide +kernel
theorem dX3_share_126 : decode cX3_share 126 = .ok (.iadd, 1) := by decide +kernel
theorem dX3_share_127 : decode cX3_share 127 = .ok (.invokestatic 168, 3) := by decide +kernel
theorem dX3_share_130 : decode cX3_share 130 = .ok (.iload_n 2, 1) := by decide +kernel
theorem dX3_share_131 : decode cX3_share 131 = .ok (.invokestatic 172, 3) := by decide +kernel
theorem dX3_share_134 : decode cX3_share 134 = .ok (.ireturn, 1) := by decide +kernel
set_option maxRecDepth 20000 in
theorem ggX3_foodOfTwoDays_X1_become : GoodIn wsX3_foodOfTwoDays wsX1_become := goodIn_r _ [11, 12, 13, 14, 15, 16, 17, 18, 70, 71, 72, 73, 74, 75, 76, 77] (by decide +kernel) (by decide +kernel)
set_option maxRecDepth 20000 in
theorem gX3_foodOfTwoDays_X1_become : GoodIn wsX3_foodOfTwoDays (wsV RX3 112 RX1 yX1_become wsX1_become) := goodIn_app (goodIn_of _ (by decide +kernel)) ggX3_foodOfTwoDays_X1_become
set_option maxRecDepth 20000 in
theorem ggX3_foodOfTwoDays_X1_leaveSigns : GoodIn wsX3_foodOfTwoDays wsX1_leaveSigns := goodIn_r _ [22, 23, 24, 25, 26, 27, 28, 10, 29, 13, 30, 31, 70, 71, 72, 73, 74, 75, 76, 77] (by decide +kernel) (by decide +kernel)
set_option maxRecDepth 20000 in
theorem gX3_foodOfTwoDays_X1_leaveSigns : GoodIn wsX3_foodOfTwoDays (wsV RX3 176 RX1 yX1_leaveSigns wsX1_leaveSigns) := goodIn_app (goodIn_of _ (by decide +kernel)) ggX3_foodOfTwoDays_X1_leaveSigns
set_option maxRecDepth 20000 in
theorem ggX3_foodOfTwoDays_X3_mostFood : GoodIn wsX3_foodOfTwoDays wsX3_mostFood := goodIn_r _ [34, 35, 36, 3, 4, 5, 6, 7, 8, 9, 10, 11, 12, 13, 14, 15, 16, 17, 18, 37, 38, 39, 40, 41, 24, 42, 43, 44, 45, 46, 47, 48, 49, 50, 51, 52, 53, 54, 55, 56, 57, 58, 23, 25, 59, 60, 61, 62, 32, 33, 70, 71, 72, 73, 74, 75, 76, 77] (by decide +kernel) (by decide +kernel)
set_option maxRecDepth 20000 in
theorem gX3_foodOfTwoDays_X3_mostFood : GoodIn wsX3_foodOfTwoDays (va_wsS RX3 130 yX3_mostFood wsX3_mostFood) := goodIn_app (goodIn_of _ (by decide +kernel)) ggX3_foodOfTwoDays_X3_mostFood
theorem dX3_foodOfTwoDays_0 : decode cX3_foodOfTwoDays 0 = .ok (.aload_n 0, 1) := by decide +kernel
theorem dX3_foodOfTwoDays_1 : decode cX3_foodOfTwoDays 1 = .ok (.getfield 40, 3) := by decide +kernel
theorem dX3_foodOfTwoDays_4 : decode cX3_foodOfTwoDays 4 = .ok (.aload_n 0, 1) := by decide +kernel
theorem dX3_foodOfTwoDays_5 : decode cX3_foodOfTwoDays 5 = .ok (.getfield 21, 3) := by decide +kernel
theorem dX3_foodOfTwoDays_8 : decode cX3_foodOfTwoDays 8 = .ok (.invokevirtual 112, 3) := by decide +kernel
theorem dX3_foodOfTwoDays_11 : decode cX3_foodOfTwoDays 11 = .ok (.aload_n 0, 1) := by decide +kernel
theorem dX3_foodOfTwoDays_12 : decode cX3_foodOfTwoDays 12 = .ok (.getfield 40, 3) := by decide +kernel
theorem dX3_foodOfTwoDays_15 : decode cX3_foodOfTwoDays 15 = .ok (.iload_n 1, 1) := by decide +kernel
theorem dX3_foodOfTwoDays_16 : decode cX3_foodOfTwoDays 16 = .ok (.invokevirtual 176, 3) := by decide +kernel
theorem dX3_foodOfTwoDays_19 : decode cX3_foodOfTwoDays 19 = .ok (.iconst 0, 1) := by decide +kernel
theorem dX3_foodOfTwoDays_20 : decode cX3_foodOfTwoDays 20 = .ok (.aload_n 0, 1) := by decide +kernel
theorem dX3_foodOfTwoDays_21 : decode cX3_foodOfTwoDays 21 = .ok (.getfield 40, 3) := by decide +kernel
theorem dX3_foodOfTwoDays_24 : decode cX3_foodOfTwoDays 24 = .ok (.iconst 2, 1) := by decide +kernel
theorem dX3_foodOfTwoDays_25 : decode cX3_foodOfTwoDays 25 = .ok (.invokestatic 130, 3) := by decide +kernel
theorem dX3_foodOfTwoDays_28 : decode cX3_foodOfTwoDays 28 = .ok (.invokestatic 180, 3) := by decide +kernel
theorem dX3_foodOfTwoDays_31 : decode cX3_foodOfTwoDays 31 = .ok (.ireturn, 1) := by decide +kernel
set_option maxRecDepth 20000 in
theorem ggX3_bestTrueSign_X3_hasCell : GoodIn wsX3_bestTrueSign wsX3_hasCell := goodIn_r _ [6] (by decide +kernel) (by decide +kernel)
set_option maxRecDepth 20000 in
theorem gX3_bestTrueSign_X3_hasCell : GoodIn wsX3_bestTrueSign (va_wsS RX3 151 yX3_hasCell wsX3_hasCell) := goodIn_app (goodIn_of _ (by decide +kernel)) ggX3_bestTrueSign_X3_hasCell
set_option maxRecDepth 20000 in
theorem ggX3_bestTrueSign_X1_become : GoodIn wsX3_bestTrueSign wsX1_become := goodIn_r _ [11, 12, 13, 14, 15, 16, 17, 18, 68, 69, 70, 71, 72, 73, 74, 75] (by decide +kernel) (by decide +kernel)
set_option maxRecDepth 20000 in
theorem gX3_bestTrueSign_X1_become : GoodIn wsX3_bestTrueSign (wsV RX3 112 RX1 yX1_become wsX1_become) := goodIn_app (goodIn_of _ (by decide +kernel)) ggX3_bestTrueSign_X1_become
set_option maxRecDepth 20000 in
theorem ggX3_bestTrueSign_X1_landOf : GoodIn wsX3_bestTrueSign wsX1_landOf := goodIn_r _ [22, 12, 68, 69, 70, 71, 72, 73, 74, 75] (by decide +kernel) (by decide +kernel)
set_option maxRecDepth 20000 in
theorem gX3_bestTrueSign_X1_landOf : GoodIn wsX3_bestTrueSign (wsV RX3 89 RX1 yX1_landOf wsX1_landOf) := goodIn_app (goodIn_of _ (by decide +kernel)) ggX3_bestTrueSign_X1_landOf
set_option maxRecDepth 20000 in
theorem ggX3_bestTrueSign_X1_setSign : GoodIn wsX3_bestTrueSign wsX1_setSign := goodIn_r _ [26, 13, 27, 28, 68, 69, 70, 71, 72, 73, 74, 75] (by decide +kernel) (by decide +kernel)
set_option maxRecDepth 20000 in
theorem gX3_bestTrueSign_X1_setSign : GoodIn wsX3_bestTrueSign (wsV RX3 104 RX1 yX1_setSign wsX1_setSign) := goodIn_app (goodIn_of _ (by decide +kernel)) ggX3_bestTrueSign_X1_setSign
set_option maxRecDepth 20000 in
theorem ggX3_bestTrueSign_X3_mostFood : GoodIn wsX3_bestTrueSign wsX3_mostFood := goodIn_r _ [31, 32, 33, 34, 35, 36, 37, 7, 8, 9, 10, 11, 12, 13, 14, 15, 16, 17, 18, 38, 39, 40, 41, 42, 5, 43, 44, 45, 46, 47, 48, 49, 50, 51, 52, 20, 21, 22, 53, 54, 55, 56, 4, 6, 57, 58, 59, 60, 29, 30, 68, 69, 70, 71, 72, 73, 74, 75] (by decide +kernel) (by decide +kernel)
set_option maxRecDepth 20000 in
theorem gX3_bestTrueSign_X3_mostFood : GoodIn wsX3_bestTrueSign (va_wsS RX3 130 yX3_mostFood wsX3_mostFood) := goodIn_app (goodIn_of _ (by decide +kernel)) ggX3_bestTrueSign_X3_mostFood
theorem dX3_bestTrueSign_0 : decode cX3_bestTrueSign 0 = .ok (.bipush (-9), 2) := by decide +kernel
theorem dX3_bestTrueSign_2 : decode cX3_bestTrueSign 2 = .ok (.istore_n 3, 1) := by decide +kernel
theorem dX3_bestTrueSign_3 : decode cX3_bestTrueSign 3 = .ok (.bipush (-9), 2) := by decide +kernel
theorem dX3_bestTrueSign_5 : decode cX3_bestTrueSign 5 = .ok (.istore 4, 2) := by decide +kernel
theorem dX3_bestTrueSign_7 : decode cX3_bestTrueSign 7 = .ok (.iconst 0, 1) := by decide +kernel
theorem dX3_bestTrueSign_8 : decode cX3_bestTrueSign 8 = .ok (.istore 5, 2) := by decide +kernel
theorem dX3_bestTrueSign_10 : decode cX3_bestTrueSign 10 = .ok (.iload 5, 2) := by decide +kernel
theorem dX3_bestTrueSign_12 : decode cX3_bestTrueSign 12 = .ok (.bipush 12, 2) := by decide +kernel
theorem dX3_bestTrueSign_14 : decode cX3_bestTrueSign 14 = .ok (.if_icmp .ge 80, 3) := by decide +kernel
theorem dX3_bestTrueSign_17 : decode cX3_bestTrueSign 17 = .ok (.iload_n 1, 1) := by decide +kernel
theorem dX3_bestTrueSign_18 : decode cX3_bestTrueSign 18 = .ok (.iload 5, 2) := by decide +kernel
theorem dX3_bestTrueSign_20 : decode cX3_bestTrueSign 20 = .ok (.invokestatic 151, 3) := by decide +kernel
theorem dX3_bestTrueSign_23 : decode cX3_bestTrueSign 23 = .ok (.ifCond .ne 6, 3) := by decide +kernel
theorem dX3_bestTrueSign_26 : decode cX3_bestTrueSign 26 = .ok (.goto 62, 3) := by decide +kernel
theorem dX3_bestTrueSign_29 : decode cX3_bestTrueSign 29 = .ok (.aload_n 0, 1) := by decide +kernel
theorem dX3_bestTrueSign_30 : decode cX3_bestTrueSign 30 = .ok (.getfield 40, 3) := by decide +kernel
theorem dX3_bestTrueSign_33 : decode cX3_bestTrueSign 33 = .ok (.aload_n 0, 1) := by decide +kernel
theorem dX3_bestTrueSign_34 : decode cX3_bestTrueSign 34 = .ok (.getfield 21, 3) := by decide +kernel
theorem dX3_bestTrueSign_37 : decode cX3_bestTrueSign 37 = .ok (.invokevirtual 112, 3) := by decide +kernel
theorem dX3_bestTrueSign_40 : decode cX3_bestTrueSign 40 = .ok (.aload_n 0, 1) := by decide +kernel
theorem dX3_bestTrueSign_41 : decode cX3_bestTrueSign 41 = .ok (.getfield 40, 3) := by decide +kernel
theorem dX3_bestTrueSign_44 : decode cX3_bestTrueSign 44 = .ok (.iload 5, 2) := by decide +kernel
theorem dX3_bestTrueSign_46 : decode cX3_bestTrueSign 46 = .ok (.aload_n 0, 1) := by decide +kernel
theorem dX3_bestTrueSign_47 : decode cX3_bestTrueSign 47 = .ok (.getfield 21, 3) := by decide +kernel
theorem dX3_bestTrueSign_50 : decode cX3_bestTrueSign 50 = .ok (.iload 5, 2) := by decide +kernel
theorem dX3_bestTrueSign_52 : decode cX3_bestTrueSign 52 = .ok (.invokevirtual 89, 3) := by decide +kernel
theorem dX3_bestTrueSign_55 : decode cX3_bestTrueSign 55 = .ok (.invokevirtual 104, 3) := by decide +kernel
theorem dX3_bestTrueSign_58 : decode cX3_bestTrueSign 58 = .ok (.aload_n 0, 1) := by decide +kernel
theorem dX3_bestTrueSign_59 : decode cX3_bestTrueSign 59 = .ok (.getfield 40, 3) := by decide +kernel
theorem dX3_bestTrueSign_62 : decode cX3_bestTrueSign 62 = .ok (.iload_n 2, 1) := by decide +kernel
theorem dX3_bestTrueSign_63 : decode cX3_bestTrueSign 63 = .ok (.invokestatic 130, 3) := by decide +kernel
theorem dX3_bestTrueSign_66 : decode cX3_bestTrueSign 66 = .ok (.istore 6, 2) := by decide +kernel
theorem dX3_bestTrueSign_68 : decode cX3_bestTrueSign 68 = .ok (.iload_n 3, 1) := by decide +kernel
theorem dX3_bestTrueSign_69 : decode cX3_bestTrueSign 69 = .ok (.bipush (-9), 2) := by decide +kernel
theorem dX3_bestTrueSign_71 : decode cX3_bestTrueSign 71 = .ok (.if_icmp .eq 10, 3) := by decide +kernel
theorem dX3_bestTrueSign_74 : decode cX3_bestTrueSign 74 = .ok (.iload 6, 2) := by decide +kernel
theorem dX3_bestTrueSign_76 : decode cX3_bestTrueSign 76 = .ok (.iload 4, 2) := by decide +kernel
theorem dX3_bestTrueSign_78 : decode cX3_bestTrueSign 78 = .ok (.if_icmp .le 10, 3) := by decide +kernel
theorem dX3_bestTrueSign_81 : decode cX3_bestTrueSign 81 = .ok (.iload 5, 2) := by decide +kernel
theorem dX3_bestTrueSign_83 : decode cX3_bestTrueSign 83 = .ok (.istore_n 3, 1) := by decide +kernel
theorem dX3_bestTrueSign_84 : decode cX3_bestTrueSign 84 = .ok (.iload 6, 2) := by decide +kernel
theorem dX3_bestTrueSign_86 : decode cX3_bestTrueSign 86 = .ok (.istore 4, 2) := by decide +kernel
theorem dX3_bestTrueSign_88 : decode cX3_bestTrueSign 88 = .ok (.iinc 5 1, 3) := by decide +kernel
theorem dX3_bestTrueSign_91 : decode cX3_bestTrueSign 91 = .ok (.goto (-81), 3) := by decide +kernel
theorem dX3_bestTrueSign_94 : decode cX3_bestTrueSign 94 = .ok (.iload_n 3, 1) := by decide +kernel
theorem dX3_bestTrueSign_95 : decode cX3_bestTrueSign 95 = .ok (.ireturn, 1) := by decide +kernel
set_option maxRecDepth 20000 in
theorem ggX3_mostFood_X1_become : GoodIn wsX3_mostFood wsX1_become := goodIn_r _ [11, 12, 13, 14, 15, 16, 17, 18, 50, 51, 52, 53, 54, 55, 56, 57] (by decide +kernel) (by decide +kernel)
set_option maxRecDepth 20000 in
theorem gX3_mostFood_X1_become : GoodIn wsX3_mostFood (wsV RX3 112 RX1 yX1_become wsX1_become) := goodIn_app (goodIn_of _ (by decide +kernel)) ggX3_mostFood_X1_become
set_option maxRecDepth 20000 in
theorem ggX3_mostFood_X1_live : GoodIn wsX3_mostFood wsX1_live := goodIn_r _ [22, 15, 14, 18, 23, 24, 25, 26, 27, 28, 10, 29, 30, 31, 32, 33, 13, 34, 35, 36, 37, 12, 38, 39, 40, 41, 16, 17, 42, 43, 44, 45, 46, 47, 50, 51, 52, 53, 54, 55, 56, 57] (by decide +kernel) (by decide +kernel)
set_option maxRecDepth 20000 in
theorem gX3_mostFood_X1_live : GoodIn wsX3_mostFood (wsV RX3 115 RX1 yX1_live wsX1_live) := goodIn_app (goodIn_of _ (by decide +kernel)) ggX3_mostFood_X1_live
set_option maxRecDepth 20000 in
theorem ggX3_mostFood_X3_mostFood : GoodIn wsX3_mostFood wsX3_mostFood := goodIn_r _ [0, 1, 2, 3, 4, 5, 6, 7, 8, 9, 10, 11, 12, 13, 14, 15, 16, 17, 18, 19, 20, 21, 22, 23, 24, 25, 26, 27, 28, 29, 30, 31, 32, 33, 34, 35, 36, 37, 38, 39, 40, 41, 42, 43, 44, 45, 46, 47, 48, 49, 50, 51, 52, 53, 54, 55, 56, 57] (by decide +kernel) (by decide +kernel)
set_option maxRecDepth 20000 in
theorem gX3_mostFood_X3_mostFood : GoodIn wsX3_mostFood (va_wsS RX3 130 yX3_mostFood wsX3_mostFood) := goodIn_app (goodIn_of _ (by decide +kernel)) ggX3_mostFood_X3_mostFood
theorem dX3_mostFood_0 : decode cX3_mostFood 0 = .ok (.aload_n 0, 1) := by decide +kernel
theorem dX3_mostFood_1 : decode cX3_mostFood 1 = .ok (.ifnonnull 6, 3) := by decide +kernel
theorem dX3_mostFood_4 : decode cX3_mostFood 4 = .ok (.bipush (-9), 2) := by decide +kernel
theorem dX3_mostFood_6 : decode cX3_mostFood 6 = .ok (.ireturn, 1) := by decide +kernel
theorem dX3_mostFood_7 : decode cX3_mostFood 7 = .ok (.iload_n 1, 1) := by decide +kernel
theorem dX3_mostFood_8 : decode cX3_mostFood 8 = .ok (.ifCond .gt 8, 3) := by decide +kernel
theorem dX3_mostFood_11 : decode cX3_mostFood 11 = .ok (.aload_n 0, 1) := by decide +kernel
theorem dX3_mostFood_12 : decode cX3_mostFood 12 = .ok (.getfield 71, 3) := by decide +kernel
theorem dX3_mostFood_15 : decode cX3_mostFood 15 = .ok (.ireturn, 1) := by decide +kernel
theorem dX3_mostFood_16 : decode cX3_mostFood 16 = .ok (.aload_n 0, 1) := by decide +kernel
theorem dX3_mostFood_17 : decode cX3_mostFood 17 = .ok (.getfield 185, 3) := by decide +kernel
theorem dX3_mostFood_20 : decode cX3_mostFood 20 = .ok (.astore_n 2, 1) := by decide +kernel
theorem dX3_mostFood_21 : decode cX3_mostFood 21 = .ok (.bipush (-9), 2) := by decide +kernel
theorem dX3_mostFood_23 : decode cX3_mostFood 23 = .ok (.istore_n 3, 1) := by decide +kernel
theorem dX3_mostFood_24 : decode cX3_mostFood 24 = .ok (.iconst 0, 1) := by decide +kernel
theorem dX3_mostFood_25 : decode cX3_mostFood 25 = .ok (.istore 4, 2) := by decide +kernel
theorem dX3_mostFood_27 : decode cX3_mostFood 27 = .ok (.aload_n 2, 1) := by decide +kernel
theorem dX3_mostFood_28 : decode cX3_mostFood 28 = .ok (.ifnull 41, 3) := by decide +kernel
theorem dX3_mostFood_31 : decode cX3_mostFood 31 = .ok (.iload 4, 2) := by decide +kernel
theorem dX3_mostFood_33 : decode cX3_mostFood 33 = .ok (.iconst 4, 1) := by decide +kernel
theorem dX3_mostFood_34 : decode cX3_mostFood 34 = .ok (.if_icmp .gt 35, 3) := by decide +kernel
theorem dX3_mostFood_37 : decode cX3_mostFood 37 = .ok (.aload_n 2, 1) := by decide +kernel
theorem dX3_mostFood_38 : decode cX3_mostFood 38 = .ok (.aload_n 0, 1) := by decide +kernel
theorem dX3_mostFood_39 : decode cX3_mostFood 39 = .ok (.invokevirtual 112, 3) := by decide +kernel
theorem dX3_mostFood_42 : decode cX3_mostFood 42 = .ok (.aload_n 2, 1) := by decide +kernel
theorem dX3_mostFood_43 : decode cX3_mostFood 43 = .ok (.iload 4, 2) := by decide +kernel
theorem dX3_mostFood_45 : decode cX3_mostFood 45 = .ok (.invokevirtual 115, 3) := by decide +kernel
theorem dX3_mostFood_48 : decode cX3_mostFood 48 = .ok (.ifCond .eq 15, 3) := by decide +kernel
theorem dX3_mostFood_51 : decode cX3_mostFood 51 = .ok (.iload_n 3, 1) := by decide +kernel
theorem dX3_mostFood_52 : decode cX3_mostFood 52 = .ok (.aload_n 2, 1) := by decide +kernel
theorem dX3_mostFood_53 : decode cX3_mostFood 53 = .ok (.iload_n 1, 1) := by decide +kernel
theorem dX3_mostFood_54 : decode cX3_mostFood 54 = .ok (.iconst 1, 1) := by decide +kernel
theorem dX3_mostFood_55 : decode cX3_mostFood 55 = .ok (.isub, 1) := by decide +kernel
theorem dX3_mostFood_56 : decode cX3_mostFood 56 = .ok (.invokestatic 130, 3) := by decide +kernel
theorem dX3_mostFood_59 : decode cX3_mostFood 59 = .ok (.invokestatic 180, 3) := by decide +kernel
theorem dX3_mostFood_62 : decode cX3_mostFood 62 = .ok (.istore_n 3, 1) := by decide +kernel
theorem dX3_mostFood_63 : decode cX3_mostFood 63 = .ok (.iinc 4 1, 3) := by decide +kernel
theorem dX3_mostFood_66 : decode cX3_mostFood 66 = .ok (.goto (-39), 3) := by decide +kernel
theorem dX3_mostFood_69 : decode cX3_mostFood 69 = .ok (.iload_n 3, 1) := by decide +kernel
theorem dX3_mostFood_70 : decode cX3_mostFood 70 = .ok (.ireturn, 1) := by decide +kernel
set_option maxRecDepth 20000 in
theorem ggX3_firstRowTo_X1_become : GoodIn wsX3_firstRowTo wsX1_become := goodIn_r _ [7, 8, 9, 10, 11, 12, 13, 14, 59, 60, 61, 62, 63, 64, 65, 66] (by decide +kernel) (by decide +kernel)
set_option maxRecDepth 20000 in
theorem gX3_firstRowTo_X1_become : GoodIn wsX3_firstRowTo (wsV RX3 112 RX1 yX1_become wsX1_become) := goodIn_app (goodIn_of _ (by decide +kernel)) ggX3_firstRowTo_X1_become
set_option maxRecDepth 20000 in
theorem ggX3_firstRowTo_X1_live : GoodIn wsX3_firstRowTo wsX1_live := goodIn_r _ [18, 11, 10, 14, 19, 20, 21, 22, 23, 24, 6, 25, 26, 27, 28, 29, 9, 30, 31, 32, 33, 8, 34, 35, 36, 37, 12, 13, 38, 39, 40, 41, 42, 43, 59, 60, 61, 62, 63, 64, 65, 66] (by decide +kernel) (by decide +kernel)
set_option maxRecDepth 20000 in
theorem gX3_firstRowTo_X1_live : GoodIn wsX3_firstRowTo (wsV RX3 115 RX1 yX1_live wsX1_live) := goodIn_app (goodIn_of _ (by decide +kernel)) ggX3_firstRowTo_X1_live
set_option maxRecDepth 20000 in
theorem ggX3_firstRowTo_X3_mostFood : GoodIn wsX3_firstRowTo wsX3_mostFood := goodIn_r _ [46, 47, 2, 48, 49, 50, 51, 3, 4, 5, 6, 7, 8, 9, 10, 11, 12, 13, 14, 15, 16, 17, 18, 19, 20, 21, 22, 23, 24, 25, 26, 27, 28, 29, 30, 31, 32, 33, 34, 35, 36, 37, 38, 39, 40, 41, 42, 43, 44, 45, 59, 60, 61, 62, 63, 64, 65, 66] (by decide +kernel) (by decide +kernel)
set_option maxRecDepth 20000 in
theorem gX3_firstRowTo_X3_mostFood : GoodIn wsX3_firstRowTo (va_wsS RX3 130 yX3_mostFood wsX3_mostFood) := goodIn_app (goodIn_of _ (by decide +kernel)) ggX3_firstRowTo_X3_mostFood
theorem dX3_firstRowTo_0 : decode cX3_firstRowTo 0 = .ok (.aload_n 0, 1) := by decide +kernel
theorem dX3_firstRowTo_1 : decode cX3_firstRowTo 1 = .ok (.getfield 40, 3) := by decide +kernel
theorem dX3_firstRowTo_4 : decode cX3_firstRowTo 4 = .ok (.getfield 185, 3) := by decide +kernel
theorem dX3_firstRowTo_7 : decode cX3_firstRowTo 7 = .ok (.astore_n 3, 1) := by decide +kernel
theorem dX3_firstRowTo_8 : decode cX3_firstRowTo 8 = .ok (.iconst 1, 1) := by decide +kernel
theorem dX3_firstRowTo_9 : decode cX3_firstRowTo 9 = .ok (.istore 4, 2) := by decide +kernel
theorem dX3_firstRowTo_11 : decode cX3_firstRowTo 11 = .ok (.iload_n 2, 1) := by decide +kernel
theorem dX3_firstRowTo_12 : decode cX3_firstRowTo 12 = .ok (.iconst 1, 1) := by decide +kernel
theorem dX3_firstRowTo_13 : decode cX3_firstRowTo 13 = .ok (.isub, 1) := by decide +kernel
theorem dX3_firstRowTo_14 : decode cX3_firstRowTo 14 = .ok (.istore 5, 2) := by decide +kernel
theorem dX3_firstRowTo_16 : decode cX3_firstRowTo 16 = .ok (.aload_n 3, 1) := by decide +kernel
theorem dX3_firstRowTo_17 : decode cX3_firstRowTo 17 = .ok (.ifnull 77, 3) := by decide +kernel
theorem dX3_firstRowTo_20 : decode cX3_firstRowTo 20 = .ok (.iload 5, 2) := by decide +kernel
theorem dX3_firstRowTo_22 : decode cX3_firstRowTo 22 = .ok (.ifCond .lt 72, 3) := by decide +kernel
theorem dX3_firstRowTo_25 : decode cX3_firstRowTo 25 = .ok (.iconst 0, 1) := by decide +kernel
theorem dX3_firstRowTo_26 : decode cX3_firstRowTo 26 = .ok (.istore 6, 2) := by decide +kernel
theorem dX3_firstRowTo_28 : decode cX3_firstRowTo 28 = .ok (.iload 6, 2) := by decide +kernel
theorem dX3_firstRowTo_30 : decode cX3_firstRowTo 30 = .ok (.iconst 4, 1) := by decide +kernel
theorem dX3_firstRowTo_31 : decode cX3_firstRowTo 31 = .ok (.if_icmp .gt 57, 3) := by decide +kernel
theorem dX3_firstRowTo_34 : decode cX3_firstRowTo 34 = .ok (.aload_n 3, 1) := by decide +kernel
theorem dX3_firstRowTo_35 : decode cX3_firstRowTo 35 = .ok (.aload_n 0, 1) := by decide +kernel
theorem dX3_firstRowTo_36 : decode cX3_firstRowTo 36 = .ok (.getfield 40, 3) := by decide +kernel
theorem dX3_firstRowTo_39 : decode cX3_firstRowTo 39 = .ok (.invokevirtual 112, 3) := by decide +kernel
theorem dX3_firstRowTo_42 : decode cX3_firstRowTo 42 = .ok (.aload_n 3, 1) := by decide +kernel
theorem dX3_firstRowTo_43 : decode cX3_firstRowTo 43 = .ok (.iload 6, 2) := by decide +kernel
theorem dX3_firstRowTo_45 : decode cX3_firstRowTo 45 = .ok (.invokevirtual 115, 3) := by decide +kernel
theorem dX3_firstRowTo_48 : decode cX3_firstRowTo 48 = .ok (.ifCond .eq 34, 3) := by decide +kernel
theorem dX3_firstRowTo_51 : decode cX3_firstRowTo 51 = .ok (.aload_n 3, 1) := by decide +kernel
theorem dX3_firstRowTo_52 : decode cX3_firstRowTo 52 = .ok (.iload 5, 2) := by decide +kernel
theorem dX3_firstRowTo_54 : decode cX3_firstRowTo 54 = .ok (.invokestatic 130, 3) := by decide +kernel
theorem dX3_firstRowTo_57 : decode cX3_firstRowTo 57 = .ok (.iload_n 1, 1) := by decide +kernel
theorem dX3_firstRowTo_58 : decode cX3_firstRowTo 58 = .ok (.if_icmp .ne 24, 3) := by decide +kernel
theorem dX3_firstRowTo_61 : decode cX3_firstRowTo 61 = .ok (.iload 4, 2) := by decide +kernel
theorem dX3_firstRowTo_63 : decode cX3_firstRowTo 63 = .ok (.bipush 10, 2) := by decide +kernel
theorem dX3_firstRowTo_65 : decode cX3_firstRowTo 65 = .ok (.imul, 1) := by decide +kernel
theorem dX3_firstRowTo_66 : decode cX3_firstRowTo 66 = .ok (.iload 6, 2) := by decide +kernel
theorem dX3_firstRowTo_68 : decode cX3_firstRowTo 68 = .ok (.iadd, 1) := by decide +kernel
theorem dX3_firstRowTo_69 : decode cX3_firstRowTo 69 = .ok (.istore 4, 2) := by decide +kernel
theorem dX3_firstRowTo_71 : decode cX3_firstRowTo 71 = .ok (.aload_n 0, 1) := by decide +kernel
theorem dX3_firstRowTo_72 : decode cX3_firstRowTo 72 = .ok (.getfield 40, 3) := by decide +kernel
theorem dX3_firstRowTo_75 : decode cX3_firstRowTo 75 = .ok (.aload_n 3, 1) := by decide +kernel
theorem dX3_firstRowTo_76 : decode cX3_firstRowTo 76 = .ok (.invokevirtual 112, 3) := by decide +kernel
theorem dX3_firstRowTo_79 : decode cX3_firstRowTo 79 = .ok (.goto 9, 3) := by decide +kernel
theorem dX3_firstRowTo_82 : decode cX3_firstRowTo 82 = .ok (.iinc 6 1, 3) := by decide +kernel
theorem dX3_firstRowTo_85 : decode cX3_firstRowTo 85 = .ok (.goto (-57), 3) := by decide +kernel
theorem dX3_firstRowTo_88 : decode cX3_firstRowTo 88 = .ok (.iinc 5 (-1), 3) := by decide +kernel
theorem dX3_firstRowTo_91 : decode cX3_firstRowTo 91 = .ok (.goto (-75), 3) := by decide +kernel
theorem dX3_firstRowTo_94 : decode cX3_firstRowTo 94 = .ok (.iload 4, 2) := by decide +kernel
theorem dX3_firstRowTo_96 : decode cX3_firstRowTo 96 = .ok (.ireturn, 1) := by decide +kernel
set_option maxRecDepth 20000 in
theorem ggX3_stepsBetween_X3_hasCell : GoodIn wsX3_stepsBetween wsX3_hasCell := goodIn_r _ [4] (by decide +kernel) (by decide +kernel)
set_option maxRecDepth 20000 in
theorem gX3_stepsBetween_X3_hasCell : GoodIn wsX3_stepsBetween (va_wsS RX3 151 yX3_hasCell wsX3_hasCell) := goodIn_app (goodIn_of _ (by decide +kernel)) ggX3_stepsBetween_X3_hasCell
set_option maxRecDepth 20000 in
theorem ggX3_stepsBetween_X3_besideAll : GoodIn wsX3_stepsBetween wsX3_besideAll := goodIn_r _ [7, 1, 2, 3, 4, 8, 9, 10] (by decide +kernel) (by decide +kernel)
set_option maxRecDepth 20000 in
theorem gX3_stepsBetween_X3_besideAll : GoodIn wsX3_stepsBetween (va_wsS RX3 188 yX3_besideAll wsX3_besideAll) := goodIn_app (goodIn_of _ (by decide +kernel)) ggX3_stepsBetween_X3_besideAll
theorem dX3_stepsBetween_0 : decode cX3_stepsBetween 0 = .ok (.iconst 1, 1) := by decide +kernel
theorem dX3_stepsBetween_1 : decode cX3_stepsBetween 1 = .ok (.iload_n 0, 1) := by decide +kernel
theorem dX3_stepsBetween_2 : decode cX3_stepsBetween 2 = .ok (.ishl, 1) := by decide +kernel
theorem dX3_stepsBetween_3 : decode cX3_stepsBetween 3 = .ok (.istore_n 3, 1) := by decide +kernel
theorem dX3_stepsBetween_4 : decode cX3_stepsBetween 4 = .ok (.iconst 0, 1) := by decide +kernel
theorem dX3_stepsBetween_5 : decode cX3_stepsBetween 5 = .ok (.istore 4, 2) := by decide +kernel
theorem dX3_stepsBetween_7 : decode cX3_stepsBetween 7 = .ok (.iload 4, 2) := by decide +kernel
theorem dX3_stepsBetween_9 : decode cX3_stepsBetween 9 = .ok (.bipush 12, 2) := by decide +kernel
theorem dX3_stepsBetween_11 : decode cX3_stepsBetween 11 = .ok (.if_icmp .gt 29, 3) := by decide +kernel
theorem dX3_stepsBetween_14 : decode cX3_stepsBetween 14 = .ok (.iload_n 3, 1) := by decide +kernel
theorem dX3_stepsBetween_15 : decode cX3_stepsBetween 15 = .ok (.iload_n 1, 1) := by decide +kernel
theorem dX3_stepsBetween_16 : decode cX3_stepsBetween 16 = .ok (.invokestatic 151, 3) := by decide +kernel
theorem dX3_stepsBetween_19 : decode cX3_stepsBetween 19 = .ok (.ifCond .eq 6, 3) := by decide +kernel
theorem dX3_stepsBetween_22 : decode cX3_stepsBetween 22 = .ok (.iload 4, 2) := by decide +kernel
theorem dX3_stepsBetween_24 : decode cX3_stepsBetween 24 = .ok (.ireturn, 1) := by decide +kernel
theorem dX3_stepsBetween_25 : decode cX3_stepsBetween 25 = .ok (.iload_n 3, 1) := by decide +kernel
theorem dX3_stepsBetween_26 : decode cX3_stepsBetween 26 = .ok (.iload_n 3, 1) := by decide +kernel
theorem dX3_stepsBetween_27 : decode cX3_stepsBetween 27 = .ok (.invokestatic 188, 3) := by decide +kernel
theorem dX3_stepsBetween_30 : decode cX3_stepsBetween 30 = .ok (.iload_n 2, 1) := by decide +kernel
theorem dX3_stepsBetween_31 : decode cX3_stepsBetween 31 = .ok (.iand, 1) := by decide +kernel
theorem dX3_stepsBetween_32 : decode cX3_stepsBetween 32 = .ok (.ior, 1) := by decide +kernel
theorem dX3_stepsBetween_33 : decode cX3_stepsBetween 33 = .ok (.istore_n 3, 1) := by decide +kernel
theorem dX3_stepsBetween_34 : decode cX3_stepsBetween 34 = .ok (.iinc 4 1, 3) := by decide +kernel
theorem dX3_stepsBetween_37 : decode cX3_stepsBetween 37 = .ok (.goto (-30), 3) := by decide +kernel
theorem dX3_stepsBetween_40 : decode cX3_stepsBetween 40 = .ok (.bipush (-9), 2) := by decide +kernel
theorem dX3_stepsBetween_42 : decode cX3_stepsBetween 42 = .ok (.ireturn, 1) := by decide +kernel
set_option maxRecDepth 20000 in
theorem ggX3_firstRoad_X3_beside : GoodIn wsX3_firstRoad wsX3_beside := goodIn_r _ [4] (by decide +kernel) (by decide +kernel)
set_option maxRecDepth 20000 in
theorem gX3_firstRoad_X3_beside : GoodIn wsX3_firstRoad (va_wsS RX3 191 yX3_beside wsX3_beside) := goodIn_app (goodIn_of _ (by decide +kernel)) ggX3_firstRoad_X3_beside
set_option maxRecDepth 20000 in
theorem ggX3_firstRoad_X3_hasCell : GoodIn wsX3_firstRoad wsX3_hasCell := goodIn_r _ [7] (by decide +kernel) (by decide +kernel)
set_option maxRecDepth 20000 in
theorem gX3_firstRoad_X3_hasCell : GoodIn wsX3_firstRoad (va_wsS RX3 151 yX3_hasCell wsX3_hasCell) := goodIn_app (goodIn_of _ (by decide +kernel)) ggX3_firstRoad_X3_hasCell
set_option maxRecDepth 20000 in
theorem ggX3_firstRoad_X3_stepsBetween : GoodIn wsX3_firstRoad wsX3_stepsBetween := goodIn_r _ [10, 5, 6, 3, 7, 11, 12, 13, 1, 2, 4] (by decide +kernel) (by decide +kernel)
set_option maxRecDepth 20000 in
theorem gX3_firstRoad_X3_stepsBetween : GoodIn wsX3_firstRoad (va_wsS RX3 122 yX3_stepsBetween wsX3_stepsBetween) := goodIn_app (goodIn_of _ (by decide +kernel)) ggX3_firstRoad_X3_stepsBetween
theorem dX3_firstRoad_0 : decode cX3_firstRoad 0 = .ok (.iload_n 0, 1) := by decide +kernel
theorem dX3_firstRoad_1 : decode cX3_firstRoad 1 = .ok (.istore 4, 2) := by decide +kernel
theorem dX3_firstRoad_3 : decode cX3_firstRoad 3 = .ok (.iconst 1, 1) := by decide +kernel
theorem dX3_firstRoad_4 : decode cX3_firstRoad 4 = .ok (.istore 5, 2) := by decide +kernel
theorem dX3_firstRoad_6 : decode cX3_firstRoad 6 = .ok (.iload_n 3, 1) := by decide +kernel
theorem dX3_firstRoad_7 : decode cX3_firstRoad 7 = .ok (.iconst 1, 1) := by decide +kernel
theorem dX3_firstRoad_8 : decode cX3_firstRoad 8 = .ok (.isub, 1) := by decide +kernel
theorem dX3_firstRoad_9 : decode cX3_firstRoad 9 = .ok (.istore 6, 2) := by decide +kernel
theorem dX3_firstRoad_11 : decode cX3_firstRoad 11 = .ok (.iload 6, 2) := by decide +kernel
theorem dX3_firstRoad_13 : decode cX3_firstRoad 13 = .ok (.ifCond .lt 77, 3) := by decide +kernel
theorem dX3_firstRoad_16 : decode cX3_firstRoad 16 = .ok (.iconst 0, 1) := by decide +kernel
theorem dX3_firstRoad_17 : decode cX3_firstRoad 17 = .ok (.istore 7, 2) := by decide +kernel
theorem dX3_firstRoad_19 : decode cX3_firstRoad 19 = .ok (.iload 7, 2) := by decide +kernel
theorem dX3_firstRoad_21 : decode cX3_firstRoad 21 = .ok (.iconst 4, 1) := by decide +kernel
theorem dX3_firstRoad_22 : decode cX3_firstRoad 22 = .ok (.if_icmp .ge 62, 3) := by decide +kernel
theorem dX3_firstRoad_25 : decode cX3_firstRoad 25 = .ok (.iload 4, 2) := by decide +kernel
theorem dX3_firstRoad_27 : decode cX3_firstRoad 27 = .ok (.iload 7, 2) := by decide +kernel
theorem dX3_firstRoad_29 : decode cX3_firstRoad 29 = .ok (.invokestatic 191, 3) := by decide +kernel
theorem dX3_firstRoad_32 : decode cX3_firstRoad 32 = .ok (.istore 8, 2) := by decide +kernel
theorem dX3_firstRoad_34 : decode cX3_firstRoad 34 = .ok (.iload 8, 2) := by decide +kernel
theorem dX3_firstRoad_36 : decode cX3_firstRoad 36 = .ok (.iconst (-1), 1) := by decide +kernel
theorem dX3_firstRoad_37 : decode cX3_firstRoad 37 = .ok (.if_icmp .eq 41, 3) := by decide +kernel
theorem dX3_firstRoad_40 : decode cX3_firstRoad 40 = .ok (.iload_n 2, 1) := by decide +kernel
theorem dX3_firstRoad_41 : decode cX3_firstRoad 41 = .ok (.iload 8, 2) := by decide +kernel
theorem dX3_firstRoad_43 : decode cX3_firstRoad 43 = .ok (.invokestatic 151, 3) := by decide +kernel
theorem dX3_firstRoad_46 : decode cX3_firstRoad 46 = .ok (.ifCond .eq 32, 3) := by decide +kernel
theorem dX3_firstRoad_49 : decode cX3_firstRoad 49 = .ok (.iload 8, 2) := by decide +kernel
theorem dX3_firstRoad_51 : decode cX3_firstRoad 51 = .ok (.iload_n 1, 1) := by decide +kernel
theorem dX3_firstRoad_52 : decode cX3_firstRoad 52 = .ok (.iload_n 2, 1) := by decide +kernel
theorem dX3_firstRoad_53 : decode cX3_firstRoad 53 = .ok (.invokestatic 122, 3) := by decide +kernel
theorem dX3_firstRoad_56 : decode cX3_firstRoad 56 = .ok (.iload 6, 2) := by decide +kernel
theorem dX3_firstRoad_58 : decode cX3_firstRoad 58 = .ok (.if_icmp .ne 20, 3) := by decide +kernel
theorem dX3_firstRoad_61 : decode cX3_firstRoad 61 = .ok (.iload 5, 2) := by decide +kernel
theorem dX3_firstRoad_63 : decode cX3_firstRoad 63 = .ok (.bipush 10, 2) := by decide +kernel
theorem dX3_firstRoad_65 : decode cX3_firstRoad 65 = .ok (.imul, 1) := by decide +kernel
theorem dX3_firstRoad_66 : decode cX3_firstRoad 66 = .ok (.iload 7, 2) := by decide +kernel
theorem dX3_firstRoad_68 : decode cX3_firstRoad 68 = .ok (.iadd, 1) := by decide +kernel
theorem dX3_firstRoad_69 : decode cX3_firstRoad 69 = .ok (.istore 5, 2) := by decide +kernel
theorem dX3_firstRoad_71 : decode cX3_firstRoad 71 = .ok (.iload 8, 2) := by decide +kernel
theorem dX3_firstRoad_73 : decode cX3_firstRoad 73 = .ok (.istore 4, 2) := by decide +kernel
theorem dX3_firstRoad_75 : decode cX3_firstRoad 75 = .ok (.goto 9, 3) := by decide +kernel
theorem dX3_firstRoad_78 : decode cX3_firstRoad 78 = .ok (.iinc 7 1, 3) := by decide +kernel
theorem dX3_firstRoad_81 : decode cX3_firstRoad 81 = .ok (.goto (-62), 3) := by decide +kernel
theorem dX3_firstRoad_84 : decode cX3_firstRoad 84 = .ok (.iinc 6 (-1), 3) := by decide +kernel
theorem dX3_firstRoad_87 : decode cX3_firstRoad 87 = .ok (.goto (-76), 3) := by decide +kernel
theorem dX3_firstRoad_90 : decode cX3_firstRoad 90 = .ok (.iload 5, 2) := by decide +kernel
theorem dX3_firstRoad_92 : decode cX3_firstRoad 92 = .ok (.ireturn, 1) := by decide +kernel
set_option maxRecDepth 20000 in
theorem ggX3_rests_X1_countSigns : GoodIn wsX3_rests wsX1_countSigns := goodIn_r _ [10, 11, 12, 13, 9, 14, 15, 16, 17, 18, 19, 20, 21, 22, 23, 24, 25, 26, 47, 48, 49, 50, 51, 52, 53, 54] (by decide +kernel) (by decide +kernel)
set_option maxRecDepth 20000 in
theorem gX3_rests_X1_countSigns : GoodIn wsX3_rests (wsV RX3 65 RX1 yX1_countSigns wsX1_countSigns) := goodIn_app (goodIn_of _ (by decide +kernel)) ggX3_rests_X1_countSigns
set_option maxRecDepth 20000 in
theorem ggX3_rests_X3_isAtRest : GoodIn wsX3_rests wsX3_isAtRest := goodIn_r _ [30, 31, 32, 29, 33, 34, 35, 4, 36, 37, 38, 39] (by decide +kernel) (by decide +kernel)
set_option maxRecDepth 20000 in
theorem gX3_rests_X3_isAtRest : GoodIn wsX3_rests (va_wsS RX3 197 yX3_isAtRest wsX3_isAtRest) := goodIn_app (goodIn_of _ (by decide +kernel)) ggX3_rests_X3_isAtRest
theorem dX3_rests_0 : decode cX3_rests 0 = .ok (.iload_n 1, 1) := by decide +kernel
theorem dX3_rests_1 : decode cX3_rests 1 = .ok (.ifCond .lt 8, 3) := by decide +kernel
theorem dX3_rests_4 : decode cX3_rests 4 = .ok (.iload_n 1, 1) := by decide +kernel
theorem dX3_rests_5 : decode cX3_rests 5 = .ok (.iconst 1, 1) := by decide +kernel
theorem dX3_rests_6 : decode cX3_rests 6 = .ok (.if_icmp .le 6, 3) := by decide +kernel
theorem dX3_rests_9 : decode cX3_rests 9 = .ok (.bipush (-2), 2) := by decide +kernel
theorem dX3_rests_11 : decode cX3_rests 11 = .ok (.ireturn, 1) := by decide +kernel
theorem dX3_rests_12 : decode cX3_rests 12 = .ok (.aload_n 0, 1) := by decide +kernel
theorem dX3_rests_13 : decode cX3_rests 13 = .ok (.getfield 21, 3) := by decide +kernel
theorem dX3_rests_16 : decode cX3_rests 16 = .ok (.invokevirtual 65, 3) := by decide +kernel
theorem dX3_rests_19 : decode cX3_rests 19 = .ok (.iconst 4, 1) := by decide +kernel
theorem dX3_rests_20 : decode cX3_rests 20 = .ok (.invokestatic 194, 3) := by decide +kernel
theorem dX3_rests_23 : decode cX3_rests 23 = .ok (.istore_n 2, 1) := by decide +kernel
theorem dX3_rests_24 : decode cX3_rests 24 = .ok (.iconst 0, 1) := by decide +kernel
theorem dX3_rests_25 : decode cX3_rests 25 = .ok (.istore_n 3, 1) := by decide +kernel
theorem dX3_rests_26 : decode cX3_rests 26 = .ok (.bipush (-9), 2) := by decide +kernel
theorem dX3_rests_28 : decode cX3_rests 28 = .ok (.istore 4, 2) := by decide +kernel
theorem dX3_rests_30 : decode cX3_rests 30 = .ok (.iconst 0, 1) := by decide +kernel
theorem dX3_rests_31 : decode cX3_rests 31 = .ok (.istore 5, 2) := by decide +kernel
theorem dX3_rests_33 : decode cX3_rests 33 = .ok (.iload 5, 2) := by decide +kernel
theorem dX3_rests_35 : decode cX3_rests 35 = .ok (.iload_n 2, 1) := by decide +kernel
theorem dX3_rests_36 : decode cX3_rests 36 = .ok (.if_icmp .gt 60, 3) := by decide +kernel
theorem dX3_rests_39 : decode cX3_rests 39 = .ok (.iconst 0, 1) := by decide +kernel
theorem dX3_rests_40 : decode cX3_rests 40 = .ok (.istore 6, 2) := by decide +kernel
theorem dX3_rests_42 : decode cX3_rests 42 = .ok (.iload 6, 2) := by decide +kernel
theorem dX3_rests_44 : decode cX3_rests 44 = .ok (.iload_n 2, 1) := by decide +kernel
theorem dX3_rests_45 : decode cX3_rests 45 = .ok (.if_icmp .gt 45, 3) := by decide +kernel
theorem dX3_rests_48 : decode cX3_rests 48 = .ok (.iload 5, 2) := by decide +kernel
theorem dX3_rests_50 : decode cX3_rests 50 = .ok (.iload 6, 2) := by decide +kernel
theorem dX3_rests_52 : decode cX3_rests 52 = .ok (.iload_n 2, 1) := by decide +kernel
theorem dX3_rests_53 : decode cX3_rests 53 = .ok (.invokestatic 197, 3) := by decide +kernel
theorem dX3_rests_56 : decode cX3_rests 56 = .ok (.ifCond .eq 28, 3) := by decide +kernel
theorem dX3_rests_59 : decode cX3_rests 59 = .ok (.iinc 3 1, 3) := by decide +kernel
theorem dX3_rests_62 : decode cX3_rests 62 = .ok (.iload 4, 2) := by decide +kernel
theorem dX3_rests_64 : decode cX3_rests 64 = .ok (.bipush (-9), 2) := by decide +kernel
theorem dX3_rests_66 : decode cX3_rests 66 = .ok (.if_icmp .ne 14, 3) := by decide +kernel
theorem dX3_rests_69 : decode cX3_rests 69 = .ok (.bipush 10, 2) := by decide +kernel
theorem dX3_rests_71 : decode cX3_rests 71 = .ok (.iload 5, 2) := by decide +kernel
theorem dX3_rests_73 : decode cX3_rests 73 = .ok (.imul, 1) := by decide +kernel
theorem dX3_rests_74 : decode cX3_rests 74 = .ok (.iload 6, 2) := by decide +kernel
theorem dX3_rests_76 : decode cX3_rests 76 = .ok (.iadd, 1) := by decide +kernel
theorem dX3_rests_77 : decode cX3_rests 77 = .ok (.goto 5, 3) := by decide +kernel
theorem dX3_rests_80 : decode cX3_rests 80 = .ok (.iload 4, 2) := by decide +kernel
theorem dX3_rests_82 : decode cX3_rests 82 = .ok (.istore 4, 2) := by decide +kernel
theorem dX3_rests_84 : decode cX3_rests 84 = .ok (.iinc 6 1, 3) := by decide +kernel
theorem dX3_rests_87 : decode cX3_rests 87 = .ok (.goto (-45), 3) := by decide +kernel
theorem dX3_rests_90 : decode cX3_rests 90 = .ok (.iinc 5 1, 3) := by decide +kernel
theorem dX3_rests_93 : decode cX3_rests 93 = .ok (.goto (-60), 3) := by decide +kernel
theorem dX3_rests_96 : decode cX3_rests 96 = .ok (.iload_n 1, 1) := by decide +kernel
theorem dX3_rests_97 : decode cX3_rests 97 = .ok (.ifCond .ne 7, 3) := by decide +kernel
theorem dX3_rests_100 : decode cX3_rests 100 = .ok (.iload_n 3, 1) := by decide +kernel
theorem dX3_rests_101 : decode cX3_rests 101 = .ok (.goto 5, 3) := by decide +kernel
theorem dX3_rests_104 : decode cX3_rests 104 = .ok (.iload 4, 2) := by decide +kernel
theorem dX3_rests_106 : decode cX3_rests 106 = .ok (.ireturn, 1) := by decide +kernel
set_option maxRecDepth 20000 in
theorem ggX3_chance_X3_isRow : GoodIn wsX3_chance wsX3_isRow := goodIn_r _ [4] (by decide +kernel) (by decide +kernel)
set_option maxRecDepth 20000 in
theorem gX3_chance_X3_isRow : GoodIn wsX3_chance (va_wsS RX3 144 yX3_isRow wsX3_isRow) := goodIn_app (goodIn_of _ (by decide +kernel)) ggX3_chance_X3_isRow
set_option maxRecDepth 20000 in
theorem ggX3_chance_X3_timesMisled : GoodIn wsX3_chance wsX3_timesMisled := goodIn_r _ [8, 9, 10, 11, 12, 13, 14, 15, 16, 17, 18, 19, 20, 21, 22, 23, 24, 25, 3, 26, 27, 28, 29, 30, 31, 32, 33, 34, 35, 36, 37, 38, 39, 40, 41, 42, 43, 44, 45, 46, 47, 48, 49, 50, 51, 52, 53, 54, 55, 56, 57, 58, 72, 73, 74, 75, 76, 77, 78, 79, 80, 81, 82, 83, 84, 85, 86] (by decide +kernel) (by decide +kernel)
set_option maxRecDepth 20000 in
theorem gX3_chance_X3_timesMisled : GoodIn wsX3_chance (wsV RX3 201 RX3 yX3_timesMisled wsX3_timesMisled) := goodIn_app (goodIn_of _ (by decide +kernel)) ggX3_chance_X3_timesMisled
set_option maxRecDepth 20000 in
theorem ggX3_chance_X3_fraction : GoodIn wsX3_chance wsX3_fraction := goodIn_r _ [61, 62, 63, 64, 65] (by decide +kernel) (by decide +kernel)
set_option maxRecDepth 20000 in
theorem gX3_chance_X3_fraction : GoodIn wsX3_chance (va_wsS RX3 172 yX3_fraction wsX3_fraction) := goodIn_app (goodIn_of _ (by decide +kernel)) ggX3_chance_X3_fraction
set_option maxRecDepth 20000 in
theorem ggX3_chance_X3_choicesOf : GoodIn wsX3_chance wsX3_choicesOf := goodIn_r _ [68] (by decide +kernel) (by decide +kernel)
set_option maxRecDepth 20000 in
theorem gX3_chance_X3_choicesOf : GoodIn wsX3_chance (va_wsS RX3 204 yX3_choicesOf wsX3_choicesOf) := goodIn_app (goodIn_of _ (by decide +kernel)) ggX3_chance_X3_choicesOf
set_option maxRecDepth 20000 in
theorem ggX3_chance_X3_powerOf : GoodIn wsX3_chance wsX3_powerOf := goodIn_r _ [71] (by decide +kernel) (by decide +kernel)
set_option maxRecDepth 20000 in
theorem gX3_chance_X3_powerOf : GoodIn wsX3_chance (va_wsS RX3 208 yX3_powerOf wsX3_powerOf) := goodIn_app (goodIn_of _ (by decide +kernel)) ggX3_chance_X3_powerOf
theorem dX3_chance_0 : decode cX3_chance 0 = .ok (.iload_n 1, 1) := by decide +kernel
theorem dX3_chance_1 : decode cX3_chance 1 = .ok (.iconst 1, 1) := by decide +kernel
theorem dX3_chance_2 : decode cX3_chance 2 = .ok (.if_icmp .lt 37, 3) := by decide +kernel
theorem dX3_chance_5 : decode cX3_chance 5 = .ok (.iload_n 1, 1) := by decide +kernel
theorem dX3_chance_6 : decode cX3_chance 6 = .ok (.iconst 5, 1) := by decide +kernel
theorem dX3_chance_7 : decode cX3_chance 7 = .ok (.if_icmp .gt 32, 3) := by decide +kernel
theorem dX3_chance_10 : decode cX3_chance 10 = .ok (.iload_n 1, 1) := by decide +kernel
theorem dX3_chance_11 : decode cX3_chance 11 = .ok (.iload_n 2, 1) := by decide +kernel
theorem dX3_chance_12 : decode cX3_chance 12 = .ok (.invokestatic 144, 3) := by decide +kernel
theorem dX3_chance_15 : decode cX3_chance 15 = .ok (.ifCond .eq 24, 3) := by decide +kernel
theorem dX3_chance_18 : decode cX3_chance 18 = .ok (.iload_n 3, 1) := by decide +kernel
theorem dX3_chance_19 : decode cX3_chance 19 = .ok (.ifCond .lt 20, 3) := by decide +kernel
theorem dX3_chance_22 : decode cX3_chance 22 = .ok (.iload_n 3, 1) := by decide +kernel
theorem dX3_chance_23 : decode cX3_chance 23 = .ok (.iconst 5, 1) := by decide +kernel
theorem dX3_chance_24 : decode cX3_chance 24 = .ok (.if_icmp .gt 15, 3) := by decide +kernel
theorem dX3_chance_27 : decode cX3_chance 27 = .ok (.iload 4, 2) := by decide +kernel
theorem dX3_chance_29 : decode cX3_chance 29 = .ok (.ifCond .lt 10, 3) := by decide +kernel
theorem dX3_chance_32 : decode cX3_chance 32 = .ok (.iload 4, 2) := by decide +kernel
theorem dX3_chance_34 : decode cX3_chance 34 = .ok (.bipush 10, 2) := by decide +kernel
theorem dX3_chance_36 : decode cX3_chance 36 = .ok (.if_icmp .le 6, 3) := by decide +kernel
theorem dX3_chance_39 : decode cX3_chance 39 = .ok (.bipush (-2), 2) := by decide +kernel
theorem dX3_chance_41 : decode cX3_chance 41 = .ok (.ireturn, 1) := by decide +kernel
theorem dX3_chance_42 : decode cX3_chance 42 = .ok (.aload_n 0, 1) := by decide +kernel
theorem dX3_chance_43 : decode cX3_chance 43 = .ok (.iload_n 1, 1) := by decide +kernel
theorem dX3_chance_44 : decode cX3_chance 44 = .ok (.iload_n 2, 1) := by decide +kernel
theorem dX3_chance_45 : decode cX3_chance 45 = .ok (.invokevirtual 201, 3) := by decide +kernel
theorem dX3_chance_48 : decode cX3_chance 48 = .ok (.istore 6, 2) := by decide +kernel
theorem dX3_chance_50 : decode cX3_chance 50 = .ok (.iload 6, 2) := by decide +kernel
theorem dX3_chance_52 : decode cX3_chance 52 = .ok (.bipush (-9), 2) := by decide +kernel
theorem dX3_chance_54 : decode cX3_chance 54 = .ok (.if_icmp .ne 11, 3) := by decide +kernel
theorem dX3_chance_57 : decode cX3_chance 57 = .ok (.lconst 0, 1) := by decide +kernel
theorem dX3_chance_58 : decode cX3_chance 58 = .ok (.lconst 1, 1) := by decide +kernel
theorem dX3_chance_59 : decode cX3_chance 59 = .ok (.iload 5, 2) := by decide +kernel
theorem dX3_chance_61 : decode cX3_chance 61 = .ok (.invokestatic 172, 3) := by decide +kernel
theorem dX3_chance_64 : decode cX3_chance 64 = .ok (.ireturn, 1) := by decide +kernel
theorem dX3_chance_65 : decode cX3_chance 65 = .ok (.lconst 0, 1) := by decide +kernel
