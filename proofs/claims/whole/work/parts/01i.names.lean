theorem dX4_step_57 : decode cX4_step 57 = .ok (.bipush 13, 2) := by decide +kernel
theorem dX4_step_59 : decode cX4_step 59 = .ok (.dup2, 1) := by decide +kernel
theorem dX4_step_60 : decode cX4_step 60 = .ok (.iaload, 1) := by decide +kernel
theorem dX4_step_61 : decode cX4_step 61 = .ok (.aload_n 1, 1) := by decide +kernel
theorem dX4_step_62 : decode cX4_step 62 = .ok (.bipush 15, 2) := by decide +kernel
theorem dX4_step_64 : decode cX4_step 64 = .ok (.iaload, 1) := by decide +kernel
theorem dX4_step_65 : decode cX4_step 65 = .ok (.iload_n 3, 1) := by decide +kernel
theorem dX4_step_66 : decode cX4_step 66 = .ok (.invokestatic 115, 3) := by decide +kernel
theorem dX4_step_69 : decode cX4_step 69 = .ok (.ifCond .eq 7, 3) := by decide +kernel
theorem dX4_step_72 : decode cX4_step 72 = .ok (.iconst 0, 1) := by decide +kernel
theorem dX4_step_73 : decode cX4_step 73 = .ok (.goto 9, 3) := by decide +kernel
theorem dX4_step_76 : decode cX4_step 76 = .ok (.aload_n 0, 1) := by decide +kernel
theorem dX4_step_77 : decode cX4_step 77 = .ok (.aload_n 1, 1) := by decide +kernel
theorem dX4_step_78 : decode cX4_step 78 = .ok (.iload_n 3, 1) := by decide +kernel
theorem dX4_step_79 : decode cX4_step 79 = .ok (.invokevirtual 103, 3) := by decide +kernel
theorem dX4_step_82 : decode cX4_step 82 = .ok (.iadd, 1) := by decide +kernel
theorem dX4_step_83 : decode cX4_step 83 = .ok (.iastore, 1) := by decide +kernel
theorem dX4_step_84 : decode cX4_step 84 = .ok (.aload_n 1, 1) := by decide +kernel
theorem dX4_step_85 : decode cX4_step 85 = .ok (.bipush 15, 2) := by decide +kernel
theorem dX4_step_87 : decode cX4_step 87 = .ok (.dup2, 1) := by decide +kernel
theorem dX4_step_88 : decode cX4_step 88 = .ok (.iaload, 1) := by decide +kernel
theorem dX4_step_89 : decode cX4_step 89 = .ok (.iconst 1, 1) := by decide +kernel
theorem dX4_step_90 : decode cX4_step 90 = .ok (.iload_n 3, 1) := by decide +kernel
theorem dX4_step_91 : decode cX4_step 91 = .ok (.ishl, 1) := by decide +kernel
theorem dX4_step_92 : decode cX4_step 92 = .ok (.ior, 1) := by decide +kernel
theorem dX4_step_93 : decode cX4_step 93 = .ok (.iastore, 1) := by decide +kernel
theorem dX4_step_94 : decode cX4_step 94 = .ok (.return_, 1) := by decide +kernel
theorem dX4_note_0 : decode cX4_note 0 = .ok (.aload_n 0, 1) := by decide +kernel
theorem dX4_note_1 : decode cX4_note 1 = .ok (.getfield 93, 3) := by decide +kernel
theorem dX4_note_4 : decode cX4_note 4 = .ok (.bipush 14, 2) := by decide +kernel
theorem dX4_note_6 : decode cX4_note 6 = .ok (.if_icmp .ne 43, 3) := by decide +kernel
theorem dX4_note_9 : decode cX4_note 9 = .ok (.iconst 0, 1) := by decide +kernel
theorem dX4_note_10 : decode cX4_note 10 = .ok (.istore_n 1, 1) := by decide +kernel
theorem dX4_note_11 : decode cX4_note 11 = .ok (.iload_n 1, 1) := by decide +kernel
theorem dX4_note_12 : decode cX4_note 12 = .ok (.sipush 221, 3) := by decide +kernel
theorem dX4_note_15 : decode cX4_note 15 = .ok (.if_icmp .ge 24, 3) := by decide +kernel
theorem dX4_note_18 : decode cX4_note 18 = .ok (.aload_n 0, 1) := by decide +kernel
theorem dX4_note_19 : decode cX4_note 19 = .ok (.getfield 28, 3) := by decide +kernel
theorem dX4_note_22 : decode cX4_note 22 = .ok (.iload_n 1, 1) := by decide +kernel
theorem dX4_note_23 : decode cX4_note 23 = .ok (.aload_n 0, 1) := by decide +kernel
theorem dX4_note_24 : decode cX4_note 24 = .ok (.getfield 28, 3) := by decide +kernel
theorem dX4_note_27 : decode cX4_note 27 = .ok (.iload_n 1, 1) := by decide +kernel
theorem dX4_note_28 : decode cX4_note 28 = .ok (.bipush 17, 2) := by decide +kernel
theorem dX4_note_30 : decode cX4_note 30 = .ok (.iadd, 1) := by decide +kernel
theorem dX4_note_31 : decode cX4_note 31 = .ok (.iaload, 1) := by decide +kernel
theorem dX4_note_32 : decode cX4_note 32 = .ok (.iastore, 1) := by decide +kernel
theorem dX4_note_33 : decode cX4_note 33 = .ok (.iinc 1 1, 3) := by decide +kernel
theorem dX4_note_36 : decode cX4_note 36 = .ok (.goto (-25), 3) := by decide +kernel
theorem dX4_note_39 : decode cX4_note 39 = .ok (.aload_n 0, 1) := by decide +kernel
theorem dX4_note_40 : decode cX4_note 40 = .ok (.dup, 1) := by decide +kernel
theorem dX4_note_41 : decode cX4_note 41 = .ok (.getfield 93, 3) := by decide +kernel
theorem dX4_note_44 : decode cX4_note 44 = .ok (.iconst 1, 1) := by decide +kernel
theorem dX4_note_45 : decode cX4_note 45 = .ok (.isub, 1) := by decide +kernel
theorem dX4_note_46 : decode cX4_note 46 = .ok (.putfield 93, 3) := by decide +kernel
theorem dX4_note_49 : decode cX4_note 49 = .ok (.iconst 0, 1) := by decide +kernel
theorem dX4_note_50 : decode cX4_note 50 = .ok (.istore_n 1, 1) := by decide +kernel
theorem dX4_note_51 : decode cX4_note 51 = .ok (.iload_n 1, 1) := by decide +kernel
theorem dX4_note_52 : decode cX4_note 52 = .ok (.bipush 17, 2) := by decide +kernel
theorem dX4_note_54 : decode cX4_note 54 = .ok (.if_icmp .ge 29, 3) := by decide +kernel
theorem dX4_note_57 : decode cX4_note 57 = .ok (.aload_n 0, 1) := by decide +kernel
theorem dX4_note_58 : decode cX4_note 58 = .ok (.getfield 28, 3) := by decide +kernel
theorem dX4_note_61 : decode cX4_note 61 = .ok (.bipush 17, 2) := by decide +kernel
theorem dX4_note_63 : decode cX4_note 63 = .ok (.aload_n 0, 1) := by decide +kernel
theorem dX4_note_64 : decode cX4_note 64 = .ok (.getfield 93, 3) := by decide +kernel
theorem dX4_note_67 : decode cX4_note 67 = .ok (.imul, 1) := by decide +kernel
theorem dX4_note_68 : decode cX4_note 68 = .ok (.iload_n 1, 1) := by decide +kernel
theorem dX4_note_69 : decode cX4_note 69 = .ok (.iadd, 1) := by decide +kernel
theorem dX4_note_70 : decode cX4_note 70 = .ok (.aload_n 0, 1) := by decide +kernel
theorem dX4_note_71 : decode cX4_note 71 = .ok (.getfield 22, 3) := by decide +kernel
theorem dX4_note_74 : decode cX4_note 74 = .ok (.iload_n 1, 1) := by decide +kernel
theorem dX4_note_75 : decode cX4_note 75 = .ok (.iaload, 1) := by decide +kernel
theorem dX4_note_76 : decode cX4_note 76 = .ok (.iastore, 1) := by decide +kernel
theorem dX4_note_77 : decode cX4_note 77 = .ok (.iinc 1 1, 3) := by decide +kernel
theorem dX4_note_80 : decode cX4_note 80 = .ok (.goto (-29), 3) := by decide +kernel
theorem dX4_note_83 : decode cX4_note 83 = .ok (.aload_n 0, 1) := by decide +kernel
theorem dX4_note_84 : decode cX4_note 84 = .ok (.dup, 1) := by decide +kernel
theorem dX4_note_85 : decode cX4_note 85 = .ok (.getfield 93, 3) := by decide +kernel
theorem dX4_note_88 : decode cX4_note 88 = .ok (.iconst 1, 1) := by decide +kernel
theorem dX4_note_89 : decode cX4_note 89 = .ok (.iadd, 1) := by decide +kernel
theorem dX4_note_90 : decode cX4_note 90 = .ok (.putfield 93, 3) := by decide +kernel
theorem dX4_note_93 : decode cX4_note 93 = .ok (.return_, 1) := by decide +kernel
set_option maxRecDepth 20000 in
theorem ggX4_go_X4_in : GoodIn wsX4_go wsX4_in := goodIn_r _ [7] (by decide +kernel) (by decide +kernel)
set_option maxRecDepth 20000 in
theorem gX4_go_X4_in : GoodIn wsX4_go (va_wsS RX4 56 yX4_in wsX4_in) := goodIn_app (goodIn_of _ (by decide +kernel)) ggX4_go_X4_in
set_option maxRecDepth 20000 in
theorem ggX4_go_X4_can : GoodIn wsX4_go wsX4_can := goodIn_r _ [10, 11, 12, 6, 13, 14, 15, 16] (by decide +kernel) (by decide +kernel)
set_option maxRecDepth 20000 in
theorem gX4_go_X4_can : GoodIn wsX4_go (va_wsS RX4 121 yX4_can wsX4_can) := goodIn_app (goodIn_of _ (by decide +kernel)) ggX4_go_X4_can
set_option maxRecDepth 20000 in
theorem ggX4_go_X4_note : GoodIn wsX4_go wsX4_note := goodIn_r _ [20, 21, 22, 3, 35, 36, 37, 38, 39, 40, 41, 42, 43, 44, 45, 46, 47, 48, 49, 50, 51, 52, 53, 54, 55, 56, 57, 58, 59] (by decide +kernel) (by decide +kernel)
set_option maxRecDepth 20000 in
theorem gX4_go_X4_note : GoodIn wsX4_go (wsV RX4 124 RX4 yX4_note wsX4_note) := goodIn_app (goodIn_of _ (by decide +kernel)) ggX4_go_X4_note
set_option maxRecDepth 20000 in
theorem ggX4_go_X4_step : GoodIn wsX4_go wsX4_step := goodIn_r _ [26, 27, 11, 12, 6, 13, 28, 29, 30, 31, 32, 33, 34, 35, 36, 37, 38, 39, 40, 41, 42, 43, 44, 45, 46, 47, 48, 49, 50, 51, 52, 53, 54, 55, 56, 57, 58, 59] (by decide +kernel) (by decide +kernel)
set_option maxRecDepth 20000 in
theorem gX4_go_X4_step : GoodIn wsX4_go (wsV RX4 127 RX4 yX4_step wsX4_step) := goodIn_app (goodIn_of _ (by decide +kernel)) ggX4_go_X4_step
theorem dX4_go_0 : decode cX4_go 0 = .ok (.aload_n 0, 1) := by decide +kernel
theorem dX4_go_1 : decode cX4_go 1 = .ok (.iconst 0, 1) := by decide +kernel
theorem dX4_go_2 : decode cX4_go 2 = .ok (.putfield 50, 3) := by decide +kernel
theorem dX4_go_5 : decode cX4_go 5 = .ok (.iload_n 1, 1) := by decide +kernel
theorem dX4_go_6 : decode cX4_go 6 = .ok (.i2l, 1) := by decide +kernel
theorem dX4_go_7 : decode cX4_go 7 = .ok (.lconst 0, 1) := by decide +kernel
theorem dX4_go_8 : decode cX4_go 8 = .ok (.ldc2_w 119, 3) := by decide +kernel
theorem dX4_go_11 : decode cX4_go 11 = .ok (.invokestatic 56, 3) := by decide +kernel
theorem dX4_go_14 : decode cX4_go 14 = .ok (.ifCond .ne 6, 3) := by decide +kernel
theorem dX4_go_17 : decode cX4_go 17 = .ok (.bipush (-2), 2) := by decide +kernel
theorem dX4_go_19 : decode cX4_go 19 = .ok (.ireturn, 1) := by decide +kernel
theorem dX4_go_20 : decode cX4_go 20 = .ok (.aload_n 0, 1) := by decide +kernel
theorem dX4_go_21 : decode cX4_go 21 = .ok (.getfield 22, 3) := by decide +kernel
theorem dX4_go_24 : decode cX4_go 24 = .ok (.iload_n 1, 1) := by decide +kernel
theorem dX4_go_25 : decode cX4_go 25 = .ok (.invokestatic 121, 3) := by decide +kernel
theorem dX4_go_28 : decode cX4_go 28 = .ok (.ifCond .ne 6, 3) := by decide +kernel
theorem dX4_go_31 : decode cX4_go 31 = .ok (.bipush (-3), 2) := by decide +kernel
theorem dX4_go_33 : decode cX4_go 33 = .ok (.ireturn, 1) := by decide +kernel
theorem dX4_go_34 : decode cX4_go 34 = .ok (.aload_n 0, 1) := by decide +kernel
theorem dX4_go_35 : decode cX4_go 35 = .ok (.invokevirtual 124, 3) := by decide +kernel
theorem dX4_go_38 : decode cX4_go 38 = .ok (.aload_n 0, 1) := by decide +kernel
theorem dX4_go_39 : decode cX4_go 39 = .ok (.aload_n 0, 1) := by decide +kernel
theorem dX4_go_40 : decode cX4_go 40 = .ok (.getfield 22, 3) := by decide +kernel
theorem dX4_go_43 : decode cX4_go 43 = .ok (.iload_n 1, 1) := by decide +kernel
theorem dX4_go_44 : decode cX4_go 44 = .ok (.invokevirtual 127, 3) := by decide +kernel
theorem dX4_go_47 : decode cX4_go 47 = .ok (.aload_n 0, 1) := by decide +kernel
theorem dX4_go_48 : decode cX4_go 48 = .ok (.getfield 22, 3) := by decide +kernel
theorem dX4_go_51 : decode cX4_go 51 = .ok (.bipush 12, 2) := by decide +kernel
theorem dX4_go_53 : decode cX4_go 53 = .ok (.iaload, 1) := by decide +kernel
theorem dX4_go_54 : decode cX4_go 54 = .ok (.ireturn, 1) := by decide +kernel
set_option maxRecDepth 20000 in
theorem ggX4_rest_X4_can : GoodIn wsX4_rest wsX4_can := goodIn_r _ [6, 7, 8, 5, 9, 10, 11, 12] (by decide +kernel) (by decide +kernel)
set_option maxRecDepth 20000 in
theorem gX4_rest_X4_can : GoodIn wsX4_rest (va_wsS RX4 121 yX4_can wsX4_can) := goodIn_app (goodIn_of _ (by decide +kernel)) ggX4_rest_X4_can
set_option maxRecDepth 20000 in
theorem ggX4_rest_X4_note : GoodIn wsX4_rest wsX4_note := goodIn_r _ [16, 17, 18, 2, 31, 32, 33, 34, 35, 36, 37, 38, 39, 40, 41, 42, 43, 44, 45, 46, 47, 48, 49, 50, 51, 52, 53, 54, 55] (by decide +kernel) (by decide +kernel)
set_option maxRecDepth 20000 in
theorem gX4_rest_X4_note : GoodIn wsX4_rest (wsV RX4 124 RX4 yX4_note wsX4_note) := goodIn_app (goodIn_of _ (by decide +kernel)) ggX4_rest_X4_note
set_option maxRecDepth 20000 in
theorem ggX4_rest_X4_step : GoodIn wsX4_rest wsX4_step := goodIn_r _ [22, 23, 7, 8, 5, 9, 24, 25, 26, 27, 28, 29, 30, 31, 32, 33, 34, 35, 36, 37, 38, 39, 40, 41, 42, 43, 44, 45, 46, 47, 48, 49, 50, 51, 52, 53, 54, 55] (by decide +kernel) (by decide +kernel)
set_option maxRecDepth 20000 in
theorem gX4_rest_X4_step : GoodIn wsX4_rest (wsV RX4 127 RX4 yX4_step wsX4_step) := goodIn_app (goodIn_of _ (by decide +kernel)) ggX4_rest_X4_step
theorem dX4_rest_0 : decode cX4_rest 0 = .ok (.aload_n 0, 1) := by decide +kernel
theorem dX4_rest_1 : decode cX4_rest 1 = .ok (.iconst 0, 1) := by decide +kernel
theorem dX4_rest_2 : decode cX4_rest 2 = .ok (.putfield 50, 3) := by decide +kernel
theorem dX4_rest_5 : decode cX4_rest 5 = .ok (.aload_n 0, 1) := by decide +kernel
theorem dX4_rest_6 : decode cX4_rest 6 = .ok (.getfield 22, 3) := by decide +kernel
theorem dX4_rest_9 : decode cX4_rest 9 = .ok (.iconst 4, 1) := by decide +kernel
theorem dX4_rest_10 : decode cX4_rest 10 = .ok (.invokestatic 121, 3) := by decide +kernel
theorem dX4_rest_13 : decode cX4_rest 13 = .ok (.ifCond .ne 6, 3) := by decide +kernel
theorem dX4_rest_16 : decode cX4_rest 16 = .ok (.bipush (-3), 2) := by decide +kernel
theorem dX4_rest_18 : decode cX4_rest 18 = .ok (.ireturn, 1) := by decide +kernel
theorem dX4_rest_19 : decode cX4_rest 19 = .ok (.aload_n 0, 1) := by decide +kernel
theorem dX4_rest_20 : decode cX4_rest 20 = .ok (.invokevirtual 124, 3) := by decide +kernel
theorem dX4_rest_23 : decode cX4_rest 23 = .ok (.aload_n 0, 1) := by decide +kernel
theorem dX4_rest_24 : decode cX4_rest 24 = .ok (.aload_n 0, 1) := by decide +kernel
theorem dX4_rest_25 : decode cX4_rest 25 = .ok (.getfield 22, 3) := by decide +kernel
theorem dX4_rest_28 : decode cX4_rest 28 = .ok (.iconst 4, 1) := by decide +kernel
theorem dX4_rest_29 : decode cX4_rest 29 = .ok (.invokevirtual 127, 3) := by decide +kernel
theorem dX4_rest_32 : decode cX4_rest 32 = .ok (.aload_n 0, 1) := by decide +kernel
theorem dX4_rest_33 : decode cX4_rest 33 = .ok (.getfield 22, 3) := by decide +kernel
theorem dX4_rest_36 : decode cX4_rest 36 = .ok (.bipush 13, 2) := by decide +kernel
theorem dX4_rest_38 : decode cX4_rest 38 = .ok (.iaload, 1) := by decide +kernel
theorem dX4_rest_39 : decode cX4_rest 39 = .ok (.ireturn, 1) := by decide +kernel
set_option maxRecDepth 20000 in
theorem ggX4_draw_X4_noCell : GoodIn wsX4_draw wsX4_noCell := goodIn_r _ [7, 8, 9, 10, 6, 11] (by decide +kernel) (by decide +kernel)
set_option maxRecDepth 20000 in
theorem gX4_draw_X4_noCell : GoodIn wsX4_draw (va_wsS RX4 78 yX4_noCell wsX4_noCell) := goodIn_app (goodIn_of _ (by decide +kernel)) ggX4_draw_X4_noCell
set_option maxRecDepth 20000 in
theorem ggX4_draw_X4_in : GoodIn wsX4_draw wsX4_in := goodIn_r _ [11] (by decide +kernel) (by decide +kernel)
set_option maxRecDepth 20000 in
theorem gX4_draw_X4_in : GoodIn wsX4_draw (va_wsS RX4 56 yX4_in wsX4_in) := goodIn_app (goodIn_of _ (by decide +kernel)) ggX4_draw_X4_in
set_option maxRecDepth 20000 in
theorem ggX4_draw_X4_signsOf : GoodIn wsX4_draw wsX4_signsOf := goodIn_r _ [14] (by decide +kernel) (by decide +kernel)
set_option maxRecDepth 20000 in
theorem gX4_draw_X4_signsOf : GoodIn wsX4_draw (va_wsS RX4 96 yX4_signsOf wsX4_signsOf) := goodIn_app (goodIn_of _ (by decide +kernel)) ggX4_draw_X4_signsOf
set_option maxRecDepth 20000 in
theorem ggX4_draw_X4_note : GoodIn wsX4_draw wsX4_note := goodIn_r _ [18, 19, 20, 3, 21, 22, 23, 24, 25, 26, 27, 28, 29, 30, 31, 32, 33, 34, 35, 36, 37, 38, 39, 40, 41, 42, 43, 44, 45] (by decide +kernel) (by decide +kernel)
set_option maxRecDepth 20000 in
theorem gX4_draw_X4_note : GoodIn wsX4_draw (wsV RX4 124 RX4 yX4_note wsX4_note) := goodIn_app (goodIn_of _ (by decide +kernel)) ggX4_draw_X4_note
theorem dX4_draw_0 : decode cX4_draw 0 = .ok (.aload_n 0, 1) := by decide +kernel
theorem dX4_draw_1 : decode cX4_draw 1 = .ok (.iconst 0, 1) := by decide +kernel
theorem dX4_draw_2 : decode cX4_draw 2 = .ok (.putfield 50, 3) := by decide +kernel
theorem dX4_draw_5 : decode cX4_draw 5 = .ok (.iload_n 1, 1) := by decide +kernel
theorem dX4_draw_6 : decode cX4_draw 6 = .ok (.invokestatic 78, 3) := by decide +kernel
theorem dX4_draw_9 : decode cX4_draw 9 = .ok (.ifCond .eq 5, 3) := by decide +kernel
theorem dX4_draw_12 : decode cX4_draw 12 = .ok (.iconst (-1), 1) := by decide +kernel
theorem dX4_draw_13 : decode cX4_draw 13 = .ok (.ireturn, 1) := by decide +kernel
theorem dX4_draw_14 : decode cX4_draw 14 = .ok (.iload_n 2, 1) := by decide +kernel
theorem dX4_draw_15 : decode cX4_draw 15 = .ok (.i2l, 1) := by decide +kernel
theorem dX4_draw_16 : decode cX4_draw 16 = .ok (.lconst 1, 1) := by decide +kernel
theorem dX4_draw_17 : decode cX4_draw 17 = .ok (.ldc2_w 131, 3) := by decide +kernel
theorem dX4_draw_20 : decode cX4_draw 20 = .ok (.invokestatic 56, 3) := by decide +kernel
theorem dX4_draw_23 : decode cX4_draw 23 = .ok (.ifCond .ne 6, 3) := by decide +kernel
theorem dX4_draw_26 : decode cX4_draw 26 = .ok (.bipush (-2), 2) := by decide +kernel
theorem dX4_draw_28 : decode cX4_draw 28 = .ok (.ireturn, 1) := by decide +kernel
theorem dX4_draw_29 : decode cX4_draw 29 = .ok (.aload_n 0, 1) := by decide +kernel
theorem dX4_draw_30 : decode cX4_draw 30 = .ok (.getfield 22, 3) := by decide +kernel
theorem dX4_draw_33 : decode cX4_draw 33 = .ok (.iconst 0, 1) := by decide +kernel
theorem dX4_draw_34 : decode cX4_draw 34 = .ok (.iload_n 1, 1) := by decide +kernel
theorem dX4_draw_35 : decode cX4_draw 35 = .ok (.iadd, 1) := by decide +kernel
theorem dX4_draw_36 : decode cX4_draw 36 = .ok (.iaload, 1) := by decide +kernel
theorem dX4_draw_37 : decode cX4_draw 37 = .ok (.ifCond .le 6, 3) := by decide +kernel
theorem dX4_draw_40 : decode cX4_draw 40 = .ok (.bipush (-3), 2) := by decide +kernel
theorem dX4_draw_42 : decode cX4_draw 42 = .ok (.ireturn, 1) := by decide +kernel
theorem dX4_draw_43 : decode cX4_draw 43 = .ok (.aload_n 0, 1) := by decide +kernel
theorem dX4_draw_44 : decode cX4_draw 44 = .ok (.getfield 22, 3) := by decide +kernel
theorem dX4_draw_47 : decode cX4_draw 47 = .ok (.invokestatic 96, 3) := by decide +kernel
theorem dX4_draw_50 : decode cX4_draw 50 = .ok (.bipush 8, 2) := by decide +kernel
theorem dX4_draw_52 : decode cX4_draw 52 = .ok (.if_icmp .ne 6, 3) := by decide +kernel
theorem dX4_draw_55 : decode cX4_draw 55 = .ok (.bipush (-4), 2) := by decide +kernel
theorem dX4_draw_57 : decode cX4_draw 57 = .ok (.ireturn, 1) := by decide +kernel
theorem dX4_draw_58 : decode cX4_draw 58 = .ok (.aload_n 0, 1) := by decide +kernel
theorem dX4_draw_59 : decode cX4_draw 59 = .ok (.invokevirtual 124, 3) := by decide +kernel
theorem dX4_draw_62 : decode cX4_draw 62 = .ok (.aload_n 0, 1) := by decide +kernel
theorem dX4_draw_63 : decode cX4_draw 63 = .ok (.getfield 22, 3) := by decide +kernel
theorem dX4_draw_66 : decode cX4_draw 66 = .ok (.iconst 0, 1) := by decide +kernel
theorem dX4_draw_67 : decode cX4_draw 67 = .ok (.iload_n 1, 1) := by decide +kernel
theorem dX4_draw_68 : decode cX4_draw 68 = .ok (.iadd, 1) := by decide +kernel
theorem dX4_draw_69 : decode cX4_draw 69 = .ok (.iload_n 2, 1) := by decide +kernel
theorem dX4_draw_70 : decode cX4_draw 70 = .ok (.iastore, 1) := by decide +kernel
theorem dX4_draw_71 : decode cX4_draw 71 = .ok (.aload_n 0, 1) := by decide +kernel
theorem dX4_draw_72 : decode cX4_draw 72 = .ok (.getfield 22, 3) := by decide +kernel
theorem dX4_draw_75 : decode cX4_draw 75 = .ok (.invokestatic 96, 3) := by decide +kernel
theorem dX4_draw_78 : decode cX4_draw 78 = .ok (.ireturn, 1) := by decide +kernel
set_option maxRecDepth 20000 in
theorem ggX4_rub_X4_noCell : GoodIn wsX4_rub wsX4_noCell := goodIn_r _ [6, 7, 8, 9, 5, 10] (by decide +kernel) (by decide +kernel)
set_option maxRecDepth 20000 in
theorem gX4_rub_X4_noCell : GoodIn wsX4_rub (va_wsS RX4 78 yX4_noCell wsX4_noCell) := goodIn_app (goodIn_of _ (by decide +kernel)) ggX4_rub_X4_noCell
set_option maxRecDepth 20000 in
theorem ggX4_rub_X4_note : GoodIn wsX4_rub wsX4_note := goodIn_r _ [14, 15, 16, 2, 17, 18, 19, 20, 21, 22, 23, 24, 25, 26, 27, 28, 29, 30, 31, 32, 33, 34, 35, 36, 37, 38, 39, 40, 41] (by decide +kernel) (by decide +kernel)
set_option maxRecDepth 20000 in
theorem gX4_rub_X4_note : GoodIn wsX4_rub (wsV RX4 124 RX4 yX4_note wsX4_note) := goodIn_app (goodIn_of _ (by decide +kernel)) ggX4_rub_X4_note
theorem dX4_rub_0 : decode cX4_rub 0 = .ok (.aload_n 0, 1) := by decide +kernel
theorem dX4_rub_1 : decode cX4_rub 1 = .ok (.iconst 0, 1) := by decide +kernel
theorem dX4_rub_2 : decode cX4_rub 2 = .ok (.putfield 50, 3) := by decide +kernel
theorem dX4_rub_5 : decode cX4_rub 5 = .ok (.iload_n 1, 1) := by decide +kernel
theorem dX4_rub_6 : decode cX4_rub 6 = .ok (.invokestatic 78, 3) := by decide +kernel
theorem dX4_rub_9 : decode cX4_rub 9 = .ok (.ifCond .eq 5, 3) := by decide +kernel
theorem dX4_rub_12 : decode cX4_rub 12 = .ok (.iconst (-1), 1) := by decide +kernel
theorem dX4_rub_13 : decode cX4_rub 13 = .ok (.ireturn, 1) := by decide +kernel
theorem dX4_rub_14 : decode cX4_rub 14 = .ok (.aload_n 0, 1) := by decide +kernel
theorem dX4_rub_15 : decode cX4_rub 15 = .ok (.getfield 22, 3) := by decide +kernel
theorem dX4_rub_18 : decode cX4_rub 18 = .ok (.iconst 0, 1) := by decide +kernel
theorem dX4_rub_19 : decode cX4_rub 19 = .ok (.iload_n 1, 1) := by decide +kernel
theorem dX4_rub_20 : decode cX4_rub 20 = .ok (.iadd, 1) := by decide +kernel
theorem dX4_rub_21 : decode cX4_rub 21 = .ok (.iaload, 1) := by decide +kernel
theorem dX4_rub_22 : decode cX4_rub 22 = .ok (.istore_n 2, 1) := by decide +kernel
theorem dX4_rub_23 : decode cX4_rub 23 = .ok (.iload_n 2, 1) := by decide +kernel
theorem dX4_rub_24 : decode cX4_rub 24 = .ok (.ifCond .eq 14, 3) := by decide +kernel
theorem dX4_rub_27 : decode cX4_rub 27 = .ok (.aload_n 0, 1) := by decide +kernel
theorem dX4_rub_28 : decode cX4_rub 28 = .ok (.getfield 22, 3) := by decide +kernel
theorem dX4_rub_31 : decode cX4_rub 31 = .ok (.bipush 12, 2) := by decide +kernel
theorem dX4_rub_33 : decode cX4_rub 33 = .ok (.iaload, 1) := by decide +kernel
theorem dX4_rub_34 : decode cX4_rub 34 = .ok (.iload_n 1, 1) := by decide +kernel
theorem dX4_rub_35 : decode cX4_rub 35 = .ok (.if_icmp .ne 6, 3) := by decide +kernel
theorem dX4_rub_38 : decode cX4_rub 38 = .ok (.bipush (-3), 2) := by decide +kernel
theorem dX4_rub_40 : decode cX4_rub 40 = .ok (.ireturn, 1) := by decide +kernel
theorem dX4_rub_41 : decode cX4_rub 41 = .ok (.aload_n 0, 1) := by decide +kernel
theorem dX4_rub_42 : decode cX4_rub 42 = .ok (.invokevirtual 124, 3) := by decide +kernel
theorem dX4_rub_45 : decode cX4_rub 45 = .ok (.aload_n 0, 1) := by decide +kernel
theorem dX4_rub_46 : decode cX4_rub 46 = .ok (.getfield 22, 3) := by decide +kernel
theorem dX4_rub_49 : decode cX4_rub 49 = .ok (.iconst 0, 1) := by decide +kernel
theorem dX4_rub_50 : decode cX4_rub 50 = .ok (.iload_n 1, 1) := by decide +kernel
theorem dX4_rub_51 : decode cX4_rub 51 = .ok (.iadd, 1) := by decide +kernel
theorem dX4_rub_52 : decode cX4_rub 52 = .ok (.iconst 0, 1) := by decide +kernel
theorem dX4_rub_53 : decode cX4_rub 53 = .ok (.iastore, 1) := by decide +kernel
theorem dX4_rub_54 : decode cX4_rub 54 = .ok (.iload_n 2, 1) := by decide +kernel
theorem dX4_rub_55 : decode cX4_rub 55 = .ok (.ireturn, 1) := by decide +kernel
theorem dX4_undo_0 : decode cX4_undo 0 = .ok (.aload_n 0, 1) := by decide +kernel
theorem dX4_undo_1 : decode cX4_undo 1 = .ok (.iconst 0, 1) := by decide +kernel
theorem dX4_undo_2 : decode cX4_undo 2 = .ok (.putfield 50, 3) := by decide +kernel
theorem dX4_undo_5 : decode cX4_undo 5 = .ok (.aload_n 0, 1) := by decide +kernel
theorem dX4_undo_6 : decode cX4_undo 6 = .ok (.getfield 93, 3) := by decide +kernel
theorem dX4_undo_9 : decode cX4_undo 9 = .ok (.ifCond .ne 6, 3) := by decide +kernel
theorem dX4_undo_12 : decode cX4_undo 12 = .ok (.bipush (-3), 2) := by decide +kernel
theorem dX4_undo_14 : decode cX4_undo 14 = .ok (.ireturn, 1) := by decide +kernel
theorem dX4_undo_15 : decode cX4_undo 15 = .ok (.aload_n 0, 1) := by decide +kernel
theorem dX4_undo_16 : decode cX4_undo 16 = .ok (.dup, 1) := by decide +kernel
theorem dX4_undo_17 : decode cX4_undo 17 = .ok (.getfield 93, 3) := by decide +kernel
theorem dX4_undo_20 : decode cX4_undo 20 = .ok (.iconst 1, 1) := by decide +kernel
theorem dX4_undo_21 : decode cX4_undo 21 = .ok (.isub, 1) := by decide +kernel
theorem dX4_undo_22 : decode cX4_undo 22 = .ok (.putfield 93, 3) := by decide +kernel
theorem dX4_undo_25 : decode cX4_undo 25 = .ok (.iconst 0, 1) := by decide +kernel
theorem dX4_undo_26 : decode cX4_undo 26 = .ok (.istore_n 1, 1) := by decide +kernel
theorem dX4_undo_27 : decode cX4_undo 27 = .ok (.iload_n 1, 1) := by decide +kernel
theorem dX4_undo_28 : decode cX4_undo 28 = .ok (.bipush 17, 2) := by decide +kernel
theorem dX4_undo_30 : decode cX4_undo 30 = .ok (.if_icmp .ge 29, 3) := by decide +kernel
theorem dX4_undo_33 : decode cX4_undo 33 = .ok (.aload_n 0, 1) := by decide +kernel
theorem dX4_undo_34 : decode cX4_undo 34 = .ok (.getfield 22, 3) := by decide +kernel
theorem dX4_undo_37 : decode cX4_undo 37 = .ok (.iload_n 1, 1) := by decide +kernel
theorem dX4_undo_38 : decode cX4_undo 38 = .ok (.aload_n 0, 1) := by decide +kernel
theorem dX4_undo_39 : decode cX4_undo 39 = .ok (.getfield 28, 3) := by decide +kernel
theorem dX4_undo_42 : decode cX4_undo 42 = .ok (.bipush 17, 2) := by decide +kernel
theorem dX4_undo_44 : decode cX4_undo 44 = .ok (.aload_n 0, 1) := by decide +kernel
theorem dX4_undo_45 : decode cX4_undo 45 = .ok (.getfield 93, 3) := by decide +kernel
theorem dX4_undo_48 : decode cX4_undo 48 = .ok (.imul, 1) := by decide +kernel
theorem dX4_undo_49 : decode cX4_undo 49 = .ok (.iload_n 1, 1) := by decide +kernel
theorem dX4_undo_50 : decode cX4_undo 50 = .ok (.iadd, 1) := by decide +kernel
theorem dX4_undo_51 : decode cX4_undo 51 = .ok (.iaload, 1) := by decide +kernel
theorem dX4_undo_52 : decode cX4_undo 52 = .ok (.iastore, 1) := by decide +kernel
theorem dX4_undo_53 : decode cX4_undo 53 = .ok (.iinc 1 1, 3) := by decide +kernel
theorem dX4_undo_56 : decode cX4_undo 56 = .ok (.goto (-29), 3) := by decide +kernel
theorem dX4_undo_59 : decode cX4_undo 59 = .ok (.aload_n 0, 1) := by decide +kernel
theorem dX4_undo_60 : decode cX4_undo 60 = .ok (.getfield 93, 3) := by decide +kernel
theorem dX4_undo_63 : decode cX4_undo 63 = .ok (.ireturn, 1) := by decide +kernel
theorem dX4_copy_0 : decode cX4_copy 0 = .ok (.iconst 0, 1) := by decide +kernel
theorem dX4_copy_1 : decode cX4_copy 1 = .ok (.istore_n 2, 1) := by decide +kernel
theorem dX4_copy_2 : decode cX4_copy 2 = .ok (.iload_n 2, 1) := by decide +kernel
theorem dX4_copy_3 : decode cX4_copy 3 = .ok (.bipush 17, 2) := by decide +kernel
theorem dX4_copy_5 : decode cX4_copy 5 = .ok (.if_icmp .ge 15, 3) := by decide +kernel
theorem dX4_copy_8 : decode cX4_copy 8 = .ok (.aload_n 1, 1) := by decide +kernel
theorem dX4_copy_9 : decode cX4_copy 9 = .ok (.iload_n 2, 1) := by decide +kernel
theorem dX4_copy_10 : decode cX4_copy 10 = .ok (.aload_n 0, 1) := by decide +kernel
theorem dX4_copy_11 : decode cX4_copy 11 = .ok (.iload_n 2, 1) := by decide +kernel
theorem dX4_copy_12 : decode cX4_copy 12 = .ok (.iaload, 1) := by decide +kernel
theorem dX4_copy_13 : decode cX4_copy 13 = .ok (.iastore, 1) := by decide +kernel
theorem dX4_copy_14 : decode cX4_copy 14 = .ok (.iinc 2 1, 3) := by decide +kernel
theorem dX4_copy_17 : decode cX4_copy 17 = .ok (.goto (-15), 3) := by decide +kernel
theorem dX4_copy_20 : decode cX4_copy 20 = .ok (.return_, 1) := by decide +kernel
theorem dX4_power_0 : decode cX4_power 0 = .ok (.iconst 1, 1) := by decide +kernel
theorem dX4_power_1 : decode cX4_power 1 = .ok (.istore_n 2, 1) := by decide +kernel
theorem dX4_power_2 : decode cX4_power 2 = .ok (.iconst 0, 1) := by decide +kernel
theorem dX4_power_3 : decode cX4_power 3 = .ok (.istore_n 3, 1) := by decide +kernel
theorem dX4_power_4 : decode cX4_power 4 = .ok (.iload_n 3, 1) := by decide +kernel
theorem dX4_power_5 : decode cX4_power 5 = .ok (.iload_n 1, 1) := by decide +kernel
theorem dX4_power_6 : decode cX4_power 6 = .ok (.if_icmp .ge 13, 3) := by decide +kernel
theorem dX4_power_9 : decode cX4_power 9 = .ok (.iload_n 2, 1) := by decide +kernel
theorem dX4_power_10 : decode cX4_power 10 = .ok (.iload_n 0, 1) := by decide +kernel
theorem dX4_power_11 : decode cX4_power 11 = .ok (.imul, 1) := by decide +kernel
theorem dX4_power_12 : decode cX4_power 12 = .ok (.istore_n 2, 1) := by decide +kernel
theorem dX4_power_13 : decode cX4_power 13 = .ok (.iinc 3 1, 3) := by decide +kernel
theorem dX4_power_16 : decode cX4_power 16 = .ok (.goto (-12), 3) := by decide +kernel
theorem dX4_power_19 : decode cX4_power 19 = .ok (.iload_n 2, 1) := by decide +kernel
theorem dX4_power_20 : decode cX4_power 20 = .ok (.ireturn, 1) := by decide +kernel
set_option maxRecDepth 20000 in
theorem ggX4_layFar_X4_to : GoodIn wsX4_layFar wsX4_to := goodIn_r _ [7] (by decide +kernel) (by decide +kernel)
set_option maxRecDepth 20000 in
theorem gX4_layFar_X4_to : GoodIn wsX4_layFar (va_wsS RX4 107 yX4_to wsX4_to) := goodIn_app (goodIn_of _ (by decide +kernel)) ggX4_layFar_X4_to
set_option maxRecDepth 20000 in
theorem ggX4_layFar_X4_mayEnter : GoodIn wsX4_layFar wsX4_mayEnter := goodIn_r _ [10] (by decide +kernel) (by decide +kernel)
set_option maxRecDepth 20000 in
theorem gX4_layFar_X4_mayEnter : GoodIn wsX4_layFar (va_wsS RX4 111 yX4_mayEnter wsX4_mayEnter) := goodIn_app (goodIn_of _ (by decide +kernel)) ggX4_layFar_X4_mayEnter
theorem dX4_layFar_0 : decode cX4_layFar 0 = .ok (.iconst 0, 1) := by decide +kernel
theorem dX4_layFar_1 : decode cX4_layFar 1 = .ok (.istore_n 3, 1) := by decide +kernel
theorem dX4_layFar_2 : decode cX4_layFar 2 = .ok (.iload_n 3, 1) := by decide +kernel
theorem dX4_layFar_3 : decode cX4_layFar 3 = .ok (.bipush 12, 2) := by decide +kernel
theorem dX4_layFar_5 : decode cX4_layFar 5 = .ok (.if_icmp .ge 26, 3) := by decide +kernel
theorem dX4_layFar_8 : decode cX4_layFar 8 = .ok (.aload_n 0, 1) := by decide +kernel
theorem dX4_layFar_9 : decode cX4_layFar 9 = .ok (.getfield 38, 3) := by decide +kernel
theorem dX4_layFar_12 : decode cX4_layFar 12 = .ok (.iload_n 3, 1) := by decide +kernel
theorem dX4_layFar_13 : decode cX4_layFar 13 = .ok (.iload_n 3, 1) := by decide +kernel
theorem dX4_layFar_14 : decode cX4_layFar 14 = .ok (.iload_n 1, 1) := by decide +kernel
theorem dX4_layFar_15 : decode cX4_layFar 15 = .ok (.if_icmp .ne 7, 3) := by decide +kernel
theorem dX4_layFar_18 : decode cX4_layFar 18 = .ok (.iconst 0, 1) := by decide +kernel
theorem dX4_layFar_19 : decode cX4_layFar 19 = .ok (.goto 5, 3) := by decide +kernel
theorem dX4_layFar_22 : decode cX4_layFar 22 = .ok (.bipush (-9), 2) := by decide +kernel
theorem dX4_layFar_24 : decode cX4_layFar 24 = .ok (.iastore, 1) := by decide +kernel
theorem dX4_layFar_25 : decode cX4_layFar 25 = .ok (.iinc 3 1, 3) := by decide +kernel
theorem dX4_layFar_28 : decode cX4_layFar 28 = .ok (.goto (-26), 3) := by decide +kernel
theorem dX4_layFar_31 : decode cX4_layFar 31 = .ok (.iconst 1, 1) := by decide +kernel
theorem dX4_layFar_32 : decode cX4_layFar 32 = .ok (.istore_n 3, 1) := by decide +kernel
theorem dX4_layFar_33 : decode cX4_layFar 33 = .ok (.iload_n 3, 1) := by decide +kernel
theorem dX4_layFar_34 : decode cX4_layFar 34 = .ok (.bipush 12, 2) := by decide +kernel
theorem dX4_layFar_36 : decode cX4_layFar 36 = .ok (.if_icmp .ge 126, 3) := by decide +kernel
theorem dX4_layFar_39 : decode cX4_layFar 39 = .ok (.iconst 0, 1) := by decide +kernel
theorem dX4_layFar_40 : decode cX4_layFar 40 = .ok (.istore 4, 2) := by decide +kernel
theorem dX4_layFar_42 : decode cX4_layFar 42 = .ok (.iload 4, 2) := by decide +kernel
theorem dX4_layFar_44 : decode cX4_layFar 44 = .ok (.bipush 12, 2) := by decide +kernel
theorem dX4_layFar_46 : decode cX4_layFar 46 = .ok (.if_icmp .ge 110, 3) := by decide +kernel
theorem dX4_layFar_49 : decode cX4_layFar 49 = .ok (.iconst 0, 1) := by decide +kernel
theorem dX4_layFar_50 : decode cX4_layFar 50 = .ok (.istore 5, 2) := by decide +kernel
theorem dX4_layFar_52 : decode cX4_layFar 52 = .ok (.iload 5, 2) := by decide +kernel
theorem dX4_layFar_54 : decode cX4_layFar 54 = .ok (.iconst 4, 1) := by decide +kernel
theorem dX4_layFar_55 : decode cX4_layFar 55 = .ok (.if_icmp .ge 95, 3) := by decide +kernel
theorem dX4_layFar_58 : decode cX4_layFar 58 = .ok (.aload_n 0, 1) := by decide +kernel
theorem dX4_layFar_59 : decode cX4_layFar 59 = .ok (.getfield 38, 3) := by decide +kernel
theorem dX4_layFar_62 : decode cX4_layFar 62 = .ok (.iload 4, 2) := by decide +kernel
theorem dX4_layFar_64 : decode cX4_layFar 64 = .ok (.iaload, 1) := by decide +kernel
theorem dX4_layFar_65 : decode cX4_layFar 65 = .ok (.bipush (-9), 2) := by decide +kernel
theorem dX4_layFar_67 : decode cX4_layFar 67 = .ok (.if_icmp .ne 83, 3) := by decide +kernel
theorem dX4_layFar_70 : decode cX4_layFar 70 = .ok (.iload 4, 2) := by decide +kernel
theorem dX4_layFar_72 : decode cX4_layFar 72 = .ok (.iload 5, 2) := by decide +kernel
theorem dX4_layFar_74 : decode cX4_layFar 74 = .ok (.invokestatic 107, 3) := by decide +kernel
theorem dX4_layFar_77 : decode cX4_layFar 77 = .ok (.istore 6, 2) := by decide +kernel
theorem dX4_layFar_79 : decode cX4_layFar 79 = .ok (.aload_n 0, 1) := by decide +kernel
theorem dX4_layFar_80 : decode cX4_layFar 80 = .ok (.getfield 22, 3) := by decide +kernel
theorem dX4_layFar_83 : decode cX4_layFar 83 = .ok (.iload 6, 2) := by decide +kernel
theorem dX4_layFar_85 : decode cX4_layFar 85 = .ok (.invokestatic 111, 3) := by decide +kernel
theorem dX4_layFar_88 : decode cX4_layFar 88 = .ok (.ifCond .eq 22, 3) := by decide +kernel
theorem dX4_layFar_91 : decode cX4_layFar 91 = .ok (.iload_n 2, 1) := by decide +kernel
theorem dX4_layFar_92 : decode cX4_layFar 92 = .ok (.ifCond .eq 14, 3) := by decide +kernel
theorem dX4_layFar_95 : decode cX4_layFar 95 = .ok (.aload_n 0, 1) := by decide +kernel
theorem dX4_layFar_96 : decode cX4_layFar 96 = .ok (.getfield 13, 3) := by decide +kernel
theorem dX4_layFar_99 : decode cX4_layFar 99 = .ok (.iload 6, 2) := by decide +kernel
theorem dX4_layFar_101 : decode cX4_layFar 101 = .ok (.iaload, 1) := by decide +kernel
theorem dX4_layFar_102 : decode cX4_layFar 102 = .ok (.iconst 4, 1) := by decide +kernel
theorem dX4_layFar_103 : decode cX4_layFar 103 = .ok (.if_icmp .eq 7, 3) := by decide +kernel
theorem dX4_layFar_106 : decode cX4_layFar 106 = .ok (.iconst 1, 1) := by decide +kernel
theorem dX4_layFar_107 : decode cX4_layFar 107 = .ok (.goto 4, 3) := by decide +kernel
theorem dX4_layFar_110 : decode cX4_layFar 110 = .ok (.iconst 0, 1) := by decide +kernel
theorem dX4_layFar_111 : decode cX4_layFar 111 = .ok (.istore 7, 2) := by decide +kernel
theorem dX4_layFar_113 : decode cX4_layFar 113 = .ok (.aload_n 0, 1) := by decide +kernel
theorem dX4_layFar_114 : decode cX4_layFar 114 = .ok (.getfield 38, 3) := by decide +kernel
theorem dX4_layFar_117 : decode cX4_layFar 117 = .ok (.iload 4, 2) := by decide +kernel
theorem dX4_layFar_119 : decode cX4_layFar 119 = .ok (.iload 7, 2) := by decide +kernel
theorem dX4_layFar_121 : decode cX4_layFar 121 = .ok (.ifCond .eq 20, 3) := by decide +kernel
theorem dX4_layFar_124 : decode cX4_layFar 124 = .ok (.aload_n 0, 1) := by decide +kernel
theorem dX4_layFar_125 : decode cX4_layFar 125 = .ok (.getfield 38, 3) := by decide +kernel
theorem dX4_layFar_128 : decode cX4_layFar 128 = .ok (.iload 6, 2) := by decide +kernel
theorem dX4_layFar_130 : decode cX4_layFar 130 = .ok (.iaload, 1) := by decide +kernel
theorem dX4_layFar_131 : decode cX4_layFar 131 = .ok (.iload_n 3, 1) := by decide +kernel
theorem dX4_layFar_132 : decode cX4_layFar 132 = .ok (.iconst 1, 1) := by decide +kernel
theorem dX4_layFar_133 : decode cX4_layFar 133 = .ok (.isub, 1) := by decide +kernel
theorem dX4_layFar_134 : decode cX4_layFar 134 = .ok (.if_icmp .ne 7, 3) := by decide +kernel
theorem dX4_layFar_137 : decode cX4_layFar 137 = .ok (.iload_n 3, 1) := by decide +kernel
theorem dX4_layFar_138 : decode cX4_layFar 138 = .ok (.goto 5, 3) := by decide +kernel
theorem dX4_layFar_141 : decode cX4_layFar 141 = .ok (.bipush (-9), 2) := by decide +kernel
theorem dX4_layFar_143 : decode cX4_layFar 143 = .ok (.iastore, 1) := by decide +kernel
theorem dX4_layFar_144 : decode cX4_layFar 144 = .ok (.iinc 5 1, 3) := by decide +kernel
theorem dX4_layFar_147 : decode cX4_layFar 147 = .ok (.goto (-95), 3) := by decide +kernel
theorem dX4_layFar_150 : decode cX4_layFar 150 = .ok (.iinc 4 1, 3) := by decide +kernel
theorem dX4_layFar_153 : decode cX4_layFar 153 = .ok (.goto (-111), 3) := by decide +kernel
theorem dX4_layFar_156 : decode cX4_layFar 156 = .ok (.iinc 3 1, 3) := by decide +kernel
theorem dX4_layFar_159 : decode cX4_layFar 159 = .ok (.goto (-126), 3) := by decide +kernel
theorem dX4_layFar_162 : decode cX4_layFar 162 = .ok (.return_, 1) := by decide +kernel
set_option maxRecDepth 20000 in
theorem ggX4_road_X4_noCell : GoodIn wsX4_road wsX4_noCell := goodIn_r _ [8, 9, 10, 11, 7, 12] (by decide +kernel) (by decide +kernel)
set_option maxRecDepth 20000 in
theorem gX4_road_X4_noCell : GoodIn wsX4_road (va_wsS RX4 78 yX4_noCell wsX4_noCell) := goodIn_app (goodIn_of _ (by decide +kernel)) ggX4_road_X4_noCell
set_option maxRecDepth 20000 in
theorem ggX4_road_X4_layFar : GoodIn wsX4_road wsX4_layFar := goodIn_r _ [16, 2, 3, 4, 17, 18, 7, 19, 20, 21, 22, 23, 24, 25, 26, 27, 28, 29, 30, 31, 32, 33, 34, 35, 36, 37, 38, 39, 40, 41, 42, 43, 44, 45, 46, 47] (by decide +kernel) (by decide +kernel)
set_option maxRecDepth 20000 in
theorem gX4_road_X4_layFar : GoodIn wsX4_road (wsV RX4 133 RX4 yX4_layFar wsX4_layFar) := goodIn_app (goodIn_of _ (by decide +kernel)) ggX4_road_X4_layFar
set_option maxRecDepth 20000 in
theorem ggX4_road_X4_to : GoodIn wsX4_road wsX4_to := goodIn_r _ [19] (by decide +kernel) (by decide +kernel)
set_option maxRecDepth 20000 in
theorem gX4_road_X4_to : GoodIn wsX4_road (va_wsS RX4 107 yX4_to wsX4_to) := goodIn_app (goodIn_of _ (by decide +kernel)) ggX4_road_X4_to
set_option maxRecDepth 20000 in
theorem ggX4_road_X4_mayEnter : GoodIn wsX4_road wsX4_mayEnter := goodIn_r _ [22] (by decide +kernel) (by decide +kernel)
set_option maxRecDepth 20000 in
theorem gX4_road_X4_mayEnter : GoodIn wsX4_road (va_wsS RX4 111 yX4_mayEnter wsX4_mayEnter) := goodIn_app (goodIn_of _ (by decide +kernel)) ggX4_road_X4_mayEnter
theorem dX4_road_0 : decode cX4_road 0 = .ok (.aload_n 0, 1) := by decide +kernel
theorem dX4_road_1 : decode cX4_road 1 = .ok (.iconst 0, 1) := by decide +kernel
theorem dX4_road_2 : decode cX4_road 2 = .ok (.putfield 50, 3) := by decide +kernel
theorem dX4_road_5 : decode cX4_road 5 = .ok (.iload_n 1, 1) := by decide +kernel
theorem dX4_road_6 : decode cX4_road 6 = .ok (.invokestatic 78, 3) := by decide +kernel
theorem dX4_road_9 : decode cX4_road 9 = .ok (.ifCond .eq 5, 3) := by decide +kernel
theorem dX4_road_12 : decode cX4_road 12 = .ok (.iconst (-1), 1) := by decide +kernel
theorem dX4_road_13 : decode cX4_road 13 = .ok (.ireturn, 1) := by decide +kernel
theorem dX4_road_14 : decode cX4_road 14 = .ok (.aload_n 0, 1) := by decide +kernel
theorem dX4_road_15 : decode cX4_road 15 = .ok (.iload_n 1, 1) := by decide +kernel
theorem dX4_road_16 : decode cX4_road 16 = .ok (.iload_n 2, 1) := by decide +kernel
theorem dX4_road_17 : decode cX4_road 17 = .ok (.invokevirtual 133, 3) := by decide +kernel
theorem dX4_road_20 : decode cX4_road 20 = .ok (.aload_n 0, 1) := by decide +kernel
theorem dX4_road_21 : decode cX4_road 21 = .ok (.getfield 38, 3) := by decide +kernel
theorem dX4_road_24 : decode cX4_road 24 = .ok (.aload_n 0, 1) := by decide +kernel
theorem dX4_road_25 : decode cX4_road 25 = .ok (.getfield 22, 3) := by decide +kernel
theorem dX4_road_28 : decode cX4_road 28 = .ok (.bipush 12, 2) := by decide +kernel
theorem dX4_road_30 : decode cX4_road 30 = .ok (.iaload, 1) := by decide +kernel
theorem dX4_road_31 : decode cX4_road 31 = .ok (.iaload, 1) := by decide +kernel
theorem dX4_road_32 : decode cX4_road 32 = .ok (.istore 4, 2) := by decide +kernel
theorem dX4_road_34 : decode cX4_road 34 = .ok (.iload_n 3, 1) := by decide +kernel
theorem dX4_road_35 : decode cX4_road 35 = .ok (.ifCond .eq 10, 3) := by decide +kernel
theorem dX4_road_38 : decode cX4_road 38 = .ok (.iload 4, 2) := by decide +kernel
theorem dX4_road_40 : decode cX4_road 40 = .ok (.bipush (-9), 2) := by decide +kernel
theorem dX4_road_42 : decode cX4_road 42 = .ok (.if_icmp .ne 6, 3) := by decide +kernel
theorem dX4_road_45 : decode cX4_road 45 = .ok (.iload 4, 2) := by decide +kernel
theorem dX4_road_47 : decode cX4_road 47 = .ok (.ireturn, 1) := by decide +kernel
theorem dX4_road_48 : decode cX4_road 48 = .ok (.iconst 1, 1) := by decide +kernel
theorem dX4_road_49 : decode cX4_road 49 = .ok (.istore 5, 2) := by decide +kernel
theorem dX4_road_51 : decode cX4_road 51 = .ok (.aload_n 0, 1) := by decide +kernel
theorem dX4_road_52 : decode cX4_road 52 = .ok (.getfield 22, 3) := by decide +kernel
theorem dX4_road_55 : decode cX4_road 55 = .ok (.bipush 12, 2) := by decide +kernel
theorem dX4_road_57 : decode cX4_road 57 = .ok (.iaload, 1) := by decide +kernel
theorem dX4_road_58 : decode cX4_road 58 = .ok (.istore 6, 2) := by decide +kernel
theorem dX4_road_60 : decode cX4_road 60 = .ok (.iload 4, 2) := by decide +kernel
theorem dX4_road_62 : decode cX4_road 62 = .ok (.istore 7, 2) := by decide +kernel
theorem dX4_road_64 : decode cX4_road 64 = .ok (.iload 7, 2) := by decide +kernel
theorem dX4_road_66 : decode cX4_road 66 = .ok (.ifCond .le 129, 3) := by decide +kernel
theorem dX4_road_69 : decode cX4_road 69 = .ok (.bipush (-9), 2) := by decide +kernel
theorem dX4_road_71 : decode cX4_road 71 = .ok (.istore 8, 2) := by decide +kernel
theorem dX4_road_73 : decode cX4_road 73 = .ok (.iconst 3, 1) := by decide +kernel
theorem dX4_road_74 : decode cX4_road 74 = .ok (.istore 9, 2) := by decide +kernel
theorem dX4_road_76 : decode cX4_road 76 = .ok (.iload 9, 2) := by decide +kernel
theorem dX4_road_78 : decode cX4_road 78 = .ok (.ifCond .lt 80, 3) := by decide +kernel
theorem dX4_road_81 : decode cX4_road 81 = .ok (.iload 6, 2) := by decide +kernel
theorem dX4_road_83 : decode cX4_road 83 = .ok (.iload 9, 2) := by decide +kernel
theorem dX4_road_85 : decode cX4_road 85 = .ok (.invokestatic 107, 3) := by decide +kernel
theorem dX4_road_88 : decode cX4_road 88 = .ok (.istore 10, 2) := by decide +kernel
theorem dX4_road_90 : decode cX4_road 90 = .ok (.aload_n 0, 1) := by decide +kernel
theorem dX4_road_91 : decode cX4_road 91 = .ok (.getfield 22, 3) := by decide +kernel
theorem dX4_road_94 : decode cX4_road 94 = .ok (.iload 10, 2) := by decide +kernel
theorem dX4_road_96 : decode cX4_road 96 = .ok (.invokestatic 111, 3) := by decide +kernel
theorem dX4_road_99 : decode cX4_road 99 = .ok (.ifCond .eq 22, 3) := by decide +kernel
theorem dX4_road_102 : decode cX4_road 102 = .ok (.iload_n 2, 1) := by decide +kernel
theorem dX4_road_103 : decode cX4_road 103 = .ok (.ifCond .eq 14, 3) := by decide +kernel
theorem dX4_road_106 : decode cX4_road 106 = .ok (.aload_n 0, 1) := by decide +kernel
theorem dX4_road_107 : decode cX4_road 107 = .ok (.getfield 13, 3) := by decide +kernel
theorem dX4_road_110 : decode cX4_road 110 = .ok (.iload 10, 2) := by decide +kernel
theorem dX4_road_112 : decode cX4_road 112 = .ok (.iaload, 1) := by decide +kernel
theorem dX4_road_113 : decode cX4_road 113 = .ok (.iconst 4, 1) := by decide +kernel
theorem dX4_road_114 : decode cX4_road 114 = .ok (.if_icmp .eq 7, 3) := by decide +kernel
theorem dX4_road_117 : decode cX4_road 117 = .ok (.iconst 1, 1) := by decide +kernel
theorem dX4_road_118 : decode cX4_road 118 = .ok (.goto 4, 3) := by decide +kernel
theorem dX4_road_121 : decode cX4_road 121 = .ok (.iconst 0, 1) := by decide +kernel
theorem dX4_road_122 : decode cX4_road 122 = .ok (.istore 11, 2) := by decide +kernel
theorem dX4_road_124 : decode cX4_road 124 = .ok (.iload 11, 2) := by decide +kernel
theorem dX4_road_126 : decode cX4_road 126 = .ok (.ifCond .eq 22, 3) := by decide +kernel
theorem dX4_road_129 : decode cX4_road 129 = .ok (.aload_n 0, 1) := by decide +kernel
theorem dX4_road_130 : decode cX4_road 130 = .ok (.getfield 38, 3) := by decide +kernel
theorem dX4_road_133 : decode cX4_road 133 = .ok (.iload 10, 2) := by decide +kernel
theorem dX4_road_135 : decode cX4_road 135 = .ok (.iaload, 1) := by decide +kernel
theorem dX4_road_136 : decode cX4_road 136 = .ok (.iload 7, 2) := by decide +kernel
theorem dX4_road_138 : decode cX4_road 138 = .ok (.iconst 1, 1) := by decide +kernel
theorem dX4_road_139 : decode cX4_road 139 = .ok (.isub, 1) := by decide +kernel
theorem dX4_road_140 : decode cX4_road 140 = .ok (.if_icmp .ne 8, 3) := by decide +kernel
theorem dX4_road_143 : decode cX4_road 143 = .ok (.iload 9, 2) := by decide +kernel
theorem dX4_road_145 : decode cX4_road 145 = .ok (.goto 5, 3) := by decide +kernel
theorem dX4_road_148 : decode cX4_road 148 = .ok (.iload 8, 2) := by decide +kernel
theorem dX4_road_150 : decode cX4_road 150 = .ok (.istore 8, 2) := by decide +kernel
theorem dX4_road_152 : decode cX4_road 152 = .ok (.iinc 9 (-1), 3) := by decide +kernel
theorem dX4_road_155 : decode cX4_road 155 = .ok (.goto (-79), 3) := by decide +kernel
theorem dX4_road_158 : decode cX4_road 158 = .ok (.iload 6, 2) := by decide +kernel
theorem dX4_road_160 : decode cX4_road 160 = .ok (.iload 8, 2) := by decide +kernel
theorem dX4_road_162 : decode cX4_road 162 = .ok (.invokestatic 107, 3) := by decide +kernel
theorem dX4_road_165 : decode cX4_road 165 = .ok (.istore 6, 2) := by decide +kernel
theorem dX4_road_167 : decode cX4_road 167 = .ok (.iload 4, 2) := by decide +kernel
theorem dX4_road_169 : decode cX4_road 169 = .ok (.bipush 8, 2) := by decide +kernel
theorem dX4_road_171 : decode cX4_road 171 = .ok (.if_icmp .le 8, 3) := by decide +kernel
theorem dX4_road_174 : decode cX4_road 174 = .ok (.bipush (-9), 2) := by decide +kernel
theorem dX4_road_176 : decode cX4_road 176 = .ok (.goto 11, 3) := by decide +kernel
theorem dX4_road_179 : decode cX4_road 179 = .ok (.bipush 10, 2) := by decide +kernel
theorem dX4_road_181 : decode cX4_road 181 = .ok (.iload 5, 2) := by decide +kernel
theorem dX4_road_183 : decode cX4_road 183 = .ok (.imul, 1) := by decide +kernel
theorem dX4_road_184 : decode cX4_road 184 = .ok (.iload 8, 2) := by decide +kernel
theorem dX4_road_186 : decode cX4_road 186 = .ok (.iadd, 1) := by decide +kernel
theorem dX4_road_187 : decode cX4_road 187 = .ok (.istore 5, 2) := by decide +kernel
theorem dX4_road_189 : decode cX4_road 189 = .ok (.iinc 7 (-1), 3) := by decide +kernel
theorem dX4_road_192 : decode cX4_road 192 = .ok (.goto (-128), 3) := by decide +kernel
theorem dX4_road_195 : decode cX4_road 195 = .ok (.iload 5, 2) := by decide +kernel
theorem dX4_road_197 : decode cX4_road 197 = .ok (.ireturn, 1) := by decide +kernel
set_option maxRecDepth 20000 in
theorem ggX4_findMost_X4_power : GoodIn wsX4_findMost wsX4_power := goodIn_r _ [8] (by decide +kernel) (by decide +kernel)
set_option maxRecDepth 20000 in
theorem gX4_findMost_X4_power : GoodIn wsX4_findMost (va_wsS RX4 143 yX4_power wsX4_power) := goodIn_app (goodIn_of _ (by decide +kernel)) ggX4_findMost_X4_power
set_option maxRecDepth 20000 in
theorem ggX4_findMost_X4_copy : GoodIn wsX4_findMost wsX4_copy := goodIn_r _ [11] (by decide +kernel) (by decide +kernel)
set_option maxRecDepth 20000 in
theorem gX4_findMost_X4_copy : GoodIn wsX4_findMost (va_wsS RX4 146 yX4_copy wsX4_copy) := goodIn_app (goodIn_of _ (by decide +kernel)) ggX4_findMost_X4_copy
set_option maxRecDepth 20000 in
theorem ggX4_findMost_X4_can : GoodIn wsX4_findMost wsX4_can := goodIn_r _ [14, 15, 16, 7, 17, 18, 19, 20] (by decide +kernel) (by decide +kernel)
set_option maxRecDepth 20000 in
theorem gX4_findMost_X4_can : GoodIn wsX4_findMost (va_wsS RX4 121 yX4_can wsX4_can) := goodIn_app (goodIn_of _ (by decide +kernel)) ggX4_findMost_X4_can
set_option maxRecDepth 20000 in
theorem ggX4_findMost_X4_step : GoodIn wsX4_findMost wsX4_step := goodIn_r _ [24, 25, 15, 16, 7, 17, 26, 27, 28, 29, 30, 31, 32, 33, 34, 35, 36, 37, 38, 39, 40, 41, 42, 43, 44, 45, 46, 47, 48, 49, 50, 51, 52, 53, 54, 55, 56, 57] (by decide +kernel) (by decide +kernel)
set_option maxRecDepth 20000 in
theorem gX4_findMost_X4_step : GoodIn wsX4_findMost (wsV RX4 127 RX4 yX4_step wsX4_step) := goodIn_app (goodIn_of _ (by decide +kernel)) ggX4_findMost_X4_step
theorem dX4_findMost_0 : decode cX4_findMost 0 = .ok (.aload_n 0, 1) := by decide +kernel
theorem dX4_findMost_1 : decode cX4_findMost 1 = .ok (.bipush (-9), 2) := by decide +kernel
theorem dX4_findMost_3 : decode cX4_findMost 3 = .ok (.putfield 137, 3) := by decide +kernel
theorem dX4_findMost_6 : decode cX4_findMost 6 = .ok (.aload_n 0, 1) := by decide +kernel
theorem dX4_findMost_7 : decode cX4_findMost 7 = .ok (.bipush (-9), 2) := by decide +kernel
theorem dX4_findMost_9 : decode cX4_findMost 9 = .ok (.putfield 140, 3) := by decide +kernel
theorem dX4_findMost_12 : decode cX4_findMost 12 = .ok (.iconst 0, 1) := by decide +kernel
theorem dX4_findMost_13 : decode cX4_findMost 13 = .ok (.istore_n 2, 1) := by decide +kernel
theorem dX4_findMost_14 : decode cX4_findMost 14 = .ok (.iload_n 2, 1) := by decide +kernel
theorem dX4_findMost_15 : decode cX4_findMost 15 = .ok (.iconst 5, 1) := by decide +kernel
theorem dX4_findMost_16 : decode cX4_findMost 16 = .ok (.iload_n 1, 1) := by decide +kernel
theorem dX4_findMost_17 : decode cX4_findMost 17 = .ok (.invokestatic 143, 3) := by decide +kernel
theorem dX4_findMost_20 : decode cX4_findMost 20 = .ok (.if_icmp .ge 127, 3) := by decide +kernel
theorem dX4_findMost_23 : decode cX4_findMost 23 = .ok (.aload_n 0, 1) := by decide +kernel
theorem dX4_findMost_24 : decode cX4_findMost 24 = .ok (.getfield 41, 3) := by decide +kernel
theorem dX4_findMost_27 : decode cX4_findMost 27 = .ok (.aload_n 0, 1) := by decide +kernel
theorem dX4_findMost_28 : decode cX4_findMost 28 = .ok (.getfield 25, 3) := by decide +kernel
theorem dX4_findMost_31 : decode cX4_findMost 31 = .ok (.invokestatic 146, 3) := by decide +kernel
theorem dX4_findMost_34 : decode cX4_findMost 34 = .ok (.iconst 1, 1) := by decide +kernel
theorem dX4_findMost_35 : decode cX4_findMost 35 = .ok (.istore_n 3, 1) := by decide +kernel
theorem dX4_findMost_36 : decode cX4_findMost 36 = .ok (.iconst 1, 1) := by decide +kernel
theorem dX4_findMost_37 : decode cX4_findMost 37 = .ok (.istore 4, 2) := by decide +kernel
theorem dX4_findMost_39 : decode cX4_findMost 39 = .ok (.iload_n 1, 1) := by decide +kernel
theorem dX4_findMost_40 : decode cX4_findMost 40 = .ok (.iconst 1, 1) := by decide +kernel
theorem dX4_findMost_41 : decode cX4_findMost 41 = .ok (.isub, 1) := by decide +kernel
theorem dX4_findMost_42 : decode cX4_findMost 42 = .ok (.istore 5, 2) := by decide +kernel
theorem dX4_findMost_44 : decode cX4_findMost 44 = .ok (.iload 5, 2) := by decide +kernel
theorem dX4_findMost_46 : decode cX4_findMost 46 = .ok (.ifCond .lt 60, 3) := by decide +kernel
theorem dX4_findMost_49 : decode cX4_findMost 49 = .ok (.iload 4, 2) := by decide +kernel
theorem dX4_findMost_51 : decode cX4_findMost 51 = .ok (.ifCond .eq 55, 3) := by decide +kernel
theorem dX4_findMost_54 : decode cX4_findMost 54 = .ok (.iload_n 2, 1) := by decide +kernel
theorem dX4_findMost_55 : decode cX4_findMost 55 = .ok (.iconst 5, 1) := by decide +kernel
theorem dX4_findMost_56 : decode cX4_findMost 56 = .ok (.iload 5, 2) := by decide +kernel
theorem dX4_findMost_58 : decode cX4_findMost 58 = .ok (.invokestatic 143, 3) := by decide +kernel
theorem dX4_findMost_61 : decode cX4_findMost 61 = .ok (.idiv, 1) := by decide +kernel
theorem dX4_findMost_62 : decode cX4_findMost 62 = .ok (.iconst 5, 1) := by decide +kernel
theorem dX4_findMost_63 : decode cX4_findMost 63 = .ok (.irem, 1) := by decide +kernel
theorem dX4_findMost_64 : decode cX4_findMost 64 = .ok (.istore 6, 2) := by decide +kernel
theorem dX4_findMost_66 : decode cX4_findMost 66 = .ok (.aload_n 0, 1) := by decide +kernel
theorem dX4_findMost_67 : decode cX4_findMost 67 = .ok (.getfield 25, 3) := by decide +kernel
theorem dX4_findMost_70 : decode cX4_findMost 70 = .ok (.iload 6, 2) := by decide +kernel
theorem dX4_findMost_72 : decode cX4_findMost 72 = .ok (.invokestatic 121, 3) := by decide +kernel
theorem dX4_findMost_75 : decode cX4_findMost 75 = .ok (.istore 4, 2) := by decide +kernel
theorem dX4_findMost_77 : decode cX4_findMost 77 = .ok (.bipush 10, 2) := by decide +kernel
theorem dX4_findMost_79 : decode cX4_findMost 79 = .ok (.iload_n 3, 1) := by decide +kernel
theorem dX4_findMost_80 : decode cX4_findMost 80 = .ok (.imul, 1) := by decide +kernel
theorem dX4_findMost_81 : decode cX4_findMost 81 = .ok (.iload 6, 2) := by decide +kernel
theorem dX4_findMost_83 : decode cX4_findMost 83 = .ok (.iadd, 1) := by decide +kernel
theorem dX4_findMost_84 : decode cX4_findMost 84 = .ok (.istore_n 3, 1) := by decide +kernel
theorem dX4_findMost_85 : decode cX4_findMost 85 = .ok (.iload 4, 2) := by decide +kernel
theorem dX4_findMost_87 : decode cX4_findMost 87 = .ok (.ifCond .eq 13, 3) := by decide +kernel
theorem dX4_findMost_90 : decode cX4_findMost 90 = .ok (.aload_n 0, 1) := by decide +kernel
theorem dX4_findMost_91 : decode cX4_findMost 91 = .ok (.aload_n 0, 1) := by decide +kernel
theorem dX4_findMost_92 : decode cX4_findMost 92 = .ok (.getfield 25, 3) := by decide +kernel
theorem dX4_findMost_95 : decode cX4_findMost 95 = .ok (.iload 6, 2) := by decide +kernel
theorem dX4_findMost_97 : decode cX4_findMost 97 = .ok (.invokevirtual 127, 3) := by decide +kernel
theorem dX4_findMost_100 : decode cX4_findMost 100 = .ok (.iinc 5 (-1), 3) := by decide +kernel
theorem dX4_findMost_103 : decode cX4_findMost 103 = .ok (.goto (-59), 3) := by decide +kernel
theorem dX4_findMost_106 : decode cX4_findMost 106 = .ok (.iload 4, 2) := by decide +kernel
theorem dX4_findMost_108 : decode cX4_findMost 108 = .ok (.ifCond .eq 33, 3) := by decide +kernel
theorem dX4_findMost_111 : decode cX4_findMost 111 = .ok (.aload_n 0, 1) := by decide +kernel
theorem dX4_findMost_112 : decode cX4_findMost 112 = .ok (.getfield 25, 3) := by decide +kernel
theorem dX4_findMost_115 : decode cX4_findMost 115 = .ok (.bipush 13, 2) := by decide +kernel
theorem dX4_findMost_117 : decode cX4_findMost 117 = .ok (.iaload, 1) := by decide +kernel
theorem dX4_findMost_118 : decode cX4_findMost 118 = .ok (.aload_n 0, 1) := by decide +kernel
theorem dX4_findMost_119 : decode cX4_findMost 119 = .ok (.getfield 137, 3) := by decide +kernel
theorem dX4_findMost_122 : decode cX4_findMost 122 = .ok (.if_icmp .le 19, 3) := by decide +kernel
theorem dX4_findMost_125 : decode cX4_findMost 125 = .ok (.aload_n 0, 1) := by decide +kernel
theorem dX4_findMost_126 : decode cX4_findMost 126 = .ok (.aload_n 0, 1) := by decide +kernel
theorem dX4_findMost_127 : decode cX4_findMost 127 = .ok (.getfield 25, 3) := by decide +kernel
theorem dX4_findMost_130 : decode cX4_findMost 130 = .ok (.bipush 13, 2) := by decide +kernel
theorem dX4_findMost_132 : decode cX4_findMost 132 = .ok (.iaload, 1) := by decide +kernel
theorem dX4_findMost_133 : decode cX4_findMost 133 = .ok (.putfield 137, 3) := by decide +kernel
theorem dX4_findMost_136 : decode cX4_findMost 136 = .ok (.aload_n 0, 1) := by decide +kernel
theorem dX4_findMost_137 : decode cX4_findMost 137 = .ok (.iload_n 3, 1) := by decide +kernel
theorem dX4_findMost_138 : decode cX4_findMost 138 = .ok (.putfield 140, 3) := by decide +kernel
theorem dX4_findMost_141 : decode cX4_findMost 141 = .ok (.iinc 2 1, 3) := by decide +kernel
theorem dX4_findMost_144 : decode cX4_findMost 144 = .ok (.goto (-130), 3) := by decide +kernel
theorem dX4_findMost_147 : decode cX4_findMost 147 = .ok (.return_, 1) := by decide +kernel
set_option maxRecDepth 20000 in
theorem ggX4_most_X4_in : GoodIn wsX4_most wsX4_in := goodIn_r _ [10] (by decide +kernel) (by decide +kernel)
set_option maxRecDepth 20000 in
theorem gX4_most_X4_in : GoodIn wsX4_most (va_wsS RX4 56 yX4_in wsX4_in) := goodIn_app (goodIn_of _ (by decide +kernel)) ggX4_most_X4_in
set_option maxRecDepth 20000 in
theorem ggX4_most_X4_copy : GoodIn wsX4_most wsX4_copy := goodIn_r _ [13] (by decide +kernel) (by decide +kernel)
set_option maxRecDepth 20000 in
theorem gX4_most_X4_copy : GoodIn wsX4_most (va_wsS RX4 146 yX4_copy wsX4_copy) := goodIn_app (goodIn_of _ (by decide +kernel)) ggX4_most_X4_copy
set_option maxRecDepth 20000 in
theorem ggX4_most_X4_findMost : GoodIn wsX4_most wsX4_findMost := goodIn_r _ [17, 6, 5, 4, 18, 19, 20, 9, 21, 11, 12, 13, 22, 23, 24, 25, 26, 27, 28, 29, 30, 31, 32, 33, 34, 35, 36, 37, 38, 39, 40, 41, 42, 43, 44, 45, 46, 47, 48, 49, 50, 51, 52, 53, 54, 55, 56, 57, 58, 59, 60, 61, 62, 63, 64, 65, 66, 67] (by decide +kernel) (by decide +kernel)
set_option maxRecDepth 20000 in
theorem gX4_most_X4_findMost : GoodIn wsX4_most (wsV RX4 152 RX4 yX4_findMost wsX4_findMost) := goodIn_app (goodIn_of _ (by decide +kernel)) ggX4_most_X4_findMost
theorem dX4_most_0 : decode cX4_most 0 = .ok (.aload_n 0, 1) := by decide +kernel
theorem dX4_most_1 : decode cX4_most 1 = .ok (.iconst 0, 1) := by decide +kernel
theorem dX4_most_2 : decode cX4_most 2 = .ok (.putfield 50, 3) := by decide +kernel
theorem dX4_most_5 : decode cX4_most 5 = .ok (.iload_n 1, 1) := by decide +kernel
theorem dX4_most_6 : decode cX4_most 6 = .ok (.i2l, 1) := by decide +kernel
theorem dX4_most_7 : decode cX4_most 7 = .ok (.lconst 1, 1) := by decide +kernel
theorem dX4_most_8 : decode cX4_most 8 = .ok (.ldc2_w 150, 3) := by decide +kernel
theorem dX4_most_11 : decode cX4_most 11 = .ok (.invokestatic 56, 3) := by decide +kernel
theorem dX4_most_14 : decode cX4_most 14 = .ok (.ifCond .ne 6, 3) := by decide +kernel
theorem dX4_most_17 : decode cX4_most 17 = .ok (.bipush (-2), 2) := by decide +kernel
theorem dX4_most_19 : decode cX4_most 19 = .ok (.ireturn, 1) := by decide +kernel
theorem dX4_most_20 : decode cX4_most 20 = .ok (.aload_n 0, 1) := by decide +kernel
theorem dX4_most_21 : decode cX4_most 21 = .ok (.getfield 22, 3) := by decide +kernel
theorem dX4_most_24 : decode cX4_most 24 = .ok (.aload_n 0, 1) := by decide +kernel
theorem dX4_most_25 : decode cX4_most 25 = .ok (.getfield 41, 3) := by decide +kernel
theorem dX4_most_28 : decode cX4_most 28 = .ok (.invokestatic 146, 3) := by decide +kernel
theorem dX4_most_31 : decode cX4_most 31 = .ok (.aload_n 0, 1) := by decide +kernel
theorem dX4_most_32 : decode cX4_most 32 = .ok (.iload_n 1, 1) := by decide +kernel
theorem dX4_most_33 : decode cX4_most 33 = .ok (.invokevirtual 152, 3) := by decide +kernel
theorem dX4_most_36 : decode cX4_most 36 = .ok (.iload_n 2, 1) := by decide +kernel
theorem dX4_most_37 : decode cX4_most 37 = .ok (.ifCond .eq 10, 3) := by decide +kernel
theorem dX4_most_40 : decode cX4_most 40 = .ok (.aload_n 0, 1) := by decide +kernel
theorem dX4_most_41 : decode cX4_most 41 = .ok (.getfield 140, 3) := by decide +kernel
theorem dX4_most_44 : decode cX4_most 44 = .ok (.goto 7, 3) := by decide +kernel
theorem dX4_most_47 : decode cX4_most 47 = .ok (.aload_n 0, 1) := by decide +kernel
theorem dX4_most_48 : decode cX4_most 48 = .ok (.getfield 137, 3) := by decide +kernel
theorem dX4_most_51 : decode cX4_most 51 = .ok (.ireturn, 1) := by decide +kernel
set_option maxRecDepth 20000 in
theorem ggX4_bestOf_X4_has : GoodIn wsX4_bestOf wsX4_has := goodIn_r _ [8] (by decide +kernel) (by decide +kernel)
set_option maxRecDepth 20000 in
theorem gX4_bestOf_X4_has : GoodIn wsX4_bestOf (va_wsS RX4 115 yX4_has wsX4_has) := goodIn_app (goodIn_of _ (by decide +kernel)) ggX4_bestOf_X4_has
set_option maxRecDepth 20000 in
theorem ggX4_bestOf_X4_copy : GoodIn wsX4_bestOf wsX4_copy := goodIn_r _ [11] (by decide +kernel) (by decide +kernel)
set_option maxRecDepth 20000 in
theorem gX4_bestOf_X4_copy : GoodIn wsX4_bestOf (va_wsS RX4 146 yX4_copy wsX4_copy) := goodIn_app (goodIn_of _ (by decide +kernel)) ggX4_bestOf_X4_copy
set_option maxRecDepth 20000 in
theorem ggX4_bestOf_X4_findMost : GoodIn wsX4_bestOf wsX4_findMost := goodIn_r _ [15, 4, 16, 2, 17, 18, 19, 7, 20, 9, 10, 11, 21, 22, 23, 24, 25, 26, 27, 28, 29, 30, 31, 32, 33, 3, 5, 6, 8, 34, 35, 36, 37, 38, 39, 40, 41, 42, 43, 44, 45, 46, 47, 48, 49, 50, 51, 52, 53, 54, 55, 56, 57, 58, 59, 60, 61, 62] (by decide +kernel) (by decide +kernel)
set_option maxRecDepth 20000 in
theorem gX4_bestOf_X4_findMost : GoodIn wsX4_bestOf (wsV RX4 152 RX4 yX4_findMost wsX4_findMost) := goodIn_app (goodIn_of _ (by decide +kernel)) ggX4_bestOf_X4_findMost
theorem dX4_bestOf_0 : decode cX4_bestOf 0 = .ok (.bipush (-9), 2) := by decide +kernel
theorem dX4_bestOf_2 : decode cX4_bestOf 2 = .ok (.istore_n 3, 1) := by decide +kernel
theorem dX4_bestOf_3 : decode cX4_bestOf 3 = .ok (.bipush (-10), 2) := by decide +kernel
theorem dX4_bestOf_5 : decode cX4_bestOf 5 = .ok (.istore 4, 2) := by decide +kernel
theorem dX4_bestOf_7 : decode cX4_bestOf 7 = .ok (.iconst 0, 1) := by decide +kernel
theorem dX4_bestOf_8 : decode cX4_bestOf 8 = .ok (.istore 5, 2) := by decide +kernel
theorem dX4_bestOf_10 : decode cX4_bestOf 10 = .ok (.iload 5, 2) := by decide +kernel
theorem dX4_bestOf_12 : decode cX4_bestOf 12 = .ok (.bipush 12, 2) := by decide +kernel
theorem dX4_bestOf_14 : decode cX4_bestOf 14 = .ok (.if_icmp .ge 86, 3) := by decide +kernel
theorem dX4_bestOf_17 : decode cX4_bestOf 17 = .ok (.iload_n 1, 1) := by decide +kernel
theorem dX4_bestOf_18 : decode cX4_bestOf 18 = .ok (.iload 5, 2) := by decide +kernel
theorem dX4_bestOf_20 : decode cX4_bestOf 20 = .ok (.invokestatic 115, 3) := by decide +kernel
theorem dX4_bestOf_23 : decode cX4_bestOf 23 = .ok (.ifCond .eq 71, 3) := by decide +kernel
theorem dX4_bestOf_26 : decode cX4_bestOf 26 = .ok (.aload_n 0, 1) := by decide +kernel
theorem dX4_bestOf_27 : decode cX4_bestOf 27 = .ok (.getfield 22, 3) := by decide +kernel
