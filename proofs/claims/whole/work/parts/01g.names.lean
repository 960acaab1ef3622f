theorem dX3_chance_66 : decode cX3_chance 66 = .ok (.lstore 7, 2) := by decide +kernel
theorem dX3_chance_68 : decode cX3_chance 68 = .ok (.iconst 0, 1) := by decide +kernel
theorem dX3_chance_69 : decode cX3_chance 69 = .ok (.istore 9, 2) := by decide +kernel
theorem dX3_chance_71 : decode cX3_chance 71 = .ok (.iload 9, 2) := by decide +kernel
theorem dX3_chance_73 : decode cX3_chance 73 = .ok (.iload 6, 2) := by decide +kernel
theorem dX3_chance_75 : decode cX3_chance 75 = .ok (.if_icmp .gt 49, 3) := by decide +kernel
theorem dX3_chance_78 : decode cX3_chance 78 = .ok (.iload 9, 2) := by decide +kernel
theorem dX3_chance_80 : decode cX3_chance 80 = .ok (.iload_n 3, 1) := by decide +kernel
theorem dX3_chance_81 : decode cX3_chance 81 = .ok (.if_icmp .gt 43, 3) := by decide +kernel
theorem dX3_chance_84 : decode cX3_chance 84 = .ok (.lload 7, 2) := by decide +kernel
theorem dX3_chance_86 : decode cX3_chance 86 = .ok (.iload 6, 2) := by decide +kernel
theorem dX3_chance_88 : decode cX3_chance 88 = .ok (.iload 9, 2) := by decide +kernel
theorem dX3_chance_90 : decode cX3_chance 90 = .ok (.invokestatic 204, 3) := by decide +kernel
theorem dX3_chance_93 : decode cX3_chance 93 = .ok (.iload 4, 2) := by decide +kernel
theorem dX3_chance_95 : decode cX3_chance 95 = .ok (.iload 9, 2) := by decide +kernel
theorem dX3_chance_97 : decode cX3_chance 97 = .ok (.invokestatic 208, 3) := by decide +kernel
theorem dX3_chance_100 : decode cX3_chance 100 = .ok (.lmul, 1) := by decide +kernel
theorem dX3_chance_101 : decode cX3_chance 101 = .ok (.bipush 10, 2) := by decide +kernel
theorem dX3_chance_103 : decode cX3_chance 103 = .ok (.iload 4, 2) := by decide +kernel
theorem dX3_chance_105 : decode cX3_chance 105 = .ok (.isub, 1) := by decide +kernel
theorem dX3_chance_106 : decode cX3_chance 106 = .ok (.iload 6, 2) := by decide +kernel
theorem dX3_chance_108 : decode cX3_chance 108 = .ok (.iload 9, 2) := by decide +kernel
theorem dX3_chance_110 : decode cX3_chance 110 = .ok (.isub, 1) := by decide +kernel
theorem dX3_chance_111 : decode cX3_chance 111 = .ok (.invokestatic 208, 3) := by decide +kernel
theorem dX3_chance_114 : decode cX3_chance 114 = .ok (.lmul, 1) := by decide +kernel
theorem dX3_chance_115 : decode cX3_chance 115 = .ok (.ladd, 1) := by decide +kernel
theorem dX3_chance_116 : decode cX3_chance 116 = .ok (.lstore 7, 2) := by decide +kernel
theorem dX3_chance_118 : decode cX3_chance 118 = .ok (.iinc 9 1, 3) := by decide +kernel
theorem dX3_chance_121 : decode cX3_chance 121 = .ok (.goto (-50), 3) := by decide +kernel
theorem dX3_chance_124 : decode cX3_chance 124 = .ok (.lload 7, 2) := by decide +kernel
theorem dX3_chance_126 : decode cX3_chance 126 = .ok (.bipush 10, 2) := by decide +kernel
theorem dX3_chance_128 : decode cX3_chance 128 = .ok (.iload 6, 2) := by decide +kernel
theorem dX3_chance_130 : decode cX3_chance 130 = .ok (.invokestatic 208, 3) := by decide +kernel
theorem dX3_chance_133 : decode cX3_chance 133 = .ok (.iload 5, 2) := by decide +kernel
theorem dX3_chance_135 : decode cX3_chance 135 = .ok (.invokestatic 172, 3) := by decide +kernel
theorem dX3_chance_138 : decode cX3_chance 138 = .ok (.ireturn, 1) := by decide +kernel
theorem dX3_seed_0 : decode cX3_seed 0 = .ok (.aload_n 0, 1) := by decide +kernel
theorem dX3_seed_1 : decode cX3_seed 1 = .ok (.getfield 211, 3) := by decide +kernel
theorem dX3_seed_4 : decode cX3_seed 4 = .ok (.lstore_n 3, 1) := by decide +kernel
theorem dX3_seed_5 : decode cX3_seed 5 = .ok (.aload_n 0, 1) := by decide +kernel
theorem dX3_seed_6 : decode cX3_seed 6 = .ok (.lload_n 1, 1) := by decide +kernel
theorem dX3_seed_7 : decode cX3_seed 7 = .ok (.putfield 211, 3) := by decide +kernel
theorem dX3_seed_10 : decode cX3_seed 10 = .ok (.lload_n 3, 1) := by decide +kernel
theorem dX3_seed_11 : decode cX3_seed 11 = .ok (.lreturn, 1) := by decide +kernel
set_option maxRecDepth 20000 in
theorem ggX3_years_X1_become : GoodIn wsX3_years wsX1_become := goodIn_r _ [13, 14, 15, 16, 17, 18, 19, 20, 57, 58, 59, 60, 61, 62, 63, 64] (by decide +kernel) (by decide +kernel)
set_option maxRecDepth 20000 in
theorem gX3_years_X1_become : GoodIn wsX3_years (wsV RX3 112 RX1 yX1_become wsX1_become) := goodIn_app (goodIn_of _ (by decide +kernel)) ggX3_years_X1_become
set_option maxRecDepth 20000 in
theorem ggX3_years_X1_live : GoodIn wsX3_years wsX1_live := goodIn_r _ [24, 17, 16, 20, 25, 26, 27, 28, 29, 30, 12, 31, 32, 33, 34, 35, 15, 36, 37, 38, 39, 14, 40, 41, 42, 43, 18, 19, 44, 45, 46, 47, 48, 49, 57, 58, 59, 60, 61, 62, 63, 64] (by decide +kernel) (by decide +kernel)
set_option maxRecDepth 20000 in
theorem gX3_years_X1_live : GoodIn wsX3_years (wsV RX3 115 RX1 yX1_live wsX1_live) := goodIn_app (goodIn_of _ (by decide +kernel)) ggX3_years_X1_live
theorem dX3_years_0 : decode cX3_years 0 = .ok (.iload_n 1, 1) := by decide +kernel
theorem dX3_years_1 : decode cX3_years 1 = .ok (.iconst 1, 1) := by decide +kernel
theorem dX3_years_2 : decode cX3_years 2 = .ok (.if_icmp .lt 9, 3) := by decide +kernel
theorem dX3_years_5 : decode cX3_years 5 = .ok (.iload_n 1, 1) := by decide +kernel
theorem dX3_years_6 : decode cX3_years 6 = .ok (.bipush 30, 2) := by decide +kernel
theorem dX3_years_8 : decode cX3_years 8 = .ok (.if_icmp .le 6, 3) := by decide +kernel
theorem dX3_years_11 : decode cX3_years 11 = .ok (.bipush (-2), 2) := by decide +kernel
theorem dX3_years_13 : decode cX3_years 13 = .ok (.ireturn, 1) := by decide +kernel
theorem dX3_years_14 : decode cX3_years 14 = .ok (.aload_n 0, 1) := by decide +kernel
theorem dX3_years_15 : decode cX3_years 15 = .ok (.getfield 40, 3) := by decide +kernel
theorem dX3_years_18 : decode cX3_years 18 = .ok (.aload_n 0, 1) := by decide +kernel
theorem dX3_years_19 : decode cX3_years 19 = .ok (.getfield 21, 3) := by decide +kernel
theorem dX3_years_22 : decode cX3_years 22 = .ok (.invokevirtual 112, 3) := by decide +kernel
theorem dX3_years_25 : decode cX3_years 25 = .ok (.iconst 0, 1) := by decide +kernel
theorem dX3_years_26 : decode cX3_years 26 = .ok (.istore_n 2, 1) := by decide +kernel
theorem dX3_years_27 : decode cX3_years 27 = .ok (.iload_n 2, 1) := by decide +kernel
theorem dX3_years_28 : decode cX3_years 28 = .ok (.iload_n 1, 1) := by decide +kernel
theorem dX3_years_29 : decode cX3_years 29 = .ok (.if_icmp .ge 45, 3) := by decide +kernel
theorem dX3_years_32 : decode cX3_years 32 = .ok (.aload_n 0, 1) := by decide +kernel
theorem dX3_years_33 : decode cX3_years 33 = .ok (.aload_n 0, 1) := by decide +kernel
theorem dX3_years_34 : decode cX3_years 34 = .ok (.getfield 211, 3) := by decide +kernel
theorem dX3_years_37 : decode cX3_years 37 = .ok (.ldc2_w 215, 3) := by decide +kernel
theorem dX3_years_40 : decode cX3_years 40 = .ok (.lmul, 1) := by decide +kernel
theorem dX3_years_41 : decode cX3_years 41 = .ok (.ldc2_w 217, 3) := by decide +kernel
theorem dX3_years_44 : decode cX3_years 44 = .ok (.ladd, 1) := by decide +kernel
theorem dX3_years_45 : decode cX3_years 45 = .ok (.putfield 211, 3) := by decide +kernel
theorem dX3_years_48 : decode cX3_years 48 = .ok (.aload_n 0, 1) := by decide +kernel
theorem dX3_years_49 : decode cX3_years 49 = .ok (.getfield 40, 3) := by decide +kernel
theorem dX3_years_52 : decode cX3_years 52 = .ok (.aload_n 0, 1) := by decide +kernel
theorem dX3_years_53 : decode cX3_years 53 = .ok (.getfield 211, 3) := by decide +kernel
theorem dX3_years_56 : decode cX3_years 56 = .ok (.bipush 33, 2) := by decide +kernel
theorem dX3_years_58 : decode cX3_years 58 = .ok (.lushr, 1) := by decide +kernel
theorem dX3_years_59 : decode cX3_years 59 = .ok (.ldc2_w 219, 3) := by decide +kernel
theorem dX3_years_62 : decode cX3_years 62 = .ok (.lrem, 1) := by decide +kernel
theorem dX3_years_63 : decode cX3_years 63 = .ok (.l2i, 1) := by decide +kernel
theorem dX3_years_64 : decode cX3_years 64 = .ok (.invokevirtual 115, 3) := by decide +kernel
theorem dX3_years_67 : decode cX3_years 67 = .ok (.pop, 1) := by decide +kernel
theorem dX3_years_68 : decode cX3_years 68 = .ok (.iinc 2 1, 3) := by decide +kernel
theorem dX3_years_71 : decode cX3_years 71 = .ok (.goto (-44), 3) := by decide +kernel
theorem dX3_years_74 : decode cX3_years 74 = .ok (.aload_n 0, 1) := by decide +kernel
theorem dX3_years_75 : decode cX3_years 75 = .ok (.getfield 40, 3) := by decide +kernel
theorem dX3_years_78 : decode cX3_years 78 = .ok (.getfield 71, 3) := by decide +kernel
theorem dX3_years_81 : decode cX3_years 81 = .ok (.bipush 100, 2) := by decide +kernel
theorem dX3_years_83 : decode cX3_years 83 = .ok (.aload_n 0, 1) := by decide +kernel
theorem dX3_years_84 : decode cX3_years 84 = .ok (.getfield 40, 3) := by decide +kernel
theorem dX3_years_87 : decode cX3_years 87 = .ok (.getfield 74, 3) := by decide +kernel
theorem dX3_years_90 : decode cX3_years 90 = .ok (.aload_n 0, 1) := by decide +kernel
theorem dX3_years_91 : decode cX3_years 91 = .ok (.getfield 21, 3) := by decide +kernel
theorem dX3_years_94 : decode cX3_years 94 = .ok (.getfield 74, 3) := by decide +kernel
theorem dX3_years_97 : decode cX3_years 97 = .ok (.isub, 1) := by decide +kernel
theorem dX3_years_98 : decode cX3_years 98 = .ok (.imul, 1) := by decide +kernel
theorem dX3_years_99 : decode cX3_years 99 = .ok (.iadd, 1) := by decide +kernel
theorem dX3_years_100 : decode cX3_years 100 = .ok (.ireturn, 1) := by decide +kernel
set_option maxRecDepth 20000 in
theorem ggX3_isAtRest_X3_guildHas : GoodIn wsX3_isAtRest wsX3_guildHas := goodIn_r _ [4, 5, 6, 7, 8] (by decide +kernel) (by decide +kernel)
set_option maxRecDepth 20000 in
theorem gX3_isAtRest_X3_guildHas : GoodIn wsX3_isAtRest (va_wsS RX3 221 yX3_guildHas wsX3_guildHas) := goodIn_app (goodIn_of _ (by decide +kernel)) ggX3_isAtRest_X3_guildHas
set_option maxRecDepth 20000 in
theorem ggX3_isAtRest_X3_masterHas : GoodIn wsX3_isAtRest wsX3_masterHas := goodIn_r _ [11, 5, 6, 7, 8] (by decide +kernel) (by decide +kernel)
set_option maxRecDepth 20000 in
theorem gX3_isAtRest_X3_masterHas : GoodIn wsX3_isAtRest (va_wsS RX3 224 yX3_masterHas wsX3_masterHas) := goodIn_app (goodIn_of _ (by decide +kernel)) ggX3_isAtRest_X3_masterHas
theorem dX3_isAtRest_0 : decode cX3_isAtRest 0 = .ok (.iconst 0, 1) := by decide +kernel
theorem dX3_isAtRest_1 : decode cX3_isAtRest 1 = .ok (.istore_n 3, 1) := by decide +kernel
theorem dX3_isAtRest_2 : decode cX3_isAtRest 2 = .ok (.iload_n 3, 1) := by decide +kernel
theorem dX3_isAtRest_3 : decode cX3_isAtRest 3 = .ok (.iload_n 2, 1) := by decide +kernel
theorem dX3_isAtRest_4 : decode cX3_isAtRest 4 = .ok (.if_icmp .gt 43, 3) := by decide +kernel
theorem dX3_isAtRest_7 : decode cX3_isAtRest 7 = .ok (.iload_n 3, 1) := by decide +kernel
theorem dX3_isAtRest_8 : decode cX3_isAtRest 8 = .ok (.iload_n 1, 1) := by decide +kernel
theorem dX3_isAtRest_9 : decode cX3_isAtRest 9 = .ok (.iload_n 2, 1) := by decide +kernel
theorem dX3_isAtRest_10 : decode cX3_isAtRest 10 = .ok (.invokestatic 221, 3) := by decide +kernel
theorem dX3_isAtRest_13 : decode cX3_isAtRest 13 = .ok (.iload_n 0, 1) := by decide +kernel
theorem dX3_isAtRest_14 : decode cX3_isAtRest 14 = .ok (.iload_n 1, 1) := by decide +kernel
theorem dX3_isAtRest_15 : decode cX3_isAtRest 15 = .ok (.iload_n 2, 1) := by decide +kernel
theorem dX3_isAtRest_16 : decode cX3_isAtRest 16 = .ok (.invokestatic 221, 3) := by decide +kernel
theorem dX3_isAtRest_19 : decode cX3_isAtRest 19 = .ok (.if_icmp .le 5, 3) := by decide +kernel
theorem dX3_isAtRest_22 : decode cX3_isAtRest 22 = .ok (.iconst 0, 1) := by decide +kernel
theorem dX3_isAtRest_23 : decode cX3_isAtRest 23 = .ok (.ireturn, 1) := by decide +kernel
theorem dX3_isAtRest_24 : decode cX3_isAtRest 24 = .ok (.iload_n 0, 1) := by decide +kernel
theorem dX3_isAtRest_25 : decode cX3_isAtRest 25 = .ok (.iload_n 3, 1) := by decide +kernel
theorem dX3_isAtRest_26 : decode cX3_isAtRest 26 = .ok (.iload_n 2, 1) := by decide +kernel
theorem dX3_isAtRest_27 : decode cX3_isAtRest 27 = .ok (.invokestatic 224, 3) := by decide +kernel
theorem dX3_isAtRest_30 : decode cX3_isAtRest 30 = .ok (.iload_n 0, 1) := by decide +kernel
theorem dX3_isAtRest_31 : decode cX3_isAtRest 31 = .ok (.iload_n 1, 1) := by decide +kernel
theorem dX3_isAtRest_32 : decode cX3_isAtRest 32 = .ok (.iload_n 2, 1) := by decide +kernel
theorem dX3_isAtRest_33 : decode cX3_isAtRest 33 = .ok (.invokestatic 224, 3) := by decide +kernel
theorem dX3_isAtRest_36 : decode cX3_isAtRest 36 = .ok (.if_icmp .le 5, 3) := by decide +kernel
theorem dX3_isAtRest_39 : decode cX3_isAtRest 39 = .ok (.iconst 0, 1) := by decide +kernel
theorem dX3_isAtRest_40 : decode cX3_isAtRest 40 = .ok (.ireturn, 1) := by decide +kernel
theorem dX3_isAtRest_41 : decode cX3_isAtRest 41 = .ok (.iinc 3 1, 3) := by decide +kernel
theorem dX3_isAtRest_44 : decode cX3_isAtRest 44 = .ok (.goto (-42), 3) := by decide +kernel
theorem dX3_isAtRest_47 : decode cX3_isAtRest 47 = .ok (.iconst 1, 1) := by decide +kernel
theorem dX3_isAtRest_48 : decode cX3_isAtRest 48 = .ok (.ireturn, 1) := by decide +kernel
theorem dX3_guildHas_0 : decode cX3_guildHas 0 = .ok (.iconst 4, 1) := by decide +kernel
theorem dX3_guildHas_1 : decode cX3_guildHas 1 = .ok (.iconst 0, 1) := by decide +kernel
theorem dX3_guildHas_2 : decode cX3_guildHas 2 = .ok (.iload_n 0, 1) := by decide +kernel
theorem dX3_guildHas_3 : decode cX3_guildHas 3 = .ok (.iload_n 1, 1) := by decide +kernel
theorem dX3_guildHas_4 : decode cX3_guildHas 4 = .ok (.iadd, 1) := by decide +kernel
theorem dX3_guildHas_5 : decode cX3_guildHas 5 = .ok (.iload_n 2, 1) := by decide +kernel
theorem dX3_guildHas_6 : decode cX3_guildHas 6 = .ok (.isub, 1) := by decide +kernel
theorem dX3_guildHas_7 : decode cX3_guildHas 7 = .ok (.invokestatic 180, 3) := by decide +kernel
theorem dX3_guildHas_10 : decode cX3_guildHas 10 = .ok (.imul, 1) := by decide +kernel
theorem dX3_guildHas_11 : decode cX3_guildHas 11 = .ok (.iload_n 0, 1) := by decide +kernel
theorem dX3_guildHas_12 : decode cX3_guildHas 12 = .ok (.isub, 1) := by decide +kernel
theorem dX3_guildHas_13 : decode cX3_guildHas 13 = .ok (.ireturn, 1) := by decide +kernel
theorem dX3_masterHas_0 : decode cX3_masterHas 0 = .ok (.iconst 2, 1) := by decide +kernel
theorem dX3_masterHas_1 : decode cX3_masterHas 1 = .ok (.iload_n 1, 1) := by decide +kernel
theorem dX3_masterHas_2 : decode cX3_masterHas 2 = .ok (.imul, 1) := by decide +kernel
theorem dX3_masterHas_3 : decode cX3_masterHas 3 = .ok (.iconst 5, 1) := by decide +kernel
theorem dX3_masterHas_4 : decode cX3_masterHas 4 = .ok (.iconst 0, 1) := by decide +kernel
theorem dX3_masterHas_5 : decode cX3_masterHas 5 = .ok (.iload_n 0, 1) := by decide +kernel
theorem dX3_masterHas_6 : decode cX3_masterHas 6 = .ok (.iload_n 1, 1) := by decide +kernel
theorem dX3_masterHas_7 : decode cX3_masterHas 7 = .ok (.iadd, 1) := by decide +kernel
theorem dX3_masterHas_8 : decode cX3_masterHas 8 = .ok (.iload_n 2, 1) := by decide +kernel
theorem dX3_masterHas_9 : decode cX3_masterHas 9 = .ok (.isub, 1) := by decide +kernel
theorem dX3_masterHas_10 : decode cX3_masterHas 10 = .ok (.invokestatic 180, 3) := by decide +kernel
theorem dX3_masterHas_13 : decode cX3_masterHas 13 = .ok (.imul, 1) := by decide +kernel
theorem dX3_masterHas_14 : decode cX3_masterHas 14 = .ok (.isub, 1) := by decide +kernel
theorem dX3_masterHas_15 : decode cX3_masterHas 15 = .ok (.ireturn, 1) := by decide +kernel
set_option maxRecDepth 20000 in
theorem ggX3_timesMisled_X1_become : GoodIn wsX3_timesMisled wsX1_become := goodIn_r _ [8, 9, 10, 11, 12, 13, 14, 15, 59, 60, 61, 62, 63, 64, 65, 66] (by decide +kernel) (by decide +kernel)
set_option maxRecDepth 20000 in
theorem gX3_timesMisled_X1_become : GoodIn wsX3_timesMisled (wsV RX3 112 RX1 yX1_become wsX1_become) := goodIn_app (goodIn_of _ (by decide +kernel)) ggX3_timesMisled_X1_become
set_option maxRecDepth 20000 in
theorem ggX3_timesMisled_X3_figureOf : GoodIn wsX3_timesMisled wsX3_figureOf := goodIn_r _ [19] (by decide +kernel) (by decide +kernel)
set_option maxRecDepth 20000 in
theorem gX3_timesMisled_X3_figureOf : GoodIn wsX3_timesMisled (va_wsS RX3 148 yX3_figureOf wsX3_figureOf) := goodIn_app (goodIn_of _ (by decide +kernel)) ggX3_timesMisled_X3_figureOf
set_option maxRecDepth 20000 in
theorem ggX3_timesMisled_X1_live : GoodIn wsX3_timesMisled wsX1_live := goodIn_r _ [23, 12, 11, 15, 24, 18, 25, 26, 27, 28, 7, 29, 30, 31, 32, 33, 10, 34, 35, 36, 37, 9, 38, 39, 40, 41, 13, 14, 42, 43, 44, 45, 46, 47, 59, 60, 61, 62, 63, 64, 65, 66] (by decide +kernel) (by decide +kernel)
set_option maxRecDepth 20000 in
theorem gX3_timesMisled_X1_live : GoodIn wsX3_timesMisled (wsV RX3 115 RX1 yX1_live wsX1_live) := goodIn_app (goodIn_of _ (by decide +kernel)) ggX3_timesMisled_X1_live
set_option maxRecDepth 20000 in
theorem ggX3_timesMisled_X1_isError : GoodIn wsX3_timesMisled wsX1_isError := goodIn_r _ [51, 30, 31, 32, 7, 33, 10, 34, 35, 36, 37, 9, 59, 60, 61, 62, 63, 64, 65, 66] (by decide +kernel) (by decide +kernel)
set_option maxRecDepth 20000 in
theorem gX3_timesMisled_X1_isError : GoodIn wsX3_timesMisled (wsV RX3 227 RX1 yX1_isError wsX1_isError) := goodIn_app (goodIn_of _ (by decide +kernel)) ggX3_timesMisled_X1_isError
theorem dX3_timesMisled_0 : decode cX3_timesMisled 0 = .ok (.aload_n 0, 1) := by decide +kernel
theorem dX3_timesMisled_1 : decode cX3_timesMisled 1 = .ok (.getfield 40, 3) := by decide +kernel
theorem dX3_timesMisled_4 : decode cX3_timesMisled 4 = .ok (.aload_n 0, 1) := by decide +kernel
theorem dX3_timesMisled_5 : decode cX3_timesMisled 5 = .ok (.getfield 21, 3) := by decide +kernel
theorem dX3_timesMisled_8 : decode cX3_timesMisled 8 = .ok (.invokevirtual 112, 3) := by decide +kernel
theorem dX3_timesMisled_11 : decode cX3_timesMisled 11 = .ok (.iconst 0, 1) := by decide +kernel
theorem dX3_timesMisled_12 : decode cX3_timesMisled 12 = .ok (.istore_n 3, 1) := by decide +kernel
theorem dX3_timesMisled_13 : decode cX3_timesMisled 13 = .ok (.iconst 0, 1) := by decide +kernel
theorem dX3_timesMisled_14 : decode cX3_timesMisled 14 = .ok (.istore 4, 2) := by decide +kernel
theorem dX3_timesMisled_16 : decode cX3_timesMisled 16 = .ok (.iload 4, 2) := by decide +kernel
theorem dX3_timesMisled_18 : decode cX3_timesMisled 18 = .ok (.iload_n 1, 1) := by decide +kernel
theorem dX3_timesMisled_19 : decode cX3_timesMisled 19 = .ok (.if_icmp .ge 70, 3) := by decide +kernel
theorem dX3_timesMisled_22 : decode cX3_timesMisled 22 = .ok (.aload_n 0, 1) := by decide +kernel
theorem dX3_timesMisled_23 : decode cX3_timesMisled 23 = .ok (.getfield 40, 3) := by decide +kernel
theorem dX3_timesMisled_26 : decode cX3_timesMisled 26 = .ok (.getfield 68, 3) := by decide +kernel
theorem dX3_timesMisled_29 : decode cX3_timesMisled 29 = .ok (.istore 5, 2) := by decide +kernel
theorem dX3_timesMisled_31 : decode cX3_timesMisled 31 = .ok (.aload_n 0, 1) := by decide +kernel
theorem dX3_timesMisled_32 : decode cX3_timesMisled 32 = .ok (.getfield 40, 3) := by decide +kernel
theorem dX3_timesMisled_35 : decode cX3_timesMisled 35 = .ok (.iload_n 1, 1) := by decide +kernel
theorem dX3_timesMisled_36 : decode cX3_timesMisled 36 = .ok (.iload_n 2, 1) := by decide +kernel
theorem dX3_timesMisled_37 : decode cX3_timesMisled 37 = .ok (.iload 4, 2) := by decide +kernel
theorem dX3_timesMisled_39 : decode cX3_timesMisled 39 = .ok (.invokestatic 148, 3) := by decide +kernel
theorem dX3_timesMisled_42 : decode cX3_timesMisled 42 = .ok (.invokevirtual 115, 3) := by decide +kernel
theorem dX3_timesMisled_45 : decode cX3_timesMisled 45 = .ok (.ifCond .ne 6, 3) := by decide +kernel
theorem dX3_timesMisled_48 : decode cX3_timesMisled 48 = .ok (.bipush (-9), 2) := by decide +kernel
theorem dX3_timesMisled_50 : decode cX3_timesMisled 50 = .ok (.ireturn, 1) := by decide +kernel
theorem dX3_timesMisled_51 : decode cX3_timesMisled 51 = .ok (.aload_n 0, 1) := by decide +kernel
theorem dX3_timesMisled_52 : decode cX3_timesMisled 52 = .ok (.getfield 40, 3) := by decide +kernel
theorem dX3_timesMisled_55 : decode cX3_timesMisled 55 = .ok (.getfield 68, 3) := by decide +kernel
theorem dX3_timesMisled_58 : decode cX3_timesMisled 58 = .ok (.iload 5, 2) := by decide +kernel
theorem dX3_timesMisled_60 : decode cX3_timesMisled 60 = .ok (.if_icmp .eq 23, 3) := by decide +kernel
theorem dX3_timesMisled_63 : decode cX3_timesMisled 63 = .ok (.aload_n 0, 1) := by decide +kernel
theorem dX3_timesMisled_64 : decode cX3_timesMisled 64 = .ok (.getfield 40, 3) := by decide +kernel
theorem dX3_timesMisled_67 : decode cX3_timesMisled 67 = .ok (.aload_n 0, 1) := by decide +kernel
theorem dX3_timesMisled_68 : decode cX3_timesMisled 68 = .ok (.getfield 40, 3) := by decide +kernel
theorem dX3_timesMisled_71 : decode cX3_timesMisled 71 = .ok (.getfield 68, 3) := by decide +kernel
theorem dX3_timesMisled_74 : decode cX3_timesMisled 74 = .ok (.invokevirtual 227, 3) := by decide +kernel
theorem dX3_timesMisled_77 : decode cX3_timesMisled 77 = .ok (.ifCond .eq 6, 3) := by decide +kernel
theorem dX3_timesMisled_80 : decode cX3_timesMisled 80 = .ok (.iinc 3 1, 3) := by decide +kernel
theorem dX3_timesMisled_83 : decode cX3_timesMisled 83 = .ok (.iinc 4 1, 3) := by decide +kernel
theorem dX3_timesMisled_86 : decode cX3_timesMisled 86 = .ok (.goto (-70), 3) := by decide +kernel
theorem dX3_timesMisled_89 : decode cX3_timesMisled 89 = .ok (.iload_n 3, 1) := by decide +kernel
theorem dX3_timesMisled_90 : decode cX3_timesMisled 90 = .ok (.ireturn, 1) := by decide +kernel
set_option maxRecDepth 20000 in
theorem ggX3_livedBy_X3_figureOf : GoodIn wsX3_livedBy wsX3_figureOf := goodIn_r _ [5] (by decide +kernel) (by decide +kernel)
set_option maxRecDepth 20000 in
theorem gX3_livedBy_X3_figureOf : GoodIn wsX3_livedBy (va_wsS RX3 148 yX3_figureOf wsX3_figureOf) := goodIn_app (goodIn_of _ (by decide +kernel)) ggX3_livedBy_X3_figureOf
set_option maxRecDepth 20000 in
theorem ggX3_livedBy_X1_live : GoodIn wsX3_livedBy wsX1_live := goodIn_r _ [10, 11, 12, 13, 14, 4, 15, 16, 17, 18, 9, 19, 20, 21, 22, 23, 24, 25, 26, 27, 28, 29, 30, 31, 32, 33, 34, 35, 36, 37, 38, 39, 40, 41, 49, 50, 51, 52, 53, 54, 55, 56] (by decide +kernel) (by decide +kernel)
set_option maxRecDepth 20000 in
theorem gX3_livedBy_X1_live : GoodIn wsX3_livedBy (wsV RX3 115 RX1 yX1_live wsX1_live) := goodIn_app (goodIn_of _ (by decide +kernel)) ggX3_livedBy_X1_live
theorem dX3_livedBy_0 : decode cX3_livedBy 0 = .ok (.iconst 0, 1) := by decide +kernel
theorem dX3_livedBy_1 : decode cX3_livedBy 1 = .ok (.istore_n 3, 1) := by decide +kernel
theorem dX3_livedBy_2 : decode cX3_livedBy 2 = .ok (.iload_n 3, 1) := by decide +kernel
theorem dX3_livedBy_3 : decode cX3_livedBy 3 = .ok (.iload_n 1, 1) := by decide +kernel
theorem dX3_livedBy_4 : decode cX3_livedBy 4 = .ok (.if_icmp .ge 27, 3) := by decide +kernel
theorem dX3_livedBy_7 : decode cX3_livedBy 7 = .ok (.aload_n 0, 1) := by decide +kernel
theorem dX3_livedBy_8 : decode cX3_livedBy 8 = .ok (.getfield 40, 3) := by decide +kernel
theorem dX3_livedBy_11 : decode cX3_livedBy 11 = .ok (.iload_n 1, 1) := by decide +kernel
theorem dX3_livedBy_12 : decode cX3_livedBy 12 = .ok (.iload_n 2, 1) := by decide +kernel
theorem dX3_livedBy_13 : decode cX3_livedBy 13 = .ok (.iload_n 3, 1) := by decide +kernel
theorem dX3_livedBy_14 : decode cX3_livedBy 14 = .ok (.invokestatic 148, 3) := by decide +kernel
theorem dX3_livedBy_17 : decode cX3_livedBy 17 = .ok (.invokevirtual 115, 3) := by decide +kernel
theorem dX3_livedBy_20 : decode cX3_livedBy 20 = .ok (.ifCond .ne 5, 3) := by decide +kernel
theorem dX3_livedBy_23 : decode cX3_livedBy 23 = .ok (.iconst 0, 1) := by decide +kernel
theorem dX3_livedBy_24 : decode cX3_livedBy 24 = .ok (.ireturn, 1) := by decide +kernel
theorem dX3_livedBy_25 : decode cX3_livedBy 25 = .ok (.iinc 3 1, 3) := by decide +kernel
theorem dX3_livedBy_28 : decode cX3_livedBy 28 = .ok (.goto (-26), 3) := by decide +kernel
theorem dX3_livedBy_31 : decode cX3_livedBy 31 = .ok (.iconst 1, 1) := by decide +kernel
theorem dX3_livedBy_32 : decode cX3_livedBy 32 = .ok (.ireturn, 1) := by decide +kernel
set_option maxRecDepth 20000 in
theorem ggX3_keep_X3_slotOf : GoodIn wsX3_keep wsX3_slotOf := goodIn_r _ [8, 9, 22, 23, 24, 25, 26, 27, 28] (by decide +kernel) (by decide +kernel)
set_option maxRecDepth 20000 in
theorem gX3_keep_X3_slotOf : GoodIn wsX3_keep (wsV RX3 230 RX3 yX3_slotOf wsX3_slotOf) := goodIn_app (goodIn_of _ (by decide +kernel)) ggX3_keep_X3_slotOf
set_option maxRecDepth 20000 in
theorem ggX3_keep_X1_become : GoodIn wsX3_keep wsX1_become := goodIn_r _ [14, 15, 16, 17, 18, 19, 20, 21, 29, 30, 31, 32, 33, 34, 35, 36] (by decide +kernel) (by decide +kernel)
set_option maxRecDepth 20000 in
theorem gX3_keep_X1_become : GoodIn wsX3_keep (wsV RX3 112 RX1 yX1_become wsX1_become) := goodIn_app (goodIn_of _ (by decide +kernel)) ggX3_keep_X1_become
theorem dX3_keep_0 : decode cX3_keep 0 = .ok (.aload_n 0, 1) := by decide +kernel
theorem dX3_keep_1 : decode cX3_keep 1 = .ok (.iload_n 1, 1) := by decide +kernel
theorem dX3_keep_2 : decode cX3_keep 2 = .ok (.invokevirtual 230, 3) := by decide +kernel
theorem dX3_keep_5 : decode cX3_keep 5 = .ok (.astore_n 2, 1) := by decide +kernel
theorem dX3_keep_6 : decode cX3_keep 6 = .ok (.aload_n 2, 1) := by decide +kernel
theorem dX3_keep_7 : decode cX3_keep 7 = .ok (.ifnonnull 5, 3) := by decide +kernel
theorem dX3_keep_10 : decode cX3_keep 10 = .ok (.iconst (-1), 1) := by decide +kernel
theorem dX3_keep_11 : decode cX3_keep 11 = .ok (.ireturn, 1) := by decide +kernel
theorem dX3_keep_12 : decode cX3_keep 12 = .ok (.aload_n 2, 1) := by decide +kernel
theorem dX3_keep_13 : decode cX3_keep 13 = .ok (.aload_n 0, 1) := by decide +kernel
theorem dX3_keep_14 : decode cX3_keep 14 = .ok (.getfield 21, 3) := by decide +kernel
theorem dX3_keep_17 : decode cX3_keep 17 = .ok (.invokevirtual 112, 3) := by decide +kernel
theorem dX3_keep_20 : decode cX3_keep 20 = .ok (.aload_n 0, 1) := by decide +kernel
theorem dX3_keep_21 : decode cX3_keep 21 = .ok (.dup, 1) := by decide +kernel
theorem dX3_keep_22 : decode cX3_keep 22 = .ok (.getfield 62, 3) := by decide +kernel
theorem dX3_keep_25 : decode cX3_keep 25 = .ok (.iconst 1, 1) := by decide +kernel
theorem dX3_keep_26 : decode cX3_keep 26 = .ok (.iload_n 1, 1) := by decide +kernel
theorem dX3_keep_27 : decode cX3_keep 27 = .ok (.ishl, 1) := by decide +kernel
theorem dX3_keep_28 : decode cX3_keep 28 = .ok (.ior, 1) := by decide +kernel
theorem dX3_keep_29 : decode cX3_keep 29 = .ok (.putfield 62, 3) := by decide +kernel
theorem dX3_keep_32 : decode cX3_keep 32 = .ok (.aload_n 0, 1) := by decide +kernel
theorem dX3_keep_33 : decode cX3_keep 33 = .ok (.getfield 21, 3) := by decide +kernel
theorem dX3_keep_36 : decode cX3_keep 36 = .ok (.getfield 80, 3) := by decide +kernel
theorem dX3_keep_39 : decode cX3_keep 39 = .ok (.ireturn, 1) := by decide +kernel
set_option maxRecDepth 20000 in
theorem ggX3_again_X3_slotOf : GoodIn wsX3_again wsX3_slotOf := goodIn_r _ [10, 11, 24, 25, 26, 27, 28, 29, 30] (by decide +kernel) (by decide +kernel)
set_option maxRecDepth 20000 in
theorem gX3_again_X3_slotOf : GoodIn wsX3_again (wsV RX3 230 RX3 yX3_slotOf wsX3_slotOf) := goodIn_app (goodIn_of _ (by decide +kernel)) ggX3_again_X3_slotOf
set_option maxRecDepth 20000 in
theorem ggX3_again_X1_become : GoodIn wsX3_again wsX1_become := goodIn_r _ [16, 17, 18, 19, 20, 21, 22, 23, 33, 34, 35, 36, 37, 38, 39, 40] (by decide +kernel) (by decide +kernel)
set_option maxRecDepth 20000 in
theorem gX3_again_X1_become : GoodIn wsX3_again (wsV RX3 112 RX1 yX1_become wsX1_become) := goodIn_app (goodIn_of _ (by decide +kernel)) ggX3_again_X1_become
theorem dX3_again_0 : decode cX3_again 0 = .ok (.aload_n 0, 1) := by decide +kernel
theorem dX3_again_1 : decode cX3_again 1 = .ok (.iload_n 1, 1) := by decide +kernel
theorem dX3_again_2 : decode cX3_again 2 = .ok (.invokevirtual 230, 3) := by decide +kernel
theorem dX3_again_5 : decode cX3_again 5 = .ok (.astore_n 2, 1) := by decide +kernel
theorem dX3_again_6 : decode cX3_again 6 = .ok (.aload_n 2, 1) := by decide +kernel
theorem dX3_again_7 : decode cX3_again 7 = .ok (.ifnonnull 5, 3) := by decide +kernel
theorem dX3_again_10 : decode cX3_again 10 = .ok (.iconst (-1), 1) := by decide +kernel
theorem dX3_again_11 : decode cX3_again 11 = .ok (.ireturn, 1) := by decide +kernel
theorem dX3_again_12 : decode cX3_again 12 = .ok (.aload_n 0, 1) := by decide +kernel
theorem dX3_again_13 : decode cX3_again 13 = .ok (.getfield 62, 3) := by decide +kernel
theorem dX3_again_16 : decode cX3_again 16 = .ok (.iload_n 1, 1) := by decide +kernel
theorem dX3_again_17 : decode cX3_again 17 = .ok (.ishr, 1) := by decide +kernel
theorem dX3_again_18 : decode cX3_again 18 = .ok (.iconst 1, 1) := by decide +kernel
theorem dX3_again_19 : decode cX3_again 19 = .ok (.iand, 1) := by decide +kernel
theorem dX3_again_20 : decode cX3_again 20 = .ok (.ifCond .ne 6, 3) := by decide +kernel
theorem dX3_again_23 : decode cX3_again 23 = .ok (.bipush (-3), 2) := by decide +kernel
theorem dX3_again_25 : decode cX3_again 25 = .ok (.ireturn, 1) := by decide +kernel
theorem dX3_again_26 : decode cX3_again 26 = .ok (.aload_n 0, 1) := by decide +kernel
theorem dX3_again_27 : decode cX3_again 27 = .ok (.getfield 21, 3) := by decide +kernel
theorem dX3_again_30 : decode cX3_again 30 = .ok (.aload_n 2, 1) := by decide +kernel
theorem dX3_again_31 : decode cX3_again 31 = .ok (.invokevirtual 112, 3) := by decide +kernel
theorem dX3_again_34 : decode cX3_again 34 = .ok (.aload_n 0, 1) := by decide +kernel
theorem dX3_again_35 : decode cX3_again 35 = .ok (.getfield 28, 3) := by decide +kernel
theorem dX3_again_38 : decode cX3_again 38 = .ok (.iconst 0, 1) := by decide +kernel
theorem dX3_again_39 : decode cX3_again 39 = .ok (.putfield 59, 3) := by decide +kernel
theorem dX3_again_42 : decode cX3_again 42 = .ok (.aload_n 0, 1) := by decide +kernel
theorem dX3_again_43 : decode cX3_again 43 = .ok (.getfield 21, 3) := by decide +kernel
theorem dX3_again_46 : decode cX3_again 46 = .ok (.getfield 80, 3) := by decide +kernel
theorem dX3_again_49 : decode cX3_again 49 = .ok (.ireturn, 1) := by decide +kernel
theorem dX3_slotOf_0 : decode cX3_slotOf 0 = .ok (.iload_n 1, 1) := by decide +kernel
theorem dX3_slotOf_1 : decode cX3_slotOf 1 = .ok (.ifCond .lt 21, 3) := by decide +kernel
theorem dX3_slotOf_4 : decode cX3_slotOf 4 = .ok (.iload_n 1, 1) := by decide +kernel
theorem dX3_slotOf_5 : decode cX3_slotOf 5 = .ok (.aload_n 0, 1) := by decide +kernel
theorem dX3_slotOf_6 : decode cX3_slotOf 6 = .ok (.getfield 32, 3) := by decide +kernel
theorem dX3_slotOf_9 : decode cX3_slotOf 9 = .ok (.arraylength, 1) := by decide +kernel
theorem dX3_slotOf_10 : decode cX3_slotOf 10 = .ok (.if_icmp .ge 12, 3) := by decide +kernel
theorem dX3_slotOf_13 : decode cX3_slotOf 13 = .ok (.aload_n 0, 1) := by decide +kernel
theorem dX3_slotOf_14 : decode cX3_slotOf 14 = .ok (.getfield 32, 3) := by decide +kernel
theorem dX3_slotOf_17 : decode cX3_slotOf 17 = .ok (.iload_n 1, 1) := by decide +kernel
theorem dX3_slotOf_18 : decode cX3_slotOf 18 = .ok (.aaload, 1) := by decide +kernel
theorem dX3_slotOf_19 : decode cX3_slotOf 19 = .ok (.goto 4, 3) := by decide +kernel
theorem dX3_slotOf_22 : decode cX3_slotOf 22 = .ok (.aconst_null, 1) := by decide +kernel
theorem dX3_slotOf_23 : decode cX3_slotOf 23 = .ok (.areturn, 1) := by decide +kernel
theorem dX3_isCell_0 : decode cX3_isCell 0 = .ok (.iload_n 0, 1) := by decide +kernel
theorem dX3_isCell_1 : decode cX3_isCell 1 = .ok (.ifCond .lt 13, 3) := by decide +kernel
theorem dX3_isCell_4 : decode cX3_isCell 4 = .ok (.iload_n 0, 1) := by decide +kernel
theorem dX3_isCell_5 : decode cX3_isCell 5 = .ok (.bipush 12, 2) := by decide +kernel
theorem dX3_isCell_7 : decode cX3_isCell 7 = .ok (.if_icmp .ge 7, 3) := by decide +kernel
theorem dX3_isCell_10 : decode cX3_isCell 10 = .ok (.iconst 1, 1) := by decide +kernel
theorem dX3_isCell_11 : decode cX3_isCell 11 = .ok (.goto 4, 3) := by decide +kernel
theorem dX3_isCell_14 : decode cX3_isCell 14 = .ok (.iconst 0, 1) := by decide +kernel
theorem dX3_isCell_15 : decode cX3_isCell 15 = .ok (.ireturn, 1) := by decide +kernel
theorem dX3_hasCell_0 : decode cX3_hasCell 0 = .ok (.iload_n 0, 1) := by decide +kernel
theorem dX3_hasCell_1 : decode cX3_hasCell 1 = .ok (.iload_n 1, 1) := by decide +kernel
theorem dX3_hasCell_2 : decode cX3_hasCell 2 = .ok (.ishr, 1) := by decide +kernel
theorem dX3_hasCell_3 : decode cX3_hasCell 3 = .ok (.iconst 1, 1) := by decide +kernel
theorem dX3_hasCell_4 : decode cX3_hasCell 4 = .ok (.iand, 1) := by decide +kernel
theorem dX3_hasCell_5 : decode cX3_hasCell 5 = .ok (.ifCond .eq 7, 3) := by decide +kernel
theorem dX3_hasCell_8 : decode cX3_hasCell 8 = .ok (.iconst 1, 1) := by decide +kernel
theorem dX3_hasCell_9 : decode cX3_hasCell 9 = .ok (.goto 4, 3) := by decide +kernel
theorem dX3_hasCell_12 : decode cX3_hasCell 12 = .ok (.iconst 0, 1) := by decide +kernel
theorem dX3_hasCell_13 : decode cX3_hasCell 13 = .ok (.ireturn, 1) := by decide +kernel
theorem dX3_beside_0 : decode cX3_beside 0 = .ok (.iload_n 0, 1) := by decide +kernel
theorem dX3_beside_1 : decode cX3_beside 1 = .ok (.iconst 4, 1) := by decide +kernel
theorem dX3_beside_2 : decode cX3_beside 2 = .ok (.irem, 1) := by decide +kernel
theorem dX3_beside_3 : decode cX3_beside 3 = .ok (.istore_n 2, 1) := by decide +kernel
theorem dX3_beside_4 : decode cX3_beside 4 = .ok (.iload_n 1, 1) := by decide +kernel
theorem dX3_beside_5 : decode cX3_beside 5 = .ok (.tableswitch 85 0 3 #[31, 44, 60, 72], 31) := by decide +kernel
theorem dX3_beside_36 : decode cX3_beside 36 = .ok (.iload_n 0, 1) := by decide +kernel
theorem dX3_beside_37 : decode cX3_beside 37 = .ok (.iconst 4, 1) := by decide +kernel
theorem dX3_beside_38 : decode cX3_beside 38 = .ok (.if_icmp .lt 9, 3) := by decide +kernel
theorem dX3_beside_41 : decode cX3_beside 41 = .ok (.iload_n 0, 1) := by decide +kernel
theorem dX3_beside_42 : decode cX3_beside 42 = .ok (.iconst 4, 1) := by decide +kernel
theorem dX3_beside_43 : decode cX3_beside 43 = .ok (.isub, 1) := by decide +kernel
theorem dX3_beside_44 : decode cX3_beside 44 = .ok (.goto 4, 3) := by decide +kernel
theorem dX3_beside_47 : decode cX3_beside 47 = .ok (.iconst (-1), 1) := by decide +kernel
theorem dX3_beside_48 : decode cX3_beside 48 = .ok (.ireturn, 1) := by decide +kernel
theorem dX3_beside_49 : decode cX3_beside 49 = .ok (.iload_n 0, 1) := by decide +kernel
theorem dX3_beside_50 : decode cX3_beside 50 = .ok (.iconst 4, 1) := by decide +kernel
theorem dX3_beside_51 : decode cX3_beside 51 = .ok (.iadd, 1) := by decide +kernel
theorem dX3_beside_52 : decode cX3_beside 52 = .ok (.bipush 12, 2) := by decide +kernel
theorem dX3_beside_54 : decode cX3_beside 54 = .ok (.if_icmp .ge 9, 3) := by decide +kernel
theorem dX3_beside_57 : decode cX3_beside 57 = .ok (.iload_n 0, 1) := by decide +kernel
theorem dX3_beside_58 : decode cX3_beside 58 = .ok (.iconst 4, 1) := by decide +kernel
theorem dX3_beside_59 : decode cX3_beside 59 = .ok (.iadd, 1) := by decide +kernel
theorem dX3_beside_60 : decode cX3_beside 60 = .ok (.goto 4, 3) := by decide +kernel
theorem dX3_beside_63 : decode cX3_beside 63 = .ok (.iconst (-1), 1) := by decide +kernel
theorem dX3_beside_64 : decode cX3_beside 64 = .ok (.ireturn, 1) := by decide +kernel
theorem dX3_beside_65 : decode cX3_beside 65 = .ok (.iload_n 2, 1) := by decide +kernel
theorem dX3_beside_66 : decode cX3_beside 66 = .ok (.ifCond .le 9, 3) := by decide +kernel
theorem dX3_beside_69 : decode cX3_beside 69 = .ok (.iload_n 0, 1) := by decide +kernel
theorem dX3_beside_70 : decode cX3_beside 70 = .ok (.iconst 1, 1) := by decide +kernel
theorem dX3_beside_71 : decode cX3_beside 71 = .ok (.isub, 1) := by decide +kernel
theorem dX3_beside_72 : decode cX3_beside 72 = .ok (.goto 4, 3) := by decide +kernel
theorem dX3_beside_75 : decode cX3_beside 75 = .ok (.iconst (-1), 1) := by decide +kernel
theorem dX3_beside_76 : decode cX3_beside 76 = .ok (.ireturn, 1) := by decide +kernel
theorem dX3_beside_77 : decode cX3_beside 77 = .ok (.iload_n 2, 1) := by decide +kernel
theorem dX3_beside_78 : decode cX3_beside 78 = .ok (.iconst 3, 1) := by decide +kernel
theorem dX3_beside_79 : decode cX3_beside 79 = .ok (.if_icmp .ge 9, 3) := by decide +kernel
theorem dX3_beside_82 : decode cX3_beside 82 = .ok (.iload_n 0, 1) := by decide +kernel
theorem dX3_beside_83 : decode cX3_beside 83 = .ok (.iconst 1, 1) := by decide +kernel
theorem dX3_beside_84 : decode cX3_beside 84 = .ok (.iadd, 1) := by decide +kernel
theorem dX3_beside_85 : decode cX3_beside 85 = .ok (.goto 4, 3) := by decide +kernel
theorem dX3_beside_88 : decode cX3_beside 88 = .ok (.iconst (-1), 1) := by decide +kernel
theorem dX3_beside_89 : decode cX3_beside 89 = .ok (.ireturn, 1) := by decide +kernel
theorem dX3_beside_90 : decode cX3_beside 90 = .ok (.iconst (-1), 1) := by decide +kernel
theorem dX3_beside_91 : decode cX3_beside 91 = .ok (.ireturn, 1) := by decide +kernel
set_option maxRecDepth 20000 in
theorem ggX3_besideAll_X3_hasCell : GoodIn wsX3_besideAll wsX3_hasCell := goodIn_r _ [4] (by decide +kernel) (by decide +kernel)
set_option maxRecDepth 20000 in
theorem gX3_besideAll_X3_hasCell : GoodIn wsX3_besideAll (va_wsS RX3 151 yX3_hasCell wsX3_hasCell) := goodIn_app (goodIn_of _ (by decide +kernel)) ggX3_besideAll_X3_hasCell
set_option maxRecDepth 20000 in
theorem ggX3_besideAll_X3_beside : GoodIn wsX3_besideAll wsX3_beside := goodIn_r _ [7] (by decide +kernel) (by decide +kernel)
set_option maxRecDepth 20000 in
theorem gX3_besideAll_X3_beside : GoodIn wsX3_besideAll (va_wsS RX3 191 yX3_beside wsX3_beside) := goodIn_app (goodIn_of _ (by decide +kernel)) ggX3_besideAll_X3_beside
theorem dX3_besideAll_0 : decode cX3_besideAll 0 = .ok (.iconst 0, 1) := by decide +kernel
theorem dX3_besideAll_1 : decode cX3_besideAll 1 = .ok (.istore_n 1, 1) := by decide +kernel
theorem dX3_besideAll_2 : decode cX3_besideAll 2 = .ok (.iconst 0, 1) := by decide +kernel
theorem dX3_besideAll_3 : decode cX3_besideAll 3 = .ok (.istore_n 2, 1) := by decide +kernel
theorem dX3_besideAll_4 : decode cX3_besideAll 4 = .ok (.iload_n 2, 1) := by decide +kernel
theorem dX3_besideAll_5 : decode cX3_besideAll 5 = .ok (.bipush 12, 2) := by decide +kernel
theorem dX3_besideAll_7 : decode cX3_besideAll 7 = .ok (.if_icmp .ge 54, 3) := by decide +kernel
theorem dX3_besideAll_10 : decode cX3_besideAll 10 = .ok (.iconst 0, 1) := by decide +kernel
theorem dX3_besideAll_11 : decode cX3_besideAll 11 = .ok (.istore_n 3, 1) := by decide +kernel
theorem dX3_besideAll_12 : decode cX3_besideAll 12 = .ok (.iload_n 0, 1) := by decide +kernel
theorem dX3_besideAll_13 : decode cX3_besideAll 13 = .ok (.iload_n 2, 1) := by decide +kernel
theorem dX3_besideAll_14 : decode cX3_besideAll 14 = .ok (.invokestatic 151, 3) := by decide +kernel
theorem dX3_besideAll_17 : decode cX3_besideAll 17 = .ok (.ifCond .eq 38, 3) := by decide +kernel
theorem dX3_besideAll_20 : decode cX3_besideAll 20 = .ok (.iload_n 3, 1) := by decide +kernel
theorem dX3_besideAll_21 : decode cX3_besideAll 21 = .ok (.iconst 4, 1) := by decide +kernel
theorem dX3_besideAll_22 : decode cX3_besideAll 22 = .ok (.if_icmp .ge 33, 3) := by decide +kernel
theorem dX3_besideAll_25 : decode cX3_besideAll 25 = .ok (.iload_n 2, 1) := by decide +kernel
theorem dX3_besideAll_26 : decode cX3_besideAll 26 = .ok (.iload_n 3, 1) := by decide +kernel
theorem dX3_besideAll_27 : decode cX3_besideAll 27 = .ok (.invokestatic 191, 3) := by decide +kernel
theorem dX3_besideAll_30 : decode cX3_besideAll 30 = .ok (.istore 4, 2) := by decide +kernel
theorem dX3_besideAll_32 : decode cX3_besideAll 32 = .ok (.iload_n 1, 1) := by decide +kernel
theorem dX3_besideAll_33 : decode cX3_besideAll 33 = .ok (.iload 4, 2) := by decide +kernel
theorem dX3_besideAll_35 : decode cX3_besideAll 35 = .ok (.iconst (-1), 1) := by decide +kernel
theorem dX3_besideAll_36 : decode cX3_besideAll 36 = .ok (.if_icmp .ne 7, 3) := by decide +kernel
theorem dX3_besideAll_39 : decode cX3_besideAll 39 = .ok (.iconst 0, 1) := by decide +kernel
theorem dX3_besideAll_40 : decode cX3_besideAll 40 = .ok (.goto 7, 3) := by decide +kernel
theorem dX3_besideAll_43 : decode cX3_besideAll 43 = .ok (.iconst 1, 1) := by decide +kernel
theorem dX3_besideAll_44 : decode cX3_besideAll 44 = .ok (.iload 4, 2) := by decide +kernel
theorem dX3_besideAll_46 : decode cX3_besideAll 46 = .ok (.ishl, 1) := by decide +kernel
theorem dX3_besideAll_47 : decode cX3_besideAll 47 = .ok (.ior, 1) := by decide +kernel
theorem dX3_besideAll_48 : decode cX3_besideAll 48 = .ok (.istore_n 1, 1) := by decide +kernel
theorem dX3_besideAll_49 : decode cX3_besideAll 49 = .ok (.iinc 3 1, 3) := by decide +kernel
theorem dX3_besideAll_52 : decode cX3_besideAll 52 = .ok (.goto (-40), 3) := by decide +kernel
theorem dX3_besideAll_55 : decode cX3_besideAll 55 = .ok (.iinc 2 1, 3) := by decide +kernel
theorem dX3_besideAll_58 : decode cX3_besideAll 58 = .ok (.goto (-54), 3) := by decide +kernel
theorem dX3_besideAll_61 : decode cX3_besideAll 61 = .ok (.iload_n 1, 1) := by decide +kernel
theorem dX3_besideAll_62 : decode cX3_besideAll 62 = .ok (.ireturn, 1) := by decide +kernel
theorem dX3_isRow_0 : decode cX3_isRow 0 = .ok (.iload_n 1, 1) := by decide +kernel
theorem dX3_isRow_1 : decode cX3_isRow 1 = .ok (.ifCond .ge 5, 3) := by decide +kernel
theorem dX3_isRow_4 : decode cX3_isRow 4 = .ok (.iconst 0, 1) := by decide +kernel
theorem dX3_isRow_5 : decode cX3_isRow 5 = .ok (.ireturn, 1) := by decide +kernel
theorem dX3_isRow_6 : decode cX3_isRow 6 = .ok (.iload_n 1, 1) := by decide +kernel
theorem dX3_isRow_7 : decode cX3_isRow 7 = .ok (.istore_n 2, 1) := by decide +kernel
theorem dX3_isRow_8 : decode cX3_isRow 8 = .ok (.iconst 0, 1) := by decide +kernel
theorem dX3_isRow_9 : decode cX3_isRow 9 = .ok (.istore_n 3, 1) := by decide +kernel
theorem dX3_isRow_10 : decode cX3_isRow 10 = .ok (.iload_n 3, 1) := by decide +kernel
theorem dX3_isRow_11 : decode cX3_isRow 11 = .ok (.iload_n 0, 1) := by decide +kernel
theorem dX3_isRow_12 : decode cX3_isRow 12 = .ok (.if_icmp .ge 24, 3) := by decide +kernel
theorem dX3_isRow_15 : decode cX3_isRow 15 = .ok (.iload_n 2, 1) := by decide +kernel
theorem dX3_isRow_16 : decode cX3_isRow 16 = .ok (.bipush 10, 2) := by decide +kernel
theorem dX3_isRow_18 : decode cX3_isRow 18 = .ok (.irem, 1) := by decide +kernel
theorem dX3_isRow_19 : decode cX3_isRow 19 = .ok (.iconst 4, 1) := by decide +kernel
theorem dX3_isRow_20 : decode cX3_isRow 20 = .ok (.if_icmp .le 5, 3) := by decide +kernel
theorem dX3_isRow_23 : decode cX3_isRow 23 = .ok (.iconst 0, 1) := by decide +kernel
theorem dX3_isRow_24 : decode cX3_isRow 24 = .ok (.ireturn, 1) := by decide +kernel
theorem dX3_isRow_25 : decode cX3_isRow 25 = .ok (.iload_n 2, 1) := by decide +kernel
theorem dX3_isRow_26 : decode cX3_isRow 26 = .ok (.bipush 10, 2) := by decide +kernel
theorem dX3_isRow_28 : decode cX3_isRow 28 = .ok (.idiv, 1) := by decide +kernel
theorem dX3_isRow_29 : decode cX3_isRow 29 = .ok (.istore_n 2, 1) := by decide +kernel
theorem dX3_isRow_30 : decode cX3_isRow 30 = .ok (.iinc 3 1, 3) := by decide +kernel
theorem dX3_isRow_33 : decode cX3_isRow 33 = .ok (.goto (-23), 3) := by decide +kernel
theorem dX3_isRow_36 : decode cX3_isRow 36 = .ok (.iload_n 2, 1) := by decide +kernel
theorem dX3_isRow_37 : decode cX3_isRow 37 = .ok (.ifCond .ne 7, 3) := by decide +kernel
theorem dX3_isRow_40 : decode cX3_isRow 40 = .ok (.iconst 1, 1) := by decide +kernel
theorem dX3_isRow_41 : decode cX3_isRow 41 = .ok (.goto 4, 3) := by decide +kernel
theorem dX3_isRow_44 : decode cX3_isRow 44 = .ok (.iconst 0, 1) := by decide +kernel
theorem dX3_isRow_45 : decode cX3_isRow 45 = .ok (.ireturn, 1) := by decide +kernel
theorem dX3_figureOf_0 : decode cX3_figureOf 0 = .ok (.iload_n 1, 1) := by decide +kernel
theorem dX3_figureOf_1 : decode cX3_figureOf 1 = .ok (.istore_n 3, 1) := by decide +kernel
theorem dX3_figureOf_2 : decode cX3_figureOf 2 = .ok (.iload_n 0, 1) := by decide +kernel
theorem dX3_figureOf_3 : decode cX3_figureOf 3 = .ok (.iconst 1, 1) := by decide +kernel
theorem dX3_figureOf_4 : decode cX3_figureOf 4 = .ok (.isub, 1) := by decide +kernel
theorem dX3_figureOf_5 : decode cX3_figureOf 5 = .ok (.istore 4, 2) := by decide +kernel
theorem dX3_figureOf_7 : decode cX3_figureOf 7 = .ok (.iload 4, 2) := by decide +kernel
theorem dX3_figureOf_9 : decode cX3_figureOf 9 = .ok (.iload_n 2, 1) := by decide +kernel
theorem dX3_figureOf_10 : decode cX3_figureOf 10 = .ok (.if_icmp .le 14, 3) := by decide +kernel
theorem dX3_figureOf_13 : decode cX3_figureOf 13 = .ok (.iload_n 3, 1) := by decide +kernel
theorem dX3_figureOf_14 : decode cX3_figureOf 14 = .ok (.bipush 10, 2) := by decide +kernel
theorem dX3_figureOf_16 : decode cX3_figureOf 16 = .ok (.idiv, 1) := by decide +kernel
theorem dX3_figureOf_17 : decode cX3_figureOf 17 = .ok (.istore_n 3, 1) := by decide +kernel
theorem dX3_figureOf_18 : decode cX3_figureOf 18 = .ok (.iinc 4 (-1), 3) := by decide +kernel
theorem dX3_figureOf_21 : decode cX3_figureOf 21 = .ok (.goto (-14), 3) := by decide +kernel
theorem dX3_figureOf_24 : decode cX3_figureOf 24 = .ok (.iload_n 3, 1) := by decide +kernel
theorem dX3_figureOf_25 : decode cX3_figureOf 25 = .ok (.bipush 10, 2) := by decide +kernel
theorem dX3_figureOf_27 : decode cX3_figureOf 27 = .ok (.irem, 1) := by decide +kernel
theorem dX3_figureOf_28 : decode cX3_figureOf 28 = .ok (.ireturn, 1) := by decide +kernel
theorem dX3_powerOf_0 : decode cX3_powerOf 0 = .ok (.lconst 1, 1) := by decide +kernel
theorem dX3_powerOf_1 : decode cX3_powerOf 1 = .ok (.lstore_n 2, 1) := by decide +kernel
theorem dX3_powerOf_2 : decode cX3_powerOf 2 = .ok (.iconst 0, 1) := by decide +kernel
theorem dX3_powerOf_3 : decode cX3_powerOf 3 = .ok (.istore 4, 2) := by decide +kernel
theorem dX3_powerOf_5 : decode cX3_powerOf 5 = .ok (.iload 4, 2) := by decide +kernel
theorem dX3_powerOf_7 : decode cX3_powerOf 7 = .ok (.iload_n 1, 1) := by decide +kernel
theorem dX3_powerOf_8 : decode cX3_powerOf 8 = .ok (.if_icmp .ge 14, 3) := by decide +kernel
theorem dX3_powerOf_11 : decode cX3_powerOf 11 = .ok (.lload_n 2, 1) := by decide +kernel
theorem dX3_powerOf_12 : decode cX3_powerOf 12 = .ok (.iload_n 0, 1) := by decide +kernel
theorem dX3_powerOf_13 : decode cX3_powerOf 13 = .ok (.i2l, 1) := by decide +kernel
theorem dX3_powerOf_14 : decode cX3_powerOf 14 = .ok (.lmul, 1) := by decide +kernel
theorem dX3_powerOf_15 : decode cX3_powerOf 15 = .ok (.lstore_n 2, 1) := by decide +kernel
theorem dX3_powerOf_16 : decode cX3_powerOf 16 = .ok (.iinc 4 1, 3) := by decide +kernel
theorem dX3_powerOf_19 : decode cX3_powerOf 19 = .ok (.goto (-14), 3) := by decide +kernel
theorem dX3_powerOf_22 : decode cX3_powerOf 22 = .ok (.lload_n 2, 1) := by decide +kernel
theorem dX3_powerOf_23 : decode cX3_powerOf 23 = .ok (.lreturn, 1) := by decide +kernel
theorem dX3_ordersOf_0 : decode cX3_ordersOf 0 = .ok (.lconst 1, 1) := by decide +kernel
theorem dX3_ordersOf_1 : decode cX3_ordersOf 1 = .ok (.lstore_n 1, 1) := by decide +kernel
theorem dX3_ordersOf_2 : decode cX3_ordersOf 2 = .ok (.iconst 2, 1) := by decide +kernel
theorem dX3_ordersOf_3 : decode cX3_ordersOf 3 = .ok (.istore_n 3, 1) := by decide +kernel
theorem dX3_ordersOf_4 : decode cX3_ordersOf 4 = .ok (.iload_n 3, 1) := by decide +kernel
theorem dX3_ordersOf_5 : decode cX3_ordersOf 5 = .ok (.iload_n 0, 1) := by decide +kernel
theorem dX3_ordersOf_6 : decode cX3_ordersOf 6 = .ok (.if_icmp .gt 14, 3) := by decide +kernel
theorem dX3_ordersOf_9 : decode cX3_ordersOf 9 = .ok (.lload_n 1, 1) := by decide +kernel
theorem dX3_ordersOf_10 : decode cX3_ordersOf 10 = .ok (.iload_n 3, 1) := by decide +kernel
theorem dX3_ordersOf_11 : decode cX3_ordersOf 11 = .ok (.i2l, 1) := by decide +kernel
theorem dX3_ordersOf_12 : decode cX3_ordersOf 12 = .ok (.lmul, 1) := by decide +kernel
theorem dX3_ordersOf_13 : decode cX3_ordersOf 13 = .ok (.lstore_n 1, 1) := by decide +kernel
theorem dX3_ordersOf_14 : decode cX3_ordersOf 14 = .ok (.iinc 3 1, 3) := by decide +kernel
theorem dX3_ordersOf_17 : decode cX3_ordersOf 17 = .ok (.goto (-13), 3) := by decide +kernel
theorem dX3_ordersOf_20 : decode cX3_ordersOf 20 = .ok (.lload_n 1, 1) := by decide +kernel
theorem dX3_ordersOf_21 : decode cX3_ordersOf 21 = .ok (.lreturn, 1) := by decide +kernel
theorem dX3_choicesOf_0 : decode cX3_choicesOf 0 = .ok (.lconst 1, 1) := by decide +kernel
theorem dX3_choicesOf_1 : decode cX3_choicesOf 1 = .ok (.lstore_n 2, 1) := by decide +kernel
theorem dX3_choicesOf_2 : decode cX3_choicesOf 2 = .ok (.iconst 1, 1) := by decide +kernel
theorem dX3_choicesOf_3 : decode cX3_choicesOf 3 = .ok (.istore 4, 2) := by decide +kernel
theorem dX3_choicesOf_5 : decode cX3_choicesOf 5 = .ok (.iload 4, 2) := by decide +kernel
theorem dX3_choicesOf_7 : decode cX3_choicesOf 7 = .ok (.iload_n 1, 1) := by decide +kernel
theorem dX3_choicesOf_8 : decode cX3_choicesOf 8 = .ok (.if_icmp .gt 23, 3) := by decide +kernel
theorem dX3_choicesOf_11 : decode cX3_choicesOf 11 = .ok (.lload_n 2, 1) := by decide +kernel
theorem dX3_choicesOf_12 : decode cX3_choicesOf 12 = .ok (.iload_n 0, 1) := by decide +kernel
theorem dX3_choicesOf_13 : decode cX3_choicesOf 13 = .ok (.iload_n 1, 1) := by decide +kernel
theorem dX3_choicesOf_14 : decode cX3_choicesOf 14 = .ok (.isub, 1) := by decide +kernel
theorem dX3_choicesOf_15 : decode cX3_choicesOf 15 = .ok (.iload 4, 2) := by decide +kernel
theorem dX3_choicesOf_17 : decode cX3_choicesOf 17 = .ok (.iadd, 1) := by decide +kernel
theorem dX3_choicesOf_18 : decode cX3_choicesOf 18 = .ok (.i2l, 1) := by decide +kernel
theorem dX3_choicesOf_19 : decode cX3_choicesOf 19 = .ok (.lmul, 1) := by decide +kernel
theorem dX3_choicesOf_20 : decode cX3_choicesOf 20 = .ok (.iload 4, 2) := by decide +kernel
theorem dX3_choicesOf_22 : decode cX3_choicesOf 22 = .ok (.i2l, 1) := by decide +kernel
theorem dX3_choicesOf_23 : decode cX3_choicesOf 23 = .ok (.ldiv, 1) := by decide +kernel
theorem dX3_choicesOf_24 : decode cX3_choicesOf 24 = .ok (.lstore_n 2, 1) := by decide +kernel
theorem dX3_choicesOf_25 : decode cX3_choicesOf 25 = .ok (.iinc 4 1, 3) := by decide +kernel
theorem dX3_choicesOf_28 : decode cX3_choicesOf 28 = .ok (.goto (-23), 3) := by decide +kernel
theorem dX3_choicesOf_31 : decode cX3_choicesOf 31 = .ok (.lload_n 2, 1) := by decide +kernel
theorem dX3_choicesOf_32 : decode cX3_choicesOf 32 = .ok (.lreturn, 1) := by decide +kernel
theorem dX3_fraction_0 : decode cX3_fraction 0 = .ok (.lload_n 0, 1) := by decide +kernel
theorem dX3_fraction_1 : decode cX3_fraction 1 = .ok (.invokestatic 233, 3) := by decide +kernel
theorem dX3_fraction_4 : decode cX3_fraction 4 = .ok (.lstore 5, 2) := by decide +kernel
theorem dX3_fraction_6 : decode cX3_fraction 6 = .ok (.lload_n 2, 1) := by decide +kernel
theorem dX3_fraction_7 : decode cX3_fraction 7 = .ok (.lstore 7, 2) := by decide +kernel
theorem dX3_fraction_9 : decode cX3_fraction 9 = .ok (.iconst 0, 1) := by decide +kernel
theorem dX3_fraction_10 : decode cX3_fraction 10 = .ok (.istore 9, 2) := by decide +kernel
theorem dX3_fraction_12 : decode cX3_fraction 12 = .ok (.iload 9, 2) := by decide +kernel
theorem dX3_fraction_14 : decode cX3_fraction 14 = .ok (.sipush 200, 3) := by decide +kernel
theorem dX3_fraction_17 : decode cX3_fraction 17 = .ok (.if_icmp .ge 31, 3) := by decide +kernel
theorem dX3_fraction_20 : decode cX3_fraction 20 = .ok (.lload 7, 2) := by decide +kernel
theorem dX3_fraction_22 : decode cX3_fraction 22 = .ok (.lconst 0, 1) := by decide +kernel
theorem dX3_fraction_23 : decode cX3_fraction 23 = .ok (.lcmp, 1) := by decide +kernel
theorem dX3_fraction_24 : decode cX3_fraction 24 = .ok (.ifCond .eq 24, 3) := by decide +kernel
theorem dX3_fraction_27 : decode cX3_fraction 27 = .ok (.lload 5, 2) := by decide +kernel
theorem dX3_fraction_29 : decode cX3_fraction 29 = .ok (.lload 7, 2) := by decide +kernel
theorem dX3_fraction_31 : decode cX3_fraction 31 = .ok (.lrem, 1) := by decide +kernel
theorem dX3_fraction_32 : decode cX3_fraction 32 = .ok (.lstore 10, 2) := by decide +kernel
theorem dX3_fraction_34 : decode cX3_fraction 34 = .ok (.lload 7, 2) := by decide +kernel
theorem dX3_fraction_36 : decode cX3_fraction 36 = .ok (.lstore 5, 2) := by decide +kernel
theorem dX3_fraction_38 : decode cX3_fraction 38 = .ok (.lload 10, 2) := by decide +kernel
theorem dX3_fraction_40 : decode cX3_fraction 40 = .ok (.lstore 7, 2) := by decide +kernel
theorem dX3_fraction_42 : decode cX3_fraction 42 = .ok (.iinc 9 1, 3) := by decide +kernel
theorem dX3_fraction_45 : decode cX3_fraction 45 = .ok (.goto (-33), 3) := by decide +kernel
theorem dX3_fraction_48 : decode cX3_fraction 48 = .ok (.lload 5, 2) := by decide +kernel
theorem dX3_fraction_50 : decode cX3_fraction 50 = .ok (.lconst 0, 1) := by decide +kernel
theorem dX3_fraction_51 : decode cX3_fraction 51 = .ok (.lcmp, 1) := by decide +kernel
theorem dX3_fraction_52 : decode cX3_fraction 52 = .ok (.ifCond .ne 5, 3) := by decide +kernel
theorem dX3_fraction_55 : decode cX3_fraction 55 = .ok (.iconst 0, 1) := by decide +kernel
theorem dX3_fraction_56 : decode cX3_fraction 56 = .ok (.ireturn, 1) := by decide +kernel
theorem dX3_fraction_57 : decode cX3_fraction 57 = .ok (.iload 4, 2) := by decide +kernel
theorem dX3_fraction_59 : decode cX3_fraction 59 = .ok (.ifCond .eq 7, 3) := by decide +kernel
theorem dX3_fraction_62 : decode cX3_fraction 62 = .ok (.lload_n 0, 1) := by decide +kernel
theorem dX3_fraction_63 : decode cX3_fraction 63 = .ok (.goto 4, 3) := by decide +kernel
theorem dX3_fraction_66 : decode cX3_fraction 66 = .ok (.lload_n 2, 1) := by decide +kernel
theorem dX3_fraction_67 : decode cX3_fraction 67 = .ok (.lload 5, 2) := by decide +kernel
theorem dX3_fraction_69 : decode cX3_fraction 69 = .ok (.ldiv, 1) := by decide +kernel
theorem dX3_fraction_70 : decode cX3_fraction 70 = .ok (.l2i, 1) := by decide +kernel
theorem dX3_fraction_71 : decode cX3_fraction 71 = .ok (.ireturn, 1) := by decide +kernel
set_option maxRecDepth 20000 in
theorem ggX3_chainOf_X1_init : GoodIn wsX3_chainOf wsX1_init := goodIn_r _ [6, 7, 8, 9, 10, 11, 12, 13, 14, 15, 16, 17, 18] (by decide +kernel) (by decide +kernel)
set_option maxRecDepth 20000 in
theorem gX3_chainOf_X1_init : GoodIn wsX3_chainOf (wsX1_init) := ggX3_chainOf_X1_init
theorem dX3_chainOf_0 : decode cX3_chainOf 0 = .ok (.aconst_null, 1) := by decide +kernel
theorem dX3_chainOf_1 : decode cX3_chainOf 1 = .ok (.astore_n 1, 1) := by decide +kernel
theorem dX3_chainOf_2 : decode cX3_chainOf 2 = .ok (.iconst 0, 1) := by decide +kernel
theorem dX3_chainOf_3 : decode cX3_chainOf 3 = .ok (.istore_n 2, 1) := by decide +kernel
theorem dX3_chainOf_4 : decode cX3_chainOf 4 = .ok (.iload_n 2, 1) := by decide +kernel
theorem dX3_chainOf_5 : decode cX3_chainOf 5 = .ok (.iload_n 0, 1) := by decide +kernel
theorem dX3_chainOf_6 : decode cX3_chainOf 6 = .ok (.if_icmp .ge 18, 3) := by decide +kernel
theorem dX3_chainOf_9 : decode cX3_chainOf 9 = .ok (.new 16, 3) := by decide +kernel
theorem dX3_chainOf_12 : decode cX3_chainOf 12 = .ok (.dup, 1) := by decide +kernel
theorem dX3_chainOf_13 : decode cX3_chainOf 13 = .ok (.aload_n 1, 1) := by decide +kernel
theorem dX3_chainOf_14 : decode cX3_chainOf 14 = .ok (.invokespecial 18, 3) := by decide +kernel
theorem dX3_chainOf_17 : decode cX3_chainOf 17 = .ok (.astore_n 1, 1) := by decide +kernel
theorem dX3_chainOf_18 : decode cX3_chainOf 18 = .ok (.iinc 2 1, 3) := by decide +kernel
theorem dX3_chainOf_21 : decode cX3_chainOf 21 = .ok (.goto (-17), 3) := by decide +kernel
theorem dX3_chainOf_24 : decode cX3_chainOf 24 = .ok (.aload_n 1, 1) := by decide +kernel
theorem dX3_chainOf_25 : decode cX3_chainOf 25 = .ok (.areturn, 1) := by decide +kernel
theorem dX4_init_0 : decode cX4_init 0 = .ok (.aload_n 0, 1) := by decide +kernel
theorem dX4_init_1 : decode cX4_init 1 = .ok (.invokespecial 1, 3) := by decide +kernel
theorem dX4_init_4 : decode cX4_init 4 = .ok (.aload_n 0, 1) := by decide +kernel
theorem dX4_init_5 : decode cX4_init 5 = .ok (.bipush 40, 2) := by decide +kernel
theorem dX4_init_7 : decode cX4_init 7 = .ok (.newarray .int, 2) := by decide +kernel
theorem dX4_init_9 : decode cX4_init 9 = .ok (.putfield 7, 3) := by decide +kernel
theorem dX4_init_12 : decode cX4_init 12 = .ok (.aload_n 0, 1) := by decide +kernel
theorem dX4_init_13 : decode cX4_init 13 = .ok (.bipush 12, 2) := by decide +kernel
theorem dX4_init_15 : decode cX4_init 15 = .ok (.newarray .int, 2) := by decide +kernel
theorem dX4_init_17 : decode cX4_init 17 = .ok (.putfield 13, 3) := by decide +kernel
theorem dX4_init_20 : decode cX4_init 20 = .ok (.aload_n 0, 1) := by decide +kernel
theorem dX4_init_21 : decode cX4_init 21 = .ok (.bipush 12, 2) := by decide +kernel
theorem dX4_init_23 : decode cX4_init 23 = .ok (.newarray .int, 2) := by decide +kernel
theorem dX4_init_25 : decode cX4_init 25 = .ok (.putfield 16, 3) := by decide +kernel
theorem dX4_init_28 : decode cX4_init 28 = .ok (.aload_n 0, 1) := by decide +kernel
theorem dX4_init_29 : decode cX4_init 29 = .ok (.bipush 12, 2) := by decide +kernel
theorem dX4_init_31 : decode cX4_init 31 = .ok (.newarray .int, 2) := by decide +kernel
theorem dX4_init_33 : decode cX4_init 33 = .ok (.putfield 19, 3) := by decide +kernel
theorem dX4_init_36 : decode cX4_init 36 = .ok (.aload_n 0, 1) := by decide +kernel
theorem dX4_init_37 : decode cX4_init 37 = .ok (.bipush 17, 2) := by decide +kernel
theorem dX4_init_39 : decode cX4_init 39 = .ok (.newarray .int, 2) := by decide +kernel
theorem dX4_init_41 : decode cX4_init 41 = .ok (.putfield 22, 3) := by decide +kernel
theorem dX4_init_44 : decode cX4_init 44 = .ok (.aload_n 0, 1) := by decide +kernel
theorem dX4_init_45 : decode cX4_init 45 = .ok (.bipush 17, 2) := by decide +kernel
theorem dX4_init_47 : decode cX4_init 47 = .ok (.newarray .int, 2) := by decide +kernel
theorem dX4_init_49 : decode cX4_init 49 = .ok (.putfield 25, 3) := by decide +kernel
theorem dX4_init_52 : decode cX4_init 52 = .ok (.aload_n 0, 1) := by decide +kernel
theorem dX4_init_53 : decode cX4_init 53 = .ok (.sipush 238, 3) := by decide +kernel
theorem dX4_init_56 : decode cX4_init 56 = .ok (.newarray .int, 2) := by decide +kernel
theorem dX4_init_58 : decode cX4_init 58 = .ok (.putfield 28, 3) := by decide +kernel
theorem dX4_init_61 : decode cX4_init 61 = .ok (.aload_n 0, 1) := by decide +kernel
theorem dX4_init_62 : decode cX4_init 62 = .ok (.bipush 34, 2) := by decide +kernel
theorem dX4_init_64 : decode cX4_init 64 = .ok (.newarray .int, 2) := by decide +kernel
theorem dX4_init_66 : decode cX4_init 66 = .ok (.putfield 31, 3) := by decide +kernel
theorem dX4_init_69 : decode cX4_init 69 = .ok (.aload_n 0, 1) := by decide +kernel
theorem dX4_init_70 : decode cX4_init 70 = .ok (.iconst 2, 1) := by decide +kernel
theorem dX4_init_71 : decode cX4_init 71 = .ok (.newarray .boolean, 2) := by decide +kernel
theorem dX4_init_73 : decode cX4_init 73 = .ok (.putfield 34, 3) := by decide +kernel
theorem dX4_init_76 : decode cX4_init 76 = .ok (.aload_n 0, 1) := by decide +kernel
theorem dX4_init_77 : decode cX4_init 77 = .ok (.bipush 12, 2) := by decide +kernel
theorem dX4_init_79 : decode cX4_init 79 = .ok (.newarray .int, 2) := by decide +kernel
theorem dX4_init_81 : decode cX4_init 81 = .ok (.putfield 38, 3) := by decide +kernel
theorem dX4_init_84 : decode cX4_init 84 = .ok (.aload_n 0, 1) := by decide +kernel
theorem dX4_init_85 : decode cX4_init 85 = .ok (.bipush 17, 2) := by decide +kernel
theorem dX4_init_87 : decode cX4_init 87 = .ok (.newarray .int, 2) := by decide +kernel
theorem dX4_init_89 : decode cX4_init 89 = .ok (.putfield 41, 3) := by decide +kernel
theorem dX4_init_92 : decode cX4_init 92 = .ok (.aload_n 0, 1) := by decide +kernel
theorem dX4_init_93 : decode cX4_init 93 = .ok (.sipush 256, 3) := by decide +kernel
theorem dX4_init_96 : decode cX4_init 96 = .ok (.newarray .int, 2) := by decide +kernel
theorem dX4_init_98 : decode cX4_init 98 = .ok (.putfield 44, 3) := by decide +kernel
theorem dX4_init_101 : decode cX4_init 101 = .ok (.aload_n 0, 1) := by decide +kernel
theorem dX4_init_102 : decode cX4_init 102 = .ok (.bipush 8, 2) := by decide +kernel
theorem dX4_init_104 : decode cX4_init 104 = .ok (.newarray .int, 2) := by decide +kernel
theorem dX4_init_106 : decode cX4_init 106 = .ok (.putfield 47, 3) := by decide +kernel
theorem dX4_init_109 : decode cX4_init 109 = .ok (.return_, 1) := by decide +kernel
theorem dX4_in_0 : decode cX4_in 0 = .ok (.lload_n 0, 1) := by decide +kernel
theorem dX4_in_1 : decode cX4_in 1 = .ok (.lload_n 2, 1) := by decide +kernel
theorem dX4_in_2 : decode cX4_in 2 = .ok (.lcmp, 1) := by decide +kernel
theorem dX4_in_3 : decode cX4_in 3 = .ok (.ifCond .lt 14, 3) := by decide +kernel
theorem dX4_in_6 : decode cX4_in 6 = .ok (.lload_n 0, 1) := by decide +kernel
theorem dX4_in_7 : decode cX4_in 7 = .ok (.lload 4, 2) := by decide +kernel
theorem dX4_in_9 : decode cX4_in 9 = .ok (.lcmp, 1) := by decide +kernel
theorem dX4_in_10 : decode cX4_in 10 = .ok (.ifCond .gt 7, 3) := by decide +kernel
theorem dX4_in_13 : decode cX4_in 13 = .ok (.iconst 1, 1) := by decide +kernel
theorem dX4_in_14 : decode cX4_in 14 = .ok (.goto 4, 3) := by decide +kernel
theorem dX4_in_17 : decode cX4_in 17 = .ok (.iconst 0, 1) := by decide +kernel
theorem dX4_in_18 : decode cX4_in 18 = .ok (.ireturn, 1) := by decide +kernel
theorem dX4_has_0 : decode cX4_has 0 = .ok (.iload_n 0, 1) := by decide +kernel
theorem dX4_has_1 : decode cX4_has 1 = .ok (.iload_n 1, 1) := by decide +kernel
theorem dX4_has_2 : decode cX4_has 2 = .ok (.ishr, 1) := by decide +kernel
theorem dX4_has_3 : decode cX4_has 3 = .ok (.iconst 1, 1) := by decide +kernel
theorem dX4_has_4 : decode cX4_has 4 = .ok (.iand, 1) := by decide +kernel
theorem dX4_has_5 : decode cX4_has 5 = .ok (.iconst 1, 1) := by decide +kernel
theorem dX4_has_6 : decode cX4_has 6 = .ok (.if_icmp .ne 7, 3) := by decide +kernel
theorem dX4_has_9 : decode cX4_has 9 = .ok (.iconst 1, 1) := by decide +kernel
theorem dX4_has_10 : decode cX4_has 10 = .ok (.goto 4, 3) := by decide +kernel
theorem dX4_has_13 : decode cX4_has 13 = .ok (.iconst 0, 1) := by decide +kernel
theorem dX4_has_14 : decode cX4_has 14 = .ok (.ireturn, 1) := by decide +kernel
theorem dX4_many_0 : decode cX4_many 0 = .ok (.iconst 0, 1) := by decide +kernel
theorem dX4_many_1 : decode cX4_many 1 = .ok (.istore_n 1, 1) := by decide +kernel
theorem dX4_many_2 : decode cX4_many 2 = .ok (.iconst 0, 1) := by decide +kernel
theorem dX4_many_3 : decode cX4_many 3 = .ok (.istore_n 2, 1) := by decide +kernel
theorem dX4_many_4 : decode cX4_many 4 = .ok (.iload_n 2, 1) := by decide +kernel
theorem dX4_many_5 : decode cX4_many 5 = .ok (.bipush 8, 2) := by decide +kernel
theorem dX4_many_7 : decode cX4_many 7 = .ok (.if_icmp .ge 17, 3) := by decide +kernel
theorem dX4_many_10 : decode cX4_many 10 = .ok (.iload_n 1, 1) := by decide +kernel
theorem dX4_many_11 : decode cX4_many 11 = .ok (.iload_n 0, 1) := by decide +kernel
theorem dX4_many_12 : decode cX4_many 12 = .ok (.iload_n 2, 1) := by decide +kernel
theorem dX4_many_13 : decode cX4_many 13 = .ok (.ishr, 1) := by decide +kernel
