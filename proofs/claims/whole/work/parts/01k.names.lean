theorem dX4_share_217 : decode cX4_share 217 = .ok (.ior, 1) := by decide +kernel
theorem dX4_share_218 : decode cX4_share 218 = .ok (.iaload, 1) := by decide +kernel
theorem dX4_share_219 : decode cX4_share 219 = .ok (.aload_n 0, 1) := by decide +kernel
theorem dX4_share_220 : decode cX4_share 220 = .ok (.getfield 44, 3) := by decide +kernel
theorem dX4_share_223 : decode cX4_share 223 = .ok (.iload 6, 2) := by decide +kernel
theorem dX4_share_225 : decode cX4_share 225 = .ok (.iaload, 1) := by decide +kernel
theorem dX4_share_226 : decode cX4_share 226 = .ok (.isub, 1) := by decide +kernel
theorem dX4_share_227 : decode cX4_share 227 = .ok (.imul, 1) := by decide +kernel
theorem dX4_share_228 : decode cX4_share 228 = .ok (.iadd, 1) := by decide +kernel
theorem dX4_share_229 : decode cX4_share 229 = .ok (.istore 5, 2) := by decide +kernel
theorem dX4_share_231 : decode cX4_share 231 = .ok (.iinc 6 1, 3) := by decide +kernel
theorem dX4_share_234 : decode cX4_share 234 = .ok (.goto (-69), 3) := by decide +kernel
theorem dX4_share_237 : decode cX4_share 237 = .ok (.iload 5, 2) := by decide +kernel
theorem dX4_share_239 : decode cX4_share 239 = .ok (.iload 4, 2) := by decide +kernel
theorem dX4_share_241 : decode cX4_share 241 = .ok (.invokestatic 181, 3) := by decide +kernel
theorem dX4_share_244 : decode cX4_share 244 = .ok (.iload_n 2, 1) := by decide +kernel
theorem dX4_share_245 : decode cX4_share 245 = .ok (.invokestatic 184, 3) := by decide +kernel
theorem dX4_share_248 : decode cX4_share 248 = .ok (.ireturn, 1) := by decide +kernel
theorem dX4_seenOf_0 : decode cX4_seenOf 0 = .ok (.iload_n 0, 1) := by decide +kernel
theorem dX4_seenOf_1 : decode cX4_seenOf 1 = .ok (.iload_n 1, 1) := by decide +kernel
theorem dX4_seenOf_2 : decode cX4_seenOf 2 = .ok (.iadd, 1) := by decide +kernel
theorem dX4_seenOf_3 : decode cX4_seenOf 3 = .ok (.iload_n 2, 1) := by decide +kernel
theorem dX4_seenOf_4 : decode cX4_seenOf 4 = .ok (.if_icmp .le 11, 3) := by decide +kernel
theorem dX4_seenOf_7 : decode cX4_seenOf 7 = .ok (.iload_n 0, 1) := by decide +kernel
theorem dX4_seenOf_8 : decode cX4_seenOf 8 = .ok (.iload_n 1, 1) := by decide +kernel
theorem dX4_seenOf_9 : decode cX4_seenOf 9 = .ok (.iadd, 1) := by decide +kernel
theorem dX4_seenOf_10 : decode cX4_seenOf 10 = .ok (.iload_n 2, 1) := by decide +kernel
theorem dX4_seenOf_11 : decode cX4_seenOf 11 = .ok (.isub, 1) := by decide +kernel
theorem dX4_seenOf_12 : decode cX4_seenOf 12 = .ok (.goto 4, 3) := by decide +kernel
theorem dX4_seenOf_15 : decode cX4_seenOf 15 = .ok (.iconst 0, 1) := by decide +kernel
theorem dX4_seenOf_16 : decode cX4_seenOf 16 = .ok (.ireturn, 1) := by decide +kernel
set_option maxRecDepth 20000 in
theorem ggX4_findRests_X4_seenOf : GoodIn wsX4_findRests wsX4_seenOf := goodIn_r _ [6] (by decide +kernel) (by decide +kernel)
set_option maxRecDepth 20000 in
theorem gX4_findRests_X4_seenOf : GoodIn wsX4_findRests (va_wsS RX4 194 yX4_seenOf wsX4_seenOf) := goodIn_app (goodIn_of _ (by decide +kernel)) ggX4_findRests_X4_seenOf
theorem dX4_findRests_0 : decode cX4_findRests 0 = .ok (.aload_n 0, 1) := by decide +kernel
theorem dX4_findRests_1 : decode cX4_findRests 1 = .ok (.iconst 0, 1) := by decide +kernel
theorem dX4_findRests_2 : decode cX4_findRests 2 = .ok (.putfield 188, 3) := by decide +kernel
theorem dX4_findRests_5 : decode cX4_findRests 5 = .ok (.aload_n 0, 1) := by decide +kernel
theorem dX4_findRests_6 : decode cX4_findRests 6 = .ok (.bipush (-9), 2) := by decide +kernel
theorem dX4_findRests_8 : decode cX4_findRests 8 = .ok (.putfield 191, 3) := by decide +kernel
theorem dX4_findRests_11 : decode cX4_findRests 11 = .ok (.iconst 0, 1) := by decide +kernel
theorem dX4_findRests_12 : decode cX4_findRests 12 = .ok (.istore_n 2, 1) := by decide +kernel
theorem dX4_findRests_13 : decode cX4_findRests 13 = .ok (.iload_n 2, 1) := by decide +kernel
theorem dX4_findRests_14 : decode cX4_findRests 14 = .ok (.iload_n 1, 1) := by decide +kernel
theorem dX4_findRests_15 : decode cX4_findRests 15 = .ok (.if_icmp .gt 162, 3) := by decide +kernel
theorem dX4_findRests_18 : decode cX4_findRests 18 = .ok (.iconst 0, 1) := by decide +kernel
theorem dX4_findRests_19 : decode cX4_findRests 19 = .ok (.istore_n 3, 1) := by decide +kernel
theorem dX4_findRests_20 : decode cX4_findRests 20 = .ok (.iload_n 3, 1) := by decide +kernel
theorem dX4_findRests_21 : decode cX4_findRests 21 = .ok (.iload_n 1, 1) := by decide +kernel
theorem dX4_findRests_22 : decode cX4_findRests 22 = .ok (.if_icmp .gt 149, 3) := by decide +kernel
theorem dX4_findRests_25 : decode cX4_findRests 25 = .ok (.iconst 4, 1) := by decide +kernel
theorem dX4_findRests_26 : decode cX4_findRests 26 = .ok (.iload_n 2, 1) := by decide +kernel
theorem dX4_findRests_27 : decode cX4_findRests 27 = .ok (.iload_n 3, 1) := by decide +kernel
theorem dX4_findRests_28 : decode cX4_findRests 28 = .ok (.iload_n 1, 1) := by decide +kernel
theorem dX4_findRests_29 : decode cX4_findRests 29 = .ok (.invokestatic 194, 3) := by decide +kernel
theorem dX4_findRests_32 : decode cX4_findRests 32 = .ok (.imul, 1) := by decide +kernel
theorem dX4_findRests_33 : decode cX4_findRests 33 = .ok (.iload_n 2, 1) := by decide +kernel
theorem dX4_findRests_34 : decode cX4_findRests 34 = .ok (.isub, 1) := by decide +kernel
theorem dX4_findRests_35 : decode cX4_findRests 35 = .ok (.istore 4, 2) := by decide +kernel
theorem dX4_findRests_37 : decode cX4_findRests 37 = .ok (.iconst 2, 1) := by decide +kernel
theorem dX4_findRests_38 : decode cX4_findRests 38 = .ok (.iload_n 3, 1) := by decide +kernel
theorem dX4_findRests_39 : decode cX4_findRests 39 = .ok (.imul, 1) := by decide +kernel
theorem dX4_findRests_40 : decode cX4_findRests 40 = .ok (.iconst 5, 1) := by decide +kernel
theorem dX4_findRests_41 : decode cX4_findRests 41 = .ok (.iload_n 2, 1) := by decide +kernel
theorem dX4_findRests_42 : decode cX4_findRests 42 = .ok (.iload_n 3, 1) := by decide +kernel
theorem dX4_findRests_43 : decode cX4_findRests 43 = .ok (.iload_n 1, 1) := by decide +kernel
theorem dX4_findRests_44 : decode cX4_findRests 44 = .ok (.invokestatic 194, 3) := by decide +kernel
theorem dX4_findRests_47 : decode cX4_findRests 47 = .ok (.imul, 1) := by decide +kernel
theorem dX4_findRests_48 : decode cX4_findRests 48 = .ok (.isub, 1) := by decide +kernel
theorem dX4_findRests_49 : decode cX4_findRests 49 = .ok (.istore 5, 2) := by decide +kernel
theorem dX4_findRests_51 : decode cX4_findRests 51 = .ok (.iconst 1, 1) := by decide +kernel
theorem dX4_findRests_52 : decode cX4_findRests 52 = .ok (.istore 6, 2) := by decide +kernel
theorem dX4_findRests_54 : decode cX4_findRests 54 = .ok (.iconst 0, 1) := by decide +kernel
theorem dX4_findRests_55 : decode cX4_findRests 55 = .ok (.istore 7, 2) := by decide +kernel
theorem dX4_findRests_57 : decode cX4_findRests 57 = .ok (.iload 7, 2) := by decide +kernel
theorem dX4_findRests_59 : decode cX4_findRests 59 = .ok (.iload_n 1, 1) := by decide +kernel
theorem dX4_findRests_60 : decode cX4_findRests 60 = .ok (.if_icmp .gt 57, 3) := by decide +kernel
theorem dX4_findRests_63 : decode cX4_findRests 63 = .ok (.iload 6, 2) := by decide +kernel
theorem dX4_findRests_65 : decode cX4_findRests 65 = .ok (.ifCond .eq 43, 3) := by decide +kernel
theorem dX4_findRests_68 : decode cX4_findRests 68 = .ok (.iconst 4, 1) := by decide +kernel
theorem dX4_findRests_69 : decode cX4_findRests 69 = .ok (.iload 7, 2) := by decide +kernel
theorem dX4_findRests_71 : decode cX4_findRests 71 = .ok (.iload_n 3, 1) := by decide +kernel
theorem dX4_findRests_72 : decode cX4_findRests 72 = .ok (.iload_n 1, 1) := by decide +kernel
theorem dX4_findRests_73 : decode cX4_findRests 73 = .ok (.invokestatic 194, 3) := by decide +kernel
theorem dX4_findRests_76 : decode cX4_findRests 76 = .ok (.imul, 1) := by decide +kernel
theorem dX4_findRests_77 : decode cX4_findRests 77 = .ok (.iload 7, 2) := by decide +kernel
theorem dX4_findRests_79 : decode cX4_findRests 79 = .ok (.isub, 1) := by decide +kernel
theorem dX4_findRests_80 : decode cX4_findRests 80 = .ok (.iload 4, 2) := by decide +kernel
theorem dX4_findRests_82 : decode cX4_findRests 82 = .ok (.if_icmp .gt 26, 3) := by decide +kernel
theorem dX4_findRests_85 : decode cX4_findRests 85 = .ok (.iconst 2, 1) := by decide +kernel
theorem dX4_findRests_86 : decode cX4_findRests 86 = .ok (.iload 7, 2) := by decide +kernel
theorem dX4_findRests_88 : decode cX4_findRests 88 = .ok (.imul, 1) := by decide +kernel
theorem dX4_findRests_89 : decode cX4_findRests 89 = .ok (.iconst 5, 1) := by decide +kernel
theorem dX4_findRests_90 : decode cX4_findRests 90 = .ok (.iload_n 2, 1) := by decide +kernel
theorem dX4_findRests_91 : decode cX4_findRests 91 = .ok (.iload 7, 2) := by decide +kernel
theorem dX4_findRests_93 : decode cX4_findRests 93 = .ok (.iload_n 1, 1) := by decide +kernel
theorem dX4_findRests_94 : decode cX4_findRests 94 = .ok (.invokestatic 194, 3) := by decide +kernel
theorem dX4_findRests_97 : decode cX4_findRests 97 = .ok (.imul, 1) := by decide +kernel
theorem dX4_findRests_98 : decode cX4_findRests 98 = .ok (.isub, 1) := by decide +kernel
theorem dX4_findRests_99 : decode cX4_findRests 99 = .ok (.iload 5, 2) := by decide +kernel
theorem dX4_findRests_101 : decode cX4_findRests 101 = .ok (.if_icmp .gt 7, 3) := by decide +kernel
theorem dX4_findRests_104 : decode cX4_findRests 104 = .ok (.iconst 1, 1) := by decide +kernel
theorem dX4_findRests_105 : decode cX4_findRests 105 = .ok (.goto 4, 3) := by decide +kernel
theorem dX4_findRests_108 : decode cX4_findRests 108 = .ok (.iconst 0, 1) := by decide +kernel
theorem dX4_findRests_109 : decode cX4_findRests 109 = .ok (.istore 6, 2) := by decide +kernel
theorem dX4_findRests_111 : decode cX4_findRests 111 = .ok (.iinc 7 1, 3) := by decide +kernel
theorem dX4_findRests_114 : decode cX4_findRests 114 = .ok (.goto (-57), 3) := by decide +kernel
theorem dX4_findRests_117 : decode cX4_findRests 117 = .ok (.aload_n 0, 1) := by decide +kernel
theorem dX4_findRests_118 : decode cX4_findRests 118 = .ok (.iload 6, 2) := by decide +kernel
theorem dX4_findRests_120 : decode cX4_findRests 120 = .ok (.ifCond .eq 19, 3) := by decide +kernel
theorem dX4_findRests_123 : decode cX4_findRests 123 = .ok (.aload_n 0, 1) := by decide +kernel
theorem dX4_findRests_124 : decode cX4_findRests 124 = .ok (.getfield 188, 3) := by decide +kernel
theorem dX4_findRests_127 : decode cX4_findRests 127 = .ok (.ifCond .ne 12, 3) := by decide +kernel
theorem dX4_findRests_130 : decode cX4_findRests 130 = .ok (.bipush 10, 2) := by decide +kernel
theorem dX4_findRests_132 : decode cX4_findRests 132 = .ok (.iload_n 2, 1) := by decide +kernel
theorem dX4_findRests_133 : decode cX4_findRests 133 = .ok (.imul, 1) := by decide +kernel
theorem dX4_findRests_134 : decode cX4_findRests 134 = .ok (.iload_n 3, 1) := by decide +kernel
theorem dX4_findRests_135 : decode cX4_findRests 135 = .ok (.iadd, 1) := by decide +kernel
theorem dX4_findRests_136 : decode cX4_findRests 136 = .ok (.goto 7, 3) := by decide +kernel
theorem dX4_findRests_139 : decode cX4_findRests 139 = .ok (.aload_n 0, 1) := by decide +kernel
theorem dX4_findRests_140 : decode cX4_findRests 140 = .ok (.getfield 191, 3) := by decide +kernel
theorem dX4_findRests_143 : decode cX4_findRests 143 = .ok (.putfield 191, 3) := by decide +kernel
theorem dX4_findRests_146 : decode cX4_findRests 146 = .ok (.aload_n 0, 1) := by decide +kernel
theorem dX4_findRests_147 : decode cX4_findRests 147 = .ok (.dup, 1) := by decide +kernel
theorem dX4_findRests_148 : decode cX4_findRests 148 = .ok (.getfield 188, 3) := by decide +kernel
theorem dX4_findRests_151 : decode cX4_findRests 151 = .ok (.iload 6, 2) := by decide +kernel
theorem dX4_findRests_153 : decode cX4_findRests 153 = .ok (.ifCond .eq 7, 3) := by decide +kernel
theorem dX4_findRests_156 : decode cX4_findRests 156 = .ok (.iconst 1, 1) := by decide +kernel
theorem dX4_findRests_157 : decode cX4_findRests 157 = .ok (.goto 4, 3) := by decide +kernel
theorem dX4_findRests_160 : decode cX4_findRests 160 = .ok (.iconst 0, 1) := by decide +kernel
theorem dX4_findRests_161 : decode cX4_findRests 161 = .ok (.iadd, 1) := by decide +kernel
theorem dX4_findRests_162 : decode cX4_findRests 162 = .ok (.putfield 188, 3) := by decide +kernel
theorem dX4_findRests_165 : decode cX4_findRests 165 = .ok (.iinc 3 1, 3) := by decide +kernel
theorem dX4_findRests_168 : decode cX4_findRests 168 = .ok (.goto (-148), 3) := by decide +kernel
theorem dX4_findRests_171 : decode cX4_findRests 171 = .ok (.iinc 2 1, 3) := by decide +kernel
theorem dX4_findRests_174 : decode cX4_findRests 174 = .ok (.goto (-161), 3) := by decide +kernel
theorem dX4_findRests_177 : decode cX4_findRests 177 = .ok (.return_, 1) := by decide +kernel
set_option maxRecDepth 20000 in
theorem ggX4_rests_X4_in : GoodIn wsX4_rests wsX4_in := goodIn_r _ [8] (by decide +kernel) (by decide +kernel)
set_option maxRecDepth 20000 in
theorem gX4_rests_X4_in : GoodIn wsX4_rests (va_wsS RX4 56 yX4_in wsX4_in) := goodIn_app (goodIn_of _ (by decide +kernel)) ggX4_rests_X4_in
set_option maxRecDepth 20000 in
theorem ggX4_rests_X4_signsOf : GoodIn wsX4_rests wsX4_signsOf := goodIn_r _ [11] (by decide +kernel) (by decide +kernel)
set_option maxRecDepth 20000 in
theorem gX4_rests_X4_signsOf : GoodIn wsX4_rests (va_wsS RX4 96 yX4_signsOf wsX4_signsOf) := goodIn_app (goodIn_of _ (by decide +kernel)) ggX4_rests_X4_signsOf
set_option maxRecDepth 20000 in
theorem ggX4_rests_X4_findRests : GoodIn wsX4_rests wsX4_findRests := goodIn_r _ [15, 3, 4, 16, 17, 7, 18, 19, 20, 21, 22, 23, 24, 25, 26, 27, 28, 29, 30, 31, 32, 33, 34, 35, 36, 37, 38, 39, 40, 41, 42, 43] (by decide +kernel) (by decide +kernel)
set_option maxRecDepth 20000 in
theorem gX4_rests_X4_findRests : GoodIn wsX4_rests (wsV RX4 197 RX4 yX4_findRests wsX4_findRests) := goodIn_app (goodIn_of _ (by decide +kernel)) ggX4_rests_X4_findRests
theorem dX4_rests_0 : decode cX4_rests 0 = .ok (.aload_n 0, 1) := by decide +kernel
theorem dX4_rests_1 : decode cX4_rests 1 = .ok (.iconst 0, 1) := by decide +kernel
theorem dX4_rests_2 : decode cX4_rests 2 = .ok (.putfield 50, 3) := by decide +kernel
theorem dX4_rests_5 : decode cX4_rests 5 = .ok (.iload_n 1, 1) := by decide +kernel
theorem dX4_rests_6 : decode cX4_rests 6 = .ok (.i2l, 1) := by decide +kernel
theorem dX4_rests_7 : decode cX4_rests 7 = .ok (.lconst 0, 1) := by decide +kernel
theorem dX4_rests_8 : decode cX4_rests 8 = .ok (.lconst 1, 1) := by decide +kernel
theorem dX4_rests_9 : decode cX4_rests 9 = .ok (.invokestatic 56, 3) := by decide +kernel
theorem dX4_rests_12 : decode cX4_rests 12 = .ok (.ifCond .ne 6, 3) := by decide +kernel
theorem dX4_rests_15 : decode cX4_rests 15 = .ok (.bipush (-2), 2) := by decide +kernel
theorem dX4_rests_17 : decode cX4_rests 17 = .ok (.ireturn, 1) := by decide +kernel
theorem dX4_rests_18 : decode cX4_rests 18 = .ok (.aload_n 0, 1) := by decide +kernel
theorem dX4_rests_19 : decode cX4_rests 19 = .ok (.aload_n 0, 1) := by decide +kernel
theorem dX4_rests_20 : decode cX4_rests 20 = .ok (.getfield 22, 3) := by decide +kernel
theorem dX4_rests_23 : decode cX4_rests 23 = .ok (.invokestatic 96, 3) := by decide +kernel
theorem dX4_rests_26 : decode cX4_rests 26 = .ok (.iconst 4, 1) := by decide +kernel
theorem dX4_rests_27 : decode cX4_rests 27 = .ok (.if_icmp .le 7, 3) := by decide +kernel
theorem dX4_rests_30 : decode cX4_rests 30 = .ok (.iconst 4, 1) := by decide +kernel
theorem dX4_rests_31 : decode cX4_rests 31 = .ok (.goto 10, 3) := by decide +kernel
theorem dX4_rests_34 : decode cX4_rests 34 = .ok (.aload_n 0, 1) := by decide +kernel
theorem dX4_rests_35 : decode cX4_rests 35 = .ok (.getfield 22, 3) := by decide +kernel
theorem dX4_rests_38 : decode cX4_rests 38 = .ok (.invokestatic 96, 3) := by decide +kernel
theorem dX4_rests_41 : decode cX4_rests 41 = .ok (.invokevirtual 197, 3) := by decide +kernel
theorem dX4_rests_44 : decode cX4_rests 44 = .ok (.iload_n 1, 1) := by decide +kernel
theorem dX4_rests_45 : decode cX4_rests 45 = .ok (.ifCond .ne 10, 3) := by decide +kernel
theorem dX4_rests_48 : decode cX4_rests 48 = .ok (.aload_n 0, 1) := by decide +kernel
theorem dX4_rests_49 : decode cX4_rests 49 = .ok (.getfield 188, 3) := by decide +kernel
theorem dX4_rests_52 : decode cX4_rests 52 = .ok (.goto 7, 3) := by decide +kernel
theorem dX4_rests_55 : decode cX4_rests 55 = .ok (.aload_n 0, 1) := by decide +kernel
theorem dX4_rests_56 : decode cX4_rests 56 = .ok (.getfield 191, 3) := by decide +kernel
theorem dX4_rests_59 : decode cX4_rests 59 = .ok (.ireturn, 1) := by decide +kernel
set_option maxRecDepth 20000 in
theorem ggX4_chance_X4_noRow : GoodIn wsX4_chance wsX4_noRow := goodIn_r _ [10, 11, 12, 9, 13, 14, 15, 16] (by decide +kernel) (by decide +kernel)
set_option maxRecDepth 20000 in
theorem gX4_chance_X4_noRow : GoodIn wsX4_chance (va_wsS RX4 159 yX4_noRow wsX4_noRow) := goodIn_app (goodIn_of _ (by decide +kernel)) ggX4_chance_X4_noRow
set_option maxRecDepth 20000 in
theorem ggX4_chance_X4_in : GoodIn wsX4_chance wsX4_in := goodIn_r _ [13] (by decide +kernel) (by decide +kernel)
set_option maxRecDepth 20000 in
theorem gX4_chance_X4_in : GoodIn wsX4_chance (va_wsS RX4 56 yX4_in wsX4_in) := goodIn_app (goodIn_of _ (by decide +kernel)) ggX4_chance_X4_in
set_option maxRecDepth 20000 in
theorem ggX4_chance_X4_copy : GoodIn wsX4_chance wsX4_copy := goodIn_r _ [19] (by decide +kernel) (by decide +kernel)
set_option maxRecDepth 20000 in
theorem gX4_chance_X4_copy : GoodIn wsX4_chance (va_wsS RX4 146 yX4_copy wsX4_copy) := goodIn_app (goodIn_of _ (by decide +kernel)) ggX4_chance_X4_copy
set_option maxRecDepth 20000 in
theorem ggX4_chance_X4_goRow : GoodIn wsX4_chance wsX4_goRow := goodIn_r _ [23, 6, 5, 24, 14, 15, 9, 16, 25, 26, 27, 28, 29, 30, 31, 32, 33, 34, 35, 36, 37, 38, 39, 40, 41, 42, 43, 44, 54, 55, 56, 57, 58, 59, 60, 61, 62, 63, 64, 65, 66, 67, 68, 69, 70, 71, 72, 73, 74, 75, 76, 77, 78] (by decide +kernel) (by decide +kernel)
set_option maxRecDepth 20000 in
theorem gX4_chance_X4_goRow : GoodIn wsX4_chance (wsV RX4 168 RX4 yX4_goRow wsX4_goRow) := goodIn_app (goodIn_of _ (by decide +kernel)) ggX4_chance_X4_goRow
set_option maxRecDepth 20000 in
theorem ggX4_chance_X4_many : GoodIn wsX4_chance wsX4_many := goodIn_r _ [47] (by decide +kernel) (by decide +kernel)
set_option maxRecDepth 20000 in
theorem gX4_chance_X4_many : GoodIn wsX4_chance (va_wsS RX4 178 yX4_many wsX4_many) := goodIn_app (goodIn_of _ (by decide +kernel)) ggX4_chance_X4_many
set_option maxRecDepth 20000 in
theorem ggX4_chance_X4_power : GoodIn wsX4_chance wsX4_power := goodIn_r _ [16] (by decide +kernel) (by decide +kernel)
set_option maxRecDepth 20000 in
theorem gX4_chance_X4_power : GoodIn wsX4_chance (va_wsS RX4 143 yX4_power wsX4_power) := goodIn_app (goodIn_of _ (by decide +kernel)) ggX4_chance_X4_power
set_option maxRecDepth 20000 in
theorem ggX4_chance_X4_fraction : GoodIn wsX4_chance wsX4_fraction := goodIn_r _ [50, 51, 52, 9, 53] (by decide +kernel) (by decide +kernel)
set_option maxRecDepth 20000 in
theorem gX4_chance_X4_fraction : GoodIn wsX4_chance (va_wsS RX4 184 yX4_fraction wsX4_fraction) := goodIn_app (goodIn_of _ (by decide +kernel)) ggX4_chance_X4_fraction
theorem dX4_chance_0 : decode cX4_chance 0 = .ok (.aload_n 0, 1) := by decide +kernel
theorem dX4_chance_1 : decode cX4_chance 1 = .ok (.iconst 0, 1) := by decide +kernel
theorem dX4_chance_2 : decode cX4_chance 2 = .ok (.putfield 50, 3) := by decide +kernel
theorem dX4_chance_5 : decode cX4_chance 5 = .ok (.iload_n 1, 1) := by decide +kernel
theorem dX4_chance_6 : decode cX4_chance 6 = .ok (.iconst 5, 1) := by decide +kernel
theorem dX4_chance_7 : decode cX4_chance 7 = .ok (.iload_n 2, 1) := by decide +kernel
theorem dX4_chance_8 : decode cX4_chance 8 = .ok (.invokestatic 159, 3) := by decide +kernel
theorem dX4_chance_11 : decode cX4_chance 11 = .ok (.ifCond .ne 28, 3) := by decide +kernel
theorem dX4_chance_14 : decode cX4_chance 14 = .ok (.iload_n 3, 1) := by decide +kernel
theorem dX4_chance_15 : decode cX4_chance 15 = .ok (.i2l, 1) := by decide +kernel
theorem dX4_chance_16 : decode cX4_chance 16 = .ok (.lconst 0, 1) := by decide +kernel
theorem dX4_chance_17 : decode cX4_chance 17 = .ok (.ldc2_w 150, 3) := by decide +kernel
theorem dX4_chance_20 : decode cX4_chance 20 = .ok (.invokestatic 56, 3) := by decide +kernel
theorem dX4_chance_23 : decode cX4_chance 23 = .ok (.ifCond .eq 16, 3) := by decide +kernel
theorem dX4_chance_26 : decode cX4_chance 26 = .ok (.iload 4, 2) := by decide +kernel
theorem dX4_chance_28 : decode cX4_chance 28 = .ok (.i2l, 1) := by decide +kernel
theorem dX4_chance_29 : decode cX4_chance 29 = .ok (.lconst 0, 1) := by decide +kernel
theorem dX4_chance_30 : decode cX4_chance 30 = .ok (.ldc2_w 200, 3) := by decide +kernel
theorem dX4_chance_33 : decode cX4_chance 33 = .ok (.invokestatic 56, 3) := by decide +kernel
theorem dX4_chance_36 : decode cX4_chance 36 = .ok (.ifCond .ne 6, 3) := by decide +kernel
theorem dX4_chance_39 : decode cX4_chance 39 = .ok (.bipush (-2), 2) := by decide +kernel
theorem dX4_chance_41 : decode cX4_chance 41 = .ok (.ireturn, 1) := by decide +kernel
theorem dX4_chance_42 : decode cX4_chance 42 = .ok (.aload_n 0, 1) := by decide +kernel
theorem dX4_chance_43 : decode cX4_chance 43 = .ok (.getfield 22, 3) := by decide +kernel
theorem dX4_chance_46 : decode cX4_chance 46 = .ok (.aload_n 0, 1) := by decide +kernel
theorem dX4_chance_47 : decode cX4_chance 47 = .ok (.getfield 25, 3) := by decide +kernel
theorem dX4_chance_50 : decode cX4_chance 50 = .ok (.invokestatic 146, 3) := by decide +kernel
theorem dX4_chance_53 : decode cX4_chance 53 = .ok (.aload_n 0, 1) := by decide +kernel
theorem dX4_chance_54 : decode cX4_chance 54 = .ok (.iload_n 1, 1) := by decide +kernel
theorem dX4_chance_55 : decode cX4_chance 55 = .ok (.iload_n 2, 1) := by decide +kernel
theorem dX4_chance_56 : decode cX4_chance 56 = .ok (.invokevirtual 168, 3) := by decide +kernel
theorem dX4_chance_59 : decode cX4_chance 59 = .ok (.ifCond .ne 14, 3) := by decide +kernel
theorem dX4_chance_62 : decode cX4_chance 62 = .ok (.iload 5, 2) := by decide +kernel
theorem dX4_chance_64 : decode cX4_chance 64 = .ok (.ifCond .eq 7, 3) := by decide +kernel
theorem dX4_chance_67 : decode cX4_chance 67 = .ok (.iconst 0, 1) := by decide +kernel
theorem dX4_chance_68 : decode cX4_chance 68 = .ok (.goto 4, 3) := by decide +kernel
theorem dX4_chance_71 : decode cX4_chance 71 = .ok (.iconst 1, 1) := by decide +kernel
theorem dX4_chance_72 : decode cX4_chance 72 = .ok (.ireturn, 1) := by decide +kernel
theorem dX4_chance_73 : decode cX4_chance 73 = .ok (.iconst 0, 1) := by decide +kernel
theorem dX4_chance_74 : decode cX4_chance 74 = .ok (.istore 6, 2) := by decide +kernel
theorem dX4_chance_76 : decode cX4_chance 76 = .ok (.iconst 0, 1) := by decide +kernel
theorem dX4_chance_77 : decode cX4_chance 77 = .ok (.istore 7, 2) := by decide +kernel
theorem dX4_chance_79 : decode cX4_chance 79 = .ok (.iload 7, 2) := by decide +kernel
theorem dX4_chance_81 : decode cX4_chance 81 = .ok (.iconst 1, 1) := by decide +kernel
theorem dX4_chance_82 : decode cX4_chance 82 = .ok (.aload_n 0, 1) := by decide +kernel
theorem dX4_chance_83 : decode cX4_chance 83 = .ok (.getfield 163, 3) := by decide +kernel
theorem dX4_chance_86 : decode cX4_chance 86 = .ok (.ishl, 1) := by decide +kernel
theorem dX4_chance_87 : decode cX4_chance 87 = .ok (.if_icmp .ge 54, 3) := by decide +kernel
theorem dX4_chance_90 : decode cX4_chance 90 = .ok (.iload 7, 2) := by decide +kernel
theorem dX4_chance_92 : decode cX4_chance 92 = .ok (.invokestatic 178, 3) := by decide +kernel
theorem dX4_chance_95 : decode cX4_chance 95 = .ok (.istore 8, 2) := by decide +kernel
theorem dX4_chance_97 : decode cX4_chance 97 = .ok (.iload 6, 2) := by decide +kernel
theorem dX4_chance_99 : decode cX4_chance 99 = .ok (.iload 8, 2) := by decide +kernel
theorem dX4_chance_101 : decode cX4_chance 101 = .ok (.iload_n 3, 1) := by decide +kernel
theorem dX4_chance_102 : decode cX4_chance 102 = .ok (.if_icmp .gt 29, 3) := by decide +kernel
theorem dX4_chance_105 : decode cX4_chance 105 = .ok (.iload 4, 2) := by decide +kernel
theorem dX4_chance_107 : decode cX4_chance 107 = .ok (.iload 8, 2) := by decide +kernel
theorem dX4_chance_109 : decode cX4_chance 109 = .ok (.invokestatic 143, 3) := by decide +kernel
theorem dX4_chance_112 : decode cX4_chance 112 = .ok (.bipush 10, 2) := by decide +kernel
theorem dX4_chance_114 : decode cX4_chance 114 = .ok (.iload 4, 2) := by decide +kernel
theorem dX4_chance_116 : decode cX4_chance 116 = .ok (.isub, 1) := by decide +kernel
theorem dX4_chance_117 : decode cX4_chance 117 = .ok (.aload_n 0, 1) := by decide +kernel
theorem dX4_chance_118 : decode cX4_chance 118 = .ok (.getfield 163, 3) := by decide +kernel
theorem dX4_chance_121 : decode cX4_chance 121 = .ok (.iload 8, 2) := by decide +kernel
theorem dX4_chance_123 : decode cX4_chance 123 = .ok (.isub, 1) := by decide +kernel
theorem dX4_chance_124 : decode cX4_chance 124 = .ok (.invokestatic 143, 3) := by decide +kernel
theorem dX4_chance_127 : decode cX4_chance 127 = .ok (.imul, 1) := by decide +kernel
theorem dX4_chance_128 : decode cX4_chance 128 = .ok (.goto 4, 3) := by decide +kernel
theorem dX4_chance_131 : decode cX4_chance 131 = .ok (.iconst 0, 1) := by decide +kernel
theorem dX4_chance_132 : decode cX4_chance 132 = .ok (.iadd, 1) := by decide +kernel
theorem dX4_chance_133 : decode cX4_chance 133 = .ok (.istore 6, 2) := by decide +kernel
theorem dX4_chance_135 : decode cX4_chance 135 = .ok (.iinc 7 1, 3) := by decide +kernel
theorem dX4_chance_138 : decode cX4_chance 138 = .ok (.goto (-59), 3) := by decide +kernel
theorem dX4_chance_141 : decode cX4_chance 141 = .ok (.iload 6, 2) := by decide +kernel
theorem dX4_chance_143 : decode cX4_chance 143 = .ok (.bipush 10, 2) := by decide +kernel
theorem dX4_chance_145 : decode cX4_chance 145 = .ok (.aload_n 0, 1) := by decide +kernel
theorem dX4_chance_146 : decode cX4_chance 146 = .ok (.getfield 163, 3) := by decide +kernel
theorem dX4_chance_149 : decode cX4_chance 149 = .ok (.invokestatic 143, 3) := by decide +kernel
theorem dX4_chance_152 : decode cX4_chance 152 = .ok (.iload 5, 2) := by decide +kernel
theorem dX4_chance_154 : decode cX4_chance 154 = .ok (.invokestatic 184, 3) := by decide +kernel
theorem dX4_chance_157 : decode cX4_chance 157 = .ok (.ireturn, 1) := by decide +kernel
theorem dX4_seed_0 : decode cX4_seed 0 = .ok (.aload_n 0, 1) := by decide +kernel
theorem dX4_seed_1 : decode cX4_seed 1 = .ok (.iconst 0, 1) := by decide +kernel
theorem dX4_seed_2 : decode cX4_seed 2 = .ok (.putfield 50, 3) := by decide +kernel
theorem dX4_seed_5 : decode cX4_seed 5 = .ok (.aload_n 0, 1) := by decide +kernel
theorem dX4_seed_6 : decode cX4_seed 6 = .ok (.getfield 202, 3) := by decide +kernel
theorem dX4_seed_9 : decode cX4_seed 9 = .ok (.lstore_n 3, 1) := by decide +kernel
theorem dX4_seed_10 : decode cX4_seed 10 = .ok (.aload_n 0, 1) := by decide +kernel
theorem dX4_seed_11 : decode cX4_seed 11 = .ok (.lload_n 1, 1) := by decide +kernel
theorem dX4_seed_12 : decode cX4_seed 12 = .ok (.putfield 202, 3) := by decide +kernel
theorem dX4_seed_15 : decode cX4_seed 15 = .ok (.lload_n 3, 1) := by decide +kernel
theorem dX4_seed_16 : decode cX4_seed 16 = .ok (.lreturn, 1) := by decide +kernel
set_option maxRecDepth 20000 in
theorem ggX4_years_X4_in : GoodIn wsX4_years wsX4_in := goodIn_r _ [12] (by decide +kernel) (by decide +kernel)
set_option maxRecDepth 20000 in
theorem gX4_years_X4_in : GoodIn wsX4_years (va_wsS RX4 56 yX4_in wsX4_in) := goodIn_app (goodIn_of _ (by decide +kernel)) ggX4_years_X4_in
set_option maxRecDepth 20000 in
theorem ggX4_years_X4_copy : GoodIn wsX4_years wsX4_copy := goodIn_r _ [15] (by decide +kernel) (by decide +kernel)
set_option maxRecDepth 20000 in
theorem gX4_years_X4_copy : GoodIn wsX4_years (va_wsS RX4 146 yX4_copy wsX4_copy) := goodIn_app (goodIn_of _ (by decide +kernel)) ggX4_years_X4_copy
set_option maxRecDepth 20000 in
theorem ggX4_years_X4_can : GoodIn wsX4_years wsX4_can := goodIn_r _ [18, 19, 20, 11, 21, 22, 23, 24] (by decide +kernel) (by decide +kernel)
set_option maxRecDepth 20000 in
theorem gX4_years_X4_can : GoodIn wsX4_years (va_wsS RX4 121 yX4_can wsX4_can) := goodIn_app (goodIn_of _ (by decide +kernel)) ggX4_years_X4_can
set_option maxRecDepth 20000 in
theorem ggX4_years_X4_step : GoodIn wsX4_years wsX4_step := goodIn_r _ [28, 29, 19, 20, 11, 21, 30, 31, 32, 33, 34, 35, 36, 37, 38, 39, 40, 41, 42, 43, 44, 45, 46, 47, 48, 49, 50, 51, 52, 53, 54, 55, 56, 57, 58, 59, 60, 61] (by decide +kernel) (by decide +kernel)
set_option maxRecDepth 20000 in
theorem gX4_years_X4_step : GoodIn wsX4_years (wsV RX4 127 RX4 yX4_step wsX4_step) := goodIn_app (goodIn_of _ (by decide +kernel)) ggX4_years_X4_step
theorem dX4_years_0 : decode cX4_years 0 = .ok (.aload_n 0, 1) := by decide +kernel
theorem dX4_years_1 : decode cX4_years 1 = .ok (.iconst 0, 1) := by decide +kernel
theorem dX4_years_2 : decode cX4_years 2 = .ok (.putfield 50, 3) := by decide +kernel
theorem dX4_years_5 : decode cX4_years 5 = .ok (.iload_n 1, 1) := by decide +kernel
theorem dX4_years_6 : decode cX4_years 6 = .ok (.i2l, 1) := by decide +kernel
theorem dX4_years_7 : decode cX4_years 7 = .ok (.lconst 1, 1) := by decide +kernel
theorem dX4_years_8 : decode cX4_years 8 = .ok (.ldc2_w 166, 3) := by decide +kernel
theorem dX4_years_11 : decode cX4_years 11 = .ok (.invokestatic 56, 3) := by decide +kernel
theorem dX4_years_14 : decode cX4_years 14 = .ok (.ifCond .ne 6, 3) := by decide +kernel
theorem dX4_years_17 : decode cX4_years 17 = .ok (.bipush (-2), 2) := by decide +kernel
theorem dX4_years_19 : decode cX4_years 19 = .ok (.ireturn, 1) := by decide +kernel
theorem dX4_years_20 : decode cX4_years 20 = .ok (.aload_n 0, 1) := by decide +kernel
theorem dX4_years_21 : decode cX4_years 21 = .ok (.getfield 22, 3) := by decide +kernel
theorem dX4_years_24 : decode cX4_years 24 = .ok (.aload_n 0, 1) := by decide +kernel
theorem dX4_years_25 : decode cX4_years 25 = .ok (.getfield 25, 3) := by decide +kernel
theorem dX4_years_28 : decode cX4_years 28 = .ok (.invokestatic 146, 3) := by decide +kernel
theorem dX4_years_31 : decode cX4_years 31 = .ok (.iconst 0, 1) := by decide +kernel
theorem dX4_years_32 : decode cX4_years 32 = .ok (.istore_n 2, 1) := by decide +kernel
theorem dX4_years_33 : decode cX4_years 33 = .ok (.iload_n 2, 1) := by decide +kernel
theorem dX4_years_34 : decode cX4_years 34 = .ok (.iload_n 1, 1) := by decide +kernel
theorem dX4_years_35 : decode cX4_years 35 = .ok (.if_icmp .ge 58, 3) := by decide +kernel
theorem dX4_years_38 : decode cX4_years 38 = .ok (.aload_n 0, 1) := by decide +kernel
theorem dX4_years_39 : decode cX4_years 39 = .ok (.aload_n 0, 1) := by decide +kernel
theorem dX4_years_40 : decode cX4_years 40 = .ok (.getfield 202, 3) := by decide +kernel
theorem dX4_years_43 : decode cX4_years 43 = .ok (.ldc2_w 206, 3) := by decide +kernel
theorem dX4_years_46 : decode cX4_years 46 = .ok (.lmul, 1) := by decide +kernel
theorem dX4_years_47 : decode cX4_years 47 = .ok (.ldc2_w 208, 3) := by decide +kernel
theorem dX4_years_50 : decode cX4_years 50 = .ok (.ladd, 1) := by decide +kernel
theorem dX4_years_51 : decode cX4_years 51 = .ok (.putfield 202, 3) := by decide +kernel
theorem dX4_years_54 : decode cX4_years 54 = .ok (.aload_n 0, 1) := by decide +kernel
theorem dX4_years_55 : decode cX4_years 55 = .ok (.getfield 202, 3) := by decide +kernel
theorem dX4_years_58 : decode cX4_years 58 = .ok (.bipush 33, 2) := by decide +kernel
theorem dX4_years_60 : decode cX4_years 60 = .ok (.lushr, 1) := by decide +kernel
theorem dX4_years_61 : decode cX4_years 61 = .ok (.ldc2_w 150, 3) := by decide +kernel
theorem dX4_years_64 : decode cX4_years 64 = .ok (.lrem, 1) := by decide +kernel
theorem dX4_years_65 : decode cX4_years 65 = .ok (.l2i, 1) := by decide +kernel
theorem dX4_years_66 : decode cX4_years 66 = .ok (.istore_n 3, 1) := by decide +kernel
theorem dX4_years_67 : decode cX4_years 67 = .ok (.aload_n 0, 1) := by decide +kernel
theorem dX4_years_68 : decode cX4_years 68 = .ok (.getfield 25, 3) := by decide +kernel
theorem dX4_years_71 : decode cX4_years 71 = .ok (.iload_n 3, 1) := by decide +kernel
theorem dX4_years_72 : decode cX4_years 72 = .ok (.invokestatic 121, 3) := by decide +kernel
theorem dX4_years_75 : decode cX4_years 75 = .ok (.ifCond .eq 12, 3) := by decide +kernel
theorem dX4_years_78 : decode cX4_years 78 = .ok (.aload_n 0, 1) := by decide +kernel
theorem dX4_years_79 : decode cX4_years 79 = .ok (.aload_n 0, 1) := by decide +kernel
theorem dX4_years_80 : decode cX4_years 80 = .ok (.getfield 25, 3) := by decide +kernel
theorem dX4_years_83 : decode cX4_years 83 = .ok (.iload_n 3, 1) := by decide +kernel
theorem dX4_years_84 : decode cX4_years 84 = .ok (.invokevirtual 127, 3) := by decide +kernel
theorem dX4_years_87 : decode cX4_years 87 = .ok (.iinc 2 1, 3) := by decide +kernel
theorem dX4_years_90 : decode cX4_years 90 = .ok (.goto (-57), 3) := by decide +kernel
theorem dX4_years_93 : decode cX4_years 93 = .ok (.aload_n 0, 1) := by decide +kernel
theorem dX4_years_94 : decode cX4_years 94 = .ok (.getfield 25, 3) := by decide +kernel
theorem dX4_years_97 : decode cX4_years 97 = .ok (.bipush 13, 2) := by decide +kernel
theorem dX4_years_99 : decode cX4_years 99 = .ok (.iaload, 1) := by decide +kernel
theorem dX4_years_100 : decode cX4_years 100 = .ok (.bipush 100, 2) := by decide +kernel
theorem dX4_years_102 : decode cX4_years 102 = .ok (.aload_n 0, 1) := by decide +kernel
theorem dX4_years_103 : decode cX4_years 103 = .ok (.getfield 25, 3) := by decide +kernel
theorem dX4_years_106 : decode cX4_years 106 = .ok (.bipush 14, 2) := by decide +kernel
theorem dX4_years_108 : decode cX4_years 108 = .ok (.iaload, 1) := by decide +kernel
theorem dX4_years_109 : decode cX4_years 109 = .ok (.aload_n 0, 1) := by decide +kernel
theorem dX4_years_110 : decode cX4_years 110 = .ok (.getfield 22, 3) := by decide +kernel
theorem dX4_years_113 : decode cX4_years 113 = .ok (.bipush 14, 2) := by decide +kernel
theorem dX4_years_115 : decode cX4_years 115 = .ok (.iaload, 1) := by decide +kernel
theorem dX4_years_116 : decode cX4_years 116 = .ok (.isub, 1) := by decide +kernel
theorem dX4_years_117 : decode cX4_years 117 = .ok (.imul, 1) := by decide +kernel
theorem dX4_years_118 : decode cX4_years 118 = .ok (.iadd, 1) := by decide +kernel
theorem dX4_years_119 : decode cX4_years 119 = .ok (.ireturn, 1) := by decide +kernel
set_option maxRecDepth 20000 in
theorem ggX4_keep_X4_in : GoodIn wsX4_keep wsX4_in := goodIn_r _ [8] (by decide +kernel) (by decide +kernel)
set_option maxRecDepth 20000 in
theorem gX4_keep_X4_in : GoodIn wsX4_keep (va_wsS RX4 56 yX4_in wsX4_in) := goodIn_app (goodIn_of _ (by decide +kernel)) ggX4_keep_X4_in
theorem dX4_keep_0 : decode cX4_keep 0 = .ok (.aload_n 0, 1) := by decide +kernel
theorem dX4_keep_1 : decode cX4_keep 1 = .ok (.iconst 0, 1) := by decide +kernel
theorem dX4_keep_2 : decode cX4_keep 2 = .ok (.putfield 50, 3) := by decide +kernel
theorem dX4_keep_5 : decode cX4_keep 5 = .ok (.iload_n 1, 1) := by decide +kernel
theorem dX4_keep_6 : decode cX4_keep 6 = .ok (.i2l, 1) := by decide +kernel
theorem dX4_keep_7 : decode cX4_keep 7 = .ok (.lconst 0, 1) := by decide +kernel
theorem dX4_keep_8 : decode cX4_keep 8 = .ok (.lconst 1, 1) := by decide +kernel
theorem dX4_keep_9 : decode cX4_keep 9 = .ok (.invokestatic 56, 3) := by decide +kernel
theorem dX4_keep_12 : decode cX4_keep 12 = .ok (.ifCond .ne 5, 3) := by decide +kernel
theorem dX4_keep_15 : decode cX4_keep 15 = .ok (.iconst (-1), 1) := by decide +kernel
theorem dX4_keep_16 : decode cX4_keep 16 = .ok (.ireturn, 1) := by decide +kernel
theorem dX4_keep_17 : decode cX4_keep 17 = .ok (.aload_n 0, 1) := by decide +kernel
theorem dX4_keep_18 : decode cX4_keep 18 = .ok (.getfield 34, 3) := by decide +kernel
theorem dX4_keep_21 : decode cX4_keep 21 = .ok (.iload_n 1, 1) := by decide +kernel
theorem dX4_keep_22 : decode cX4_keep 22 = .ok (.iconst 1, 1) := by decide +kernel
theorem dX4_keep_23 : decode cX4_keep 23 = .ok (.bastore, 1) := by decide +kernel
theorem dX4_keep_24 : decode cX4_keep 24 = .ok (.iconst 0, 1) := by decide +kernel
theorem dX4_keep_25 : decode cX4_keep 25 = .ok (.istore_n 2, 1) := by decide +kernel
theorem dX4_keep_26 : decode cX4_keep 26 = .ok (.iload_n 2, 1) := by decide +kernel
theorem dX4_keep_27 : decode cX4_keep 27 = .ok (.bipush 17, 2) := by decide +kernel
theorem dX4_keep_29 : decode cX4_keep 29 = .ok (.if_icmp .ge 26, 3) := by decide +kernel
theorem dX4_keep_32 : decode cX4_keep 32 = .ok (.aload_n 0, 1) := by decide +kernel
theorem dX4_keep_33 : decode cX4_keep 33 = .ok (.getfield 31, 3) := by decide +kernel
theorem dX4_keep_36 : decode cX4_keep 36 = .ok (.bipush 17, 2) := by decide +kernel
theorem dX4_keep_38 : decode cX4_keep 38 = .ok (.iload_n 1, 1) := by decide +kernel
theorem dX4_keep_39 : decode cX4_keep 39 = .ok (.imul, 1) := by decide +kernel
theorem dX4_keep_40 : decode cX4_keep 40 = .ok (.iload_n 2, 1) := by decide +kernel
theorem dX4_keep_41 : decode cX4_keep 41 = .ok (.iadd, 1) := by decide +kernel
theorem dX4_keep_42 : decode cX4_keep 42 = .ok (.aload_n 0, 1) := by decide +kernel
theorem dX4_keep_43 : decode cX4_keep 43 = .ok (.getfield 22, 3) := by decide +kernel
theorem dX4_keep_46 : decode cX4_keep 46 = .ok (.iload_n 2, 1) := by decide +kernel
theorem dX4_keep_47 : decode cX4_keep 47 = .ok (.iaload, 1) := by decide +kernel
theorem dX4_keep_48 : decode cX4_keep 48 = .ok (.iastore, 1) := by decide +kernel
theorem dX4_keep_49 : decode cX4_keep 49 = .ok (.iinc 2 1, 3) := by decide +kernel
theorem dX4_keep_52 : decode cX4_keep 52 = .ok (.goto (-26), 3) := by decide +kernel
theorem dX4_keep_55 : decode cX4_keep 55 = .ok (.aload_n 0, 1) := by decide +kernel
theorem dX4_keep_56 : decode cX4_keep 56 = .ok (.getfield 22, 3) := by decide +kernel
theorem dX4_keep_59 : decode cX4_keep 59 = .ok (.bipush 16, 2) := by decide +kernel
theorem dX4_keep_61 : decode cX4_keep 61 = .ok (.iaload, 1) := by decide +kernel
theorem dX4_keep_62 : decode cX4_keep 62 = .ok (.ireturn, 1) := by decide +kernel
set_option maxRecDepth 20000 in
theorem ggX4_again_X4_in : GoodIn wsX4_again wsX4_in := goodIn_r _ [9] (by decide +kernel) (by decide +kernel)
set_option maxRecDepth 20000 in
theorem gX4_again_X4_in : GoodIn wsX4_again (va_wsS RX4 56 yX4_in wsX4_in) := goodIn_app (goodIn_of _ (by decide +kernel)) ggX4_again_X4_in
theorem dX4_again_0 : decode cX4_again 0 = .ok (.aload_n 0, 1) := by decide +kernel
theorem dX4_again_1 : decode cX4_again 1 = .ok (.iconst 0, 1) := by decide +kernel
theorem dX4_again_2 : decode cX4_again 2 = .ok (.putfield 50, 3) := by decide +kernel
theorem dX4_again_5 : decode cX4_again 5 = .ok (.iload_n 1, 1) := by decide +kernel
theorem dX4_again_6 : decode cX4_again 6 = .ok (.i2l, 1) := by decide +kernel
theorem dX4_again_7 : decode cX4_again 7 = .ok (.lconst 0, 1) := by decide +kernel
theorem dX4_again_8 : decode cX4_again 8 = .ok (.lconst 1, 1) := by decide +kernel
theorem dX4_again_9 : decode cX4_again 9 = .ok (.invokestatic 56, 3) := by decide +kernel
theorem dX4_again_12 : decode cX4_again 12 = .ok (.ifCond .ne 5, 3) := by decide +kernel
theorem dX4_again_15 : decode cX4_again 15 = .ok (.iconst (-1), 1) := by decide +kernel
theorem dX4_again_16 : decode cX4_again 16 = .ok (.ireturn, 1) := by decide +kernel
theorem dX4_again_17 : decode cX4_again 17 = .ok (.aload_n 0, 1) := by decide +kernel
theorem dX4_again_18 : decode cX4_again 18 = .ok (.getfield 34, 3) := by decide +kernel
theorem dX4_again_21 : decode cX4_again 21 = .ok (.iload_n 1, 1) := by decide +kernel
theorem dX4_again_22 : decode cX4_again 22 = .ok (.baload, 1) := by decide +kernel
theorem dX4_again_23 : decode cX4_again 23 = .ok (.ifCond .ne 6, 3) := by decide +kernel
theorem dX4_again_26 : decode cX4_again 26 = .ok (.bipush (-3), 2) := by decide +kernel
theorem dX4_again_28 : decode cX4_again 28 = .ok (.ireturn, 1) := by decide +kernel
theorem dX4_again_29 : decode cX4_again 29 = .ok (.iconst 0, 1) := by decide +kernel
theorem dX4_again_30 : decode cX4_again 30 = .ok (.istore_n 2, 1) := by decide +kernel
theorem dX4_again_31 : decode cX4_again 31 = .ok (.iload_n 2, 1) := by decide +kernel
theorem dX4_again_32 : decode cX4_again 32 = .ok (.bipush 17, 2) := by decide +kernel
theorem dX4_again_34 : decode cX4_again 34 = .ok (.if_icmp .ge 26, 3) := by decide +kernel
theorem dX4_again_37 : decode cX4_again 37 = .ok (.aload_n 0, 1) := by decide +kernel
theorem dX4_again_38 : decode cX4_again 38 = .ok (.getfield 22, 3) := by decide +kernel
theorem dX4_again_41 : decode cX4_again 41 = .ok (.iload_n 2, 1) := by decide +kernel
theorem dX4_again_42 : decode cX4_again 42 = .ok (.aload_n 0, 1) := by decide +kernel
theorem dX4_again_43 : decode cX4_again 43 = .ok (.getfield 31, 3) := by decide +kernel
theorem dX4_again_46 : decode cX4_again 46 = .ok (.bipush 17, 2) := by decide +kernel
theorem dX4_again_48 : decode cX4_again 48 = .ok (.iload_n 1, 1) := by decide +kernel
theorem dX4_again_49 : decode cX4_again 49 = .ok (.imul, 1) := by decide +kernel
theorem dX4_again_50 : decode cX4_again 50 = .ok (.iload_n 2, 1) := by decide +kernel
theorem dX4_again_51 : decode cX4_again 51 = .ok (.iadd, 1) := by decide +kernel
theorem dX4_again_52 : decode cX4_again 52 = .ok (.iaload, 1) := by decide +kernel
theorem dX4_again_53 : decode cX4_again 53 = .ok (.iastore, 1) := by decide +kernel
theorem dX4_again_54 : decode cX4_again 54 = .ok (.iinc 2 1, 3) := by decide +kernel
theorem dX4_again_57 : decode cX4_again 57 = .ok (.goto (-26), 3) := by decide +kernel
theorem dX4_again_60 : decode cX4_again 60 = .ok (.aload_n 0, 1) := by decide +kernel
theorem dX4_again_61 : decode cX4_again 61 = .ok (.iconst 0, 1) := by decide +kernel
theorem dX4_again_62 : decode cX4_again 62 = .ok (.putfield 93, 3) := by decide +kernel
theorem dX4_again_65 : decode cX4_again 65 = .ok (.aload_n 0, 1) := by decide +kernel
theorem dX4_again_66 : decode cX4_again 66 = .ok (.getfield 22, 3) := by decide +kernel
theorem dX4_again_69 : decode cX4_again 69 = .ok (.bipush 16, 2) := by decide +kernel
theorem dX4_again_71 : decode cX4_again 71 = .ok (.iaload, 1) := by decide +kernel
theorem dX4_again_72 : decode cX4_again 72 = .ok (.ireturn, 1) := by decide +kernel
theorem dJ6_bitCount_0f7a4_0 : decode cJ6_bitCount_0f7a4 0 = .ok (.iload_n 0, 1) := by decide +kernel
theorem dJ6_bitCount_0f7a4_1 : decode cJ6_bitCount_0f7a4 1 = .ok (.iload_n 0, 1) := by decide +kernel
theorem dJ6_bitCount_0f7a4_2 : decode cJ6_bitCount_0f7a4 2 = .ok (.iconst 1, 1) := by decide +kernel
theorem dJ6_bitCount_0f7a4_3 : decode cJ6_bitCount_0f7a4 3 = .ok (.iushr, 1) := by decide +kernel
theorem dJ6_bitCount_0f7a4_4 : decode cJ6_bitCount_0f7a4 4 = .ok (.ldc_w 265, 3) := by decide +kernel
theorem dJ6_bitCount_0f7a4_7 : decode cJ6_bitCount_0f7a4 7 = .ok (.iand, 1) := by decide +kernel
theorem dJ6_bitCount_0f7a4_8 : decode cJ6_bitCount_0f7a4 8 = .ok (.isub, 1) := by decide +kernel
theorem dJ6_bitCount_0f7a4_9 : decode cJ6_bitCount_0f7a4 9 = .ok (.istore_n 0, 1) := by decide +kernel
theorem dJ6_bitCount_0f7a4_10 : decode cJ6_bitCount_0f7a4 10 = .ok (.iload_n 0, 1) := by decide +kernel
theorem dJ6_bitCount_0f7a4_11 : decode cJ6_bitCount_0f7a4 11 = .ok (.ldc_w 266, 3) := by decide +kernel
theorem dJ6_bitCount_0f7a4_14 : decode cJ6_bitCount_0f7a4 14 = .ok (.iand, 1) := by decide +kernel
theorem dJ6_bitCount_0f7a4_15 : decode cJ6_bitCount_0f7a4 15 = .ok (.iload_n 0, 1) := by decide +kernel
theorem dJ6_bitCount_0f7a4_16 : decode cJ6_bitCount_0f7a4 16 = .ok (.iconst 2, 1) := by decide +kernel
theorem dJ6_bitCount_0f7a4_17 : decode cJ6_bitCount_0f7a4 17 = .ok (.iushr, 1) := by decide +kernel
theorem dJ6_bitCount_0f7a4_18 : decode cJ6_bitCount_0f7a4 18 = .ok (.ldc_w 266, 3) := by decide +kernel
theorem dJ6_bitCount_0f7a4_21 : decode cJ6_bitCount_0f7a4 21 = .ok (.iand, 1) := by decide +kernel
theorem dJ6_bitCount_0f7a4_22 : decode cJ6_bitCount_0f7a4 22 = .ok (.iadd, 1) := by decide +kernel
theorem dJ6_bitCount_0f7a4_23 : decode cJ6_bitCount_0f7a4 23 = .ok (.istore_n 0, 1) := by decide +kernel
theorem dJ6_bitCount_0f7a4_24 : decode cJ6_bitCount_0f7a4 24 = .ok (.iload_n 0, 1) := by decide +kernel
theorem dJ6_bitCount_0f7a4_25 : decode cJ6_bitCount_0f7a4 25 = .ok (.iload_n 0, 1) := by decide +kernel
theorem dJ6_bitCount_0f7a4_26 : decode cJ6_bitCount_0f7a4 26 = .ok (.iconst 4, 1) := by decide +kernel
theorem dJ6_bitCount_0f7a4_27 : decode cJ6_bitCount_0f7a4 27 = .ok (.iushr, 1) := by decide +kernel
theorem dJ6_bitCount_0f7a4_28 : decode cJ6_bitCount_0f7a4 28 = .ok (.iadd, 1) := by decide +kernel
theorem dJ6_bitCount_0f7a4_29 : decode cJ6_bitCount_0f7a4 29 = .ok (.ldc_w 267, 3) := by decide +kernel
theorem dJ6_bitCount_0f7a4_32 : decode cJ6_bitCount_0f7a4 32 = .ok (.iand, 1) := by decide +kernel
theorem dJ6_bitCount_0f7a4_33 : decode cJ6_bitCount_0f7a4 33 = .ok (.istore_n 0, 1) := by decide +kernel
theorem dJ6_bitCount_0f7a4_34 : decode cJ6_bitCount_0f7a4 34 = .ok (.iload_n 0, 1) := by decide +kernel
theorem dJ6_bitCount_0f7a4_35 : decode cJ6_bitCount_0f7a4 35 = .ok (.iload_n 0, 1) := by decide +kernel
theorem dJ6_bitCount_0f7a4_36 : decode cJ6_bitCount_0f7a4 36 = .ok (.bipush 8, 2) := by decide +kernel
theorem dJ6_bitCount_0f7a4_38 : decode cJ6_bitCount_0f7a4 38 = .ok (.iushr, 1) := by decide +kernel
theorem dJ6_bitCount_0f7a4_39 : decode cJ6_bitCount_0f7a4 39 = .ok (.iadd, 1) := by decide +kernel
theorem dJ6_bitCount_0f7a4_40 : decode cJ6_bitCount_0f7a4 40 = .ok (.istore_n 0, 1) := by decide +kernel
theorem dJ6_bitCount_0f7a4_41 : decode cJ6_bitCount_0f7a4 41 = .ok (.iload_n 0, 1) := by decide +kernel
theorem dJ6_bitCount_0f7a4_42 : decode cJ6_bitCount_0f7a4 42 = .ok (.iload_n 0, 1) := by decide +kernel
theorem dJ6_bitCount_0f7a4_43 : decode cJ6_bitCount_0f7a4 43 = .ok (.bipush 16, 2) := by decide +kernel
theorem dJ6_bitCount_0f7a4_45 : decode cJ6_bitCount_0f7a4 45 = .ok (.iushr, 1) := by decide +kernel
theorem dJ6_bitCount_0f7a4_46 : decode cJ6_bitCount_0f7a4 46 = .ok (.iadd, 1) := by decide +kernel
theorem dJ6_bitCount_0f7a4_47 : decode cJ6_bitCount_0f7a4 47 = .ok (.istore_n 0, 1) := by decide +kernel
theorem dJ6_bitCount_0f7a4_48 : decode cJ6_bitCount_0f7a4 48 = .ok (.iload_n 0, 1) := by decide +kernel
theorem dJ6_bitCount_0f7a4_49 : decode cJ6_bitCount_0f7a4 49 = .ok (.bipush 63, 2) := by decide +kernel
theorem dJ6_bitCount_0f7a4_51 : decode cJ6_bitCount_0f7a4 51 = .ok (.iand, 1) := by decide +kernel
theorem dJ6_bitCount_0f7a4_52 : decode cJ6_bitCount_0f7a4 52 = .ok (.ireturn, 1) := by decide +kernel
theorem dJ9_abs_067f4_0 : decode cJ9_abs_067f4 0 = .ok (.lload_n 0, 1) := by decide +kernel
theorem dJ9_abs_067f4_1 : decode cJ9_abs_067f4 1 = .ok (.lconst 0, 1) := by decide +kernel
theorem dJ9_abs_067f4_2 : decode cJ9_abs_067f4 2 = .ok (.lcmp, 1) := by decide +kernel
theorem dJ9_abs_067f4_3 : decode cJ9_abs_067f4 3 = .ok (.ifCond .ge 8, 3) := by decide +kernel
theorem dJ9_abs_067f4_6 : decode cJ9_abs_067f4 6 = .ok (.lload_n 0, 1) := by decide +kernel
theorem dJ9_abs_067f4_7 : decode cJ9_abs_067f4 7 = .ok (.lneg, 1) := by decide +kernel
theorem dJ9_abs_067f4_8 : decode cJ9_abs_067f4 8 = .ok (.goto 4, 3) := by decide +kernel
theorem dJ9_abs_067f4_11 : decode cJ9_abs_067f4 11 = .ok (.lload_n 0, 1) := by decide +kernel
theorem dJ9_abs_067f4_12 : decode cJ9_abs_067f4 12 = .ok (.lreturn, 1) := by decide +kernel
theorem dJ9_max_7cf53_0 : decode cJ9_max_7cf53 0 = .ok (.iload_n 0, 1) := by decide +kernel
theorem dJ9_max_7cf53_1 : decode cJ9_max_7cf53 1 = .ok (.iload_n 1, 1) := by decide +kernel
theorem dJ9_max_7cf53_2 : decode cJ9_max_7cf53 2 = .ok (.if_icmp .lt 7, 3) := by decide +kernel
theorem dJ9_max_7cf53_5 : decode cJ9_max_7cf53 5 = .ok (.iload_n 0, 1) := by decide +kernel
theorem dJ9_max_7cf53_6 : decode cJ9_max_7cf53 6 = .ok (.goto 4, 3) := by decide +kernel
theorem dJ9_max_7cf53_9 : decode cJ9_max_7cf53 9 = .ok (.iload_n 1, 1) := by decide +kernel
theorem dJ9_max_7cf53_10 : decode cJ9_max_7cf53 10 = .ok (.ireturn, 1) := by decide +kernel
theorem dJ9_min_7cf53_0 : decode cJ9_min_7cf53 0 = .ok (.iload_n 0, 1) := by decide +kernel
theorem dJ9_min_7cf53_1 : decode cJ9_min_7cf53 1 = .ok (.iload_n 1, 1) := by decide +kernel
theorem dJ9_min_7cf53_2 : decode cJ9_min_7cf53 2 = .ok (.if_icmp .gt 7, 3) := by decide +kernel
theorem dJ9_min_7cf53_5 : decode cJ9_min_7cf53 5 = .ok (.iload_n 0, 1) := by decide +kernel
theorem dJ9_min_7cf53_6 : decode cJ9_min_7cf53 6 = .ok (.goto 4, 3) := by decide +kernel
theorem dJ9_min_7cf53_9 : decode cJ9_min_7cf53 9 = .ok (.iload_n 1, 1) := by decide +kernel
theorem dJ9_min_7cf53_10 : decode cJ9_min_7cf53 10 = .ok (.ireturn, 1) := by decide +kernel
set_option maxRecDepth 20000 in
theorem ggL_law_X3_init : GoodIn wsL_law wsX3_init := goodIn_r _ [9, 10, 11, 12, 13, 14, 15, 16, 17, 18, 19, 20, 21, 22, 23, 24, 25, 26, 27, 28, 29, 30, 31, 32, 33, 34, 35, 36, 37, 38, 39, 40, 41, 42, 43, 44, 45, 2, 46, 638, 639, 606, 607, 608, 609, 610, 611, 612, 640, 641, 642, 643, 644, 645, 646, 647, 648, 649] (by decide +kernel) (by decide +kernel)
set_option maxRecDepth 20000 in
theorem gL_law_X3_init : GoodIn wsL_law (wsX3_init) := ggL_law_X3_init
set_option maxRecDepth 20000 in
theorem ggL_law_X4_init : GoodIn wsL_law wsX4_init := goodIn_r _ [49, 50, 11, 12, 30, 51, 52, 53, 54, 55, 56, 57, 58, 59, 60, 61, 62, 63, 64, 613, 614, 615, 616, 617, 618, 619, 620, 621, 622, 623, 624, 625, 626, 627, 628, 629, 630, 631, 632, 633, 634, 635, 636, 637] (by decide +kernel) (by decide +kernel)
set_option maxRecDepth 20000 in
theorem gL_law_X4_init : GoodIn wsL_law (wsX4_init) := ggL_law_X4_init
set_option maxRecDepth 20000 in
theorem ggL_law_X3_write : GoodIn wsL_law wsX3_write := goodIn_r _ [68, 16, 69, 70, 71, 72, 15, 73, 74, 31, 606, 607, 608, 609, 610, 611, 612, 638, 639] (by decide +kernel) (by decide +kernel)
set_option maxRecDepth 20000 in
theorem gL_law_X3_write : GoodIn wsL_law (wsV RL 13 RX3 yX3_write wsX3_write) := goodIn_app (goodIn_of _ (by decide +kernel)) ggL_law_X3_write
set_option maxRecDepth 20000 in
theorem ggL_law_X4_write : GoodIn wsL_law wsX4_write := goodIn_r _ [78, 79, 80, 81, 51, 82, 83, 5, 84, 613, 614, 615, 616, 617, 618, 619, 620, 621, 622, 623, 624, 625, 626, 627, 628, 629, 630, 631, 632, 633, 634, 635, 636, 637] (by decide +kernel) (by decide +kernel)
set_option maxRecDepth 20000 in
theorem gL_law_X4_write : GoodIn wsL_law (wsV RL 17 RX4 yX4_write wsX4_write) := goodIn_app (goodIn_of _ (by decide +kernel)) ggL_law_X4_write
set_option maxRecDepth 20000 in
theorem ggL_law_X3_wipe : GoodIn wsL_law wsX3_wipe := goodIn_r _ [88, 16, 69, 606, 607, 608, 609, 610, 611, 612, 638, 639] (by decide +kernel) (by decide +kernel)
set_option maxRecDepth 20000 in
theorem gL_law_X3_wipe : GoodIn wsL_law (wsV RL 18 RX3 yX3_wipe wsX3_wipe) := goodIn_app (goodIn_of _ (by decide +kernel)) ggL_law_X3_wipe
set_option maxRecDepth 20000 in
theorem ggL_law_X4_wipe : GoodIn wsL_law wsX4_wipe := goodIn_r _ [92, 79, 81, 613, 614, 615, 616, 617, 618, 619, 620, 621, 622, 623, 624, 625, 626, 627, 628, 629, 630, 631, 632, 633, 634, 635, 636, 637] (by decide +kernel) (by decide +kernel)
set_option maxRecDepth 20000 in
theorem gL_law_X4_wipe : GoodIn wsL_law (wsV RL 22 RX4 yX4_wipe wsX4_wipe) := goodIn_app (goodIn_of _ (by decide +kernel)) ggL_law_X4_wipe
set_option maxRecDepth 20000 in
theorem ggL_law_X3_fault : GoodIn wsL_law wsX3_fault := goodIn_r _ [96, 16, 97, 98, 99, 15, 100, 74, 101, 102, 103, 104, 105, 106, 107, 108, 31, 109, 110, 111, 112, 606, 607, 608, 609, 610, 611, 612, 638, 639] (by decide +kernel) (by decide +kernel)
set_option maxRecDepth 20000 in
theorem gL_law_X3_fault : GoodIn wsL_law (wsV RL 23 RX3 yX3_fault wsX3_fault) := goodIn_app (goodIn_of _ (by decide +kernel)) ggL_law_X3_fault
set_option maxRecDepth 20000 in
theorem ggL_law_X4_fault : GoodIn wsL_law wsX4_fault := goodIn_r _ [116, 79, 117, 118, 119, 5, 120, 121, 122, 81, 51, 123, 124, 125, 126, 127, 54, 53, 128, 129, 130, 131, 82, 83, 84, 132, 133, 134, 135, 136, 137, 138, 139, 613, 614, 615, 616, 617, 618, 619, 620, 621, 622, 623, 624, 625, 626, 627, 628, 629, 630, 631, 632, 633, 634, 635, 636, 637] (by decide +kernel) (by decide +kernel)
set_option maxRecDepth 20000 in
theorem gL_law_X4_fault : GoodIn wsL_law (wsV RL 26 RX4 yX4_fault wsX4_fault) := goodIn_app (goodIn_of _ (by decide +kernel)) ggL_law_X4_fault
set_option maxRecDepth 20000 in
theorem ggL_law_X3_map : GoodIn wsL_law wsX3_map := goodIn_r _ [143, 16, 20, 24, 144, 145, 97, 98, 99, 15, 100, 74, 101, 102, 103, 104, 105, 106, 107, 108, 31, 109, 110, 111, 112, 146, 147, 148, 19, 149, 150, 151, 152, 153, 154, 155, 156, 157, 158, 159, 160, 161, 162, 163, 164, 165, 166, 167, 168, 169, 170, 171, 172, 173, 174, 175, 176, 177, 178, 179, 180, 181, 182, 183, 606, 607, 608, 609, 610, 611, 612, 648, 649, 638, 639, 640, 641, 642, 643, 644, 645, 646, 647] (by decide +kernel) (by decide +kernel)
set_option maxRecDepth 20000 in
theorem gL_law_X3_map : GoodIn wsL_law (wsV RL 27 RX3 yX3_map wsX3_map) := goodIn_app (goodIn_of _ (by decide +kernel)) ggL_law_X3_map
set_option maxRecDepth 20000 in
theorem ggL_law_X4_map : GoodIn wsL_law wsX4_map := goodIn_r _ [187, 79, 55, 52, 53, 54, 127, 188, 60, 122, 117, 118, 119, 5, 120, 121, 81, 51, 123, 124, 125, 126, 128, 129, 130, 131, 82, 83, 84, 132, 133, 134, 135, 136, 137, 138, 139, 613, 614, 615, 616, 617, 618, 619, 620, 621, 622, 623, 624, 625, 626, 627, 628, 629, 630, 631, 632, 633, 634, 635, 636, 637] (by decide +kernel) (by decide +kernel)
set_option maxRecDepth 20000 in
theorem gL_law_X4_map : GoodIn wsL_law (wsV RL 30 RX4 yX4_map wsX4_map) := goodIn_app (goodIn_of _ (by decide +kernel)) ggL_law_X4_map
set_option maxRecDepth 20000 in
theorem ggL_law_X3_about : GoodIn wsL_law wsX3_about := goodIn_r _ [192, 20, 193, 194, 195, 196, 197, 24, 144, 16, 69, 165, 166, 167, 19, 168, 169, 170, 171, 172, 173, 174, 175, 176, 151, 177, 178, 179, 180, 181, 182, 183, 198, 199, 200, 201, 202, 203, 204, 205, 206, 207, 208, 209, 150, 606, 607, 608, 609, 610, 611, 612, 640, 641, 642, 643, 644, 645, 646, 647, 648, 649, 638, 639] (by decide +kernel) (by decide +kernel)
set_option maxRecDepth 20000 in
theorem gL_law_X3_about : GoodIn wsL_law (wsV RL 31 RX3 yX3_about wsX3_about) := goodIn_app (goodIn_of _ (by decide +kernel)) ggL_law_X3_about
set_option maxRecDepth 20000 in
theorem ggL_law_X4_about : GoodIn wsL_law wsX4_about := goodIn_r _ [213, 79, 55, 188, 81, 214, 215, 5, 216, 217, 218, 219, 220, 52, 613, 614, 615, 616, 617, 618, 619, 620, 621, 622, 623, 624, 625, 626, 627, 628, 629, 630, 631, 632, 633, 634, 635, 636, 637] (by decide +kernel) (by decide +kernel)
set_option maxRecDepth 20000 in
theorem gL_law_X4_about : GoodIn wsL_law (wsV RL 34 RX4 yX4_about wsX4_about) := goodIn_app (goodIn_of _ (by decide +kernel)) ggL_law_X4_about
set_option maxRecDepth 20000 in
theorem ggL_law_X3_cell : GoodIn wsL_law wsX3_cell := goodIn_r _ [224, 20, 225, 226, 2, 227, 228, 207, 208, 19, 209, 150, 229, 174, 175, 176, 151, 230, 231, 232, 233, 173, 206, 606, 607, 608, 609, 610, 611, 612, 640, 641, 642, 643, 644, 645, 646, 647] (by decide +kernel) (by decide +kernel)
set_option maxRecDepth 20000 in
theorem gL_law_X3_cell : GoodIn wsL_law (wsV RL 35 RX3 yX3_cell wsX3_cell) := goodIn_app (goodIn_of _ (by decide +kernel)) ggL_law_X3_cell
set_option maxRecDepth 20000 in
theorem ggL_law_X4_cell : GoodIn wsL_law wsX4_cell := goodIn_r _ [237, 79, 52, 55, 136, 137, 5, 138, 139, 82, 83, 84, 238, 239, 240, 241, 613, 614, 615, 616, 617, 618, 619, 620, 621, 622, 623, 624, 625, 626, 627, 628, 629, 630, 631, 632, 633, 634, 635, 636, 637] (by decide +kernel) (by decide +kernel)
set_option maxRecDepth 20000 in
theorem gL_law_X4_cell : GoodIn wsL_law (wsV RL 39 RX4 yX4_cell wsX4_cell) := goodIn_app (goodIn_of _ (by decide +kernel)) ggL_law_X4_cell
set_option maxRecDepth 20000 in
theorem ggL_law_X3_go : GoodIn wsL_law wsX3_go := goodIn_r _ [245, 20, 193, 246, 247, 248, 2, 249, 26, 24, 250, 251, 252, 19, 253, 150, 151, 152, 153, 154, 155, 156, 254, 255, 256, 257, 258, 259, 260, 261, 262, 263, 173, 174, 175, 176, 206, 207, 208, 209, 264, 265, 266, 267, 268, 269, 270, 231, 232, 233, 271, 272, 273, 23, 274, 275, 42, 276, 277, 278, 279, 280, 281, 282, 283, 284, 606, 607, 608, 609, 610, 611, 612, 640, 641, 642, 643, 644, 645, 646, 647, 648, 649] (by decide +kernel) (by decide +kernel)
set_option maxRecDepth 20000 in
theorem gL_law_X3_go : GoodIn wsL_law (wsV RL 40 RX3 yX3_go wsX3_go) := goodIn_app (goodIn_of _ (by decide +kernel)) ggL_law_X3_go
set_option maxRecDepth 20000 in
theorem ggL_law_X4_go : GoodIn wsL_law wsX4_go := goodIn_r _ [288, 79, 289, 55, 82, 83, 5, 84, 290, 291, 292, 293, 294, 295, 296, 297, 298, 299, 300, 301, 302, 188, 57, 303, 304, 305, 306, 52, 307, 308, 309, 238, 239, 240, 241, 613, 614, 615, 616, 617, 618, 619, 620, 621, 622, 623, 624, 625, 626, 627, 628, 629, 630, 631, 632, 633, 634, 635, 636, 637] (by decide +kernel) (by decide +kernel)
set_option maxRecDepth 20000 in
theorem gL_law_X4_go : GoodIn wsL_law (wsV RL 43 RX4 yX4_go wsX4_go) := goodIn_app (goodIn_of _ (by decide +kernel)) ggL_law_X4_go
set_option maxRecDepth 20000 in
theorem ggL_law_X3_rest : GoodIn wsL_law wsX3_rest := goodIn_r _ [313, 20, 194, 246, 247, 248, 2, 249, 26, 24, 250, 251, 252, 19, 253, 150, 151, 152, 153, 154, 155, 156, 254, 255, 256, 257, 258, 259, 260, 261, 262, 263, 173, 174, 175, 176, 206, 207, 208, 209, 264, 265, 266, 267, 268, 269, 270, 231, 232, 233, 271, 272, 273, 23, 274, 275, 42, 276, 277, 278, 279, 280, 281, 282, 283, 284, 606, 607, 608, 609, 610, 611, 612, 640, 641, 642, 643, 644, 645, 646, 647, 648, 649] (by decide +kernel) (by decide +kernel)
set_option maxRecDepth 20000 in
theorem gL_law_X3_rest : GoodIn wsL_law (wsV RL 44 RX3 yX3_rest wsX3_rest) := goodIn_app (goodIn_of _ (by decide +kernel)) ggL_law_X3_rest
set_option maxRecDepth 20000 in
theorem ggL_law_X4_rest : GoodIn wsL_law wsX4_rest := goodIn_r _ [317, 79, 55, 290, 291, 5, 292, 293, 294, 295, 296, 297, 298, 299, 300, 301, 302, 188, 57, 303, 304, 305, 306, 52, 307, 308, 309, 238, 239, 240, 241, 613, 614, 615, 616, 617, 618, 619, 620, 621, 622, 623, 624, 625, 626, 627, 628, 629, 630, 631, 632, 633, 634, 635, 636, 637] (by decide +kernel) (by decide +kernel)
set_option maxRecDepth 20000 in
theorem gL_law_X4_rest : GoodIn wsL_law (wsV RL 47 RX4 yX4_rest wsX4_rest) := goodIn_app (goodIn_of _ (by decide +kernel)) ggL_law_X4_rest
set_option maxRecDepth 20000 in
theorem ggL_law_X3_draw : GoodIn wsL_law wsX3_draw := goodIn_r _ [321, 20, 24, 225, 226, 2, 227, 229, 174, 175, 19, 176, 151, 165, 166, 167, 168, 169, 170, 171, 172, 173, 177, 178, 179, 180, 181, 182, 183, 271, 272, 273, 23, 274, 275, 42, 276, 277, 278, 279, 280, 281, 282, 283, 284, 251, 252, 253, 150, 152, 153, 154, 155, 156, 322, 160, 161, 162, 163, 164, 606, 607, 608, 609, 610, 611, 612, 640, 641, 642, 643, 644, 645, 646, 647, 648, 649] (by decide +kernel) (by decide +kernel)
set_option maxRecDepth 20000 in
theorem gL_law_X3_draw : GoodIn wsL_law (wsV RL 48 RX3 yX3_draw wsX3_draw) := goodIn_app (goodIn_of _ (by decide +kernel)) ggL_law_X3_draw
set_option maxRecDepth 20000 in
theorem ggL_law_X4_draw : GoodIn wsL_law wsX4_draw := goodIn_r _ [326, 79, 327, 55, 136, 137, 5, 138, 139, 82, 83, 84, 214, 215, 216, 299, 300, 301, 302, 188, 57, 613, 614, 615, 616, 617, 618, 619, 620, 621, 622, 623, 624, 625, 626, 627, 628, 629, 630, 631, 632, 633, 634, 635, 636, 637] (by decide +kernel) (by decide +kernel)
set_option maxRecDepth 20000 in
theorem gL_law_X4_draw : GoodIn wsL_law (wsV RL 51 RX4 yX4_draw wsX4_draw) := goodIn_app (goodIn_of _ (by decide +kernel)) ggL_law_X4_draw
set_option maxRecDepth 20000 in
theorem ggL_law_X3_rub : GoodIn wsL_law wsX3_rub := goodIn_r _ [331, 20, 193, 24, 225, 226, 2, 227, 229, 174, 175, 19, 176, 151, 271, 272, 273, 23, 274, 275, 42, 276, 277, 278, 279, 280, 281, 282, 283, 284, 251, 252, 253, 150, 152, 153, 154, 155, 156, 322, 160, 161, 162, 163, 164, 606, 607, 608, 609, 610, 611, 612, 640, 641, 642, 643, 644, 645, 646, 647, 648, 649] (by decide +kernel) (by decide +kernel)
set_option maxRecDepth 20000 in
theorem gL_law_X3_rub : GoodIn wsL_law (wsV RL 52 RX3 yX3_rub wsX3_rub) := goodIn_app (goodIn_of _ (by decide +kernel)) ggL_law_X3_rub
set_option maxRecDepth 20000 in
theorem ggL_law_X4_rub : GoodIn wsL_law wsX4_rub := goodIn_r _ [335, 79, 55, 136, 137, 5, 138, 139, 82, 83, 84, 299, 300, 301, 302, 188, 57, 613, 614, 615, 616, 617, 618, 619, 620, 621, 622, 623, 624, 625, 626, 627, 628, 629, 630, 631, 632, 633, 634, 635, 636, 637] (by decide +kernel) (by decide +kernel)
set_option maxRecDepth 20000 in
theorem gL_law_X4_rub : GoodIn wsL_law (wsV RL 55 RX4 yX4_rub wsX4_rub) := goodIn_app (goodIn_of _ (by decide +kernel)) ggL_law_X4_rub
set_option maxRecDepth 20000 in
theorem ggL_law_X3_undo : GoodIn wsL_law wsX3_undo := goodIn_r _ [339, 24, 20, 144, 340, 341, 342, 23, 343, 275, 280, 281, 282, 283, 42, 284, 251, 252, 19, 253, 150, 151, 152, 153, 154, 155, 156, 606, 607, 608, 609, 610, 611, 612, 648, 649, 640, 641, 642, 643, 644, 645, 646, 647] (by decide +kernel) (by decide +kernel)
set_option maxRecDepth 20000 in
theorem gL_law_X3_undo : GoodIn wsL_law (wsV RL 56 RX3 yX3_undo wsX3_undo) := goodIn_app (goodIn_of _ (by decide +kernel)) ggL_law_X3_undo
set_option maxRecDepth 20000 in
theorem ggL_law_X4_undo : GoodIn wsL_law wsX4_undo := goodIn_r _ [347, 79, 188, 55, 57, 613, 614, 615, 616, 617, 618, 619, 620, 621, 622, 623, 624, 625, 626, 627, 628, 629, 630, 631, 632, 633, 634, 635, 636, 637] (by decide +kernel) (by decide +kernel)
set_option maxRecDepth 20000 in
theorem gL_law_X4_undo : GoodIn wsL_law (wsV RL 59 RX4 yX4_undo wsX4_undo) := goodIn_app (goodIn_of _ (by decide +kernel)) ggL_law_X4_undo
set_option maxRecDepth 20000 in
theorem ggL_law_X3_road : GoodIn wsL_law wsX3_road := goodIn_r _ [351, 20, 193, 225, 226, 2, 227, 352, 353, 354, 19, 355, 260, 261, 262, 263, 173, 174, 175, 176, 151, 206, 207, 208, 209, 150, 356, 357, 358, 359, 268, 269, 360, 361, 362, 363, 258, 259, 364, 365, 366, 606, 607, 608, 609, 610, 611, 612, 640, 641, 642, 643, 644, 645, 646, 647] (by decide +kernel) (by decide +kernel)
set_option maxRecDepth 20000 in
theorem gL_law_X3_road : GoodIn wsL_law (wsV RL 60 RX3 yX3_road wsX3_road) := goodIn_app (goodIn_of _ (by decide +kernel)) ggL_law_X3_road
set_option maxRecDepth 20000 in
theorem ggL_law_X4_road : GoodIn wsL_law wsX4_road := goodIn_r _ [370, 79, 61, 55, 52, 136, 137, 5, 138, 139, 82, 83, 84, 371, 372, 373, 374, 293, 294, 295, 296, 297, 298, 613, 614, 615, 616, 617, 618, 619, 620, 621, 622, 623, 624, 625, 626, 627, 628, 629, 630, 631, 632, 633, 634, 635, 636, 637] (by decide +kernel) (by decide +kernel)
set_option maxRecDepth 20000 in
theorem gL_law_X4_road : GoodIn wsL_law (wsV RL 64 RX4 yX4_road wsX4_road) := goodIn_app (goodIn_of _ (by decide +kernel)) ggL_law_X4_road
set_option maxRecDepth 20000 in
theorem ggL_law_X3_most : GoodIn wsL_law wsX3_most := goodIn_r _ [378, 26, 20, 250, 251, 252, 19, 253, 150, 151, 152, 153, 154, 155, 156, 379, 380, 2, 381, 194, 382, 383, 384, 385, 386, 254, 255, 256, 257, 258, 259, 260, 261, 262, 263, 173, 174, 175, 176, 206, 207, 208, 209, 264, 265, 266, 267, 268, 269, 270, 231, 232, 233, 387, 388, 389, 390, 606, 607, 608, 609, 610, 611, 612, 640, 641, 642, 643, 644, 645, 646, 647] (by decide +kernel) (by decide +kernel)
set_option maxRecDepth 20000 in
theorem gL_law_X3_most : GoodIn wsL_law (wsV RL 65 RX3 yX3_most wsX3_most) := goodIn_app (goodIn_of _ (by decide +kernel)) ggL_law_X3_most
set_option maxRecDepth 20000 in
theorem ggL_law_X4_most : GoodIn wsL_law wsX4_most := goodIn_r _ [394, 79, 395, 55, 62, 396, 397, 82, 83, 5, 84, 398, 399, 400, 401, 402, 403, 404, 56, 405, 406, 407, 290, 291, 292, 293, 294, 295, 296, 297, 298, 303, 304, 305, 306, 52, 307, 308, 309, 238, 239, 240, 241, 613, 614, 615, 616, 617, 618, 619, 620, 621, 622, 623, 624, 625, 626, 627, 628, 629, 630, 631, 632, 633, 634, 635, 636, 637] (by decide +kernel) (by decide +kernel)
set_option maxRecDepth 20000 in
theorem gL_law_X4_most : GoodIn wsL_law (wsV RL 69 RX4 yX4_most wsX4_most) := goodIn_app (goodIn_of _ (by decide +kernel)) ggL_law_X4_most
set_option maxRecDepth 20000 in
theorem ggL_law_X3_mends : GoodIn wsL_law wsX3_mends := goodIn_r _ [411, 20, 193, 198, 199, 200, 19, 201, 202, 203, 204, 205, 173, 174, 175, 176, 151, 206, 207, 208, 209, 150, 412, 413, 414, 2, 415, 26, 359, 268, 269, 250, 251, 252, 253, 152, 153, 154, 155, 156, 228, 322, 160, 161, 162, 163, 164, 379, 380, 381, 194, 382, 383, 384, 385, 386, 254, 255, 256, 257, 258, 259, 260, 261, 262, 263, 264, 265, 266, 267, 270, 231, 232, 233, 606, 607, 608, 609, 610, 611, 612, 640, 641, 642, 643, 644, 645, 646, 647] (by decide +kernel) (by decide +kernel)
set_option maxRecDepth 20000 in
theorem gL_law_X3_mends : GoodIn wsL_law (wsV RL 70 RX3 yX3_mends wsX3_mends) := goodIn_app (goodIn_of _ (by decide +kernel)) ggL_law_X3_mends
set_option maxRecDepth 20000 in
theorem ggL_law_X4_mends : GoodIn wsL_law wsX4_mends := goodIn_r _ [419, 79, 327, 55, 82, 83, 5, 84, 217, 218, 219, 220, 52, 420, 421, 422, 423, 62, 397, 307, 308, 309, 398, 399, 400, 401, 402, 403, 404, 396, 56, 405, 406, 407, 290, 291, 292, 293, 294, 295, 296, 297, 298, 303, 304, 305, 306, 238, 239, 240, 241, 613, 614, 615, 616, 617, 618, 619, 620, 621, 622, 623, 624, 625, 626, 627, 628, 629, 630, 631, 632, 633, 634, 635, 636, 637] (by decide +kernel) (by decide +kernel)
set_option maxRecDepth 20000 in
theorem gL_law_X4_mends : GoodIn wsL_law (wsV RL 73 RX4 yX4_mends wsX4_mends) := goodIn_app (goodIn_of _ (by decide +kernel)) ggL_law_X4_mends
set_option maxRecDepth 20000 in
theorem ggL_law_X3_draws : GoodIn wsL_law wsX3_draws := goodIn_r _ [427, 20, 165, 166, 167, 19, 168, 169, 170, 171, 172, 173, 174, 175, 176, 151, 177, 178, 179, 180, 181, 182, 183, 428, 429, 430, 431, 206, 207, 208, 209, 150, 412, 413, 414, 2, 415, 26, 359, 268, 269, 250, 251, 252, 253, 152, 153, 154, 155, 156, 228, 322, 160, 161, 162, 163, 164, 379, 380, 381, 194, 382, 383, 384, 385, 386, 254, 255, 256, 257, 258, 259, 260, 261, 262, 263, 264, 265, 266, 267, 270, 231, 232, 233, 606, 607, 608, 609, 610, 611, 612, 640, 641, 642, 643, 644, 645, 646, 647] (by decide +kernel) (by decide +kernel)
set_option maxRecDepth 20000 in
theorem gL_law_X3_draws : GoodIn wsL_law (wsV RL 74 RX3 yX3_draws wsX3_draws) := goodIn_app (goodIn_of _ (by decide +kernel)) ggL_law_X3_draws
set_option maxRecDepth 20000 in
theorem ggL_law_X4_draws : GoodIn wsL_law wsX4_draws := goodIn_r _ [435, 79, 289, 55, 52, 82, 83, 5, 84, 214, 215, 216, 420, 421, 422, 423, 62, 397, 307, 308, 309, 398, 399, 400, 401, 402, 403, 404, 396, 56, 405, 406, 407, 290, 291, 292, 293, 294, 295, 296, 297, 298, 303, 304, 305, 306, 238, 239, 240, 241, 613, 614, 615, 616, 617, 618, 619, 620, 621, 622, 623, 624, 625, 626, 627, 628, 629, 630, 631, 632, 633, 634, 635, 636, 637] (by decide +kernel) (by decide +kernel)
set_option maxRecDepth 20000 in
theorem gL_law_X4_draws : GoodIn wsL_law (wsV RL 77 RX4 yX4_draws wsX4_draws) := goodIn_app (goodIn_of _ (by decide +kernel)) ggL_law_X4_draws
set_option maxRecDepth 20000 in
theorem ggL_law_X3_judge : GoodIn wsL_law wsX3_judge := goodIn_r _ [439, 26, 20, 195, 440, 441, 2, 442, 250, 251, 252, 19, 253, 150, 151, 152, 153, 154, 155, 156, 443, 444, 445, 254, 255, 256, 257, 258, 259, 260, 261, 262, 263, 173, 174, 175, 176, 206, 207, 208, 209, 264, 265, 266, 267, 268, 269, 270, 231, 232, 233, 606, 607, 608, 609, 610, 611, 612, 640, 641, 642, 643, 644, 645, 646, 647] (by decide +kernel) (by decide +kernel)
set_option maxRecDepth 20000 in
theorem gL_law_X3_judge : GoodIn wsL_law (wsV RL 78 RX3 yX3_judge wsX3_judge) := goodIn_app (goodIn_of _ (by decide +kernel)) ggL_law_X3_judge
set_option maxRecDepth 20000 in
theorem ggL_law_X4_judge : GoodIn wsL_law wsX4_judge := goodIn_r _ [449, 79, 55, 56, 450, 451, 5, 452, 82, 83, 84, 405, 406, 407, 398, 399, 400, 290, 291, 292, 293, 294, 295, 296, 297, 298, 303, 304, 305, 306, 52, 307, 308, 309, 238, 239, 240, 241, 613, 614, 615, 616, 617, 618, 619, 620, 621, 622, 623, 624, 625, 626, 627, 628, 629, 630, 631, 632, 633, 634, 635, 636, 637] (by decide +kernel) (by decide +kernel)
set_option maxRecDepth 20000 in
theorem gL_law_X4_judge : GoodIn wsL_law (wsV RL 81 RX4 yX4_judge wsX4_judge) := goodIn_app (goodIn_of _ (by decide +kernel)) ggL_law_X4_judge
set_option maxRecDepth 20000 in
theorem ggL_law_X3_starts : GoodIn wsL_law wsX3_starts := goodIn_r _ [456, 20, 26, 193, 196, 194, 440, 441, 2, 442, 352, 353, 354, 19, 355, 260, 261, 262, 263, 173, 174, 175, 176, 151, 206, 207, 208, 209, 150, 359, 268, 269, 250, 251, 252, 253, 152, 153, 154, 155, 156, 457, 458, 459, 460, 443, 444, 445, 254, 255, 256, 257, 258, 259, 264, 265, 266, 267, 270, 231, 232, 233, 606, 607, 608, 609, 610, 611, 612, 640, 641, 642, 643, 644, 645, 646, 647] (by decide +kernel) (by decide +kernel)
set_option maxRecDepth 20000 in
theorem gL_law_X3_starts : GoodIn wsL_law (wsV RL 82 RX3 yX3_starts wsX3_starts) := goodIn_app (goodIn_of _ (by decide +kernel)) ggL_law_X3_starts
set_option maxRecDepth 20000 in
theorem ggL_law_X4_starts : GoodIn wsL_law wsX4_starts := goodIn_r _ [464, 79, 465, 55, 56, 52, 450, 451, 5, 452, 82, 83, 84, 405, 406, 407, 398, 399, 400, 296, 297, 298, 466, 467, 468, 469, 470, 290, 291, 292, 293, 294, 295, 303, 304, 305, 306, 307, 308, 309, 238, 239, 240, 241, 613, 614, 615, 616, 617, 618, 619, 620, 621, 622, 623, 624, 625, 626, 627, 628, 629, 630, 631, 632, 633, 634, 635, 636, 637] (by decide +kernel) (by decide +kernel)
set_option maxRecDepth 20000 in
theorem gL_law_X4_starts : GoodIn wsL_law (wsV RL 86 RX4 yX4_starts wsX4_starts) := goodIn_app (goodIn_of _ (by decide +kernel)) ggL_law_X4_starts
set_option maxRecDepth 20000 in
theorem ggL_law_X3_share : GoodIn wsL_law wsX3_share := goodIn_r _ [474, 20, 225, 226, 2, 227, 229, 174, 175, 19, 176, 151, 475, 170, 171, 172, 173, 476, 178, 179, 180, 181, 182, 183, 477, 478, 479, 480, 26, 383, 384, 385, 386, 250, 251, 252, 253, 150, 152, 153, 154, 155, 156, 481, 482, 483, 484, 268, 269, 159, 160, 161, 162, 163, 164, 379, 380, 381, 194, 382, 254, 255, 256, 257, 258, 259, 260, 261, 262, 263, 206, 207, 208, 209, 264, 265, 266, 267, 270, 231, 232, 233, 485, 486, 487, 488, 489, 490, 491, 492, 493, 606, 607, 608, 609, 610, 611, 612, 640, 641, 642, 643, 644, 645, 646, 647] (by decide +kernel) (by decide +kernel)
set_option maxRecDepth 20000 in
theorem gL_law_X3_share : GoodIn wsL_law (wsV RL 87 RX3 yX3_share wsX3_share) := goodIn_app (goodIn_of _ (by decide +kernel)) ggL_law_X3_share
set_option maxRecDepth 20000 in
theorem ggL_law_X4_share : GoodIn wsL_law wsX4_share := goodIn_r _ [497, 79, 55, 62, 64, 63, 397, 136, 137, 5, 138, 139, 82, 83, 84, 498, 499, 500, 501, 214, 215, 216, 398, 399, 400, 307, 308, 309, 401, 402, 403, 404, 396, 56, 405, 406, 407, 290, 291, 292, 293, 294, 295, 296, 297, 298, 303, 304, 305, 306, 52, 238, 239, 240, 241, 502, 503, 504, 505, 506, 507, 508, 509, 510, 511, 512, 513, 613, 614, 615, 616, 617, 618, 619, 620, 621, 622, 623, 624, 625, 626, 627, 628, 629, 630, 631, 632, 633, 634, 635, 636, 637] (by decide +kernel) (by decide +kernel)
set_option maxRecDepth 20000 in
theorem gL_law_X4_share : GoodIn wsL_law (wsV RL 90 RX4 yX4_share wsX4_share) := goodIn_app (goodIn_of _ (by decide +kernel)) ggL_law_X4_share
set_option maxRecDepth 20000 in
theorem ggL_law_X3_rests : GoodIn wsL_law wsX3_rests := goodIn_r _ [517, 20, 518, 519, 385, 520, 165, 166, 167, 19, 168, 169, 170, 171, 172, 173, 174, 175, 176, 151, 177, 178, 179, 180, 181, 182, 183, 521, 522, 2, 523, 524, 525, 526, 383, 384, 386, 527, 528, 529, 606, 607, 608, 609, 610, 611, 612, 640, 641, 642, 643, 644, 645, 646, 647] (by decide +kernel) (by decide +kernel)
set_option maxRecDepth 20000 in
theorem gL_law_X3_rests : GoodIn wsL_law (wsV RL 91 RX3 yX3_rests wsX3_rests) := goodIn_app (goodIn_of _ (by decide +kernel)) ggL_law_X3_rests
set_option maxRecDepth 20000 in
theorem ggL_law_X4_rests : GoodIn wsL_law wsX4_rests := goodIn_r _ [533, 79, 55, 534, 535, 82, 83, 5, 84, 214, 215, 216, 536, 537, 538, 539, 540, 541, 542, 613, 614, 615, 616, 617, 618, 619, 620, 621, 622, 623, 624, 625, 626, 627, 628, 629, 630, 631, 632, 633, 634, 635, 636, 637] (by decide +kernel) (by decide +kernel)
set_option maxRecDepth 20000 in
theorem gL_law_X4_rests : GoodIn wsL_law (wsV RL 94 RX4 yX4_rests wsX4_rests) := goodIn_app (goodIn_of _ (by decide +kernel)) ggL_law_X4_rests
