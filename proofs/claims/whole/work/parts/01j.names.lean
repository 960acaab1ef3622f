theorem dX4_bestOf_30 : decode cX4_bestOf 30 = .ok (.aload_n 0, 1) := by decide +kernel
theorem dX4_bestOf_31 : decode cX4_bestOf 31 = .ok (.getfield 41, 3) := by decide +kernel
theorem dX4_bestOf_34 : decode cX4_bestOf 34 = .ok (.invokestatic 146, 3) := by decide +kernel
theorem dX4_bestOf_37 : decode cX4_bestOf 37 = .ok (.aload_n 0, 1) := by decide +kernel
theorem dX4_bestOf_38 : decode cX4_bestOf 38 = .ok (.getfield 41, 3) := by decide +kernel
theorem dX4_bestOf_41 : decode cX4_bestOf 41 = .ok (.iconst 0, 1) := by decide +kernel
theorem dX4_bestOf_42 : decode cX4_bestOf 42 = .ok (.iload 5, 2) := by decide +kernel
theorem dX4_bestOf_44 : decode cX4_bestOf 44 = .ok (.iadd, 1) := by decide +kernel
theorem dX4_bestOf_45 : decode cX4_bestOf 45 = .ok (.aload_n 0, 1) := by decide +kernel
theorem dX4_bestOf_46 : decode cX4_bestOf 46 = .ok (.getfield 13, 3) := by decide +kernel
theorem dX4_bestOf_49 : decode cX4_bestOf 49 = .ok (.iload 5, 2) := by decide +kernel
theorem dX4_bestOf_51 : decode cX4_bestOf 51 = .ok (.iaload, 1) := by decide +kernel
theorem dX4_bestOf_52 : decode cX4_bestOf 52 = .ok (.iastore, 1) := by decide +kernel
theorem dX4_bestOf_53 : decode cX4_bestOf 53 = .ok (.aload_n 0, 1) := by decide +kernel
theorem dX4_bestOf_54 : decode cX4_bestOf 54 = .ok (.iload_n 2, 1) := by decide +kernel
theorem dX4_bestOf_55 : decode cX4_bestOf 55 = .ok (.invokevirtual 152, 3) := by decide +kernel
theorem dX4_bestOf_58 : decode cX4_bestOf 58 = .ok (.aload_n 0, 1) := by decide +kernel
theorem dX4_bestOf_59 : decode cX4_bestOf 59 = .ok (.getfield 137, 3) := by decide +kernel
theorem dX4_bestOf_62 : decode cX4_bestOf 62 = .ok (.iload 4, 2) := by decide +kernel
theorem dX4_bestOf_64 : decode cX4_bestOf 64 = .ok (.if_icmp .le 8, 3) := by decide +kernel
theorem dX4_bestOf_67 : decode cX4_bestOf 67 = .ok (.iload 5, 2) := by decide +kernel
theorem dX4_bestOf_69 : decode cX4_bestOf 69 = .ok (.goto 4, 3) := by decide +kernel
theorem dX4_bestOf_72 : decode cX4_bestOf 72 = .ok (.iload_n 3, 1) := by decide +kernel
theorem dX4_bestOf_73 : decode cX4_bestOf 73 = .ok (.istore_n 3, 1) := by decide +kernel
theorem dX4_bestOf_74 : decode cX4_bestOf 74 = .ok (.aload_n 0, 1) := by decide +kernel
theorem dX4_bestOf_75 : decode cX4_bestOf 75 = .ok (.getfield 137, 3) := by decide +kernel
theorem dX4_bestOf_78 : decode cX4_bestOf 78 = .ok (.iload 4, 2) := by decide +kernel
theorem dX4_bestOf_80 : decode cX4_bestOf 80 = .ok (.if_icmp .le 10, 3) := by decide +kernel
theorem dX4_bestOf_83 : decode cX4_bestOf 83 = .ok (.aload_n 0, 1) := by decide +kernel
theorem dX4_bestOf_84 : decode cX4_bestOf 84 = .ok (.getfield 137, 3) := by decide +kernel
theorem dX4_bestOf_87 : decode cX4_bestOf 87 = .ok (.goto 5, 3) := by decide +kernel
theorem dX4_bestOf_90 : decode cX4_bestOf 90 = .ok (.iload 4, 2) := by decide +kernel
theorem dX4_bestOf_92 : decode cX4_bestOf 92 = .ok (.istore 4, 2) := by decide +kernel
theorem dX4_bestOf_94 : decode cX4_bestOf 94 = .ok (.iinc 5 1, 3) := by decide +kernel
theorem dX4_bestOf_97 : decode cX4_bestOf 97 = .ok (.goto (-87), 3) := by decide +kernel
theorem dX4_bestOf_100 : decode cX4_bestOf 100 = .ok (.iload_n 3, 1) := by decide +kernel
theorem dX4_bestOf_101 : decode cX4_bestOf 101 = .ok (.ireturn, 1) := by decide +kernel
set_option maxRecDepth 20000 in
theorem ggX4_mends_X4_in : GoodIn wsX4_mends wsX4_in := goodIn_r _ [7] (by decide +kernel) (by decide +kernel)
set_option maxRecDepth 20000 in
theorem gX4_mends_X4_in : GoodIn wsX4_mends (va_wsS RX4 56 yX4_in wsX4_in) := goodIn_app (goodIn_of _ (by decide +kernel)) ggX4_mends_X4_in
set_option maxRecDepth 20000 in
theorem ggX4_mends_X4_errorsOf : GoodIn wsX4_mends wsX4_errorsOf := goodIn_r _ [11, 12, 51, 52, 53, 54, 55, 56, 57, 58, 59, 60, 61, 62, 63, 64, 65, 66, 67, 68, 69, 70, 71, 72, 73, 74, 75] (by decide +kernel) (by decide +kernel)
set_option maxRecDepth 20000 in
theorem gX4_mends_X4_errorsOf : GoodIn wsX4_mends (wsV RX4 100 RX4 yX4_errorsOf wsX4_errorsOf) := goodIn_app (goodIn_of _ (by decide +kernel)) ggX4_mends_X4_errorsOf
set_option maxRecDepth 20000 in
theorem ggX4_mends_X4_bestOf : GoodIn wsX4_mends wsX4_bestOf := goodIn_r _ [16, 3, 17, 12, 18, 19, 20, 6, 21, 22, 23, 24, 25, 26, 27, 28, 29, 30, 31, 32, 33, 34, 35, 36, 37, 38, 39, 40, 41, 42, 43, 44, 45, 46, 47, 48, 49, 50, 51, 52, 53, 54, 55, 56, 57, 58, 59, 60, 61, 62, 63, 64, 65, 66, 67, 68, 69, 70, 71, 72, 73, 74, 75] (by decide +kernel) (by decide +kernel)
set_option maxRecDepth 20000 in
theorem gX4_mends_X4_bestOf : GoodIn wsX4_mends (wsV RX4 156 RX4 yX4_bestOf wsX4_bestOf) := goodIn_app (goodIn_of _ (by decide +kernel)) ggX4_mends_X4_bestOf
theorem dX4_mends_0 : decode cX4_mends 0 = .ok (.aload_n 0, 1) := by decide +kernel
theorem dX4_mends_1 : decode cX4_mends 1 = .ok (.iconst 0, 1) := by decide +kernel
theorem dX4_mends_2 : decode cX4_mends 2 = .ok (.putfield 50, 3) := by decide +kernel
theorem dX4_mends_5 : decode cX4_mends 5 = .ok (.iload_n 1, 1) := by decide +kernel
theorem dX4_mends_6 : decode cX4_mends 6 = .ok (.i2l, 1) := by decide +kernel
theorem dX4_mends_7 : decode cX4_mends 7 = .ok (.lconst 1, 1) := by decide +kernel
theorem dX4_mends_8 : decode cX4_mends 8 = .ok (.ldc2_w 131, 3) := by decide +kernel
theorem dX4_mends_11 : decode cX4_mends 11 = .ok (.invokestatic 56, 3) := by decide +kernel
theorem dX4_mends_14 : decode cX4_mends 14 = .ok (.ifCond .eq 31, 3) := by decide +kernel
theorem dX4_mends_17 : decode cX4_mends 17 = .ok (.aload_n 0, 1) := by decide +kernel
theorem dX4_mends_18 : decode cX4_mends 18 = .ok (.aload_n 0, 1) := by decide +kernel
theorem dX4_mends_19 : decode cX4_mends 19 = .ok (.aload_n 0, 1) := by decide +kernel
theorem dX4_mends_20 : decode cX4_mends 20 = .ok (.getfield 22, 3) := by decide +kernel
theorem dX4_mends_23 : decode cX4_mends 23 = .ok (.invokevirtual 100, 3) := by decide +kernel
theorem dX4_mends_26 : decode cX4_mends 26 = .ok (.iconst 1, 1) := by decide +kernel
theorem dX4_mends_27 : decode cX4_mends 27 = .ok (.aload_n 0, 1) := by decide +kernel
theorem dX4_mends_28 : decode cX4_mends 28 = .ok (.getfield 22, 3) := by decide +kernel
theorem dX4_mends_31 : decode cX4_mends 31 = .ok (.bipush 12, 2) := by decide +kernel
theorem dX4_mends_33 : decode cX4_mends 33 = .ok (.iaload, 1) := by decide +kernel
theorem dX4_mends_34 : decode cX4_mends 34 = .ok (.ishl, 1) := by decide +kernel
theorem dX4_mends_35 : decode cX4_mends 35 = .ok (.iconst (-1), 1) := by decide +kernel
theorem dX4_mends_36 : decode cX4_mends 36 = .ok (.ixor, 1) := by decide +kernel
theorem dX4_mends_37 : decode cX4_mends 37 = .ok (.iand, 1) := by decide +kernel
theorem dX4_mends_38 : decode cX4_mends 38 = .ok (.iload_n 1, 1) := by decide +kernel
theorem dX4_mends_39 : decode cX4_mends 39 = .ok (.invokevirtual 156, 3) := by decide +kernel
theorem dX4_mends_42 : decode cX4_mends 42 = .ok (.goto 5, 3) := by decide +kernel
theorem dX4_mends_45 : decode cX4_mends 45 = .ok (.bipush (-2), 2) := by decide +kernel
theorem dX4_mends_47 : decode cX4_mends 47 = .ok (.ireturn, 1) := by decide +kernel
set_option maxRecDepth 20000 in
theorem ggX4_draws_X4_in : GoodIn wsX4_draws wsX4_in := goodIn_r _ [8] (by decide +kernel) (by decide +kernel)
set_option maxRecDepth 20000 in
theorem gX4_draws_X4_in : GoodIn wsX4_draws (va_wsS RX4 56 yX4_in wsX4_in) := goodIn_app (goodIn_of _ (by decide +kernel)) ggX4_draws_X4_in
set_option maxRecDepth 20000 in
theorem ggX4_draws_X4_signsOf : GoodIn wsX4_draws wsX4_signsOf := goodIn_r _ [11] (by decide +kernel) (by decide +kernel)
set_option maxRecDepth 20000 in
theorem gX4_draws_X4_signsOf : GoodIn wsX4_draws (va_wsS RX4 96 yX4_signsOf wsX4_signsOf) := goodIn_app (goodIn_of _ (by decide +kernel)) ggX4_draws_X4_signsOf
set_option maxRecDepth 20000 in
theorem ggX4_draws_X4_bestOf : GoodIn wsX4_draws wsX4_bestOf := goodIn_r _ [15, 3, 16, 4, 17, 18, 19, 7, 20, 21, 22, 23, 24, 25, 26, 27, 28, 29, 30, 31, 32, 33, 34, 35, 36, 37, 38, 39, 40, 41, 42, 43, 44, 45, 46, 47, 48, 49, 50, 51, 52, 53, 54, 55, 56, 57, 58, 59, 60, 61, 62, 63, 64, 65, 66, 67, 68, 69, 70, 71, 72, 73, 74] (by decide +kernel) (by decide +kernel)
set_option maxRecDepth 20000 in
theorem gX4_draws_X4_bestOf : GoodIn wsX4_draws (wsV RX4 156 RX4 yX4_bestOf wsX4_bestOf) := goodIn_app (goodIn_of _ (by decide +kernel)) ggX4_draws_X4_bestOf
theorem dX4_draws_0 : decode cX4_draws 0 = .ok (.aload_n 0, 1) := by decide +kernel
theorem dX4_draws_1 : decode cX4_draws 1 = .ok (.iconst 0, 1) := by decide +kernel
theorem dX4_draws_2 : decode cX4_draws 2 = .ok (.putfield 50, 3) := by decide +kernel
theorem dX4_draws_5 : decode cX4_draws 5 = .ok (.iload_n 1, 1) := by decide +kernel
theorem dX4_draws_6 : decode cX4_draws 6 = .ok (.i2l, 1) := by decide +kernel
theorem dX4_draws_7 : decode cX4_draws 7 = .ok (.lconst 1, 1) := by decide +kernel
theorem dX4_draws_8 : decode cX4_draws 8 = .ok (.ldc2_w 119, 3) := by decide +kernel
theorem dX4_draws_11 : decode cX4_draws 11 = .ok (.invokestatic 56, 3) := by decide +kernel
theorem dX4_draws_14 : decode cX4_draws 14 = .ok (.ifCond .ne 6, 3) := by decide +kernel
theorem dX4_draws_17 : decode cX4_draws 17 = .ok (.bipush (-2), 2) := by decide +kernel
theorem dX4_draws_19 : decode cX4_draws 19 = .ok (.ireturn, 1) := by decide +kernel
theorem dX4_draws_20 : decode cX4_draws 20 = .ok (.iconst 0, 1) := by decide +kernel
theorem dX4_draws_21 : decode cX4_draws 21 = .ok (.istore_n 2, 1) := by decide +kernel
theorem dX4_draws_22 : decode cX4_draws 22 = .ok (.iconst 0, 1) := by decide +kernel
theorem dX4_draws_23 : decode cX4_draws 23 = .ok (.istore_n 3, 1) := by decide +kernel
theorem dX4_draws_24 : decode cX4_draws 24 = .ok (.iload_n 3, 1) := by decide +kernel
theorem dX4_draws_25 : decode cX4_draws 25 = .ok (.bipush 12, 2) := by decide +kernel
theorem dX4_draws_27 : decode cX4_draws 27 = .ok (.if_icmp .ge 39, 3) := by decide +kernel
theorem dX4_draws_30 : decode cX4_draws 30 = .ok (.iload_n 2, 1) := by decide +kernel
theorem dX4_draws_31 : decode cX4_draws 31 = .ok (.aload_n 0, 1) := by decide +kernel
theorem dX4_draws_32 : decode cX4_draws 32 = .ok (.getfield 22, 3) := by decide +kernel
theorem dX4_draws_35 : decode cX4_draws 35 = .ok (.iconst 0, 1) := by decide +kernel
theorem dX4_draws_36 : decode cX4_draws 36 = .ok (.iload_n 3, 1) := by decide +kernel
theorem dX4_draws_37 : decode cX4_draws 37 = .ok (.iadd, 1) := by decide +kernel
theorem dX4_draws_38 : decode cX4_draws 38 = .ok (.iaload, 1) := by decide +kernel
theorem dX4_draws_39 : decode cX4_draws 39 = .ok (.ifCond .ne 18, 3) := by decide +kernel
theorem dX4_draws_42 : decode cX4_draws 42 = .ok (.aload_n 0, 1) := by decide +kernel
theorem dX4_draws_43 : decode cX4_draws 43 = .ok (.getfield 13, 3) := by decide +kernel
theorem dX4_draws_46 : decode cX4_draws 46 = .ok (.iload_n 3, 1) := by decide +kernel
theorem dX4_draws_47 : decode cX4_draws 47 = .ok (.iaload, 1) := by decide +kernel
theorem dX4_draws_48 : decode cX4_draws 48 = .ok (.ifCond .le 9, 3) := by decide +kernel
theorem dX4_draws_51 : decode cX4_draws 51 = .ok (.iconst 1, 1) := by decide +kernel
theorem dX4_draws_52 : decode cX4_draws 52 = .ok (.iload_n 3, 1) := by decide +kernel
theorem dX4_draws_53 : decode cX4_draws 53 = .ok (.ishl, 1) := by decide +kernel
theorem dX4_draws_54 : decode cX4_draws 54 = .ok (.goto 4, 3) := by decide +kernel
theorem dX4_draws_57 : decode cX4_draws 57 = .ok (.iconst 0, 1) := by decide +kernel
theorem dX4_draws_58 : decode cX4_draws 58 = .ok (.ior, 1) := by decide +kernel
theorem dX4_draws_59 : decode cX4_draws 59 = .ok (.istore_n 2, 1) := by decide +kernel
theorem dX4_draws_60 : decode cX4_draws 60 = .ok (.iinc 3 1, 3) := by decide +kernel
theorem dX4_draws_63 : decode cX4_draws 63 = .ok (.goto (-39), 3) := by decide +kernel
theorem dX4_draws_66 : decode cX4_draws 66 = .ok (.aload_n 0, 1) := by decide +kernel
theorem dX4_draws_67 : decode cX4_draws 67 = .ok (.getfield 22, 3) := by decide +kernel
theorem dX4_draws_70 : decode cX4_draws 70 = .ok (.invokestatic 96, 3) := by decide +kernel
theorem dX4_draws_73 : decode cX4_draws 73 = .ok (.bipush 8, 2) := by decide +kernel
theorem dX4_draws_75 : decode cX4_draws 75 = .ok (.if_icmp .ne 8, 3) := by decide +kernel
theorem dX4_draws_78 : decode cX4_draws 78 = .ok (.bipush (-9), 2) := by decide +kernel
theorem dX4_draws_80 : decode cX4_draws 80 = .ok (.goto 9, 3) := by decide +kernel
theorem dX4_draws_83 : decode cX4_draws 83 = .ok (.aload_n 0, 1) := by decide +kernel
theorem dX4_draws_84 : decode cX4_draws 84 = .ok (.iload_n 2, 1) := by decide +kernel
theorem dX4_draws_85 : decode cX4_draws 85 = .ok (.iload_n 1, 1) := by decide +kernel
theorem dX4_draws_86 : decode cX4_draws 86 = .ok (.invokevirtual 156, 3) := by decide +kernel
theorem dX4_draws_89 : decode cX4_draws 89 = .ok (.ireturn, 1) := by decide +kernel
set_option maxRecDepth 20000 in
theorem ggX4_noRow_X4_in : GoodIn wsX4_noRow wsX4_in := goodIn_r _ [4] (by decide +kernel) (by decide +kernel)
set_option maxRecDepth 20000 in
theorem gX4_noRow_X4_in : GoodIn wsX4_noRow (va_wsS RX4 56 yX4_in wsX4_in) := goodIn_app (goodIn_of _ (by decide +kernel)) ggX4_noRow_X4_in
set_option maxRecDepth 20000 in
theorem ggX4_noRow_X4_power : GoodIn wsX4_noRow wsX4_power := goodIn_r _ [7] (by decide +kernel) (by decide +kernel)
set_option maxRecDepth 20000 in
theorem gX4_noRow_X4_power : GoodIn wsX4_noRow (va_wsS RX4 143 yX4_power wsX4_power) := goodIn_app (goodIn_of _ (by decide +kernel)) ggX4_noRow_X4_power
theorem dX4_noRow_0 : decode cX4_noRow 0 = .ok (.iload_n 0, 1) := by decide +kernel
theorem dX4_noRow_1 : decode cX4_noRow 1 = .ok (.i2l, 1) := by decide +kernel
theorem dX4_noRow_2 : decode cX4_noRow 2 = .ok (.lconst 1, 1) := by decide +kernel
theorem dX4_noRow_3 : decode cX4_noRow 3 = .ok (.iload_n 1, 1) := by decide +kernel
theorem dX4_noRow_4 : decode cX4_noRow 4 = .ok (.i2l, 1) := by decide +kernel
theorem dX4_noRow_5 : decode cX4_noRow 5 = .ok (.invokestatic 56, 3) := by decide +kernel
theorem dX4_noRow_8 : decode cX4_noRow 8 = .ok (.ifCond .eq 21, 3) := by decide +kernel
theorem dX4_noRow_11 : decode cX4_noRow 11 = .ok (.iload_n 2, 1) := by decide +kernel
theorem dX4_noRow_12 : decode cX4_noRow 12 = .ok (.i2l, 1) := by decide +kernel
theorem dX4_noRow_13 : decode cX4_noRow 13 = .ok (.lconst 0, 1) := by decide +kernel
theorem dX4_noRow_14 : decode cX4_noRow 14 = .ok (.bipush 10, 2) := by decide +kernel
theorem dX4_noRow_16 : decode cX4_noRow 16 = .ok (.iload_n 0, 1) := by decide +kernel
theorem dX4_noRow_17 : decode cX4_noRow 17 = .ok (.invokestatic 143, 3) := by decide +kernel
theorem dX4_noRow_20 : decode cX4_noRow 20 = .ok (.iconst 1, 1) := by decide +kernel
theorem dX4_noRow_21 : decode cX4_noRow 21 = .ok (.isub, 1) := by decide +kernel
theorem dX4_noRow_22 : decode cX4_noRow 22 = .ok (.i2l, 1) := by decide +kernel
theorem dX4_noRow_23 : decode cX4_noRow 23 = .ok (.invokestatic 56, 3) := by decide +kernel
theorem dX4_noRow_26 : decode cX4_noRow 26 = .ok (.ifCond .ne 5, 3) := by decide +kernel
theorem dX4_noRow_29 : decode cX4_noRow 29 = .ok (.iconst 1, 1) := by decide +kernel
theorem dX4_noRow_30 : decode cX4_noRow 30 = .ok (.ireturn, 1) := by decide +kernel
theorem dX4_noRow_31 : decode cX4_noRow 31 = .ok (.iconst 1, 1) := by decide +kernel
theorem dX4_noRow_32 : decode cX4_noRow 32 = .ok (.istore_n 3, 1) := by decide +kernel
theorem dX4_noRow_33 : decode cX4_noRow 33 = .ok (.iconst 0, 1) := by decide +kernel
theorem dX4_noRow_34 : decode cX4_noRow 34 = .ok (.istore 4, 2) := by decide +kernel
theorem dX4_noRow_36 : decode cX4_noRow 36 = .ok (.iload 4, 2) := by decide +kernel
theorem dX4_noRow_38 : decode cX4_noRow 38 = .ok (.iload_n 0, 1) := by decide +kernel
theorem dX4_noRow_39 : decode cX4_noRow 39 = .ok (.if_icmp .ge 35, 3) := by decide +kernel
theorem dX4_noRow_42 : decode cX4_noRow 42 = .ok (.iload_n 3, 1) := by decide +kernel
theorem dX4_noRow_43 : decode cX4_noRow 43 = .ok (.ifCond .eq 23, 3) := by decide +kernel
theorem dX4_noRow_46 : decode cX4_noRow 46 = .ok (.iload_n 2, 1) := by decide +kernel
theorem dX4_noRow_47 : decode cX4_noRow 47 = .ok (.bipush 10, 2) := by decide +kernel
theorem dX4_noRow_49 : decode cX4_noRow 49 = .ok (.iload 4, 2) := by decide +kernel
theorem dX4_noRow_51 : decode cX4_noRow 51 = .ok (.invokestatic 143, 3) := by decide +kernel
theorem dX4_noRow_54 : decode cX4_noRow 54 = .ok (.idiv, 1) := by decide +kernel
theorem dX4_noRow_55 : decode cX4_noRow 55 = .ok (.bipush 10, 2) := by decide +kernel
theorem dX4_noRow_57 : decode cX4_noRow 57 = .ok (.irem, 1) := by decide +kernel
theorem dX4_noRow_58 : decode cX4_noRow 58 = .ok (.iconst 4, 1) := by decide +kernel
theorem dX4_noRow_59 : decode cX4_noRow 59 = .ok (.if_icmp .gt 7, 3) := by decide +kernel
theorem dX4_noRow_62 : decode cX4_noRow 62 = .ok (.iconst 1, 1) := by decide +kernel
theorem dX4_noRow_63 : decode cX4_noRow 63 = .ok (.goto 4, 3) := by decide +kernel
theorem dX4_noRow_66 : decode cX4_noRow 66 = .ok (.iconst 0, 1) := by decide +kernel
theorem dX4_noRow_67 : decode cX4_noRow 67 = .ok (.istore_n 3, 1) := by decide +kernel
theorem dX4_noRow_68 : decode cX4_noRow 68 = .ok (.iinc 4 1, 3) := by decide +kernel
theorem dX4_noRow_71 : decode cX4_noRow 71 = .ok (.goto (-35), 3) := by decide +kernel
theorem dX4_noRow_74 : decode cX4_noRow 74 = .ok (.iload_n 3, 1) := by decide +kernel
theorem dX4_noRow_75 : decode cX4_noRow 75 = .ok (.ifCond .ne 7, 3) := by decide +kernel
theorem dX4_noRow_78 : decode cX4_noRow 78 = .ok (.iconst 1, 1) := by decide +kernel
theorem dX4_noRow_79 : decode cX4_noRow 79 = .ok (.goto 4, 3) := by decide +kernel
theorem dX4_noRow_82 : decode cX4_noRow 82 = .ok (.iconst 0, 1) := by decide +kernel
theorem dX4_noRow_83 : decode cX4_noRow 83 = .ok (.ireturn, 1) := by decide +kernel
set_option maxRecDepth 20000 in
theorem ggX4_judge_X4_noRow : GoodIn wsX4_judge wsX4_noRow := goodIn_r _ [7, 8, 9, 6, 10, 11, 12, 13] (by decide +kernel) (by decide +kernel)
set_option maxRecDepth 20000 in
theorem gX4_judge_X4_noRow : GoodIn wsX4_judge (va_wsS RX4 159 yX4_noRow wsX4_noRow) := goodIn_app (goodIn_of _ (by decide +kernel)) ggX4_judge_X4_noRow
set_option maxRecDepth 20000 in
theorem ggX4_judge_X4_copy : GoodIn wsX4_judge wsX4_copy := goodIn_r _ [16] (by decide +kernel) (by decide +kernel)
set_option maxRecDepth 20000 in
theorem gX4_judge_X4_copy : GoodIn wsX4_judge (va_wsS RX4 146 yX4_copy wsX4_copy) := goodIn_app (goodIn_of _ (by decide +kernel)) ggX4_judge_X4_copy
set_option maxRecDepth 20000 in
theorem ggX4_judge_X4_power : GoodIn wsX4_judge wsX4_power := goodIn_r _ [13] (by decide +kernel) (by decide +kernel)
set_option maxRecDepth 20000 in
theorem gX4_judge_X4_power : GoodIn wsX4_judge (va_wsS RX4 143 yX4_power wsX4_power) := goodIn_app (goodIn_of _ (by decide +kernel)) ggX4_judge_X4_power
set_option maxRecDepth 20000 in
theorem ggX4_judge_X4_can : GoodIn wsX4_judge wsX4_can := goodIn_r _ [19, 20, 21, 6, 22, 23, 24, 25] (by decide +kernel) (by decide +kernel)
set_option maxRecDepth 20000 in
theorem gX4_judge_X4_can : GoodIn wsX4_judge (va_wsS RX4 121 yX4_can wsX4_can) := goodIn_app (goodIn_of _ (by decide +kernel)) ggX4_judge_X4_can
set_option maxRecDepth 20000 in
theorem ggX4_judge_X4_step : GoodIn wsX4_judge wsX4_step := goodIn_r _ [29, 30, 20, 21, 6, 22, 31, 32, 33, 34, 35, 36, 37, 38, 39, 40, 41, 42, 43, 44, 45, 46, 47, 48, 49, 50, 51, 52, 53, 54, 55, 56, 57, 58, 59, 60, 61, 62] (by decide +kernel) (by decide +kernel)
set_option maxRecDepth 20000 in
theorem gX4_judge_X4_step : GoodIn wsX4_judge (wsV RX4 127 RX4 yX4_step wsX4_step) := goodIn_app (goodIn_of _ (by decide +kernel)) ggX4_judge_X4_step
theorem dX4_judge_0 : decode cX4_judge 0 = .ok (.aload_n 0, 1) := by decide +kernel
theorem dX4_judge_1 : decode cX4_judge 1 = .ok (.iconst 0, 1) := by decide +kernel
theorem dX4_judge_2 : decode cX4_judge 2 = .ok (.putfield 50, 3) := by decide +kernel
theorem dX4_judge_5 : decode cX4_judge 5 = .ok (.iload_n 1, 1) := by decide +kernel
theorem dX4_judge_6 : decode cX4_judge 6 = .ok (.bipush 6, 2) := by decide +kernel
theorem dX4_judge_8 : decode cX4_judge 8 = .ok (.iload_n 2, 1) := by decide +kernel
theorem dX4_judge_9 : decode cX4_judge 9 = .ok (.invokestatic 159, 3) := by decide +kernel
theorem dX4_judge_12 : decode cX4_judge 12 = .ok (.ifCond .eq 6, 3) := by decide +kernel
theorem dX4_judge_15 : decode cX4_judge 15 = .ok (.bipush (-2), 2) := by decide +kernel
theorem dX4_judge_17 : decode cX4_judge 17 = .ok (.ireturn, 1) := by decide +kernel
theorem dX4_judge_18 : decode cX4_judge 18 = .ok (.aload_n 0, 1) := by decide +kernel
theorem dX4_judge_19 : decode cX4_judge 19 = .ok (.getfield 22, 3) := by decide +kernel
theorem dX4_judge_22 : decode cX4_judge 22 = .ok (.aload_n 0, 1) := by decide +kernel
theorem dX4_judge_23 : decode cX4_judge 23 = .ok (.getfield 25, 3) := by decide +kernel
theorem dX4_judge_26 : decode cX4_judge 26 = .ok (.invokestatic 146, 3) := by decide +kernel
theorem dX4_judge_29 : decode cX4_judge 29 = .ok (.iconst 0, 1) := by decide +kernel
theorem dX4_judge_30 : decode cX4_judge 30 = .ok (.istore_n 3, 1) := by decide +kernel
theorem dX4_judge_31 : decode cX4_judge 31 = .ok (.iload_n 3, 1) := by decide +kernel
theorem dX4_judge_32 : decode cX4_judge 32 = .ok (.iload_n 1, 1) := by decide +kernel
theorem dX4_judge_33 : decode cX4_judge 33 = .ok (.if_icmp .ge 73, 3) := by decide +kernel
theorem dX4_judge_36 : decode cX4_judge 36 = .ok (.iload_n 2, 1) := by decide +kernel
theorem dX4_judge_37 : decode cX4_judge 37 = .ok (.bipush 10, 2) := by decide +kernel
theorem dX4_judge_39 : decode cX4_judge 39 = .ok (.iload_n 1, 1) := by decide +kernel
theorem dX4_judge_40 : decode cX4_judge 40 = .ok (.iconst 1, 1) := by decide +kernel
theorem dX4_judge_41 : decode cX4_judge 41 = .ok (.isub, 1) := by decide +kernel
theorem dX4_judge_42 : decode cX4_judge 42 = .ok (.iload_n 3, 1) := by decide +kernel
theorem dX4_judge_43 : decode cX4_judge 43 = .ok (.isub, 1) := by decide +kernel
theorem dX4_judge_44 : decode cX4_judge 44 = .ok (.invokestatic 143, 3) := by decide +kernel
theorem dX4_judge_47 : decode cX4_judge 47 = .ok (.idiv, 1) := by decide +kernel
theorem dX4_judge_48 : decode cX4_judge 48 = .ok (.bipush 10, 2) := by decide +kernel
theorem dX4_judge_50 : decode cX4_judge 50 = .ok (.irem, 1) := by decide +kernel
theorem dX4_judge_51 : decode cX4_judge 51 = .ok (.istore 4, 2) := by decide +kernel
theorem dX4_judge_53 : decode cX4_judge 53 = .ok (.aload_n 0, 1) := by decide +kernel
theorem dX4_judge_54 : decode cX4_judge 54 = .ok (.getfield 25, 3) := by decide +kernel
theorem dX4_judge_57 : decode cX4_judge 57 = .ok (.bipush 14, 2) := by decide +kernel
theorem dX4_judge_59 : decode cX4_judge 59 = .ok (.iaload, 1) := by decide +kernel
theorem dX4_judge_60 : decode cX4_judge 60 = .ok (.istore 5, 2) := by decide +kernel
theorem dX4_judge_62 : decode cX4_judge 62 = .ok (.aload_n 0, 1) := by decide +kernel
theorem dX4_judge_63 : decode cX4_judge 63 = .ok (.getfield 25, 3) := by decide +kernel
theorem dX4_judge_66 : decode cX4_judge 66 = .ok (.iload 4, 2) := by decide +kernel
theorem dX4_judge_68 : decode cX4_judge 68 = .ok (.invokestatic 121, 3) := by decide +kernel
theorem dX4_judge_71 : decode cX4_judge 71 = .ok (.ifCond .ne 5, 3) := by decide +kernel
theorem dX4_judge_74 : decode cX4_judge 74 = .ok (.iload_n 3, 1) := by decide +kernel
theorem dX4_judge_75 : decode cX4_judge 75 = .ok (.ireturn, 1) := by decide +kernel
theorem dX4_judge_76 : decode cX4_judge 76 = .ok (.aload_n 0, 1) := by decide +kernel
theorem dX4_judge_77 : decode cX4_judge 77 = .ok (.aload_n 0, 1) := by decide +kernel
theorem dX4_judge_78 : decode cX4_judge 78 = .ok (.getfield 25, 3) := by decide +kernel
theorem dX4_judge_81 : decode cX4_judge 81 = .ok (.iload 4, 2) := by decide +kernel
theorem dX4_judge_83 : decode cX4_judge 83 = .ok (.invokevirtual 127, 3) := by decide +kernel
theorem dX4_judge_86 : decode cX4_judge 86 = .ok (.aload_n 0, 1) := by decide +kernel
theorem dX4_judge_87 : decode cX4_judge 87 = .ok (.getfield 25, 3) := by decide +kernel
theorem dX4_judge_90 : decode cX4_judge 90 = .ok (.bipush 14, 2) := by decide +kernel
theorem dX4_judge_92 : decode cX4_judge 92 = .ok (.iaload, 1) := by decide +kernel
theorem dX4_judge_93 : decode cX4_judge 93 = .ok (.iload 5, 2) := by decide +kernel
theorem dX4_judge_95 : decode cX4_judge 95 = .ok (.if_icmp .le 5, 3) := by decide +kernel
theorem dX4_judge_98 : decode cX4_judge 98 = .ok (.iload_n 3, 1) := by decide +kernel
theorem dX4_judge_99 : decode cX4_judge 99 = .ok (.ireturn, 1) := by decide +kernel
theorem dX4_judge_100 : decode cX4_judge 100 = .ok (.iinc 3 1, 3) := by decide +kernel
theorem dX4_judge_103 : decode cX4_judge 103 = .ok (.goto (-72), 3) := by decide +kernel
theorem dX4_judge_106 : decode cX4_judge 106 = .ok (.bipush (-9), 2) := by decide +kernel
theorem dX4_judge_108 : decode cX4_judge 108 = .ok (.ireturn, 1) := by decide +kernel
set_option maxRecDepth 20000 in
theorem ggX4_goRow_X4_power : GoodIn wsX4_goRow wsX4_power := goodIn_r _ [7] (by decide +kernel) (by decide +kernel)
set_option maxRecDepth 20000 in
theorem gX4_goRow_X4_power : GoodIn wsX4_goRow (va_wsS RX4 143 yX4_power wsX4_power) := goodIn_app (goodIn_of _ (by decide +kernel)) ggX4_goRow_X4_power
set_option maxRecDepth 20000 in
theorem ggX4_goRow_X4_can : GoodIn wsX4_goRow wsX4_can := goodIn_r _ [10, 11, 12, 6, 13, 14, 15, 16] (by decide +kernel) (by decide +kernel)
set_option maxRecDepth 20000 in
theorem gX4_goRow_X4_can : GoodIn wsX4_goRow (va_wsS RX4 121 yX4_can wsX4_can) := goodIn_app (goodIn_of _ (by decide +kernel)) ggX4_goRow_X4_can
set_option maxRecDepth 20000 in
theorem ggX4_goRow_X4_step : GoodIn wsX4_goRow wsX4_step := goodIn_r _ [20, 3, 11, 12, 6, 13, 21, 22, 23, 24, 25, 26, 27, 28, 29, 30, 31, 32, 33, 34, 35, 36, 37, 38, 39, 40, 41, 42, 43, 44, 45, 46, 47, 48, 49, 50, 51, 52] (by decide +kernel) (by decide +kernel)
set_option maxRecDepth 20000 in
theorem gX4_goRow_X4_step : GoodIn wsX4_goRow (wsV RX4 127 RX4 yX4_step wsX4_step) := goodIn_app (goodIn_of _ (by decide +kernel)) ggX4_goRow_X4_step
theorem dX4_goRow_0 : decode cX4_goRow 0 = .ok (.aload_n 0, 1) := by decide +kernel
theorem dX4_goRow_1 : decode cX4_goRow 1 = .ok (.iconst 0, 1) := by decide +kernel
theorem dX4_goRow_2 : decode cX4_goRow 2 = .ok (.putfield 163, 3) := by decide +kernel
theorem dX4_goRow_5 : decode cX4_goRow 5 = .ok (.iconst 1, 1) := by decide +kernel
theorem dX4_goRow_6 : decode cX4_goRow 6 = .ok (.istore_n 3, 1) := by decide +kernel
theorem dX4_goRow_7 : decode cX4_goRow 7 = .ok (.iload_n 1, 1) := by decide +kernel
theorem dX4_goRow_8 : decode cX4_goRow 8 = .ok (.iconst 1, 1) := by decide +kernel
theorem dX4_goRow_9 : decode cX4_goRow 9 = .ok (.isub, 1) := by decide +kernel
theorem dX4_goRow_10 : decode cX4_goRow 10 = .ok (.istore 4, 2) := by decide +kernel
theorem dX4_goRow_12 : decode cX4_goRow 12 = .ok (.iload 4, 2) := by decide +kernel
theorem dX4_goRow_14 : decode cX4_goRow 14 = .ok (.ifCond .lt 109, 3) := by decide +kernel
theorem dX4_goRow_17 : decode cX4_goRow 17 = .ok (.iload_n 3, 1) := by decide +kernel
theorem dX4_goRow_18 : decode cX4_goRow 18 = .ok (.ifCond .eq 105, 3) := by decide +kernel
theorem dX4_goRow_21 : decode cX4_goRow 21 = .ok (.iload_n 2, 1) := by decide +kernel
theorem dX4_goRow_22 : decode cX4_goRow 22 = .ok (.bipush 10, 2) := by decide +kernel
theorem dX4_goRow_24 : decode cX4_goRow 24 = .ok (.iload 4, 2) := by decide +kernel
theorem dX4_goRow_26 : decode cX4_goRow 26 = .ok (.invokestatic 143, 3) := by decide +kernel
theorem dX4_goRow_29 : decode cX4_goRow 29 = .ok (.idiv, 1) := by decide +kernel
theorem dX4_goRow_30 : decode cX4_goRow 30 = .ok (.bipush 10, 2) := by decide +kernel
theorem dX4_goRow_32 : decode cX4_goRow 32 = .ok (.irem, 1) := by decide +kernel
theorem dX4_goRow_33 : decode cX4_goRow 33 = .ok (.istore 5, 2) := by decide +kernel
theorem dX4_goRow_35 : decode cX4_goRow 35 = .ok (.aload_n 0, 1) := by decide +kernel
theorem dX4_goRow_36 : decode cX4_goRow 36 = .ok (.getfield 25, 3) := by decide +kernel
theorem dX4_goRow_39 : decode cX4_goRow 39 = .ok (.bipush 12, 2) := by decide +kernel
theorem dX4_goRow_41 : decode cX4_goRow 41 = .ok (.iaload, 1) := by decide +kernel
theorem dX4_goRow_42 : decode cX4_goRow 42 = .ok (.istore 6, 2) := by decide +kernel
theorem dX4_goRow_44 : decode cX4_goRow 44 = .ok (.aload_n 0, 1) := by decide +kernel
theorem dX4_goRow_45 : decode cX4_goRow 45 = .ok (.getfield 25, 3) := by decide +kernel
theorem dX4_goRow_48 : decode cX4_goRow 48 = .ok (.iload 5, 2) := by decide +kernel
theorem dX4_goRow_50 : decode cX4_goRow 50 = .ok (.invokestatic 121, 3) := by decide +kernel
theorem dX4_goRow_53 : decode cX4_goRow 53 = .ok (.istore_n 3, 1) := by decide +kernel
theorem dX4_goRow_54 : decode cX4_goRow 54 = .ok (.iload_n 3, 1) := by decide +kernel
theorem dX4_goRow_55 : decode cX4_goRow 55 = .ok (.ifCond .eq 62, 3) := by decide +kernel
theorem dX4_goRow_58 : decode cX4_goRow 58 = .ok (.aload_n 0, 1) := by decide +kernel
theorem dX4_goRow_59 : decode cX4_goRow 59 = .ok (.aload_n 0, 1) := by decide +kernel
theorem dX4_goRow_60 : decode cX4_goRow 60 = .ok (.getfield 25, 3) := by decide +kernel
theorem dX4_goRow_63 : decode cX4_goRow 63 = .ok (.iload 5, 2) := by decide +kernel
theorem dX4_goRow_65 : decode cX4_goRow 65 = .ok (.invokevirtual 127, 3) := by decide +kernel
theorem dX4_goRow_68 : decode cX4_goRow 68 = .ok (.aload_n 0, 1) := by decide +kernel
theorem dX4_goRow_69 : decode cX4_goRow 69 = .ok (.getfield 25, 3) := by decide +kernel
theorem dX4_goRow_72 : decode cX4_goRow 72 = .ok (.bipush 12, 2) := by decide +kernel
theorem dX4_goRow_74 : decode cX4_goRow 74 = .ok (.iaload, 1) := by decide +kernel
theorem dX4_goRow_75 : decode cX4_goRow 75 = .ok (.istore 7, 2) := by decide +kernel
theorem dX4_goRow_77 : decode cX4_goRow 77 = .ok (.aload_n 0, 1) := by decide +kernel
theorem dX4_goRow_78 : decode cX4_goRow 78 = .ok (.dup, 1) := by decide +kernel
theorem dX4_goRow_79 : decode cX4_goRow 79 = .ok (.getfield 163, 3) := by decide +kernel
theorem dX4_goRow_82 : decode cX4_goRow 82 = .ok (.iload 7, 2) := by decide +kernel
theorem dX4_goRow_84 : decode cX4_goRow 84 = .ok (.iload 6, 2) := by decide +kernel
theorem dX4_goRow_86 : decode cX4_goRow 86 = .ok (.if_icmp .eq 26, 3) := by decide +kernel
theorem dX4_goRow_89 : decode cX4_goRow 89 = .ok (.aload_n 0, 1) := by decide +kernel
theorem dX4_goRow_90 : decode cX4_goRow 90 = .ok (.getfield 25, 3) := by decide +kernel
theorem dX4_goRow_93 : decode cX4_goRow 93 = .ok (.iconst 0, 1) := by decide +kernel
theorem dX4_goRow_94 : decode cX4_goRow 94 = .ok (.iload 7, 2) := by decide +kernel
theorem dX4_goRow_96 : decode cX4_goRow 96 = .ok (.iadd, 1) := by decide +kernel
theorem dX4_goRow_97 : decode cX4_goRow 97 = .ok (.iaload, 1) := by decide +kernel
theorem dX4_goRow_98 : decode cX4_goRow 98 = .ok (.aload_n 0, 1) := by decide +kernel
theorem dX4_goRow_99 : decode cX4_goRow 99 = .ok (.getfield 13, 3) := by decide +kernel
theorem dX4_goRow_102 : decode cX4_goRow 102 = .ok (.iload 7, 2) := by decide +kernel
theorem dX4_goRow_104 : decode cX4_goRow 104 = .ok (.iaload, 1) := by decide +kernel
theorem dX4_goRow_105 : decode cX4_goRow 105 = .ok (.if_icmp .eq 7, 3) := by decide +kernel
theorem dX4_goRow_108 : decode cX4_goRow 108 = .ok (.iconst 1, 1) := by decide +kernel
theorem dX4_goRow_109 : decode cX4_goRow 109 = .ok (.goto 4, 3) := by decide +kernel
theorem dX4_goRow_112 : decode cX4_goRow 112 = .ok (.iconst 0, 1) := by decide +kernel
theorem dX4_goRow_113 : decode cX4_goRow 113 = .ok (.iadd, 1) := by decide +kernel
theorem dX4_goRow_114 : decode cX4_goRow 114 = .ok (.putfield 163, 3) := by decide +kernel
theorem dX4_goRow_117 : decode cX4_goRow 117 = .ok (.iinc 4 (-1), 3) := by decide +kernel
theorem dX4_goRow_120 : decode cX4_goRow 120 = .ok (.goto (-108), 3) := by decide +kernel
theorem dX4_goRow_123 : decode cX4_goRow 123 = .ok (.iload_n 3, 1) := by decide +kernel
theorem dX4_goRow_124 : decode cX4_goRow 124 = .ok (.ireturn, 1) := by decide +kernel
set_option maxRecDepth 20000 in
theorem ggX4_starts_X4_noRow : GoodIn wsX4_starts wsX4_noRow := goodIn_r _ [9, 10, 11, 8, 12, 13, 14, 15] (by decide +kernel) (by decide +kernel)
set_option maxRecDepth 20000 in
theorem gX4_starts_X4_noRow : GoodIn wsX4_starts (va_wsS RX4 159 yX4_noRow wsX4_noRow) := goodIn_app (goodIn_of _ (by decide +kernel)) ggX4_starts_X4_noRow
set_option maxRecDepth 20000 in
theorem ggX4_starts_X4_in : GoodIn wsX4_starts wsX4_in := goodIn_r _ [12] (by decide +kernel) (by decide +kernel)
set_option maxRecDepth 20000 in
theorem gX4_starts_X4_in : GoodIn wsX4_starts (va_wsS RX4 56 yX4_in wsX4_in) := goodIn_app (goodIn_of _ (by decide +kernel)) ggX4_starts_X4_in
set_option maxRecDepth 20000 in
theorem ggX4_starts_X4_copy : GoodIn wsX4_starts wsX4_copy := goodIn_r _ [18] (by decide +kernel) (by decide +kernel)
set_option maxRecDepth 20000 in
theorem gX4_starts_X4_copy : GoodIn wsX4_starts (va_wsS RX4 146 yX4_copy wsX4_copy) := goodIn_app (goodIn_of _ (by decide +kernel)) ggX4_starts_X4_copy
set_option maxRecDepth 20000 in
theorem ggX4_starts_X4_mayEnter : GoodIn wsX4_starts wsX4_mayEnter := goodIn_r _ [21] (by decide +kernel) (by decide +kernel)
set_option maxRecDepth 20000 in
theorem gX4_starts_X4_mayEnter : GoodIn wsX4_starts (va_wsS RX4 111 yX4_mayEnter wsX4_mayEnter) := goodIn_app (goodIn_of _ (by decide +kernel)) ggX4_starts_X4_mayEnter
set_option maxRecDepth 20000 in
theorem ggX4_starts_X4_goRow : GoodIn wsX4_starts wsX4_goRow := goodIn_r _ [25, 26, 4, 5, 13, 14, 8, 15, 27, 28, 29, 30, 31, 32, 19, 20, 21, 33, 34, 35, 36, 37, 38, 39, 40, 41, 42, 43, 44, 45, 46, 47, 48, 49, 50, 51, 52, 53, 54, 55, 56, 57, 58, 59, 60, 61, 62, 63, 64, 65, 66, 67, 68] (by decide +kernel) (by decide +kernel)
set_option maxRecDepth 20000 in
theorem gX4_starts_X4_goRow : GoodIn wsX4_starts (wsV RX4 168 RX4 yX4_goRow wsX4_goRow) := goodIn_app (goodIn_of _ (by decide +kernel)) ggX4_starts_X4_goRow
theorem dX4_starts_0 : decode cX4_starts 0 = .ok (.aload_n 0, 1) := by decide +kernel
theorem dX4_starts_1 : decode cX4_starts 1 = .ok (.iconst 0, 1) := by decide +kernel
theorem dX4_starts_2 : decode cX4_starts 2 = .ok (.putfield 50, 3) := by decide +kernel
theorem dX4_starts_5 : decode cX4_starts 5 = .ok (.iload_n 1, 1) := by decide +kernel
theorem dX4_starts_6 : decode cX4_starts 6 = .ok (.iconst 5, 1) := by decide +kernel
theorem dX4_starts_7 : decode cX4_starts 7 = .ok (.iload_n 2, 1) := by decide +kernel
theorem dX4_starts_8 : decode cX4_starts 8 = .ok (.invokestatic 159, 3) := by decide +kernel
theorem dX4_starts_11 : decode cX4_starts 11 = .ok (.ifCond .ne 15, 3) := by decide +kernel
theorem dX4_starts_14 : decode cX4_starts 14 = .ok (.iload_n 3, 1) := by decide +kernel
theorem dX4_starts_15 : decode cX4_starts 15 = .ok (.i2l, 1) := by decide +kernel
theorem dX4_starts_16 : decode cX4_starts 16 = .ok (.lconst 0, 1) := by decide +kernel
theorem dX4_starts_17 : decode cX4_starts 17 = .ok (.ldc2_w 166, 3) := by decide +kernel
theorem dX4_starts_20 : decode cX4_starts 20 = .ok (.invokestatic 56, 3) := by decide +kernel
theorem dX4_starts_23 : decode cX4_starts 23 = .ok (.ifCond .ne 6, 3) := by decide +kernel
theorem dX4_starts_26 : decode cX4_starts 26 = .ok (.bipush (-2), 2) := by decide +kernel
theorem dX4_starts_28 : decode cX4_starts 28 = .ok (.ireturn, 1) := by decide +kernel
theorem dX4_starts_29 : decode cX4_starts 29 = .ok (.iconst 0, 1) := by decide +kernel
theorem dX4_starts_30 : decode cX4_starts 30 = .ok (.istore 4, 2) := by decide +kernel
theorem dX4_starts_32 : decode cX4_starts 32 = .ok (.iconst 0, 1) := by decide +kernel
theorem dX4_starts_33 : decode cX4_starts 33 = .ok (.istore 5, 2) := by decide +kernel
theorem dX4_starts_35 : decode cX4_starts 35 = .ok (.iload 5, 2) := by decide +kernel
theorem dX4_starts_37 : decode cX4_starts 37 = .ok (.bipush 12, 2) := by decide +kernel
theorem dX4_starts_39 : decode cX4_starts 39 = .ok (.if_icmp .ge 105, 3) := by decide +kernel
theorem dX4_starts_42 : decode cX4_starts 42 = .ok (.aload_n 0, 1) := by decide +kernel
theorem dX4_starts_43 : decode cX4_starts 43 = .ok (.getfield 22, 3) := by decide +kernel
theorem dX4_starts_46 : decode cX4_starts 46 = .ok (.aload_n 0, 1) := by decide +kernel
theorem dX4_starts_47 : decode cX4_starts 47 = .ok (.getfield 25, 3) := by decide +kernel
theorem dX4_starts_50 : decode cX4_starts 50 = .ok (.invokestatic 146, 3) := by decide +kernel
theorem dX4_starts_53 : decode cX4_starts 53 = .ok (.aload_n 0, 1) := by decide +kernel
theorem dX4_starts_54 : decode cX4_starts 54 = .ok (.getfield 25, 3) := by decide +kernel
theorem dX4_starts_57 : decode cX4_starts 57 = .ok (.bipush 12, 2) := by decide +kernel
theorem dX4_starts_59 : decode cX4_starts 59 = .ok (.iload 5, 2) := by decide +kernel
theorem dX4_starts_61 : decode cX4_starts 61 = .ok (.iastore, 1) := by decide +kernel
theorem dX4_starts_62 : decode cX4_starts 62 = .ok (.aload_n 0, 1) := by decide +kernel
theorem dX4_starts_63 : decode cX4_starts 63 = .ok (.getfield 25, 3) := by decide +kernel
theorem dX4_starts_66 : decode cX4_starts 66 = .ok (.bipush 15, 2) := by decide +kernel
theorem dX4_starts_68 : decode cX4_starts 68 = .ok (.iconst 0, 1) := by decide +kernel
theorem dX4_starts_69 : decode cX4_starts 69 = .ok (.iastore, 1) := by decide +kernel
theorem dX4_starts_70 : decode cX4_starts 70 = .ok (.aload_n 0, 1) := by decide +kernel
theorem dX4_starts_71 : decode cX4_starts 71 = .ok (.getfield 22, 3) := by decide +kernel
theorem dX4_starts_74 : decode cX4_starts 74 = .ok (.iload 5, 2) := by decide +kernel
theorem dX4_starts_76 : decode cX4_starts 76 = .ok (.invokestatic 111, 3) := by decide +kernel
theorem dX4_starts_79 : decode cX4_starts 79 = .ok (.ifCond .eq 27, 3) := by decide +kernel
theorem dX4_starts_82 : decode cX4_starts 82 = .ok (.aload_n 0, 1) := by decide +kernel
theorem dX4_starts_83 : decode cX4_starts 83 = .ok (.getfield 13, 3) := by decide +kernel
theorem dX4_starts_86 : decode cX4_starts 86 = .ok (.iload 5, 2) := by decide +kernel
theorem dX4_starts_88 : decode cX4_starts 88 = .ok (.iaload, 1) := by decide +kernel
theorem dX4_starts_89 : decode cX4_starts 89 = .ok (.iconst 4, 1) := by decide +kernel
theorem dX4_starts_90 : decode cX4_starts 90 = .ok (.if_icmp .eq 16, 3) := by decide +kernel
theorem dX4_starts_93 : decode cX4_starts 93 = .ok (.aload_n 0, 1) := by decide +kernel
theorem dX4_starts_94 : decode cX4_starts 94 = .ok (.iload_n 1, 1) := by decide +kernel
theorem dX4_starts_95 : decode cX4_starts 95 = .ok (.iload_n 2, 1) := by decide +kernel
theorem dX4_starts_96 : decode cX4_starts 96 = .ok (.invokevirtual 168, 3) := by decide +kernel
theorem dX4_starts_99 : decode cX4_starts 99 = .ok (.ifCond .eq 7, 3) := by decide +kernel
theorem dX4_starts_102 : decode cX4_starts 102 = .ok (.iconst 1, 1) := by decide +kernel
theorem dX4_starts_103 : decode cX4_starts 103 = .ok (.goto 4, 3) := by decide +kernel
theorem dX4_starts_106 : decode cX4_starts 106 = .ok (.iconst 0, 1) := by decide +kernel
theorem dX4_starts_107 : decode cX4_starts 107 = .ok (.istore 6, 2) := by decide +kernel
theorem dX4_starts_109 : decode cX4_starts 109 = .ok (.iload 4, 2) := by decide +kernel
theorem dX4_starts_111 : decode cX4_starts 111 = .ok (.iload 6, 2) := by decide +kernel
theorem dX4_starts_113 : decode cX4_starts 113 = .ok (.ifCond .eq 21, 3) := by decide +kernel
theorem dX4_starts_116 : decode cX4_starts 116 = .ok (.aload_n 0, 1) := by decide +kernel
theorem dX4_starts_117 : decode cX4_starts 117 = .ok (.getfield 25, 3) := by decide +kernel
theorem dX4_starts_120 : decode cX4_starts 120 = .ok (.bipush 13, 2) := by decide +kernel
theorem dX4_starts_122 : decode cX4_starts 122 = .ok (.iaload, 1) := by decide +kernel
theorem dX4_starts_123 : decode cX4_starts 123 = .ok (.iload_n 3, 1) := by decide +kernel
theorem dX4_starts_124 : decode cX4_starts 124 = .ok (.if_icmp .ne 10, 3) := by decide +kernel
theorem dX4_starts_127 : decode cX4_starts 127 = .ok (.iconst 1, 1) := by decide +kernel
theorem dX4_starts_128 : decode cX4_starts 128 = .ok (.iload 5, 2) := by decide +kernel
theorem dX4_starts_130 : decode cX4_starts 130 = .ok (.ishl, 1) := by decide +kernel
theorem dX4_starts_131 : decode cX4_starts 131 = .ok (.goto 4, 3) := by decide +kernel
theorem dX4_starts_134 : decode cX4_starts 134 = .ok (.iconst 0, 1) := by decide +kernel
theorem dX4_starts_135 : decode cX4_starts 135 = .ok (.ior, 1) := by decide +kernel
theorem dX4_starts_136 : decode cX4_starts 136 = .ok (.istore 4, 2) := by decide +kernel
theorem dX4_starts_138 : decode cX4_starts 138 = .ok (.iinc 5 1, 3) := by decide +kernel
theorem dX4_starts_141 : decode cX4_starts 141 = .ok (.goto (-106), 3) := by decide +kernel
theorem dX4_starts_144 : decode cX4_starts 144 = .ok (.iload 4, 2) := by decide +kernel
theorem dX4_starts_146 : decode cX4_starts 146 = .ok (.ireturn, 1) := by decide +kernel
theorem dX4_ways_0 : decode cX4_ways 0 = .ok (.iconst 1, 1) := by decide +kernel
theorem dX4_ways_1 : decode cX4_ways 1 = .ok (.istore_n 1, 1) := by decide +kernel
theorem dX4_ways_2 : decode cX4_ways 2 = .ok (.iconst 2, 1) := by decide +kernel
theorem dX4_ways_3 : decode cX4_ways 3 = .ok (.istore_n 2, 1) := by decide +kernel
theorem dX4_ways_4 : decode cX4_ways 4 = .ok (.iload_n 2, 1) := by decide +kernel
theorem dX4_ways_5 : decode cX4_ways 5 = .ok (.iload_n 0, 1) := by decide +kernel
theorem dX4_ways_6 : decode cX4_ways 6 = .ok (.if_icmp .gt 13, 3) := by decide +kernel
theorem dX4_ways_9 : decode cX4_ways 9 = .ok (.iload_n 1, 1) := by decide +kernel
theorem dX4_ways_10 : decode cX4_ways 10 = .ok (.iload_n 2, 1) := by decide +kernel
theorem dX4_ways_11 : decode cX4_ways 11 = .ok (.imul, 1) := by decide +kernel
theorem dX4_ways_12 : decode cX4_ways 12 = .ok (.istore_n 1, 1) := by decide +kernel
theorem dX4_ways_13 : decode cX4_ways 13 = .ok (.iinc 2 1, 3) := by decide +kernel
theorem dX4_ways_16 : decode cX4_ways 16 = .ok (.goto (-12), 3) := by decide +kernel
theorem dX4_ways_19 : decode cX4_ways 19 = .ok (.iload_n 1, 1) := by decide +kernel
theorem dX4_ways_20 : decode cX4_ways 20 = .ok (.ireturn, 1) := by decide +kernel
theorem dX4_divisor_0 : decode cX4_divisor 0 = .ok (.iload_n 0, 1) := by decide +kernel
theorem dX4_divisor_1 : decode cX4_divisor 1 = .ok (.ifCond .ge 8, 3) := by decide +kernel
theorem dX4_divisor_4 : decode cX4_divisor 4 = .ok (.iload_n 0, 1) := by decide +kernel
theorem dX4_divisor_5 : decode cX4_divisor 5 = .ok (.ineg, 1) := by decide +kernel
theorem dX4_divisor_6 : decode cX4_divisor 6 = .ok (.goto 4, 3) := by decide +kernel
theorem dX4_divisor_9 : decode cX4_divisor 9 = .ok (.iload_n 0, 1) := by decide +kernel
theorem dX4_divisor_10 : decode cX4_divisor 10 = .ok (.istore_n 2, 1) := by decide +kernel
theorem dX4_divisor_11 : decode cX4_divisor 11 = .ok (.iload_n 1, 1) := by decide +kernel
theorem dX4_divisor_12 : decode cX4_divisor 12 = .ok (.istore_n 3, 1) := by decide +kernel
theorem dX4_divisor_13 : decode cX4_divisor 13 = .ok (.iload_n 3, 1) := by decide +kernel
theorem dX4_divisor_14 : decode cX4_divisor 14 = .ok (.ifCond .eq 16, 3) := by decide +kernel
theorem dX4_divisor_17 : decode cX4_divisor 17 = .ok (.iload_n 2, 1) := by decide +kernel
theorem dX4_divisor_18 : decode cX4_divisor 18 = .ok (.iload_n 3, 1) := by decide +kernel
theorem dX4_divisor_19 : decode cX4_divisor 19 = .ok (.irem, 1) := by decide +kernel
theorem dX4_divisor_20 : decode cX4_divisor 20 = .ok (.istore 4, 2) := by decide +kernel
theorem dX4_divisor_22 : decode cX4_divisor 22 = .ok (.iload_n 3, 1) := by decide +kernel
theorem dX4_divisor_23 : decode cX4_divisor 23 = .ok (.istore_n 2, 1) := by decide +kernel
theorem dX4_divisor_24 : decode cX4_divisor 24 = .ok (.iload 4, 2) := by decide +kernel
theorem dX4_divisor_26 : decode cX4_divisor 26 = .ok (.istore_n 3, 1) := by decide +kernel
theorem dX4_divisor_27 : decode cX4_divisor 27 = .ok (.goto (-14), 3) := by decide +kernel
theorem dX4_divisor_30 : decode cX4_divisor 30 = .ok (.iload_n 2, 1) := by decide +kernel
theorem dX4_divisor_31 : decode cX4_divisor 31 = .ok (.ireturn, 1) := by decide +kernel
set_option maxRecDepth 20000 in
theorem ggX4_fraction_X4_divisor : GoodIn wsX4_fraction wsX4_divisor := goodIn_r _ [4] (by decide +kernel) (by decide +kernel)
set_option maxRecDepth 20000 in
theorem gX4_fraction_X4_divisor : GoodIn wsX4_fraction (va_wsS RX4 171 yX4_divisor wsX4_divisor) := goodIn_app (goodIn_of _ (by decide +kernel)) ggX4_fraction_X4_divisor
theorem dX4_fraction_0 : decode cX4_fraction 0 = .ok (.iload_n 0, 1) := by decide +kernel
theorem dX4_fraction_1 : decode cX4_fraction 1 = .ok (.iload_n 1, 1) := by decide +kernel
theorem dX4_fraction_2 : decode cX4_fraction 2 = .ok (.invokestatic 171, 3) := by decide +kernel
theorem dX4_fraction_5 : decode cX4_fraction 5 = .ok (.istore_n 3, 1) := by decide +kernel
theorem dX4_fraction_6 : decode cX4_fraction 6 = .ok (.iload_n 2, 1) := by decide +kernel
theorem dX4_fraction_7 : decode cX4_fraction 7 = .ok (.ifCond .eq 9, 3) := by decide +kernel
theorem dX4_fraction_10 : decode cX4_fraction 10 = .ok (.iload_n 0, 1) := by decide +kernel
theorem dX4_fraction_11 : decode cX4_fraction 11 = .ok (.iload_n 3, 1) := by decide +kernel
theorem dX4_fraction_12 : decode cX4_fraction 12 = .ok (.idiv, 1) := by decide +kernel
theorem dX4_fraction_13 : decode cX4_fraction 13 = .ok (.goto 6, 3) := by decide +kernel
theorem dX4_fraction_16 : decode cX4_fraction 16 = .ok (.iload_n 1, 1) := by decide +kernel
theorem dX4_fraction_17 : decode cX4_fraction 17 = .ok (.iload_n 3, 1) := by decide +kernel
theorem dX4_fraction_18 : decode cX4_fraction 18 = .ok (.idiv, 1) := by decide +kernel
theorem dX4_fraction_19 : decode cX4_fraction 19 = .ok (.ireturn, 1) := by decide +kernel
theorem dX4_layThose_0 : decode cX4_layThose 0 = .ok (.iconst 0, 1) := by decide +kernel
theorem dX4_layThose_1 : decode cX4_layThose 1 = .ok (.istore_n 2, 1) := by decide +kernel
theorem dX4_layThose_2 : decode cX4_layThose 2 = .ok (.bipush (-9), 2) := by decide +kernel
theorem dX4_layThose_4 : decode cX4_layThose 4 = .ok (.istore_n 3, 1) := by decide +kernel
theorem dX4_layThose_5 : decode cX4_layThose 5 = .ok (.iconst 0, 1) := by decide +kernel
theorem dX4_layThose_6 : decode cX4_layThose 6 = .ok (.istore 4, 2) := by decide +kernel
theorem dX4_layThose_8 : decode cX4_layThose 8 = .ok (.iload 4, 2) := by decide +kernel
theorem dX4_layThose_10 : decode cX4_layThose 10 = .ok (.bipush 12, 2) := by decide +kernel
theorem dX4_layThose_12 : decode cX4_layThose 12 = .ok (.if_icmp .ge 44, 3) := by decide +kernel
theorem dX4_layThose_15 : decode cX4_layThose 15 = .ok (.aload_n 0, 1) := by decide +kernel
theorem dX4_layThose_16 : decode cX4_layThose 16 = .ok (.getfield 22, 3) := by decide +kernel
theorem dX4_layThose_19 : decode cX4_layThose 19 = .ok (.iconst 0, 1) := by decide +kernel
theorem dX4_layThose_20 : decode cX4_layThose 20 = .ok (.iload 4, 2) := by decide +kernel
theorem dX4_layThose_22 : decode cX4_layThose 22 = .ok (.iadd, 1) := by decide +kernel
theorem dX4_layThose_23 : decode cX4_layThose 23 = .ok (.iaload, 1) := by decide +kernel
theorem dX4_layThose_24 : decode cX4_layThose 24 = .ok (.ifCond .le 26, 3) := by decide +kernel
theorem dX4_layThose_27 : decode cX4_layThose 27 = .ok (.iload 4, 2) := by decide +kernel
theorem dX4_layThose_29 : decode cX4_layThose 29 = .ok (.iload_n 1, 1) := by decide +kernel
theorem dX4_layThose_30 : decode cX4_layThose 30 = .ok (.if_icmp .ne 7, 3) := by decide +kernel
theorem dX4_layThose_33 : decode cX4_layThose 33 = .ok (.iload_n 2, 1) := by decide +kernel
theorem dX4_layThose_34 : decode cX4_layThose 34 = .ok (.goto 4, 3) := by decide +kernel
theorem dX4_layThose_37 : decode cX4_layThose 37 = .ok (.iload_n 3, 1) := by decide +kernel
theorem dX4_layThose_38 : decode cX4_layThose 38 = .ok (.istore_n 3, 1) := by decide +kernel
theorem dX4_layThose_39 : decode cX4_layThose 39 = .ok (.aload_n 0, 1) := by decide +kernel
theorem dX4_layThose_40 : decode cX4_layThose 40 = .ok (.getfield 47, 3) := by decide +kernel
theorem dX4_layThose_43 : decode cX4_layThose 43 = .ok (.iload_n 2, 1) := by decide +kernel
theorem dX4_layThose_44 : decode cX4_layThose 44 = .ok (.iload 4, 2) := by decide +kernel
theorem dX4_layThose_46 : decode cX4_layThose 46 = .ok (.iastore, 1) := by decide +kernel
theorem dX4_layThose_47 : decode cX4_layThose 47 = .ok (.iinc 2 1, 3) := by decide +kernel
theorem dX4_layThose_50 : decode cX4_layThose 50 = .ok (.iinc 4 1, 3) := by decide +kernel
theorem dX4_layThose_53 : decode cX4_layThose 53 = .ok (.goto (-45), 3) := by decide +kernel
theorem dX4_layThose_56 : decode cX4_layThose 56 = .ok (.iload_n 3, 1) := by decide +kernel
theorem dX4_layThose_57 : decode cX4_layThose 57 = .ok (.ireturn, 1) := by decide +kernel
set_option maxRecDepth 20000 in
theorem ggX4_share_X4_noCell : GoodIn wsX4_share wsX4_noCell := goodIn_r _ [10, 11, 12, 13, 9, 14] (by decide +kernel) (by decide +kernel)
set_option maxRecDepth 20000 in
theorem gX4_share_X4_noCell : GoodIn wsX4_share (va_wsS RX4 78 yX4_noCell wsX4_noCell) := goodIn_app (goodIn_of _ (by decide +kernel)) ggX4_share_X4_noCell
set_option maxRecDepth 20000 in
theorem ggX4_share_X4_layThose : GoodIn wsX4_share wsX4_layThose := goodIn_r _ [18, 2, 4, 67, 68, 69, 70, 71, 72, 73, 74, 75, 76, 77, 78, 79, 80, 81, 82, 83, 84, 85, 86, 87, 88, 89, 90, 91] (by decide +kernel) (by decide +kernel)
set_option maxRecDepth 20000 in
theorem gX4_share_X4_layThose : GoodIn wsX4_share (wsV RX4 174 RX4 yX4_layThose wsX4_layThose) := goodIn_app (goodIn_of _ (by decide +kernel)) ggX4_share_X4_layThose
set_option maxRecDepth 20000 in
theorem ggX4_share_X4_signsOf : GoodIn wsX4_share wsX4_signsOf := goodIn_r _ [21] (by decide +kernel) (by decide +kernel)
set_option maxRecDepth 20000 in
theorem gX4_share_X4_signsOf : GoodIn wsX4_share (va_wsS RX4 96 yX4_signsOf wsX4_signsOf) := goodIn_app (goodIn_of _ (by decide +kernel)) ggX4_share_X4_signsOf
set_option maxRecDepth 20000 in
theorem ggX4_share_X4_copy : GoodIn wsX4_share wsX4_copy := goodIn_r _ [24] (by decide +kernel) (by decide +kernel)
set_option maxRecDepth 20000 in
theorem gX4_share_X4_copy : GoodIn wsX4_share (va_wsS RX4 146 yX4_copy wsX4_copy) := goodIn_app (goodIn_of _ (by decide +kernel)) ggX4_share_X4_copy
set_option maxRecDepth 20000 in
theorem ggX4_share_X4_has : GoodIn wsX4_share wsX4_has := goodIn_r _ [27] (by decide +kernel) (by decide +kernel)
set_option maxRecDepth 20000 in
theorem gX4_share_X4_has : GoodIn wsX4_share (va_wsS RX4 115 yX4_has wsX4_has) := goodIn_app (goodIn_of _ (by decide +kernel)) ggX4_share_X4_has
set_option maxRecDepth 20000 in
theorem ggX4_share_X4_findMost : GoodIn wsX4_share wsX4_findMost := goodIn_r _ [31, 6, 32, 3, 33, 34, 35, 9, 36, 22, 23, 24, 37, 38, 39, 40, 41, 42, 43, 44, 45, 46, 47, 48, 49, 50, 25, 26, 27, 51, 52, 53, 54, 67, 68, 69, 70, 71, 72, 73, 74, 75, 76, 77, 78, 79, 80, 81, 82, 83, 84, 85, 86, 87, 88, 89, 90, 91] (by decide +kernel) (by decide +kernel)
set_option maxRecDepth 20000 in
theorem gX4_share_X4_findMost : GoodIn wsX4_share (wsV RX4 152 RX4 yX4_findMost wsX4_findMost) := goodIn_app (goodIn_of _ (by decide +kernel)) ggX4_share_X4_findMost
set_option maxRecDepth 20000 in
theorem ggX4_share_X4_many : GoodIn wsX4_share wsX4_many := goodIn_r _ [57] (by decide +kernel) (by decide +kernel)
set_option maxRecDepth 20000 in
theorem gX4_share_X4_many : GoodIn wsX4_share (va_wsS RX4 178 yX4_many wsX4_many) := goodIn_app (goodIn_of _ (by decide +kernel)) ggX4_share_X4_many
set_option maxRecDepth 20000 in
theorem ggX4_share_X4_ways : GoodIn wsX4_share wsX4_ways := goodIn_r _ [60] (by decide +kernel) (by decide +kernel)
set_option maxRecDepth 20000 in
theorem gX4_share_X4_ways : GoodIn wsX4_share (va_wsS RX4 181 yX4_ways wsX4_ways) := goodIn_app (goodIn_of _ (by decide +kernel)) ggX4_share_X4_ways
set_option maxRecDepth 20000 in
theorem ggX4_share_X4_fraction : GoodIn wsX4_share wsX4_fraction := goodIn_r _ [63, 64, 65, 9, 66] (by decide +kernel) (by decide +kernel)
set_option maxRecDepth 20000 in
theorem gX4_share_X4_fraction : GoodIn wsX4_share (va_wsS RX4 184 yX4_fraction wsX4_fraction) := goodIn_app (goodIn_of _ (by decide +kernel)) ggX4_share_X4_fraction
theorem dX4_share_0 : decode cX4_share 0 = .ok (.aload_n 0, 1) := by decide +kernel
theorem dX4_share_1 : decode cX4_share 1 = .ok (.iconst 0, 1) := by decide +kernel
theorem dX4_share_2 : decode cX4_share 2 = .ok (.putfield 50, 3) := by decide +kernel
theorem dX4_share_5 : decode cX4_share 5 = .ok (.iload_n 1, 1) := by decide +kernel
theorem dX4_share_6 : decode cX4_share 6 = .ok (.invokestatic 78, 3) := by decide +kernel
theorem dX4_share_9 : decode cX4_share 9 = .ok (.ifCond .eq 5, 3) := by decide +kernel
theorem dX4_share_12 : decode cX4_share 12 = .ok (.iconst (-1), 1) := by decide +kernel
theorem dX4_share_13 : decode cX4_share 13 = .ok (.ireturn, 1) := by decide +kernel
theorem dX4_share_14 : decode cX4_share 14 = .ok (.aload_n 0, 1) := by decide +kernel
theorem dX4_share_15 : decode cX4_share 15 = .ok (.getfield 22, 3) := by decide +kernel
theorem dX4_share_18 : decode cX4_share 18 = .ok (.iconst 0, 1) := by decide +kernel
theorem dX4_share_19 : decode cX4_share 19 = .ok (.iload_n 1, 1) := by decide +kernel
theorem dX4_share_20 : decode cX4_share 20 = .ok (.iadd, 1) := by decide +kernel
theorem dX4_share_21 : decode cX4_share 21 = .ok (.iaload, 1) := by decide +kernel
theorem dX4_share_22 : decode cX4_share 22 = .ok (.ifCond .ne 6, 3) := by decide +kernel
theorem dX4_share_25 : decode cX4_share 25 = .ok (.bipush (-3), 2) := by decide +kernel
theorem dX4_share_27 : decode cX4_share 27 = .ok (.ireturn, 1) := by decide +kernel
theorem dX4_share_28 : decode cX4_share 28 = .ok (.aload_n 0, 1) := by decide +kernel
theorem dX4_share_29 : decode cX4_share 29 = .ok (.iload_n 1, 1) := by decide +kernel
theorem dX4_share_30 : decode cX4_share 30 = .ok (.invokevirtual 174, 3) := by decide +kernel
theorem dX4_share_33 : decode cX4_share 33 = .ok (.istore_n 3, 1) := by decide +kernel
theorem dX4_share_34 : decode cX4_share 34 = .ok (.aload_n 0, 1) := by decide +kernel
theorem dX4_share_35 : decode cX4_share 35 = .ok (.getfield 22, 3) := by decide +kernel
theorem dX4_share_38 : decode cX4_share 38 = .ok (.invokestatic 96, 3) := by decide +kernel
theorem dX4_share_41 : decode cX4_share 41 = .ok (.istore 4, 2) := by decide +kernel
theorem dX4_share_43 : decode cX4_share 43 = .ok (.iconst 0, 1) := by decide +kernel
theorem dX4_share_44 : decode cX4_share 44 = .ok (.istore 5, 2) := by decide +kernel
theorem dX4_share_46 : decode cX4_share 46 = .ok (.iload 5, 2) := by decide +kernel
theorem dX4_share_48 : decode cX4_share 48 = .ok (.iconst 1, 1) := by decide +kernel
theorem dX4_share_49 : decode cX4_share 49 = .ok (.iload 4, 2) := by decide +kernel
theorem dX4_share_51 : decode cX4_share 51 = .ok (.ishl, 1) := by decide +kernel
theorem dX4_share_52 : decode cX4_share 52 = .ok (.if_icmp .ge 107, 3) := by decide +kernel
theorem dX4_share_55 : decode cX4_share 55 = .ok (.aload_n 0, 1) := by decide +kernel
theorem dX4_share_56 : decode cX4_share 56 = .ok (.getfield 22, 3) := by decide +kernel
theorem dX4_share_59 : decode cX4_share 59 = .ok (.aload_n 0, 1) := by decide +kernel
theorem dX4_share_60 : decode cX4_share 60 = .ok (.getfield 41, 3) := by decide +kernel
theorem dX4_share_63 : decode cX4_share 63 = .ok (.invokestatic 146, 3) := by decide +kernel
theorem dX4_share_66 : decode cX4_share 66 = .ok (.iconst 0, 1) := by decide +kernel
theorem dX4_share_67 : decode cX4_share 67 = .ok (.istore 6, 2) := by decide +kernel
theorem dX4_share_69 : decode cX4_share 69 = .ok (.iload 6, 2) := by decide +kernel
theorem dX4_share_71 : decode cX4_share 71 = .ok (.iload 4, 2) := by decide +kernel
theorem dX4_share_73 : decode cX4_share 73 = .ok (.if_icmp .ge 51, 3) := by decide +kernel
theorem dX4_share_76 : decode cX4_share 76 = .ok (.aload_n 0, 1) := by decide +kernel
theorem dX4_share_77 : decode cX4_share 77 = .ok (.getfield 41, 3) := by decide +kernel
theorem dX4_share_80 : decode cX4_share 80 = .ok (.iconst 0, 1) := by decide +kernel
theorem dX4_share_81 : decode cX4_share 81 = .ok (.aload_n 0, 1) := by decide +kernel
theorem dX4_share_82 : decode cX4_share 82 = .ok (.getfield 47, 3) := by decide +kernel
theorem dX4_share_85 : decode cX4_share 85 = .ok (.iload 6, 2) := by decide +kernel
theorem dX4_share_87 : decode cX4_share 87 = .ok (.iaload, 1) := by decide +kernel
theorem dX4_share_88 : decode cX4_share 88 = .ok (.iadd, 1) := by decide +kernel
theorem dX4_share_89 : decode cX4_share 89 = .ok (.iload 5, 2) := by decide +kernel
theorem dX4_share_91 : decode cX4_share 91 = .ok (.iload 6, 2) := by decide +kernel
theorem dX4_share_93 : decode cX4_share 93 = .ok (.invokestatic 115, 3) := by decide +kernel
theorem dX4_share_96 : decode cX4_share 96 = .ok (.ifCond .eq 20, 3) := by decide +kernel
theorem dX4_share_99 : decode cX4_share 99 = .ok (.aload_n 0, 1) := by decide +kernel
theorem dX4_share_100 : decode cX4_share 100 = .ok (.getfield 41, 3) := by decide +kernel
theorem dX4_share_103 : decode cX4_share 103 = .ok (.iconst 0, 1) := by decide +kernel
theorem dX4_share_104 : decode cX4_share 104 = .ok (.aload_n 0, 1) := by decide +kernel
theorem dX4_share_105 : decode cX4_share 105 = .ok (.getfield 47, 3) := by decide +kernel
theorem dX4_share_108 : decode cX4_share 108 = .ok (.iload 6, 2) := by decide +kernel
theorem dX4_share_110 : decode cX4_share 110 = .ok (.iaload, 1) := by decide +kernel
theorem dX4_share_111 : decode cX4_share 111 = .ok (.iadd, 1) := by decide +kernel
theorem dX4_share_112 : decode cX4_share 112 = .ok (.iaload, 1) := by decide +kernel
theorem dX4_share_113 : decode cX4_share 113 = .ok (.goto 4, 3) := by decide +kernel
theorem dX4_share_116 : decode cX4_share 116 = .ok (.iconst 0, 1) := by decide +kernel
theorem dX4_share_117 : decode cX4_share 117 = .ok (.iastore, 1) := by decide +kernel
theorem dX4_share_118 : decode cX4_share 118 = .ok (.iinc 6 1, 3) := by decide +kernel
theorem dX4_share_121 : decode cX4_share 121 = .ok (.goto (-52), 3) := by decide +kernel
theorem dX4_share_124 : decode cX4_share 124 = .ok (.aload_n 0, 1) := by decide +kernel
theorem dX4_share_125 : decode cX4_share 125 = .ok (.iconst 2, 1) := by decide +kernel
theorem dX4_share_126 : decode cX4_share 126 = .ok (.invokevirtual 152, 3) := by decide +kernel
theorem dX4_share_129 : decode cX4_share 129 = .ok (.aload_n 0, 1) := by decide +kernel
theorem dX4_share_130 : decode cX4_share 130 = .ok (.getfield 44, 3) := by decide +kernel
theorem dX4_share_133 : decode cX4_share 133 = .ok (.iload 5, 2) := by decide +kernel
theorem dX4_share_135 : decode cX4_share 135 = .ok (.aload_n 0, 1) := by decide +kernel
theorem dX4_share_136 : decode cX4_share 136 = .ok (.getfield 137, 3) := by decide +kernel
theorem dX4_share_139 : decode cX4_share 139 = .ok (.bipush (-9), 2) := by decide +kernel
theorem dX4_share_141 : decode cX4_share 141 = .ok (.if_icmp .ne 7, 3) := by decide +kernel
theorem dX4_share_144 : decode cX4_share 144 = .ok (.iconst 0, 1) := by decide +kernel
theorem dX4_share_145 : decode cX4_share 145 = .ok (.goto 7, 3) := by decide +kernel
theorem dX4_share_148 : decode cX4_share 148 = .ok (.aload_n 0, 1) := by decide +kernel
theorem dX4_share_149 : decode cX4_share 149 = .ok (.getfield 137, 3) := by decide +kernel
theorem dX4_share_152 : decode cX4_share 152 = .ok (.iastore, 1) := by decide +kernel
theorem dX4_share_153 : decode cX4_share 153 = .ok (.iinc 5 1, 3) := by decide +kernel
theorem dX4_share_156 : decode cX4_share 156 = .ok (.goto (-110), 3) := by decide +kernel
theorem dX4_share_159 : decode cX4_share 159 = .ok (.iconst 0, 1) := by decide +kernel
theorem dX4_share_160 : decode cX4_share 160 = .ok (.istore 5, 2) := by decide +kernel
theorem dX4_share_162 : decode cX4_share 162 = .ok (.iconst 0, 1) := by decide +kernel
theorem dX4_share_163 : decode cX4_share 163 = .ok (.istore 6, 2) := by decide +kernel
theorem dX4_share_165 : decode cX4_share 165 = .ok (.iload 6, 2) := by decide +kernel
theorem dX4_share_167 : decode cX4_share 167 = .ok (.iconst 1, 1) := by decide +kernel
theorem dX4_share_168 : decode cX4_share 168 = .ok (.iload 4, 2) := by decide +kernel
theorem dX4_share_170 : decode cX4_share 170 = .ok (.ishl, 1) := by decide +kernel
theorem dX4_share_171 : decode cX4_share 171 = .ok (.if_icmp .ge 66, 3) := by decide +kernel
theorem dX4_share_174 : decode cX4_share 174 = .ok (.iload 6, 2) := by decide +kernel
theorem dX4_share_176 : decode cX4_share 176 = .ok (.iload_n 3, 1) := by decide +kernel
theorem dX4_share_177 : decode cX4_share 177 = .ok (.invokestatic 115, 3) := by decide +kernel
theorem dX4_share_180 : decode cX4_share 180 = .ok (.ifCond .ne 51, 3) := by decide +kernel
theorem dX4_share_183 : decode cX4_share 183 = .ok (.iload 6, 2) := by decide +kernel
theorem dX4_share_185 : decode cX4_share 185 = .ok (.invokestatic 178, 3) := by decide +kernel
theorem dX4_share_188 : decode cX4_share 188 = .ok (.istore 7, 2) := by decide +kernel
theorem dX4_share_190 : decode cX4_share 190 = .ok (.iload 5, 2) := by decide +kernel
theorem dX4_share_192 : decode cX4_share 192 = .ok (.iload 7, 2) := by decide +kernel
theorem dX4_share_194 : decode cX4_share 194 = .ok (.invokestatic 181, 3) := by decide +kernel
theorem dX4_share_197 : decode cX4_share 197 = .ok (.iload 4, 2) := by decide +kernel
theorem dX4_share_199 : decode cX4_share 199 = .ok (.iconst 1, 1) := by decide +kernel
theorem dX4_share_200 : decode cX4_share 200 = .ok (.isub, 1) := by decide +kernel
theorem dX4_share_201 : decode cX4_share 201 = .ok (.iload 7, 2) := by decide +kernel
theorem dX4_share_203 : decode cX4_share 203 = .ok (.isub, 1) := by decide +kernel
theorem dX4_share_204 : decode cX4_share 204 = .ok (.invokestatic 181, 3) := by decide +kernel
theorem dX4_share_207 : decode cX4_share 207 = .ok (.imul, 1) := by decide +kernel
theorem dX4_share_208 : decode cX4_share 208 = .ok (.aload_n 0, 1) := by decide +kernel
theorem dX4_share_209 : decode cX4_share 209 = .ok (.getfield 44, 3) := by decide +kernel
theorem dX4_share_212 : decode cX4_share 212 = .ok (.iload 6, 2) := by decide +kernel
theorem dX4_share_214 : decode cX4_share 214 = .ok (.iconst 1, 1) := by decide +kernel
theorem dX4_share_215 : decode cX4_share 215 = .ok (.iload_n 3, 1) := by decide +kernel
theorem dX4_share_216 : decode cX4_share 216 = .ok (.ishl, 1) := by decide +kernel
