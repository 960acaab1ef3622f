theorem dX2_at_18 : decode cX2_at 18 = .ok (.iaload, 1) := by decide +kernel
theorem dX2_at_19 : decode cX2_at 19 = .ok (.goto 4, 3) := by decide +kernel
theorem dX2_at_22 : decode cX2_at 22 = .ok (.iconst 0, 1) := by decide +kernel
theorem dX2_at_23 : decode cX2_at 23 = .ok (.ireturn, 1) := by decide +kernel
set_option maxRecDepth 20000 in
theorem ggX2_firstFault_X2_fits : GoodIn wsX2_firstFault wsX2_fits := goodIn_r _ [6, 7, 8, 9, 5, 10, 11, 12, 13, 14, 15, 16, 17] (by decide +kernel) (by decide +kernel)
set_option maxRecDepth 20000 in
theorem gX2_firstFault_X2_fits : GoodIn wsX2_firstFault (wsV RX2 19 RX2 yX2_fits wsX2_fits) := goodIn_app (goodIn_of _ (by decide +kernel)) ggX2_firstFault_X2_fits
theorem dX2_firstFault_0 : decode cX2_firstFault 0 = .ok (.iconst 0, 1) := by decide +kernel
theorem dX2_firstFault_1 : decode cX2_firstFault 1 = .ok (.istore_n 1, 1) := by decide +kernel
theorem dX2_firstFault_2 : decode cX2_firstFault 2 = .ok (.iload_n 1, 1) := by decide +kernel
theorem dX2_firstFault_3 : decode cX2_firstFault 3 = .ok (.aload_n 0, 1) := by decide +kernel
theorem dX2_firstFault_4 : decode cX2_firstFault 4 = .ok (.getfield 15, 3) := by decide +kernel
theorem dX2_firstFault_7 : decode cX2_firstFault 7 = .ok (.if_icmp .ge 19, 3) := by decide +kernel
theorem dX2_firstFault_10 : decode cX2_firstFault 10 = .ok (.aload_n 0, 1) := by decide +kernel
theorem dX2_firstFault_11 : decode cX2_firstFault 11 = .ok (.iload_n 1, 1) := by decide +kernel
theorem dX2_firstFault_12 : decode cX2_firstFault 12 = .ok (.invokevirtual 19, 3) := by decide +kernel
theorem dX2_firstFault_15 : decode cX2_firstFault 15 = .ok (.ifCond .ne 5, 3) := by decide +kernel
theorem dX2_firstFault_18 : decode cX2_firstFault 18 = .ok (.iload_n 1, 1) := by decide +kernel
theorem dX2_firstFault_19 : decode cX2_firstFault 19 = .ok (.ireturn, 1) := by decide +kernel
theorem dX2_firstFault_20 : decode cX2_firstFault 20 = .ok (.iinc 1 1, 3) := by decide +kernel
theorem dX2_firstFault_23 : decode cX2_firstFault 23 = .ok (.goto (-21), 3) := by decide +kernel
theorem dX2_firstFault_26 : decode cX2_firstFault 26 = .ok (.aload_n 0, 1) := by decide +kernel
theorem dX2_firstFault_27 : decode cX2_firstFault 27 = .ok (.getfield 15, 3) := by decide +kernel
theorem dX2_firstFault_30 : decode cX2_firstFault 30 = .ok (.bipush 14, 2) := by decide +kernel
theorem dX2_firstFault_32 : decode cX2_firstFault 32 = .ok (.if_icmp .lt 20, 3) := by decide +kernel
theorem dX2_firstFault_35 : decode cX2_firstFault 35 = .ok (.aload_n 0, 1) := by decide +kernel
theorem dX2_firstFault_36 : decode cX2_firstFault 36 = .ok (.getfield 15, 3) := by decide +kernel
theorem dX2_firstFault_39 : decode cX2_firstFault 39 = .ok (.bipush 14, 2) := by decide +kernel
theorem dX2_firstFault_41 : decode cX2_firstFault 41 = .ok (.isub, 1) := by decide +kernel
theorem dX2_firstFault_42 : decode cX2_firstFault 42 = .ok (.iconst 3, 1) := by decide +kernel
theorem dX2_firstFault_43 : decode cX2_firstFault 43 = .ok (.irem, 1) := by decide +kernel
theorem dX2_firstFault_44 : decode cX2_firstFault 44 = .ok (.ifCond .ne 8, 3) := by decide +kernel
theorem dX2_firstFault_47 : decode cX2_firstFault 47 = .ok (.bipush (-9), 2) := by decide +kernel
theorem dX2_firstFault_49 : decode cX2_firstFault 49 = .ok (.goto 7, 3) := by decide +kernel
theorem dX2_firstFault_52 : decode cX2_firstFault 52 = .ok (.aload_n 0, 1) := by decide +kernel
theorem dX2_firstFault_53 : decode cX2_firstFault 53 = .ok (.getfield 15, 3) := by decide +kernel
theorem dX2_firstFault_56 : decode cX2_firstFault 56 = .ok (.ireturn, 1) := by decide +kernel
set_option maxRecDepth 20000 in
theorem ggX2_fits_X2_at : GoodIn wsX2_fits wsX2_at := goodIn_r _ [5, 6, 11, 12] (by decide +kernel) (by decide +kernel)
set_option maxRecDepth 20000 in
theorem gX2_fits_X2_at : GoodIn wsX2_fits (wsV RX2 23 RX2 yX2_at wsX2_at) := goodIn_app (goodIn_of _ (by decide +kernel)) ggX2_fits_X2_at
set_option maxRecDepth 20000 in
theorem ggX2_fits_X2_fitsSign : GoodIn wsX2_fits wsX2_fitsSign := goodIn_r _ [10, 1, 2, 3, 4, 5, 6, 11, 12] (by decide +kernel) (by decide +kernel)
set_option maxRecDepth 20000 in
theorem gX2_fits_X2_fitsSign : GoodIn wsX2_fits (wsV RX2 27 RX2 yX2_fitsSign wsX2_fitsSign) := goodIn_app (goodIn_of _ (by decide +kernel)) ggX2_fits_X2_fitsSign
theorem dX2_fits_0 : decode cX2_fits 0 = .ok (.aload_n 0, 1) := by decide +kernel
theorem dX2_fits_1 : decode cX2_fits 1 = .ok (.iload_n 1, 1) := by decide +kernel
theorem dX2_fits_2 : decode cX2_fits 2 = .ok (.invokevirtual 23, 3) := by decide +kernel
theorem dX2_fits_5 : decode cX2_fits 5 = .ok (.istore_n 2, 1) := by decide +kernel
theorem dX2_fits_6 : decode cX2_fits 6 = .ok (.iload_n 1, 1) := by decide +kernel
theorem dX2_fits_7 : decode cX2_fits 7 = .ok (.ifCond .ne 15, 3) := by decide +kernel
theorem dX2_fits_10 : decode cX2_fits 10 = .ok (.iload_n 2, 1) := by decide +kernel
theorem dX2_fits_11 : decode cX2_fits 11 = .ok (.bipush 77, 2) := by decide +kernel
theorem dX2_fits_13 : decode cX2_fits 13 = .ok (.if_icmp .ne 7, 3) := by decide +kernel
theorem dX2_fits_16 : decode cX2_fits 16 = .ok (.iconst 1, 1) := by decide +kernel
theorem dX2_fits_17 : decode cX2_fits 17 = .ok (.goto 4, 3) := by decide +kernel
theorem dX2_fits_20 : decode cX2_fits 20 = .ok (.iconst 0, 1) := by decide +kernel
theorem dX2_fits_21 : decode cX2_fits 21 = .ok (.ireturn, 1) := by decide +kernel
theorem dX2_fits_22 : decode cX2_fits 22 = .ok (.iload_n 1, 1) := by decide +kernel
theorem dX2_fits_23 : decode cX2_fits 23 = .ok (.iconst 1, 1) := by decide +kernel
theorem dX2_fits_24 : decode cX2_fits 24 = .ok (.if_icmp .ne 21, 3) := by decide +kernel
theorem dX2_fits_27 : decode cX2_fits 27 = .ok (.iload_n 2, 1) := by decide +kernel
theorem dX2_fits_28 : decode cX2_fits 28 = .ok (.bipush 48, 2) := by decide +kernel
theorem dX2_fits_30 : decode cX2_fits 30 = .ok (.if_icmp .lt 13, 3) := by decide +kernel
theorem dX2_fits_33 : decode cX2_fits 33 = .ok (.iload_n 2, 1) := by decide +kernel
theorem dX2_fits_34 : decode cX2_fits 34 = .ok (.bipush 57, 2) := by decide +kernel
theorem dX2_fits_36 : decode cX2_fits 36 = .ok (.if_icmp .gt 7, 3) := by decide +kernel
theorem dX2_fits_39 : decode cX2_fits 39 = .ok (.iconst 1, 1) := by decide +kernel
theorem dX2_fits_40 : decode cX2_fits 40 = .ok (.goto 4, 3) := by decide +kernel
theorem dX2_fits_43 : decode cX2_fits 43 = .ok (.iconst 0, 1) := by decide +kernel
theorem dX2_fits_44 : decode cX2_fits 44 = .ok (.ireturn, 1) := by decide +kernel
theorem dX2_fits_45 : decode cX2_fits 45 = .ok (.iload_n 1, 1) := by decide +kernel
theorem dX2_fits_46 : decode cX2_fits 46 = .ok (.bipush 14, 2) := by decide +kernel
theorem dX2_fits_48 : decode cX2_fits 48 = .ok (.if_icmp .ge 21, 3) := by decide +kernel
theorem dX2_fits_51 : decode cX2_fits 51 = .ok (.iload_n 2, 1) := by decide +kernel
theorem dX2_fits_52 : decode cX2_fits 52 = .ok (.bipush 48, 2) := by decide +kernel
theorem dX2_fits_54 : decode cX2_fits 54 = .ok (.if_icmp .lt 13, 3) := by decide +kernel
theorem dX2_fits_57 : decode cX2_fits 57 = .ok (.iload_n 2, 1) := by decide +kernel
theorem dX2_fits_58 : decode cX2_fits 58 = .ok (.bipush 52, 2) := by decide +kernel
theorem dX2_fits_60 : decode cX2_fits 60 = .ok (.if_icmp .gt 7, 3) := by decide +kernel
theorem dX2_fits_63 : decode cX2_fits 63 = .ok (.iconst 1, 1) := by decide +kernel
theorem dX2_fits_64 : decode cX2_fits 64 = .ok (.goto 4, 3) := by decide +kernel
theorem dX2_fits_67 : decode cX2_fits 67 = .ok (.iconst 0, 1) := by decide +kernel
theorem dX2_fits_68 : decode cX2_fits 68 = .ok (.ireturn, 1) := by decide +kernel
theorem dX2_fits_69 : decode cX2_fits 69 = .ok (.aload_n 0, 1) := by decide +kernel
theorem dX2_fits_70 : decode cX2_fits 70 = .ok (.iload_n 1, 1) := by decide +kernel
theorem dX2_fits_71 : decode cX2_fits 71 = .ok (.bipush 14, 2) := by decide +kernel
theorem dX2_fits_73 : decode cX2_fits 73 = .ok (.isub, 1) := by decide +kernel
theorem dX2_fits_74 : decode cX2_fits 74 = .ok (.iconst 3, 1) := by decide +kernel
theorem dX2_fits_75 : decode cX2_fits 75 = .ok (.idiv, 1) := by decide +kernel
theorem dX2_fits_76 : decode cX2_fits 76 = .ok (.iload_n 1, 1) := by decide +kernel
theorem dX2_fits_77 : decode cX2_fits 77 = .ok (.bipush 14, 2) := by decide +kernel
theorem dX2_fits_79 : decode cX2_fits 79 = .ok (.isub, 1) := by decide +kernel
theorem dX2_fits_80 : decode cX2_fits 80 = .ok (.iconst 3, 1) := by decide +kernel
theorem dX2_fits_81 : decode cX2_fits 81 = .ok (.irem, 1) := by decide +kernel
theorem dX2_fits_82 : decode cX2_fits 82 = .ok (.iload_n 2, 1) := by decide +kernel
theorem dX2_fits_83 : decode cX2_fits 83 = .ok (.invokevirtual 27, 3) := by decide +kernel
theorem dX2_fits_86 : decode cX2_fits 86 = .ok (.ireturn, 1) := by decide +kernel
set_option maxRecDepth 20000 in
theorem ggX2_fitsSign_X2_at : GoodIn wsX2_fitsSign wsX2_at := goodIn_r _ [5, 6, 7, 8] (by decide +kernel) (by decide +kernel)
set_option maxRecDepth 20000 in
theorem gX2_fitsSign_X2_at : GoodIn wsX2_fitsSign (wsV RX2 23 RX2 yX2_at wsX2_at) := goodIn_app (goodIn_of _ (by decide +kernel)) ggX2_fitsSign_X2_at
theorem dX2_fitsSign_0 : decode cX2_fitsSign 0 = .ok (.iload_n 1, 1) := by decide +kernel
theorem dX2_fitsSign_1 : decode cX2_fitsSign 1 = .ok (.bipush 8, 2) := by decide +kernel
theorem dX2_fitsSign_3 : decode cX2_fitsSign 3 = .ok (.if_icmp .lt 5, 3) := by decide +kernel
theorem dX2_fitsSign_6 : decode cX2_fitsSign 6 = .ok (.iconst 0, 1) := by decide +kernel
theorem dX2_fitsSign_7 : decode cX2_fitsSign 7 = .ok (.ireturn, 1) := by decide +kernel
theorem dX2_fitsSign_8 : decode cX2_fitsSign 8 = .ok (.iload_n 2, 1) := by decide +kernel
theorem dX2_fitsSign_9 : decode cX2_fitsSign 9 = .ok (.ifCond .ne 15, 3) := by decide +kernel
theorem dX2_fitsSign_12 : decode cX2_fitsSign 12 = .ok (.iload_n 3, 1) := by decide +kernel
theorem dX2_fitsSign_13 : decode cX2_fitsSign 13 = .ok (.bipush 68, 2) := by decide +kernel
theorem dX2_fitsSign_15 : decode cX2_fitsSign 15 = .ok (.if_icmp .ne 7, 3) := by decide +kernel
theorem dX2_fitsSign_18 : decode cX2_fitsSign 18 = .ok (.iconst 1, 1) := by decide +kernel
theorem dX2_fitsSign_19 : decode cX2_fitsSign 19 = .ok (.goto 4, 3) := by decide +kernel
theorem dX2_fitsSign_22 : decode cX2_fitsSign 22 = .ok (.iconst 0, 1) := by decide +kernel
theorem dX2_fitsSign_23 : decode cX2_fitsSign 23 = .ok (.ireturn, 1) := by decide +kernel
theorem dX2_fitsSign_24 : decode cX2_fitsSign 24 = .ok (.iload_n 2, 1) := by decide +kernel
theorem dX2_fitsSign_25 : decode cX2_fitsSign 25 = .ok (.iconst 2, 1) := by decide +kernel
theorem dX2_fitsSign_26 : decode cX2_fitsSign 26 = .ok (.if_icmp .ne 21, 3) := by decide +kernel
theorem dX2_fitsSign_29 : decode cX2_fitsSign 29 = .ok (.iload_n 3, 1) := by decide +kernel
theorem dX2_fitsSign_30 : decode cX2_fitsSign 30 = .ok (.bipush 49, 2) := by decide +kernel
theorem dX2_fitsSign_32 : decode cX2_fitsSign 32 = .ok (.if_icmp .lt 13, 3) := by decide +kernel
theorem dX2_fitsSign_35 : decode cX2_fitsSign 35 = .ok (.iload_n 3, 1) := by decide +kernel
theorem dX2_fitsSign_36 : decode cX2_fitsSign 36 = .ok (.bipush 52, 2) := by decide +kernel
theorem dX2_fitsSign_38 : decode cX2_fitsSign 38 = .ok (.if_icmp .gt 7, 3) := by decide +kernel
theorem dX2_fitsSign_41 : decode cX2_fitsSign 41 = .ok (.iconst 1, 1) := by decide +kernel
theorem dX2_fitsSign_42 : decode cX2_fitsSign 42 = .ok (.goto 4, 3) := by decide +kernel
theorem dX2_fitsSign_45 : decode cX2_fitsSign 45 = .ok (.iconst 0, 1) := by decide +kernel
theorem dX2_fitsSign_46 : decode cX2_fitsSign 46 = .ok (.ireturn, 1) := by decide +kernel
theorem dX2_fitsSign_47 : decode cX2_fitsSign 47 = .ok (.iconst 0, 1) := by decide +kernel
theorem dX2_fitsSign_48 : decode cX2_fitsSign 48 = .ok (.istore 4, 2) := by decide +kernel
theorem dX2_fitsSign_50 : decode cX2_fitsSign 50 = .ok (.iload 4, 2) := by decide +kernel
theorem dX2_fitsSign_52 : decode cX2_fitsSign 52 = .ok (.iload_n 1, 1) := by decide +kernel
theorem dX2_fitsSign_53 : decode cX2_fitsSign 53 = .ok (.if_icmp .ge 26, 3) := by decide +kernel
theorem dX2_fitsSign_56 : decode cX2_fitsSign 56 = .ok (.aload_n 0, 1) := by decide +kernel
theorem dX2_fitsSign_57 : decode cX2_fitsSign 57 = .ok (.bipush 15, 2) := by decide +kernel
theorem dX2_fitsSign_59 : decode cX2_fitsSign 59 = .ok (.iconst 3, 1) := by decide +kernel
theorem dX2_fitsSign_60 : decode cX2_fitsSign 60 = .ok (.iload 4, 2) := by decide +kernel
theorem dX2_fitsSign_62 : decode cX2_fitsSign 62 = .ok (.imul, 1) := by decide +kernel
theorem dX2_fitsSign_63 : decode cX2_fitsSign 63 = .ok (.iadd, 1) := by decide +kernel
theorem dX2_fitsSign_64 : decode cX2_fitsSign 64 = .ok (.invokevirtual 23, 3) := by decide +kernel
theorem dX2_fitsSign_67 : decode cX2_fitsSign 67 = .ok (.iload_n 3, 1) := by decide +kernel
theorem dX2_fitsSign_68 : decode cX2_fitsSign 68 = .ok (.if_icmp .ne 5, 3) := by decide +kernel
theorem dX2_fitsSign_71 : decode cX2_fitsSign 71 = .ok (.iconst 0, 1) := by decide +kernel
theorem dX2_fitsSign_72 : decode cX2_fitsSign 72 = .ok (.ireturn, 1) := by decide +kernel
theorem dX2_fitsSign_73 : decode cX2_fitsSign 73 = .ok (.iinc 4 1, 3) := by decide +kernel
theorem dX2_fitsSign_76 : decode cX2_fitsSign 76 = .ok (.goto (-26), 3) := by decide +kernel
theorem dX2_fitsSign_79 : decode cX2_fitsSign 79 = .ok (.iload_n 3, 1) := by decide +kernel
theorem dX2_fitsSign_80 : decode cX2_fitsSign 80 = .ok (.bipush 97, 2) := by decide +kernel
theorem dX2_fitsSign_82 : decode cX2_fitsSign 82 = .ok (.if_icmp .lt 13, 3) := by decide +kernel
theorem dX2_fitsSign_85 : decode cX2_fitsSign 85 = .ok (.iload_n 3, 1) := by decide +kernel
theorem dX2_fitsSign_86 : decode cX2_fitsSign 86 = .ok (.bipush 108, 2) := by decide +kernel
theorem dX2_fitsSign_88 : decode cX2_fitsSign 88 = .ok (.if_icmp .gt 7, 3) := by decide +kernel
theorem dX2_fitsSign_91 : decode cX2_fitsSign 91 = .ok (.iconst 1, 1) := by decide +kernel
theorem dX2_fitsSign_92 : decode cX2_fitsSign 92 = .ok (.goto 4, 3) := by decide +kernel
theorem dX2_fitsSign_95 : decode cX2_fitsSign 95 = .ok (.iconst 0, 1) := by decide +kernel
theorem dX2_fitsSign_96 : decode cX2_fitsSign 96 = .ok (.ireturn, 1) := by decide +kernel
set_option maxRecDepth 20000 in
theorem ggX3_init_X2_init : GoodIn wsX3_init wsX2_init := goodIn_r _ [19, 20, 2, 3, 21, 22, 39, 40] (by decide +kernel) (by decide +kernel)
set_option maxRecDepth 20000 in
theorem gX3_init_X2_init_n9 : GoodIn wsX3_init (wsX2_init) := ggX3_init_X2_init
set_option maxRecDepth 20000 in
theorem ggX3_init_X1_init : GoodIn wsX3_init wsX1_init := goodIn_r _ [25, 26, 2, 3, 27, 48, 49, 50, 51, 52, 53, 54, 55] (by decide +kernel) (by decide +kernel)
set_option maxRecDepth 20000 in
theorem gX3_init_X1_init : GoodIn wsX3_init (wsX1_init) := ggX3_init_X1_init
set_option maxRecDepth 20000 in
theorem ggX3_init_X0_init : GoodIn wsX3_init wsX0_init := goodIn_r _ [30, 31, 2, 3, 32, 33, 9, 10, 34, 24, 25, 26, 27, 56, 57, 48, 49, 50, 51, 52, 53, 54, 55] (by decide +kernel) (by decide +kernel)
set_option maxRecDepth 20000 in
theorem gX3_init_X0_init : GoodIn wsX3_init (wsX0_init) := ggX3_init_X0_init
set_option maxRecDepth 20000 in
theorem ggX3_init_X3_chainOf : GoodIn wsX3_init wsX3_chainOf := goodIn_r _ [38, 8, 9, 10, 23, 24, 25, 26, 2, 3, 27, 48, 49, 50, 51, 52, 53, 54, 55] (by decide +kernel) (by decide +kernel)
set_option maxRecDepth 20000 in
theorem gX3_init_X3_chainOf : GoodIn wsX3_init (va_wsS RX3 36 yX3_chainOf wsX3_chainOf) := goodIn_app (goodIn_of _ (by decide +kernel)) ggX3_init_X3_chainOf
theorem dX3_init_0 : decode cX3_init 0 = .ok (.aload_n 0, 1) := by decide +kernel
theorem dX3_init_1 : decode cX3_init 1 = .ok (.invokespecial 1, 3) := by decide +kernel
theorem dX3_init_4 : decode cX3_init 4 = .ok (.aload_n 0, 1) := by decide +kernel
theorem dX3_init_5 : decode cX3_init 5 = .ok (.new 7, 3) := by decide +kernel
theorem dX3_init_8 : decode cX3_init 8 = .ok (.dup, 1) := by decide +kernel
theorem dX3_init_9 : decode cX3_init 9 = .ok (.invokespecial 9, 3) := by decide +kernel
theorem dX3_init_12 : decode cX3_init 12 = .ok (.putfield 10, 3) := by decide +kernel
theorem dX3_init_15 : decode cX3_init 15 = .ok (.aload_n 0, 1) := by decide +kernel
theorem dX3_init_16 : decode cX3_init 16 = .ok (.new 16, 3) := by decide +kernel
theorem dX3_init_19 : decode cX3_init 19 = .ok (.dup, 1) := by decide +kernel
theorem dX3_init_20 : decode cX3_init 20 = .ok (.aconst_null, 1) := by decide +kernel
theorem dX3_init_21 : decode cX3_init 21 = .ok (.invokespecial 18, 3) := by decide +kernel
theorem dX3_init_24 : decode cX3_init 24 = .ok (.putfield 21, 3) := by decide +kernel
theorem dX3_init_27 : decode cX3_init 27 = .ok (.aload_n 0, 1) := by decide +kernel
theorem dX3_init_28 : decode cX3_init 28 = .ok (.new 25, 3) := by decide +kernel
theorem dX3_init_31 : decode cX3_init 31 = .ok (.dup, 1) := by decide +kernel
theorem dX3_init_32 : decode cX3_init 32 = .ok (.invokespecial 27, 3) := by decide +kernel
theorem dX3_init_35 : decode cX3_init 35 = .ok (.putfield 28, 3) := by decide +kernel
theorem dX3_init_38 : decode cX3_init 38 = .ok (.aload_n 0, 1) := by decide +kernel
theorem dX3_init_39 : decode cX3_init 39 = .ok (.iconst 2, 1) := by decide +kernel
theorem dX3_init_40 : decode cX3_init 40 = .ok (.anewarray 16, 3) := by decide +kernel
theorem dX3_init_43 : decode cX3_init 43 = .ok (.putfield 32, 3) := by decide +kernel
theorem dX3_init_46 : decode cX3_init 46 = .ok (.iconst 0, 1) := by decide +kernel
theorem dX3_init_47 : decode cX3_init 47 = .ok (.istore_n 1, 1) := by decide +kernel
theorem dX3_init_48 : decode cX3_init 48 = .ok (.iload_n 1, 1) := by decide +kernel
theorem dX3_init_49 : decode cX3_init 49 = .ok (.aload_n 0, 1) := by decide +kernel
theorem dX3_init_50 : decode cX3_init 50 = .ok (.getfield 32, 3) := by decide +kernel
theorem dX3_init_53 : decode cX3_init 53 = .ok (.arraylength, 1) := by decide +kernel
theorem dX3_init_54 : decode cX3_init 54 = .ok (.if_icmp .ge 23, 3) := by decide +kernel
theorem dX3_init_57 : decode cX3_init 57 = .ok (.aload_n 0, 1) := by decide +kernel
theorem dX3_init_58 : decode cX3_init 58 = .ok (.getfield 32, 3) := by decide +kernel
theorem dX3_init_61 : decode cX3_init 61 = .ok (.iload_n 1, 1) := by decide +kernel
theorem dX3_init_62 : decode cX3_init 62 = .ok (.new 16, 3) := by decide +kernel
theorem dX3_init_65 : decode cX3_init 65 = .ok (.dup, 1) := by decide +kernel
theorem dX3_init_66 : decode cX3_init 66 = .ok (.aconst_null, 1) := by decide +kernel
theorem dX3_init_67 : decode cX3_init 67 = .ok (.invokespecial 18, 3) := by decide +kernel
theorem dX3_init_70 : decode cX3_init 70 = .ok (.aastore, 1) := by decide +kernel
theorem dX3_init_71 : decode cX3_init 71 = .ok (.iinc 1 1, 3) := by decide +kernel
theorem dX3_init_74 : decode cX3_init 74 = .ok (.goto (-26), 3) := by decide +kernel
theorem dX3_init_77 : decode cX3_init 77 = .ok (.aload_n 0, 1) := by decide +kernel
theorem dX3_init_78 : decode cX3_init 78 = .ok (.new 16, 3) := by decide +kernel
theorem dX3_init_81 : decode cX3_init 81 = .ok (.dup, 1) := by decide +kernel
theorem dX3_init_82 : decode cX3_init 82 = .ok (.iconst 5, 1) := by decide +kernel
theorem dX3_init_83 : decode cX3_init 83 = .ok (.invokestatic 36, 3) := by decide +kernel
theorem dX3_init_86 : decode cX3_init 86 = .ok (.invokespecial 18, 3) := by decide +kernel
theorem dX3_init_89 : decode cX3_init 89 = .ok (.putfield 40, 3) := by decide +kernel
theorem dX3_init_92 : decode cX3_init 92 = .ok (.return_, 1) := by decide +kernel
set_option maxRecDepth 20000 in
theorem ggX3_write_X2_add : GoodIn wsX3_write wsX2_add := goodIn_r _ [7, 8, 9, 17, 18] (by decide +kernel) (by decide +kernel)
set_option maxRecDepth 20000 in
theorem gX3_write_X2_add : GoodIn wsX3_write (wsV RX3 43 RX2 yX2_add wsX2_add) := goodIn_app (goodIn_of _ (by decide +kernel)) ggX3_write_X2_add
theorem dX3_write_0 : decode cX3_write 0 = .ok (.iload_n 1, 1) := by decide +kernel
theorem dX3_write_1 : decode cX3_write 1 = .ok (.ifCond .lt 10, 3) := by decide +kernel
theorem dX3_write_4 : decode cX3_write 4 = .ok (.iload_n 1, 1) := by decide +kernel
theorem dX3_write_5 : decode cX3_write 5 = .ok (.sipush 255, 3) := by decide +kernel
theorem dX3_write_8 : decode cX3_write 8 = .ok (.if_icmp .le 6, 3) := by decide +kernel
theorem dX3_write_11 : decode cX3_write 11 = .ok (.bipush (-2), 2) := by decide +kernel
theorem dX3_write_13 : decode cX3_write 13 = .ok (.ireturn, 1) := by decide +kernel
theorem dX3_write_14 : decode cX3_write 14 = .ok (.aload_n 0, 1) := by decide +kernel
theorem dX3_write_15 : decode cX3_write 15 = .ok (.getfield 10, 3) := by decide +kernel
theorem dX3_write_18 : decode cX3_write 18 = .ok (.iload_n 1, 1) := by decide +kernel
theorem dX3_write_19 : decode cX3_write 19 = .ok (.invokevirtual 43, 3) := by decide +kernel
theorem dX3_write_22 : decode cX3_write 22 = .ok (.ifCond .eq 13, 3) := by decide +kernel
theorem dX3_write_25 : decode cX3_write 25 = .ok (.aload_n 0, 1) := by decide +kernel
theorem dX3_write_26 : decode cX3_write 26 = .ok (.getfield 10, 3) := by decide +kernel
theorem dX3_write_29 : decode cX3_write 29 = .ok (.getfield 47, 3) := by decide +kernel
theorem dX3_write_32 : decode cX3_write 32 = .ok (.goto 5, 3) := by decide +kernel
theorem dX3_write_35 : decode cX3_write 35 = .ok (.bipush (-4), 2) := by decide +kernel
theorem dX3_write_37 : decode cX3_write 37 = .ok (.ireturn, 1) := by decide +kernel
theorem dX3_wipe_0 : decode cX3_wipe 0 = .ok (.aload_n 0, 1) := by decide +kernel
theorem dX3_wipe_1 : decode cX3_wipe 1 = .ok (.getfield 10, 3) := by decide +kernel
theorem dX3_wipe_4 : decode cX3_wipe 4 = .ok (.getfield 47, 3) := by decide +kernel
theorem dX3_wipe_7 : decode cX3_wipe 7 = .ok (.istore_n 1, 1) := by decide +kernel
theorem dX3_wipe_8 : decode cX3_wipe 8 = .ok (.aload_n 0, 1) := by decide +kernel
theorem dX3_wipe_9 : decode cX3_wipe 9 = .ok (.getfield 10, 3) := by decide +kernel
theorem dX3_wipe_12 : decode cX3_wipe 12 = .ok (.iconst 0, 1) := by decide +kernel
theorem dX3_wipe_13 : decode cX3_wipe 13 = .ok (.putfield 47, 3) := by decide +kernel
theorem dX3_wipe_16 : decode cX3_wipe 16 = .ok (.iload_n 1, 1) := by decide +kernel
theorem dX3_wipe_17 : decode cX3_wipe 17 = .ok (.ireturn, 1) := by decide +kernel
set_option maxRecDepth 20000 in
theorem ggX3_fault_X2_firstFault : GoodIn wsX3_fault wsX2_firstFault := goodIn_r _ [6, 7, 8, 9, 10, 5, 11, 12, 13, 14, 15, 16, 17, 18, 19, 20, 28, 29] (by decide +kernel) (by decide +kernel)
set_option maxRecDepth 20000 in
theorem gX3_fault_X2_firstFault : GoodIn wsX3_fault (wsV RX3 51 RX2 yX2_firstFault wsX2_firstFault) := goodIn_app (goodIn_of _ (by decide +kernel)) ggX3_fault_X2_firstFault
theorem dX3_fault_0 : decode cX3_fault 0 = .ok (.aload_n 0, 1) := by decide +kernel
theorem dX3_fault_1 : decode cX3_fault 1 = .ok (.getfield 10, 3) := by decide +kernel
theorem dX3_fault_4 : decode cX3_fault 4 = .ok (.invokevirtual 51, 3) := by decide +kernel
theorem dX3_fault_7 : decode cX3_fault 7 = .ok (.ireturn, 1) := by decide +kernel
set_option maxRecDepth 20000 in
theorem ggX3_map_X2_firstFault : GoodIn wsX3_map wsX2_firstFault := goodIn_r _ [10, 11, 12, 13, 14, 9, 15, 16, 17, 18, 19, 20, 21, 22, 23, 24, 73, 74] (by decide +kernel) (by decide +kernel)
set_option maxRecDepth 20000 in
theorem gX3_map_X2_firstFault : GoodIn wsX3_map (wsV RX3 51 RX2 yX2_firstFault wsX2_firstFault) := goodIn_app (goodIn_of _ (by decide +kernel)) ggX3_map_X2_firstFault
set_option maxRecDepth 20000 in
theorem ggX3_map_X1_beginBy : GoodIn wsX3_map wsX1_beginBy := goodIn_r _ [29, 30, 31, 32, 33, 34, 35, 36, 37, 38, 17, 18, 9, 19, 20, 39, 40, 41, 28, 42, 43, 44, 75, 76, 77, 78, 79, 80, 81, 82, 73, 74] (by decide +kernel) (by decide +kernel)
set_option maxRecDepth 20000 in
theorem gX3_map_X1_beginBy : GoodIn wsX3_map (wsV RX3 55 RX1 yX1_beginBy wsX1_beginBy) := goodIn_app (goodIn_of _ (by decide +kernel)) ggX3_map_X1_beginBy
set_option maxRecDepth 20000 in
theorem ggX3_map_X1_countSigns : GoodIn wsX3_map wsX1_countSigns := goodIn_r _ [48, 49, 50, 51, 28, 52, 53, 54, 55, 56, 31, 57, 58, 59, 60, 61, 62, 63, 75, 76, 77, 78, 79, 80, 81, 82] (by decide +kernel) (by decide +kernel)
set_option maxRecDepth 20000 in
theorem gX3_map_X1_countSigns : GoodIn wsX3_map (wsV RX3 65 RX1 yX1_countSigns wsX1_countSigns) := goodIn_app (goodIn_of _ (by decide +kernel)) ggX3_map_X1_countSigns
theorem dX3_map_0 : decode cX3_map 0 = .ok (.aload_n 0, 1) := by decide +kernel
theorem dX3_map_1 : decode cX3_map 1 = .ok (.getfield 10, 3) := by decide +kernel
theorem dX3_map_4 : decode cX3_map 4 = .ok (.invokevirtual 51, 3) := by decide +kernel
theorem dX3_map_7 : decode cX3_map 7 = .ok (.bipush (-9), 2) := by decide +kernel
theorem dX3_map_9 : decode cX3_map 9 = .ok (.if_icmp .eq 6, 3) := by decide +kernel
theorem dX3_map_12 : decode cX3_map 12 = .ok (.bipush (-3), 2) := by decide +kernel
theorem dX3_map_14 : decode cX3_map 14 = .ok (.ireturn, 1) := by decide +kernel
theorem dX3_map_15 : decode cX3_map 15 = .ok (.aload_n 0, 1) := by decide +kernel
theorem dX3_map_16 : decode cX3_map 16 = .ok (.getfield 21, 3) := by decide +kernel
theorem dX3_map_19 : decode cX3_map 19 = .ok (.aload_n 0, 1) := by decide +kernel
theorem dX3_map_20 : decode cX3_map 20 = .ok (.getfield 10, 3) := by decide +kernel
theorem dX3_map_23 : decode cX3_map 23 = .ok (.invokevirtual 55, 3) := by decide +kernel
theorem dX3_map_26 : decode cX3_map 26 = .ok (.aload_n 0, 1) := by decide +kernel
theorem dX3_map_27 : decode cX3_map 27 = .ok (.getfield 28, 3) := by decide +kernel
theorem dX3_map_30 : decode cX3_map 30 = .ok (.iconst 0, 1) := by decide +kernel
theorem dX3_map_31 : decode cX3_map 31 = .ok (.putfield 59, 3) := by decide +kernel
theorem dX3_map_34 : decode cX3_map 34 = .ok (.aload_n 0, 1) := by decide +kernel
theorem dX3_map_35 : decode cX3_map 35 = .ok (.iconst 0, 1) := by decide +kernel
theorem dX3_map_36 : decode cX3_map 36 = .ok (.putfield 62, 3) := by decide +kernel
theorem dX3_map_39 : decode cX3_map 39 = .ok (.aload_n 0, 1) := by decide +kernel
theorem dX3_map_40 : decode cX3_map 40 = .ok (.getfield 21, 3) := by decide +kernel
theorem dX3_map_43 : decode cX3_map 43 = .ok (.invokevirtual 65, 3) := by decide +kernel
theorem dX3_map_46 : decode cX3_map 46 = .ok (.ireturn, 1) := by decide +kernel
set_option maxRecDepth 20000 in
theorem ggX3_about_X1_countSigns : GoodIn wsX3_about wsX1_countSigns := goodIn_r _ [15, 16, 17, 18, 14, 19, 20, 21, 22, 23, 24, 25, 26, 27, 28, 29, 30, 31, 52, 53, 54, 55, 56, 57, 58, 59] (by decide +kernel) (by decide +kernel)
set_option maxRecDepth 20000 in
theorem gX3_about_X1_countSigns : GoodIn wsX3_about (wsV RX3 65 RX1 yX1_countSigns wsX1_countSigns) := goodIn_app (goodIn_of _ (by decide +kernel)) ggX3_about_X1_countSigns
set_option maxRecDepth 20000 in
theorem ggX3_about_X1_errors : GoodIn wsX3_about wsX1_errors := goodIn_r _ [35, 36, 37, 38, 14, 39, 20, 21, 22, 23, 24, 40, 41, 42, 43, 44, 52, 53, 54, 55, 56, 57, 58, 59] (by decide +kernel) (by decide +kernel)
set_option maxRecDepth 20000 in
theorem gX3_about_X1_errors : GoodIn wsX3_about (wsV RX3 83 RX1 yX1_errors wsX1_errors) := goodIn_app (goodIn_of _ (by decide +kernel)) ggX3_about_X1_errors
theorem dX3_about_0 : decode cX3_about 0 = .ok (.iload_n 1, 1) := by decide +kernel
theorem dX3_about_1 : decode cX3_about 1 = .ok (.tableswitch 123 0 8 #[51, 59, 67, 75, 83, 91, 99, 107, 115], 51) := by decide +kernel
theorem dX3_about_52 : decode cX3_about 52 = .ok (.aload_n 0, 1) := by decide +kernel
theorem dX3_about_53 : decode cX3_about 53 = .ok (.getfield 21, 3) := by decide +kernel
theorem dX3_about_56 : decode cX3_about 56 = .ok (.invokevirtual 65, 3) := by decide +kernel
theorem dX3_about_59 : decode cX3_about 59 = .ok (.ireturn, 1) := by decide +kernel
theorem dX3_about_60 : decode cX3_about 60 = .ok (.aload_n 0, 1) := by decide +kernel
theorem dX3_about_61 : decode cX3_about 61 = .ok (.getfield 21, 3) := by decide +kernel
theorem dX3_about_64 : decode cX3_about 64 = .ok (.getfield 68, 3) := by decide +kernel
theorem dX3_about_67 : decode cX3_about 67 = .ok (.ireturn, 1) := by decide +kernel
theorem dX3_about_68 : decode cX3_about 68 = .ok (.aload_n 0, 1) := by decide +kernel
theorem dX3_about_69 : decode cX3_about 69 = .ok (.getfield 21, 3) := by decide +kernel
theorem dX3_about_72 : decode cX3_about 72 = .ok (.getfield 71, 3) := by decide +kernel
theorem dX3_about_75 : decode cX3_about 75 = .ok (.ireturn, 1) := by decide +kernel
theorem dX3_about_76 : decode cX3_about 76 = .ok (.aload_n 0, 1) := by decide +kernel
theorem dX3_about_77 : decode cX3_about 77 = .ok (.getfield 21, 3) := by decide +kernel
theorem dX3_about_80 : decode cX3_about 80 = .ok (.getfield 74, 3) := by decide +kernel
theorem dX3_about_83 : decode cX3_about 83 = .ok (.ireturn, 1) := by decide +kernel
theorem dX3_about_84 : decode cX3_about 84 = .ok (.aload_n 0, 1) := by decide +kernel
theorem dX3_about_85 : decode cX3_about 85 = .ok (.getfield 21, 3) := by decide +kernel
theorem dX3_about_88 : decode cX3_about 88 = .ok (.getfield 77, 3) := by decide +kernel
theorem dX3_about_91 : decode cX3_about 91 = .ok (.ireturn, 1) := by decide +kernel
theorem dX3_about_92 : decode cX3_about 92 = .ok (.aload_n 0, 1) := by decide +kernel
theorem dX3_about_93 : decode cX3_about 93 = .ok (.getfield 21, 3) := by decide +kernel
theorem dX3_about_96 : decode cX3_about 96 = .ok (.getfield 80, 3) := by decide +kernel
theorem dX3_about_99 : decode cX3_about 99 = .ok (.ireturn, 1) := by decide +kernel
theorem dX3_about_100 : decode cX3_about 100 = .ok (.aload_n 0, 1) := by decide +kernel
theorem dX3_about_101 : decode cX3_about 101 = .ok (.getfield 21, 3) := by decide +kernel
theorem dX3_about_104 : decode cX3_about 104 = .ok (.invokevirtual 83, 3) := by decide +kernel
theorem dX3_about_107 : decode cX3_about 107 = .ok (.ireturn, 1) := by decide +kernel
theorem dX3_about_108 : decode cX3_about 108 = .ok (.aload_n 0, 1) := by decide +kernel
theorem dX3_about_109 : decode cX3_about 109 = .ok (.getfield 28, 3) := by decide +kernel
theorem dX3_about_112 : decode cX3_about 112 = .ok (.getfield 59, 3) := by decide +kernel
theorem dX3_about_115 : decode cX3_about 115 = .ok (.ireturn, 1) := by decide +kernel
theorem dX3_about_116 : decode cX3_about 116 = .ok (.aload_n 0, 1) := by decide +kernel
theorem dX3_about_117 : decode cX3_about 117 = .ok (.getfield 10, 3) := by decide +kernel
theorem dX3_about_120 : decode cX3_about 120 = .ok (.getfield 47, 3) := by decide +kernel
theorem dX3_about_123 : decode cX3_about 123 = .ok (.ireturn, 1) := by decide +kernel
theorem dX3_about_124 : decode cX3_about 124 = .ok (.bipush (-2), 2) := by decide +kernel
theorem dX3_about_126 : decode cX3_about 126 = .ok (.ireturn, 1) := by decide +kernel
set_option maxRecDepth 20000 in
theorem ggX3_cell_X3_isCell : GoodIn wsX3_cell wsX3_isCell := goodIn_r _ [5] (by decide +kernel) (by decide +kernel)
set_option maxRecDepth 20000 in
theorem gX3_cell_X3_isCell : GoodIn wsX3_cell (va_wsS RX3 86 yX3_isCell wsX3_isCell) := goodIn_app (goodIn_of _ (by decide +kernel)) ggX3_cell_X3_isCell
set_option maxRecDepth 20000 in
theorem ggX3_cell_X1_landOf : GoodIn wsX3_cell wsX1_landOf := goodIn_r _ [10, 11, 30, 31, 32, 33, 34, 35, 36, 37] (by decide +kernel) (by decide +kernel)
set_option maxRecDepth 20000 in
theorem gX3_cell_X1_landOf : GoodIn wsX3_cell (wsV RX3 89 RX1 yX1_landOf wsX1_landOf) := goodIn_app (goodIn_of _ (by decide +kernel)) ggX3_cell_X1_landOf
set_option maxRecDepth 20000 in
theorem ggX3_cell_X1_signOf : GoodIn wsX3_cell wsX1_signOf := goodIn_r _ [15, 16, 30, 31, 32, 33, 34, 35, 36, 37] (by decide +kernel) (by decide +kernel)
set_option maxRecDepth 20000 in
theorem gX3_cell_X1_signOf : GoodIn wsX3_cell (wsV RX3 93 RX1 yX1_signOf wsX1_signOf) := goodIn_app (goodIn_of _ (by decide +kernel)) ggX3_cell_X1_signOf
set_option maxRecDepth 20000 in
theorem ggX3_cell_X1_goodOf : GoodIn wsX3_cell wsX1_goodOf := goodIn_r _ [20, 21, 13, 14, 9, 15, 16, 22, 7, 8, 10, 11, 30, 31, 32, 33, 34, 35, 36, 37] (by decide +kernel) (by decide +kernel)
set_option maxRecDepth 20000 in
theorem gX3_cell_X1_goodOf : GoodIn wsX3_cell (wsV RX3 96 RX1 yX1_goodOf wsX1_goodOf) := goodIn_app (goodIn_of _ (by decide +kernel)) ggX3_cell_X1_goodOf
theorem dX3_cell_0 : decode cX3_cell 0 = .ok (.iload_n 1, 1) := by decide +kernel
theorem dX3_cell_1 : decode cX3_cell 1 = .ok (.invokestatic 86, 3) := by decide +kernel
theorem dX3_cell_4 : decode cX3_cell 4 = .ok (.ifCond .ne 5, 3) := by decide +kernel
theorem dX3_cell_7 : decode cX3_cell 7 = .ok (.iconst (-1), 1) := by decide +kernel
theorem dX3_cell_8 : decode cX3_cell 8 = .ok (.ireturn, 1) := by decide +kernel
theorem dX3_cell_9 : decode cX3_cell 9 = .ok (.iload_n 2, 1) := by decide +kernel
theorem dX3_cell_10 : decode cX3_cell 10 = .ok (.tableswitch 53 0 2 #[26, 35, 44], 26) := by decide +kernel
theorem dX3_cell_36 : decode cX3_cell 36 = .ok (.aload_n 0, 1) := by decide +kernel
theorem dX3_cell_37 : decode cX3_cell 37 = .ok (.getfield 21, 3) := by decide +kernel
theorem dX3_cell_40 : decode cX3_cell 40 = .ok (.iload_n 1, 1) := by decide +kernel
theorem dX3_cell_41 : decode cX3_cell 41 = .ok (.invokevirtual 89, 3) := by decide +kernel
theorem dX3_cell_44 : decode cX3_cell 44 = .ok (.ireturn, 1) := by decide +kernel
theorem dX3_cell_45 : decode cX3_cell 45 = .ok (.aload_n 0, 1) := by decide +kernel
theorem dX3_cell_46 : decode cX3_cell 46 = .ok (.getfield 21, 3) := by decide +kernel
theorem dX3_cell_49 : decode cX3_cell 49 = .ok (.iload_n 1, 1) := by decide +kernel
theorem dX3_cell_50 : decode cX3_cell 50 = .ok (.invokevirtual 93, 3) := by decide +kernel
theorem dX3_cell_53 : decode cX3_cell 53 = .ok (.ireturn, 1) := by decide +kernel
theorem dX3_cell_54 : decode cX3_cell 54 = .ok (.aload_n 0, 1) := by decide +kernel
theorem dX3_cell_55 : decode cX3_cell 55 = .ok (.getfield 21, 3) := by decide +kernel
theorem dX3_cell_58 : decode cX3_cell 58 = .ok (.iload_n 1, 1) := by decide +kernel
theorem dX3_cell_59 : decode cX3_cell 59 = .ok (.invokevirtual 96, 3) := by decide +kernel
theorem dX3_cell_62 : decode cX3_cell 62 = .ok (.ireturn, 1) := by decide +kernel
theorem dX3_cell_63 : decode cX3_cell 63 = .ok (.bipush (-2), 2) := by decide +kernel
theorem dX3_cell_65 : decode cX3_cell 65 = .ok (.ireturn, 1) := by decide +kernel
set_option maxRecDepth 20000 in
theorem ggX3_go_X3_actedBy : GoodIn wsX3_go wsX3_actedBy := goodIn_r _ [7, 8, 1, 9, 10, 11, 12, 13, 14, 15, 16, 17, 18, 19, 20, 21, 22, 23, 24, 25, 26, 6, 27, 28, 29, 30, 31, 32, 33, 34, 35, 36, 37, 38, 39, 40, 41, 42, 43, 44, 45, 46, 47, 48, 49, 50, 51, 52, 53, 54, 55, 56, 57, 58, 59, 60, 61, 62, 63, 64, 65, 66, 67, 68, 69, 70, 71, 72, 73, 74, 75, 76, 77, 78, 79, 80, 81, 82] (by decide +kernel) (by decide +kernel)
set_option maxRecDepth 20000 in
theorem gX3_go_X3_actedBy : GoodIn wsX3_go (wsV RX3 99 RX3 yX3_actedBy wsX3_actedBy) := goodIn_app (goodIn_of _ (by decide +kernel)) ggX3_go_X3_actedBy
theorem dX3_go_0 : decode cX3_go 0 = .ok (.iload_n 1, 1) := by decide +kernel
theorem dX3_go_1 : decode cX3_go 1 = .ok (.ifCond .lt 8, 3) := by decide +kernel
theorem dX3_go_4 : decode cX3_go 4 = .ok (.iload_n 1, 1) := by decide +kernel
theorem dX3_go_5 : decode cX3_go 5 = .ok (.iconst 4, 1) := by decide +kernel
theorem dX3_go_6 : decode cX3_go 6 = .ok (.if_icmp .lt 6, 3) := by decide +kernel
theorem dX3_go_9 : decode cX3_go 9 = .ok (.bipush (-2), 2) := by decide +kernel
theorem dX3_go_11 : decode cX3_go 11 = .ok (.ireturn, 1) := by decide +kernel
theorem dX3_go_12 : decode cX3_go 12 = .ok (.aload_n 0, 1) := by decide +kernel
theorem dX3_go_13 : decode cX3_go 13 = .ok (.iload_n 1, 1) := by decide +kernel
theorem dX3_go_14 : decode cX3_go 14 = .ok (.invokevirtual 99, 3) := by decide +kernel
theorem dX3_go_17 : decode cX3_go 17 = .ok (.ifCond .eq 13, 3) := by decide +kernel
theorem dX3_go_20 : decode cX3_go 20 = .ok (.aload_n 0, 1) := by decide +kernel
theorem dX3_go_21 : decode cX3_go 21 = .ok (.getfield 21, 3) := by decide +kernel
theorem dX3_go_24 : decode cX3_go 24 = .ok (.getfield 68, 3) := by decide +kernel
theorem dX3_go_27 : decode cX3_go 27 = .ok (.goto 5, 3) := by decide +kernel
theorem dX3_go_30 : decode cX3_go 30 = .ok (.bipush (-3), 2) := by decide +kernel
theorem dX3_go_32 : decode cX3_go 32 = .ok (.ireturn, 1) := by decide +kernel
set_option maxRecDepth 20000 in
theorem ggX3_rest_X3_actedBy : GoodIn wsX3_rest wsX3_actedBy := goodIn_r _ [7, 8, 1, 9, 10, 11, 12, 13, 14, 15, 16, 17, 18, 19, 20, 21, 22, 23, 24, 25, 26, 6, 27, 28, 29, 30, 31, 32, 33, 34, 35, 36, 37, 38, 39, 40, 41, 42, 43, 44, 45, 46, 47, 48, 49, 50, 51, 52, 53, 54, 55, 56, 57, 58, 59, 60, 61, 62, 63, 64, 65, 66, 67, 68, 69, 70, 71, 72, 73, 74, 75, 76, 77, 78, 79, 80, 81, 82] (by decide +kernel) (by decide +kernel)
set_option maxRecDepth 20000 in
theorem gX3_rest_X3_actedBy : GoodIn wsX3_rest (wsV RX3 99 RX3 yX3_actedBy wsX3_actedBy) := goodIn_app (goodIn_of _ (by decide +kernel)) ggX3_rest_X3_actedBy
theorem dX3_rest_0 : decode cX3_rest 0 = .ok (.aload_n 0, 1) := by decide +kernel
theorem dX3_rest_1 : decode cX3_rest 1 = .ok (.iconst 4, 1) := by decide +kernel
theorem dX3_rest_2 : decode cX3_rest 2 = .ok (.invokevirtual 99, 3) := by decide +kernel
theorem dX3_rest_5 : decode cX3_rest 5 = .ok (.ifCond .eq 13, 3) := by decide +kernel
theorem dX3_rest_8 : decode cX3_rest 8 = .ok (.aload_n 0, 1) := by decide +kernel
theorem dX3_rest_9 : decode cX3_rest 9 = .ok (.getfield 21, 3) := by decide +kernel
theorem dX3_rest_12 : decode cX3_rest 12 = .ok (.getfield 71, 3) := by decide +kernel
theorem dX3_rest_15 : decode cX3_rest 15 = .ok (.goto 5, 3) := by decide +kernel
theorem dX3_rest_18 : decode cX3_rest 18 = .ok (.bipush (-3), 2) := by decide +kernel
theorem dX3_rest_20 : decode cX3_rest 20 = .ok (.ireturn, 1) := by decide +kernel
set_option maxRecDepth 20000 in
theorem ggX3_draw_X3_isCell : GoodIn wsX3_draw wsX3_isCell := goodIn_r _ [6] (by decide +kernel) (by decide +kernel)
set_option maxRecDepth 20000 in
theorem gX3_draw_X3_isCell : GoodIn wsX3_draw (va_wsS RX3 86 yX3_isCell wsX3_isCell) := goodIn_app (goodIn_of _ (by decide +kernel)) ggX3_draw_X3_isCell
set_option maxRecDepth 20000 in
theorem ggX3_draw_X1_signOf : GoodIn wsX3_draw wsX1_signOf := goodIn_r _ [11, 12, 67, 68, 69, 70, 71, 72, 73, 74] (by decide +kernel) (by decide +kernel)
set_option maxRecDepth 20000 in
theorem gX3_draw_X1_signOf : GoodIn wsX3_draw (wsV RX3 93 RX1 yX1_signOf wsX1_signOf) := goodIn_app (goodIn_of _ (by decide +kernel)) ggX3_draw_X1_signOf
set_option maxRecDepth 20000 in
theorem ggX3_draw_X1_countSigns : GoodIn wsX3_draw wsX1_countSigns := goodIn_r _ [16, 17, 18, 19, 10, 20, 21, 8, 9, 11, 12, 22, 23, 24, 25, 26, 27, 28, 67, 68, 69, 70, 71, 72, 73, 74] (by decide +kernel) (by decide +kernel)
set_option maxRecDepth 20000 in
theorem gX3_draw_X1_countSigns : GoodIn wsX3_draw (wsV RX3 65 RX1 yX1_countSigns wsX1_countSigns) := goodIn_app (goodIn_of _ (by decide +kernel)) ggX3_draw_X1_countSigns
set_option maxRecDepth 20000 in
theorem ggX3_draw_X0_add : GoodIn wsX3_draw wsX0_add := goodIn_r _ [33, 34, 35, 36, 37, 38, 32, 39, 40, 41, 42, 43, 44, 45, 46, 10, 47, 48, 12, 49, 50, 51, 52, 53, 75, 76, 67, 68, 69, 70, 71, 72, 73, 74] (by decide +kernel) (by decide +kernel)
set_option maxRecDepth 20000 in
theorem gX3_draw_X0_add : GoodIn wsX3_draw (wsV RX3 102 RX0 yX0_add wsX0_add) := goodIn_app (goodIn_of _ (by decide +kernel)) ggX3_draw_X0_add
set_option maxRecDepth 20000 in
theorem ggX3_draw_X1_setSign : GoodIn wsX3_draw wsX1_setSign := goodIn_r _ [57, 12, 58, 59, 67, 68, 69, 70, 71, 72, 73, 74] (by decide +kernel) (by decide +kernel)
set_option maxRecDepth 20000 in
theorem gX3_draw_X1_setSign : GoodIn wsX3_draw (wsV RX3 104 RX1 yX1_setSign wsX1_setSign) := goodIn_app (goodIn_of _ (by decide +kernel)) ggX3_draw_X1_setSign
theorem dX3_draw_0 : decode cX3_draw 0 = .ok (.iload_n 1, 1) := by decide +kernel
theorem dX3_draw_1 : decode cX3_draw 1 = .ok (.invokestatic 86, 3) := by decide +kernel
theorem dX3_draw_4 : decode cX3_draw 4 = .ok (.ifCond .ne 5, 3) := by decide +kernel
theorem dX3_draw_7 : decode cX3_draw 7 = .ok (.iconst (-1), 1) := by decide +kernel
theorem dX3_draw_8 : decode cX3_draw 8 = .ok (.ireturn, 1) := by decide +kernel
theorem dX3_draw_9 : decode cX3_draw 9 = .ok (.iload_n 2, 1) := by decide +kernel
theorem dX3_draw_10 : decode cX3_draw 10 = .ok (.ifCond .le 8, 3) := by decide +kernel
theorem dX3_draw_13 : decode cX3_draw 13 = .ok (.iload_n 2, 1) := by decide +kernel
theorem dX3_draw_14 : decode cX3_draw 14 = .ok (.iconst 4, 1) := by decide +kernel
theorem dX3_draw_15 : decode cX3_draw 15 = .ok (.if_icmp .le 6, 3) := by decide +kernel
theorem dX3_draw_18 : decode cX3_draw 18 = .ok (.bipush (-2), 2) := by decide +kernel
theorem dX3_draw_20 : decode cX3_draw 20 = .ok (.ireturn, 1) := by decide +kernel
theorem dX3_draw_21 : decode cX3_draw 21 = .ok (.aload_n 0, 1) := by decide +kernel
theorem dX3_draw_22 : decode cX3_draw 22 = .ok (.getfield 21, 3) := by decide +kernel
theorem dX3_draw_25 : decode cX3_draw 25 = .ok (.iload_n 1, 1) := by decide +kernel
theorem dX3_draw_26 : decode cX3_draw 26 = .ok (.invokevirtual 93, 3) := by decide +kernel
theorem dX3_draw_29 : decode cX3_draw 29 = .ok (.ifCond .eq 6, 3) := by decide +kernel
theorem dX3_draw_32 : decode cX3_draw 32 = .ok (.bipush (-3), 2) := by decide +kernel
theorem dX3_draw_34 : decode cX3_draw 34 = .ok (.ireturn, 1) := by decide +kernel
theorem dX3_draw_35 : decode cX3_draw 35 = .ok (.aload_n 0, 1) := by decide +kernel
theorem dX3_draw_36 : decode cX3_draw 36 = .ok (.getfield 21, 3) := by decide +kernel
theorem dX3_draw_39 : decode cX3_draw 39 = .ok (.invokevirtual 65, 3) := by decide +kernel
theorem dX3_draw_42 : decode cX3_draw 42 = .ok (.bipush 8, 2) := by decide +kernel
theorem dX3_draw_44 : decode cX3_draw 44 = .ok (.if_icmp .lt 6, 3) := by decide +kernel
theorem dX3_draw_47 : decode cX3_draw 47 = .ok (.bipush (-4), 2) := by decide +kernel
theorem dX3_draw_49 : decode cX3_draw 49 = .ok (.ireturn, 1) := by decide +kernel
theorem dX3_draw_50 : decode cX3_draw 50 = .ok (.aload_n 0, 1) := by decide +kernel
theorem dX3_draw_51 : decode cX3_draw 51 = .ok (.getfield 28, 3) := by decide +kernel
theorem dX3_draw_54 : decode cX3_draw 54 = .ok (.aload_n 0, 1) := by decide +kernel
theorem dX3_draw_55 : decode cX3_draw 55 = .ok (.getfield 21, 3) := by decide +kernel
theorem dX3_draw_58 : decode cX3_draw 58 = .ok (.invokevirtual 102, 3) := by decide +kernel
theorem dX3_draw_61 : decode cX3_draw 61 = .ok (.aload_n 0, 1) := by decide +kernel
theorem dX3_draw_62 : decode cX3_draw 62 = .ok (.getfield 21, 3) := by decide +kernel
theorem dX3_draw_65 : decode cX3_draw 65 = .ok (.iload_n 1, 1) := by decide +kernel
theorem dX3_draw_66 : decode cX3_draw 66 = .ok (.iload_n 2, 1) := by decide +kernel
theorem dX3_draw_67 : decode cX3_draw 67 = .ok (.invokevirtual 104, 3) := by decide +kernel
theorem dX3_draw_70 : decode cX3_draw 70 = .ok (.aload_n 0, 1) := by decide +kernel
theorem dX3_draw_71 : decode cX3_draw 71 = .ok (.getfield 21, 3) := by decide +kernel
theorem dX3_draw_74 : decode cX3_draw 74 = .ok (.invokevirtual 65, 3) := by decide +kernel
theorem dX3_draw_77 : decode cX3_draw 77 = .ok (.ireturn, 1) := by decide +kernel
set_option maxRecDepth 20000 in
theorem ggX3_rub_X3_isCell : GoodIn wsX3_rub wsX3_isCell := goodIn_r _ [7] (by decide +kernel) (by decide +kernel)
set_option maxRecDepth 20000 in
theorem gX3_rub_X3_isCell : GoodIn wsX3_rub (va_wsS RX3 86 yX3_isCell wsX3_isCell) := goodIn_app (goodIn_of _ (by decide +kernel)) ggX3_rub_X3_isCell
set_option maxRecDepth 20000 in
theorem ggX3_rub_X1_signOf : GoodIn wsX3_rub wsX1_signOf := goodIn_r _ [12, 13, 52, 53, 54, 55, 56, 57, 58, 59] (by decide +kernel) (by decide +kernel)
set_option maxRecDepth 20000 in
theorem gX3_rub_X1_signOf : GoodIn wsX3_rub (wsV RX3 93 RX1 yX1_signOf wsX1_signOf) := goodIn_app (goodIn_of _ (by decide +kernel)) ggX3_rub_X1_signOf
set_option maxRecDepth 20000 in
theorem ggX3_rub_X0_add : GoodIn wsX3_rub wsX0_add := goodIn_r _ [18, 19, 20, 21, 22, 23, 17, 24, 25, 26, 27, 28, 29, 30, 31, 11, 32, 33, 13, 34, 35, 36, 37, 38, 60, 61, 52, 53, 54, 55, 56, 57, 58, 59] (by decide +kernel) (by decide +kernel)
set_option maxRecDepth 20000 in
theorem gX3_rub_X0_add : GoodIn wsX3_rub (wsV RX3 102 RX0 yX0_add wsX0_add) := goodIn_app (goodIn_of _ (by decide +kernel)) ggX3_rub_X0_add
set_option maxRecDepth 20000 in
theorem ggX3_rub_X1_setSign : GoodIn wsX3_rub wsX1_setSign := goodIn_r _ [42, 13, 43, 44, 52, 53, 54, 55, 56, 57, 58, 59] (by decide +kernel) (by decide +kernel)
set_option maxRecDepth 20000 in
theorem gX3_rub_X1_setSign : GoodIn wsX3_rub (wsV RX3 104 RX1 yX1_setSign wsX1_setSign) := goodIn_app (goodIn_of _ (by decide +kernel)) ggX3_rub_X1_setSign
theorem dX3_rub_0 : decode cX3_rub 0 = .ok (.iload_n 1, 1) := by decide +kernel
theorem dX3_rub_1 : decode cX3_rub 1 = .ok (.invokestatic 86, 3) := by decide +kernel
theorem dX3_rub_4 : decode cX3_rub 4 = .ok (.ifCond .ne 5, 3) := by decide +kernel
theorem dX3_rub_7 : decode cX3_rub 7 = .ok (.iconst (-1), 1) := by decide +kernel
theorem dX3_rub_8 : decode cX3_rub 8 = .ok (.ireturn, 1) := by decide +kernel
theorem dX3_rub_9 : decode cX3_rub 9 = .ok (.aload_n 0, 1) := by decide +kernel
theorem dX3_rub_10 : decode cX3_rub 10 = .ok (.getfield 21, 3) := by decide +kernel
theorem dX3_rub_13 : decode cX3_rub 13 = .ok (.iload_n 1, 1) := by decide +kernel
theorem dX3_rub_14 : decode cX3_rub 14 = .ok (.invokevirtual 93, 3) := by decide +kernel
theorem dX3_rub_17 : decode cX3_rub 17 = .ok (.istore_n 2, 1) := by decide +kernel
theorem dX3_rub_18 : decode cX3_rub 18 = .ok (.iload_n 2, 1) := by decide +kernel
theorem dX3_rub_19 : decode cX3_rub 19 = .ok (.ifCond .eq 14, 3) := by decide +kernel
theorem dX3_rub_22 : decode cX3_rub 22 = .ok (.iload_n 1, 1) := by decide +kernel
theorem dX3_rub_23 : decode cX3_rub 23 = .ok (.aload_n 0, 1) := by decide +kernel
theorem dX3_rub_24 : decode cX3_rub 24 = .ok (.getfield 21, 3) := by decide +kernel
theorem dX3_rub_27 : decode cX3_rub 27 = .ok (.getfield 68, 3) := by decide +kernel
theorem dX3_rub_30 : decode cX3_rub 30 = .ok (.if_icmp .ne 6, 3) := by decide +kernel
theorem dX3_rub_33 : decode cX3_rub 33 = .ok (.bipush (-3), 2) := by decide +kernel
theorem dX3_rub_35 : decode cX3_rub 35 = .ok (.ireturn, 1) := by decide +kernel
theorem dX3_rub_36 : decode cX3_rub 36 = .ok (.aload_n 0, 1) := by decide +kernel
theorem dX3_rub_37 : decode cX3_rub 37 = .ok (.getfield 28, 3) := by decide +kernel
theorem dX3_rub_40 : decode cX3_rub 40 = .ok (.aload_n 0, 1) := by decide +kernel
theorem dX3_rub_41 : decode cX3_rub 41 = .ok (.getfield 21, 3) := by decide +kernel
theorem dX3_rub_44 : decode cX3_rub 44 = .ok (.invokevirtual 102, 3) := by decide +kernel
theorem dX3_rub_47 : decode cX3_rub 47 = .ok (.aload_n 0, 1) := by decide +kernel
theorem dX3_rub_48 : decode cX3_rub 48 = .ok (.getfield 21, 3) := by decide +kernel
theorem dX3_rub_51 : decode cX3_rub 51 = .ok (.iload_n 1, 1) := by decide +kernel
theorem dX3_rub_52 : decode cX3_rub 52 = .ok (.iconst 0, 1) := by decide +kernel
theorem dX3_rub_53 : decode cX3_rub 53 = .ok (.invokevirtual 104, 3) := by decide +kernel
theorem dX3_rub_56 : decode cX3_rub 56 = .ok (.iload_n 2, 1) := by decide +kernel
theorem dX3_rub_57 : decode cX3_rub 57 = .ok (.ireturn, 1) := by decide +kernel
set_option maxRecDepth 20000 in
theorem ggX3_undo_X0_takeBack : GoodIn wsX3_undo wsX0_takeBack := goodIn_r _ [8, 9, 10, 11, 12, 7, 13, 14, 15, 16, 17, 18, 19, 20, 21, 22, 23, 24, 25, 26, 34, 35, 36, 37, 38, 39, 40, 41, 42, 43] (by decide +kernel) (by decide +kernel)
set_option maxRecDepth 20000 in
theorem gX3_undo_X0_takeBack : GoodIn wsX3_undo (wsV RX3 108 RX0 yX0_takeBack wsX0_takeBack) := goodIn_app (goodIn_of _ (by decide +kernel)) ggX3_undo_X0_takeBack
theorem dX3_undo_0 : decode cX3_undo 0 = .ok (.aload_n 0, 1) := by decide +kernel
theorem dX3_undo_1 : decode cX3_undo 1 = .ok (.getfield 28, 3) := by decide +kernel
theorem dX3_undo_4 : decode cX3_undo 4 = .ok (.aload_n 0, 1) := by decide +kernel
theorem dX3_undo_5 : decode cX3_undo 5 = .ok (.getfield 21, 3) := by decide +kernel
theorem dX3_undo_8 : decode cX3_undo 8 = .ok (.invokevirtual 108, 3) := by decide +kernel
theorem dX3_undo_11 : decode cX3_undo 11 = .ok (.ifCond .eq 13, 3) := by decide +kernel
theorem dX3_undo_14 : decode cX3_undo 14 = .ok (.aload_n 0, 1) := by decide +kernel
theorem dX3_undo_15 : decode cX3_undo 15 = .ok (.getfield 28, 3) := by decide +kernel
theorem dX3_undo_18 : decode cX3_undo 18 = .ok (.getfield 59, 3) := by decide +kernel
theorem dX3_undo_21 : decode cX3_undo 21 = .ok (.goto 5, 3) := by decide +kernel
theorem dX3_undo_24 : decode cX3_undo 24 = .ok (.bipush (-3), 2) := by decide +kernel
theorem dX3_undo_26 : decode cX3_undo 26 = .ok (.ireturn, 1) := by decide +kernel
set_option maxRecDepth 20000 in
theorem ggX3_actedBy_X1_become : GoodIn wsX3_actedBy wsX1_become := goodIn_r _ [8, 9, 10, 11, 12, 13, 14, 15, 68, 69, 70, 71, 72, 73, 74, 75] (by decide +kernel) (by decide +kernel)
set_option maxRecDepth 20000 in
theorem gX3_actedBy_X1_become : GoodIn wsX3_actedBy (wsV RX3 112 RX1 yX1_become wsX1_become) := goodIn_app (goodIn_of _ (by decide +kernel)) ggX3_actedBy_X1_become
set_option maxRecDepth 20000 in
theorem ggX3_actedBy_X1_live : GoodIn wsX3_actedBy wsX1_live := goodIn_r _ [19, 12, 11, 15, 20, 21, 22, 23, 24, 25, 7, 26, 27, 28, 29, 30, 10, 31, 32, 33, 34, 9, 35, 36, 37, 38, 13, 14, 39, 40, 41, 42, 43, 44, 68, 69, 70, 71, 72, 73, 74, 75] (by decide +kernel) (by decide +kernel)
set_option maxRecDepth 20000 in
theorem gX3_actedBy_X1_live : GoodIn wsX3_actedBy (wsV RX3 115 RX1 yX1_live wsX1_live) := goodIn_app (goodIn_of _ (by decide +kernel)) ggX3_actedBy_X1_live
set_option maxRecDepth 20000 in
theorem ggX3_actedBy_X0_add : GoodIn wsX3_actedBy wsX0_add := goodIn_r _ [49, 50, 51, 52, 53, 54, 48, 55, 56, 57, 58, 59, 60, 5, 6, 7, 8, 9, 10, 11, 12, 13, 14, 15, 76, 77, 68, 69, 70, 71, 72, 73, 74, 75] (by decide +kernel) (by decide +kernel)
set_option maxRecDepth 20000 in
theorem gX3_actedBy_X0_add : GoodIn wsX3_actedBy (wsV RX3 102 RX0 yX0_add wsX0_add) := goodIn_app (goodIn_of _ (by decide +kernel)) ggX3_actedBy_X0_add
theorem dX3_actedBy_0 : decode cX3_actedBy 0 = .ok (.aload_n 0, 1) := by decide +kernel
theorem dX3_actedBy_1 : decode cX3_actedBy 1 = .ok (.getfield 40, 3) := by decide +kernel
theorem dX3_actedBy_4 : decode cX3_actedBy 4 = .ok (.aload_n 0, 1) := by decide +kernel
theorem dX3_actedBy_5 : decode cX3_actedBy 5 = .ok (.getfield 21, 3) := by decide +kernel
theorem dX3_actedBy_8 : decode cX3_actedBy 8 = .ok (.invokevirtual 112, 3) := by decide +kernel
theorem dX3_actedBy_11 : decode cX3_actedBy 11 = .ok (.aload_n 0, 1) := by decide +kernel
theorem dX3_actedBy_12 : decode cX3_actedBy 12 = .ok (.getfield 21, 3) := by decide +kernel
theorem dX3_actedBy_15 : decode cX3_actedBy 15 = .ok (.iload_n 1, 1) := by decide +kernel
theorem dX3_actedBy_16 : decode cX3_actedBy 16 = .ok (.invokevirtual 115, 3) := by decide +kernel
theorem dX3_actedBy_19 : decode cX3_actedBy 19 = .ok (.ifCond .ne 5, 3) := by decide +kernel
theorem dX3_actedBy_22 : decode cX3_actedBy 22 = .ok (.iconst 0, 1) := by decide +kernel
theorem dX3_actedBy_23 : decode cX3_actedBy 23 = .ok (.ireturn, 1) := by decide +kernel
theorem dX3_actedBy_24 : decode cX3_actedBy 24 = .ok (.aload_n 0, 1) := by decide +kernel
theorem dX3_actedBy_25 : decode cX3_actedBy 25 = .ok (.getfield 28, 3) := by decide +kernel
theorem dX3_actedBy_28 : decode cX3_actedBy 28 = .ok (.aload_n 0, 1) := by decide +kernel
theorem dX3_actedBy_29 : decode cX3_actedBy 29 = .ok (.getfield 40, 3) := by decide +kernel
theorem dX3_actedBy_32 : decode cX3_actedBy 32 = .ok (.invokevirtual 102, 3) := by decide +kernel
theorem dX3_actedBy_35 : decode cX3_actedBy 35 = .ok (.iconst 1, 1) := by decide +kernel
theorem dX3_actedBy_36 : decode cX3_actedBy 36 = .ok (.ireturn, 1) := by decide +kernel
set_option maxRecDepth 20000 in
theorem ggX3_road_X3_isCell : GoodIn wsX3_road wsX3_isCell := goodIn_r _ [6] (by decide +kernel) (by decide +kernel)
set_option maxRecDepth 20000 in
theorem gX3_road_X3_isCell : GoodIn wsX3_road (va_wsS RX3 86 yX3_isCell wsX3_isCell) := goodIn_app (goodIn_of _ (by decide +kernel)) ggX3_road_X3_isCell
set_option maxRecDepth 20000 in
theorem ggX3_road_X1_openCells : GoodIn wsX3_road wsX1_openCells := goodIn_r _ [11, 12, 13, 14, 10, 15, 16, 17, 18, 19, 20, 21, 22, 23, 24, 25, 48, 49, 50, 51, 52, 53, 54, 55] (by decide +kernel) (by decide +kernel)
set_option maxRecDepth 20000 in
theorem gX3_road_X1_openCells : GoodIn wsX3_road (wsV RX3 118 RX1 yX1_openCells wsX1_openCells) := goodIn_app (goodIn_of _ (by decide +kernel)) ggX3_road_X1_openCells
set_option maxRecDepth 20000 in
theorem ggX3_road_X3_stepsBetween : GoodIn wsX3_road wsX3_stepsBetween := goodIn_r _ [28, 29, 30, 5, 31, 32, 33, 34, 35, 36, 37] (by decide +kernel) (by decide +kernel)
set_option maxRecDepth 20000 in
theorem gX3_road_X3_stepsBetween : GoodIn wsX3_road (va_wsS RX3 122 yX3_stepsBetween wsX3_stepsBetween) := goodIn_app (goodIn_of _ (by decide +kernel)) ggX3_road_X3_stepsBetween
set_option maxRecDepth 20000 in
theorem ggX3_road_X3_firstRoad : GoodIn wsX3_road wsX3_firstRoad := goodIn_r _ [40, 35, 36, 5, 37, 29, 30, 31, 26, 27, 28, 32, 33, 34] (by decide +kernel) (by decide +kernel)
set_option maxRecDepth 20000 in
theorem gX3_road_X3_firstRoad : GoodIn wsX3_road (va_wsS RX3 126 yX3_firstRoad wsX3_firstRoad) := goodIn_app (goodIn_of _ (by decide +kernel)) ggX3_road_X3_firstRoad
theorem dX3_road_0 : decode cX3_road 0 = .ok (.iload_n 1, 1) := by decide +kernel
theorem dX3_road_1 : decode cX3_road 1 = .ok (.invokestatic 86, 3) := by decide +kernel
theorem dX3_road_4 : decode cX3_road 4 = .ok (.ifCond .ne 5, 3) := by decide +kernel
theorem dX3_road_7 : decode cX3_road 7 = .ok (.iconst (-1), 1) := by decide +kernel
theorem dX3_road_8 : decode cX3_road 8 = .ok (.ireturn, 1) := by decide +kernel
theorem dX3_road_9 : decode cX3_road 9 = .ok (.aload_n 0, 1) := by decide +kernel
theorem dX3_road_10 : decode cX3_road 10 = .ok (.getfield 21, 3) := by decide +kernel
theorem dX3_road_13 : decode cX3_road 13 = .ok (.iload_n 2, 1) := by decide +kernel
theorem dX3_road_14 : decode cX3_road 14 = .ok (.invokevirtual 118, 3) := by decide +kernel
theorem dX3_road_17 : decode cX3_road 17 = .ok (.istore 4, 2) := by decide +kernel
theorem dX3_road_19 : decode cX3_road 19 = .ok (.aload_n 0, 1) := by decide +kernel
theorem dX3_road_20 : decode cX3_road 20 = .ok (.getfield 21, 3) := by decide +kernel
theorem dX3_road_23 : decode cX3_road 23 = .ok (.getfield 68, 3) := by decide +kernel
theorem dX3_road_26 : decode cX3_road 26 = .ok (.iload_n 1, 1) := by decide +kernel
theorem dX3_road_27 : decode cX3_road 27 = .ok (.iload 4, 2) := by decide +kernel
theorem dX3_road_29 : decode cX3_road 29 = .ok (.invokestatic 122, 3) := by decide +kernel
theorem dX3_road_32 : decode cX3_road 32 = .ok (.istore 5, 2) := by decide +kernel
theorem dX3_road_34 : decode cX3_road 34 = .ok (.iload_n 3, 1) := by decide +kernel
theorem dX3_road_35 : decode cX3_road 35 = .ok (.ifCond .eq 10, 3) := by decide +kernel
theorem dX3_road_38 : decode cX3_road 38 = .ok (.iload 5, 2) := by decide +kernel
theorem dX3_road_40 : decode cX3_road 40 = .ok (.bipush (-9), 2) := by decide +kernel
theorem dX3_road_42 : decode cX3_road 42 = .ok (.if_icmp .ne 6, 3) := by decide +kernel
theorem dX3_road_45 : decode cX3_road 45 = .ok (.iload 5, 2) := by decide +kernel
theorem dX3_road_47 : decode cX3_road 47 = .ok (.ireturn, 1) := by decide +kernel
theorem dX3_road_48 : decode cX3_road 48 = .ok (.iload 5, 2) := by decide +kernel
theorem dX3_road_50 : decode cX3_road 50 = .ok (.bipush 8, 2) := by decide +kernel
theorem dX3_road_52 : decode cX3_road 52 = .ok (.if_icmp .le 8, 3) := by decide +kernel
theorem dX3_road_55 : decode cX3_road 55 = .ok (.bipush (-9), 2) := by decide +kernel
theorem dX3_road_57 : decode cX3_road 57 = .ok (.goto 18, 3) := by decide +kernel
theorem dX3_road_60 : decode cX3_road 60 = .ok (.aload_n 0, 1) := by decide +kernel
theorem dX3_road_61 : decode cX3_road 61 = .ok (.getfield 21, 3) := by decide +kernel
theorem dX3_road_64 : decode cX3_road 64 = .ok (.getfield 68, 3) := by decide +kernel
theorem dX3_road_67 : decode cX3_road 67 = .ok (.iload_n 1, 1) := by decide +kernel
theorem dX3_road_68 : decode cX3_road 68 = .ok (.iload 4, 2) := by decide +kernel
theorem dX3_road_70 : decode cX3_road 70 = .ok (.iload 5, 2) := by decide +kernel
theorem dX3_road_72 : decode cX3_road 72 = .ok (.invokestatic 126, 3) := by decide +kernel
theorem dX3_road_75 : decode cX3_road 75 = .ok (.ireturn, 1) := by decide +kernel
set_option maxRecDepth 20000 in
theorem ggX3_most_X1_become : GoodIn wsX3_most wsX1_become := goodIn_r _ [7, 8, 9, 10, 11, 12, 13, 14, 64, 65, 66, 67, 68, 69, 70, 71] (by decide +kernel) (by decide +kernel)
set_option maxRecDepth 20000 in
theorem gX3_most_X1_become : GoodIn wsX3_most (wsV RX3 112 RX1 yX1_become wsX1_become) := goodIn_app (goodIn_of _ (by decide +kernel)) ggX3_most_X1_become
set_option maxRecDepth 20000 in
theorem ggX3_most_X3_mostFood : GoodIn wsX3_most wsX3_mostFood := goodIn_r _ [18, 19, 20, 21, 22, 23, 24, 3, 4, 5, 6, 7, 8, 9, 10, 11, 12, 13, 14, 25, 26, 27, 28, 29, 17, 30, 31, 32, 33, 34, 35, 36, 37, 38, 39, 40, 41, 42, 43, 44, 45, 46, 47, 48, 49, 50, 51, 52, 15, 16, 64, 65, 66, 67, 68, 69, 70, 71] (by decide +kernel) (by decide +kernel)
set_option maxRecDepth 20000 in
theorem gX3_most_X3_mostFood : GoodIn wsX3_most (va_wsS RX3 130 yX3_mostFood wsX3_mostFood) := goodIn_app (goodIn_of _ (by decide +kernel)) ggX3_most_X3_mostFood
set_option maxRecDepth 20000 in
theorem ggX3_most_X3_firstRowTo : GoodIn wsX3_most wsX3_firstRowTo := goodIn_r _ [56, 1, 20, 3, 4, 5, 6, 7, 8, 9, 10, 11, 12, 13, 14, 25, 26, 27, 28, 29, 17, 30, 31, 32, 33, 34, 35, 36, 37, 38, 39, 40, 41, 42, 43, 44, 45, 46, 47, 48, 49, 50, 51, 52, 15, 16, 18, 19, 21, 22, 23, 24, 57, 58, 59, 60, 61, 62, 63, 64, 65, 66, 67, 68, 69, 70, 71] (by decide +kernel) (by decide +kernel)
set_option maxRecDepth 20000 in
theorem gX3_most_X3_firstRowTo : GoodIn wsX3_most (wsV RX3 134 RX3 yX3_firstRowTo wsX3_firstRowTo) := goodIn_app (goodIn_of _ (by decide +kernel)) ggX3_most_X3_firstRowTo
theorem dX3_most_0 : decode cX3_most 0 = .ok (.iload_n 1, 1) := by decide +kernel
theorem dX3_most_1 : decode cX3_most 1 = .ok (.iconst 1, 1) := by decide +kernel
theorem dX3_most_2 : decode cX3_most 2 = .ok (.if_icmp .lt 8, 3) := by decide +kernel
theorem dX3_most_5 : decode cX3_most 5 = .ok (.iload_n 1, 1) := by decide +kernel
theorem dX3_most_6 : decode cX3_most 6 = .ok (.iconst 5, 1) := by decide +kernel
theorem dX3_most_7 : decode cX3_most 7 = .ok (.if_icmp .le 6, 3) := by decide +kernel
theorem dX3_most_10 : decode cX3_most 10 = .ok (.bipush (-2), 2) := by decide +kernel
theorem dX3_most_12 : decode cX3_most 12 = .ok (.ireturn, 1) := by decide +kernel
theorem dX3_most_13 : decode cX3_most 13 = .ok (.aload_n 0, 1) := by decide +kernel
theorem dX3_most_14 : decode cX3_most 14 = .ok (.getfield 40, 3) := by decide +kernel
theorem dX3_most_17 : decode cX3_most 17 = .ok (.aload_n 0, 1) := by decide +kernel
theorem dX3_most_18 : decode cX3_most 18 = .ok (.getfield 21, 3) := by decide +kernel
theorem dX3_most_21 : decode cX3_most 21 = .ok (.invokevirtual 112, 3) := by decide +kernel
theorem dX3_most_24 : decode cX3_most 24 = .ok (.aload_n 0, 1) := by decide +kernel
theorem dX3_most_25 : decode cX3_most 25 = .ok (.getfield 40, 3) := by decide +kernel
theorem dX3_most_28 : decode cX3_most 28 = .ok (.iload_n 1, 1) := by decide +kernel
theorem dX3_most_29 : decode cX3_most 29 = .ok (.invokestatic 130, 3) := by decide +kernel
theorem dX3_most_32 : decode cX3_most 32 = .ok (.istore_n 3, 1) := by decide +kernel
theorem dX3_most_33 : decode cX3_most 33 = .ok (.iload_n 2, 1) := by decide +kernel
theorem dX3_most_34 : decode cX3_most 34 = .ok (.ifCond .eq 18, 3) := by decide +kernel
theorem dX3_most_37 : decode cX3_most 37 = .ok (.iload_n 3, 1) := by decide +kernel
theorem dX3_most_38 : decode cX3_most 38 = .ok (.bipush (-9), 2) := by decide +kernel
theorem dX3_most_40 : decode cX3_most 40 = .ok (.if_icmp .eq 12, 3) := by decide +kernel
theorem dX3_most_43 : decode cX3_most 43 = .ok (.aload_n 0, 1) := by decide +kernel
theorem dX3_most_44 : decode cX3_most 44 = .ok (.iload_n 3, 1) := by decide +kernel
theorem dX3_most_45 : decode cX3_most 45 = .ok (.iload_n 1, 1) := by decide +kernel
theorem dX3_most_46 : decode cX3_most 46 = .ok (.invokevirtual 134, 3) := by decide +kernel
theorem dX3_most_49 : decode cX3_most 49 = .ok (.goto 4, 3) := by decide +kernel
theorem dX3_most_52 : decode cX3_most 52 = .ok (.iload_n 3, 1) := by decide +kernel
theorem dX3_most_53 : decode cX3_most 53 = .ok (.ireturn, 1) := by decide +kernel
set_option maxRecDepth 20000 in
theorem ggX3_mends_X1_errors : GoodIn wsX3_mends wsX1_errors := goodIn_r _ [7, 8, 9, 10, 6, 11, 12, 13, 14, 15, 16, 17, 18, 19, 20, 21, 81, 82, 83, 84, 85, 86, 87, 88] (by decide +kernel) (by decide +kernel)
set_option maxRecDepth 20000 in
theorem gX3_mends_X1_errors : GoodIn wsX3_mends (wsV RX3 83 RX1 yX1_errors wsX1_errors) := goodIn_app (goodIn_of _ (by decide +kernel)) ggX3_mends_X1_errors
set_option maxRecDepth 20000 in
theorem ggX3_mends_X3_bestTrueSign : GoodIn wsX3_mends wsX3_bestTrueSign := goodIn_r _ [26, 27, 1, 28, 29, 25, 30, 31, 32, 33, 6, 34, 21, 16, 35, 36, 37, 38, 39, 40, 18, 19, 20, 41, 42, 43, 44, 45, 46, 47, 48, 49, 50, 51, 52, 53, 54, 55, 56, 57, 58, 59, 60, 61, 62, 63, 64, 65, 12, 13, 14, 15, 17, 66, 67, 68, 69, 70, 71, 72, 73, 74, 75, 76, 77, 78, 79, 80, 81, 82, 83, 84, 85, 86, 87, 88] (by decide +kernel) (by decide +kernel)
set_option maxRecDepth 20000 in
theorem gX3_mends_X3_bestTrueSign : GoodIn wsX3_mends (wsV RX3 138 RX3 yX3_bestTrueSign wsX3_bestTrueSign) := goodIn_app (goodIn_of _ (by decide +kernel)) ggX3_mends_X3_bestTrueSign
theorem dX3_mends_0 : decode cX3_mends 0 = .ok (.iload_n 1, 1) := by decide +kernel
theorem dX3_mends_1 : decode cX3_mends 1 = .ok (.iconst 1, 1) := by decide +kernel
theorem dX3_mends_2 : decode cX3_mends 2 = .ok (.if_icmp .lt 8, 3) := by decide +kernel
theorem dX3_mends_5 : decode cX3_mends 5 = .ok (.iload_n 1, 1) := by decide +kernel
theorem dX3_mends_6 : decode cX3_mends 6 = .ok (.iconst 4, 1) := by decide +kernel
theorem dX3_mends_7 : decode cX3_mends 7 = .ok (.if_icmp .le 6, 3) := by decide +kernel
theorem dX3_mends_10 : decode cX3_mends 10 = .ok (.bipush (-2), 2) := by decide +kernel
theorem dX3_mends_12 : decode cX3_mends 12 = .ok (.ireturn, 1) := by decide +kernel
theorem dX3_mends_13 : decode cX3_mends 13 = .ok (.aload_n 0, 1) := by decide +kernel
theorem dX3_mends_14 : decode cX3_mends 14 = .ok (.aload_n 0, 1) := by decide +kernel
theorem dX3_mends_15 : decode cX3_mends 15 = .ok (.getfield 21, 3) := by decide +kernel
theorem dX3_mends_18 : decode cX3_mends 18 = .ok (.invokevirtual 83, 3) := by decide +kernel
theorem dX3_mends_21 : decode cX3_mends 21 = .ok (.iconst 1, 1) := by decide +kernel
theorem dX3_mends_22 : decode cX3_mends 22 = .ok (.aload_n 0, 1) := by decide +kernel
theorem dX3_mends_23 : decode cX3_mends 23 = .ok (.getfield 21, 3) := by decide +kernel
theorem dX3_mends_26 : decode cX3_mends 26 = .ok (.getfield 68, 3) := by decide +kernel
theorem dX3_mends_29 : decode cX3_mends 29 = .ok (.ishl, 1) := by decide +kernel
theorem dX3_mends_30 : decode cX3_mends 30 = .ok (.iconst (-1), 1) := by decide +kernel
theorem dX3_mends_31 : decode cX3_mends 31 = .ok (.ixor, 1) := by decide +kernel
theorem dX3_mends_32 : decode cX3_mends 32 = .ok (.iand, 1) := by decide +kernel
theorem dX3_mends_33 : decode cX3_mends 33 = .ok (.iload_n 1, 1) := by decide +kernel
theorem dX3_mends_34 : decode cX3_mends 34 = .ok (.invokevirtual 138, 3) := by decide +kernel
theorem dX3_mends_37 : decode cX3_mends 37 = .ok (.ireturn, 1) := by decide +kernel
set_option maxRecDepth 20000 in
theorem ggX3_draws_X1_countSigns : GoodIn wsX3_draws wsX1_countSigns := goodIn_r _ [6, 7, 8, 9, 5, 10, 11, 12, 13, 14, 15, 16, 17, 18, 19, 20, 21, 22, 91, 92, 93, 94, 95, 96, 97, 98] (by decide +kernel) (by decide +kernel)
