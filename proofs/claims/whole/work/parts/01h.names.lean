theorem dX4_many_14 : decode cX4_many 14 = .ok (.iconst 1, 1) := by decide +kernel
theorem dX4_many_15 : decode cX4_many 15 = .ok (.iand, 1) := by decide +kernel
theorem dX4_many_16 : decode cX4_many 16 = .ok (.iadd, 1) := by decide +kernel
theorem dX4_many_17 : decode cX4_many 17 = .ok (.istore_n 1, 1) := by decide +kernel
theorem dX4_many_18 : decode cX4_many 18 = .ok (.iinc 2 1, 3) := by decide +kernel
theorem dX4_many_21 : decode cX4_many 21 = .ok (.goto (-17), 3) := by decide +kernel
theorem dX4_many_24 : decode cX4_many 24 = .ok (.iload_n 1, 1) := by decide +kernel
theorem dX4_many_25 : decode cX4_many 25 = .ok (.ireturn, 1) := by decide +kernel
set_option maxRecDepth 20000 in
theorem ggX4_noCell_X4_in : GoodIn wsX4_noCell wsX4_in := goodIn_r _ [5] (by decide +kernel) (by decide +kernel)
set_option maxRecDepth 20000 in
theorem gX4_noCell_X4_in : GoodIn wsX4_noCell (va_wsS RX4 56 yX4_in wsX4_in) := goodIn_app (goodIn_of _ (by decide +kernel)) ggX4_noCell_X4_in
theorem dX4_noCell_0 : decode cX4_noCell 0 = .ok (.iload_n 0, 1) := by decide +kernel
theorem dX4_noCell_1 : decode cX4_noCell 1 = .ok (.i2l, 1) := by decide +kernel
theorem dX4_noCell_2 : decode cX4_noCell 2 = .ok (.lconst 0, 1) := by decide +kernel
theorem dX4_noCell_3 : decode cX4_noCell 3 = .ok (.ldc2_w 54, 3) := by decide +kernel
theorem dX4_noCell_6 : decode cX4_noCell 6 = .ok (.invokestatic 56, 3) := by decide +kernel
theorem dX4_noCell_9 : decode cX4_noCell 9 = .ok (.ifCond .ne 7, 3) := by decide +kernel
theorem dX4_noCell_12 : decode cX4_noCell 12 = .ok (.iconst 1, 1) := by decide +kernel
theorem dX4_noCell_13 : decode cX4_noCell 13 = .ok (.goto 4, 3) := by decide +kernel
theorem dX4_noCell_16 : decode cX4_noCell 16 = .ok (.iconst 0, 1) := by decide +kernel
theorem dX4_noCell_17 : decode cX4_noCell 17 = .ok (.ireturn, 1) := by decide +kernel
theorem dX4_signsOf_0 : decode cX4_signsOf 0 = .ok (.iconst 0, 1) := by decide +kernel
theorem dX4_signsOf_1 : decode cX4_signsOf 1 = .ok (.istore_n 1, 1) := by decide +kernel
theorem dX4_signsOf_2 : decode cX4_signsOf 2 = .ok (.iconst 0, 1) := by decide +kernel
theorem dX4_signsOf_3 : decode cX4_signsOf 3 = .ok (.istore_n 2, 1) := by decide +kernel
theorem dX4_signsOf_4 : decode cX4_signsOf 4 = .ok (.iload_n 2, 1) := by decide +kernel
theorem dX4_signsOf_5 : decode cX4_signsOf 5 = .ok (.bipush 12, 2) := by decide +kernel
theorem dX4_signsOf_7 : decode cX4_signsOf 7 = .ok (.if_icmp .ge 25, 3) := by decide +kernel
theorem dX4_signsOf_10 : decode cX4_signsOf 10 = .ok (.iload_n 1, 1) := by decide +kernel
theorem dX4_signsOf_11 : decode cX4_signsOf 11 = .ok (.aload_n 0, 1) := by decide +kernel
theorem dX4_signsOf_12 : decode cX4_signsOf 12 = .ok (.iconst 0, 1) := by decide +kernel
theorem dX4_signsOf_13 : decode cX4_signsOf 13 = .ok (.iload_n 2, 1) := by decide +kernel
theorem dX4_signsOf_14 : decode cX4_signsOf 14 = .ok (.iadd, 1) := by decide +kernel
theorem dX4_signsOf_15 : decode cX4_signsOf 15 = .ok (.iaload, 1) := by decide +kernel
theorem dX4_signsOf_16 : decode cX4_signsOf 16 = .ok (.ifCond .le 7, 3) := by decide +kernel
theorem dX4_signsOf_19 : decode cX4_signsOf 19 = .ok (.iconst 1, 1) := by decide +kernel
theorem dX4_signsOf_20 : decode cX4_signsOf 20 = .ok (.goto 4, 3) := by decide +kernel
theorem dX4_signsOf_23 : decode cX4_signsOf 23 = .ok (.iconst 0, 1) := by decide +kernel
theorem dX4_signsOf_24 : decode cX4_signsOf 24 = .ok (.iadd, 1) := by decide +kernel
theorem dX4_signsOf_25 : decode cX4_signsOf 25 = .ok (.istore_n 1, 1) := by decide +kernel
theorem dX4_signsOf_26 : decode cX4_signsOf 26 = .ok (.iinc 2 1, 3) := by decide +kernel
theorem dX4_signsOf_29 : decode cX4_signsOf 29 = .ok (.goto (-25), 3) := by decide +kernel
theorem dX4_signsOf_32 : decode cX4_signsOf 32 = .ok (.iload_n 1, 1) := by decide +kernel
theorem dX4_signsOf_33 : decode cX4_signsOf 33 = .ok (.ireturn, 1) := by decide +kernel
set_option maxRecDepth 20000 in
theorem ggX4_write_X4_in : GoodIn wsX4_write wsX4_in := goodIn_r _ [8] (by decide +kernel) (by decide +kernel)
set_option maxRecDepth 20000 in
theorem gX4_write_X4_in : GoodIn wsX4_write (va_wsS RX4 56 yX4_in wsX4_in) := goodIn_app (goodIn_of _ (by decide +kernel)) ggX4_write_X4_in
theorem dX4_write_0 : decode cX4_write 0 = .ok (.aload_n 0, 1) := by decide +kernel
theorem dX4_write_1 : decode cX4_write 1 = .ok (.iconst 0, 1) := by decide +kernel
theorem dX4_write_2 : decode cX4_write 2 = .ok (.putfield 50, 3) := by decide +kernel
theorem dX4_write_5 : decode cX4_write 5 = .ok (.iload_n 1, 1) := by decide +kernel
theorem dX4_write_6 : decode cX4_write 6 = .ok (.i2l, 1) := by decide +kernel
theorem dX4_write_7 : decode cX4_write 7 = .ok (.lconst 0, 1) := by decide +kernel
theorem dX4_write_8 : decode cX4_write 8 = .ok (.ldc2_w 60, 3) := by decide +kernel
theorem dX4_write_11 : decode cX4_write 11 = .ok (.invokestatic 56, 3) := by decide +kernel
theorem dX4_write_14 : decode cX4_write 14 = .ok (.ifCond .ne 6, 3) := by decide +kernel
theorem dX4_write_17 : decode cX4_write 17 = .ok (.bipush (-2), 2) := by decide +kernel
theorem dX4_write_19 : decode cX4_write 19 = .ok (.ireturn, 1) := by decide +kernel
theorem dX4_write_20 : decode cX4_write 20 = .ok (.aload_n 0, 1) := by decide +kernel
theorem dX4_write_21 : decode cX4_write 21 = .ok (.getfield 62, 3) := by decide +kernel
theorem dX4_write_24 : decode cX4_write 24 = .ok (.bipush 40, 2) := by decide +kernel
theorem dX4_write_26 : decode cX4_write 26 = .ok (.if_icmp .ne 6, 3) := by decide +kernel
theorem dX4_write_29 : decode cX4_write 29 = .ok (.bipush (-4), 2) := by decide +kernel
theorem dX4_write_31 : decode cX4_write 31 = .ok (.ireturn, 1) := by decide +kernel
theorem dX4_write_32 : decode cX4_write 32 = .ok (.aload_n 0, 1) := by decide +kernel
theorem dX4_write_33 : decode cX4_write 33 = .ok (.getfield 7, 3) := by decide +kernel
theorem dX4_write_36 : decode cX4_write 36 = .ok (.aload_n 0, 1) := by decide +kernel
theorem dX4_write_37 : decode cX4_write 37 = .ok (.getfield 62, 3) := by decide +kernel
theorem dX4_write_40 : decode cX4_write 40 = .ok (.iload_n 1, 1) := by decide +kernel
theorem dX4_write_41 : decode cX4_write 41 = .ok (.iastore, 1) := by decide +kernel
theorem dX4_write_42 : decode cX4_write 42 = .ok (.aload_n 0, 1) := by decide +kernel
theorem dX4_write_43 : decode cX4_write 43 = .ok (.dup, 1) := by decide +kernel
theorem dX4_write_44 : decode cX4_write 44 = .ok (.getfield 62, 3) := by decide +kernel
theorem dX4_write_47 : decode cX4_write 47 = .ok (.iconst 1, 1) := by decide +kernel
theorem dX4_write_48 : decode cX4_write 48 = .ok (.iadd, 1) := by decide +kernel
theorem dX4_write_49 : decode cX4_write 49 = .ok (.putfield 62, 3) := by decide +kernel
theorem dX4_write_52 : decode cX4_write 52 = .ok (.aload_n 0, 1) := by decide +kernel
theorem dX4_write_53 : decode cX4_write 53 = .ok (.getfield 62, 3) := by decide +kernel
theorem dX4_write_56 : decode cX4_write 56 = .ok (.ireturn, 1) := by decide +kernel
theorem dX4_wipe_0 : decode cX4_wipe 0 = .ok (.aload_n 0, 1) := by decide +kernel
theorem dX4_wipe_1 : decode cX4_wipe 1 = .ok (.iconst 0, 1) := by decide +kernel
theorem dX4_wipe_2 : decode cX4_wipe 2 = .ok (.putfield 50, 3) := by decide +kernel
theorem dX4_wipe_5 : decode cX4_wipe 5 = .ok (.aload_n 0, 1) := by decide +kernel
theorem dX4_wipe_6 : decode cX4_wipe 6 = .ok (.getfield 62, 3) := by decide +kernel
theorem dX4_wipe_9 : decode cX4_wipe 9 = .ok (.istore_n 1, 1) := by decide +kernel
theorem dX4_wipe_10 : decode cX4_wipe 10 = .ok (.aload_n 0, 1) := by decide +kernel
theorem dX4_wipe_11 : decode cX4_wipe 11 = .ok (.iconst 0, 1) := by decide +kernel
theorem dX4_wipe_12 : decode cX4_wipe 12 = .ok (.putfield 62, 3) := by decide +kernel
theorem dX4_wipe_15 : decode cX4_wipe 15 = .ok (.iload_n 1, 1) := by decide +kernel
theorem dX4_wipe_16 : decode cX4_wipe 16 = .ok (.ireturn, 1) := by decide +kernel
set_option maxRecDepth 20000 in
theorem ggX4_sign_X4_in : GoodIn wsX4_sign wsX4_in := goodIn_r _ [7] (by decide +kernel) (by decide +kernel)
set_option maxRecDepth 20000 in
theorem gX4_sign_X4_in : GoodIn wsX4_sign (va_wsS RX4 56 yX4_in wsX4_in) := goodIn_app (goodIn_of _ (by decide +kernel)) ggX4_sign_X4_in
theorem dX4_sign_0 : decode cX4_sign 0 = .ok (.aload_n 0, 1) := by decide +kernel
theorem dX4_sign_1 : decode cX4_sign 1 = .ok (.getfield 65, 3) := by decide +kernel
theorem dX4_sign_4 : decode cX4_sign 4 = .ok (.aload_n 0, 1) := by decide +kernel
theorem dX4_sign_5 : decode cX4_sign 5 = .ok (.getfield 62, 3) := by decide +kernel
theorem dX4_sign_8 : decode cX4_sign 8 = .ok (.if_icmp .eq 25, 3) := by decide +kernel
theorem dX4_sign_11 : decode cX4_sign 11 = .ok (.aload_n 0, 1) := by decide +kernel
theorem dX4_sign_12 : decode cX4_sign 12 = .ok (.getfield 7, 3) := by decide +kernel
theorem dX4_sign_15 : decode cX4_sign 15 = .ok (.aload_n 0, 1) := by decide +kernel
theorem dX4_sign_16 : decode cX4_sign 16 = .ok (.getfield 65, 3) := by decide +kernel
theorem dX4_sign_19 : decode cX4_sign 19 = .ok (.iaload, 1) := by decide +kernel
theorem dX4_sign_20 : decode cX4_sign 20 = .ok (.iload_n 1, 1) := by decide +kernel
theorem dX4_sign_21 : decode cX4_sign 21 = .ok (.isub, 1) := by decide +kernel
theorem dX4_sign_22 : decode cX4_sign 22 = .ok (.i2l, 1) := by decide +kernel
theorem dX4_sign_23 : decode cX4_sign 23 = .ok (.iload_n 2, 1) := by decide +kernel
theorem dX4_sign_24 : decode cX4_sign 24 = .ok (.i2l, 1) := by decide +kernel
theorem dX4_sign_25 : decode cX4_sign 25 = .ok (.iload_n 3, 1) := by decide +kernel
theorem dX4_sign_26 : decode cX4_sign 26 = .ok (.i2l, 1) := by decide +kernel
theorem dX4_sign_27 : decode cX4_sign 27 = .ok (.invokestatic 56, 3) := by decide +kernel
theorem dX4_sign_30 : decode cX4_sign 30 = .ok (.ifCond .ne 6, 3) := by decide +kernel
theorem dX4_sign_33 : decode cX4_sign 33 = .ok (.bipush (-9), 2) := by decide +kernel
theorem dX4_sign_35 : decode cX4_sign 35 = .ok (.ireturn, 1) := by decide +kernel
theorem dX4_sign_36 : decode cX4_sign 36 = .ok (.aload_n 0, 1) := by decide +kernel
theorem dX4_sign_37 : decode cX4_sign 37 = .ok (.dup, 1) := by decide +kernel
theorem dX4_sign_38 : decode cX4_sign 38 = .ok (.getfield 65, 3) := by decide +kernel
theorem dX4_sign_41 : decode cX4_sign 41 = .ok (.iconst 1, 1) := by decide +kernel
theorem dX4_sign_42 : decode cX4_sign 42 = .ok (.iadd, 1) := by decide +kernel
theorem dX4_sign_43 : decode cX4_sign 43 = .ok (.putfield 65, 3) := by decide +kernel
theorem dX4_sign_46 : decode cX4_sign 46 = .ok (.aload_n 0, 1) := by decide +kernel
theorem dX4_sign_47 : decode cX4_sign 47 = .ok (.getfield 7, 3) := by decide +kernel
theorem dX4_sign_50 : decode cX4_sign 50 = .ok (.aload_n 0, 1) := by decide +kernel
theorem dX4_sign_51 : decode cX4_sign 51 = .ok (.getfield 65, 3) := by decide +kernel
theorem dX4_sign_54 : decode cX4_sign 54 = .ok (.iconst 1, 1) := by decide +kernel
theorem dX4_sign_55 : decode cX4_sign 55 = .ok (.isub, 1) := by decide +kernel
theorem dX4_sign_56 : decode cX4_sign 56 = .ok (.iaload, 1) := by decide +kernel
theorem dX4_sign_57 : decode cX4_sign 57 = .ok (.iload_n 1, 1) := by decide +kernel
theorem dX4_sign_58 : decode cX4_sign 58 = .ok (.isub, 1) := by decide +kernel
theorem dX4_sign_59 : decode cX4_sign 59 = .ok (.ireturn, 1) := by decide +kernel
set_option maxRecDepth 20000 in
theorem ggX4_readHead_X4_sign : GoodIn wsX4_readHead wsX4_sign := goodIn_r _ [8, 9, 10, 11, 12, 13, 7, 14, 15, 16, 17, 18, 19, 20, 21, 22, 23, 24, 25, 26, 27, 28, 29, 30, 31, 32, 33, 34, 35, 36, 37, 38, 39] (by decide +kernel) (by decide +kernel)
set_option maxRecDepth 20000 in
theorem gX4_readHead_X4_sign : GoodIn wsX4_readHead (wsV RX4 68 RX4 yX4_sign wsX4_sign) := goodIn_app (goodIn_of _ (by decide +kernel)) ggX4_readHead_X4_sign
theorem dX4_readHead_0 : decode cX4_readHead 0 = .ok (.aload_n 0, 1) := by decide +kernel
theorem dX4_readHead_1 : decode cX4_readHead 1 = .ok (.aload_n 0, 1) := by decide +kernel
theorem dX4_readHead_2 : decode cX4_readHead 2 = .ok (.bipush 48, 2) := by decide +kernel
theorem dX4_readHead_4 : decode cX4_readHead 4 = .ok (.iconst 0, 1) := by decide +kernel
theorem dX4_readHead_5 : decode cX4_readHead 5 = .ok (.bipush 9, 2) := by decide +kernel
theorem dX4_readHead_7 : decode cX4_readHead 7 = .ok (.invokevirtual 68, 3) := by decide +kernel
theorem dX4_readHead_10 : decode cX4_readHead 10 = .ok (.putfield 72, 3) := by decide +kernel
theorem dX4_readHead_13 : decode cX4_readHead 13 = .ok (.aload_n 0, 1) := by decide +kernel
theorem dX4_readHead_14 : decode cX4_readHead 14 = .ok (.getfield 72, 3) := by decide +kernel
theorem dX4_readHead_17 : decode cX4_readHead 17 = .ok (.bipush (-9), 2) := by decide +kernel
theorem dX4_readHead_19 : decode cX4_readHead 19 = .ok (.if_icmp .eq 7, 3) := by decide +kernel
theorem dX4_readHead_22 : decode cX4_readHead 22 = .ok (.iconst 1, 1) := by decide +kernel
theorem dX4_readHead_23 : decode cX4_readHead 23 = .ok (.goto 4, 3) := by decide +kernel
theorem dX4_readHead_26 : decode cX4_readHead 26 = .ok (.iconst 0, 1) := by decide +kernel
theorem dX4_readHead_27 : decode cX4_readHead 27 = .ok (.istore_n 1, 1) := by decide +kernel
theorem dX4_readHead_28 : decode cX4_readHead 28 = .ok (.iconst 0, 1) := by decide +kernel
theorem dX4_readHead_29 : decode cX4_readHead 29 = .ok (.istore_n 2, 1) := by decide +kernel
theorem dX4_readHead_30 : decode cX4_readHead 30 = .ok (.iload_n 2, 1) := by decide +kernel
theorem dX4_readHead_31 : decode cX4_readHead 31 = .ok (.bipush 12, 2) := by decide +kernel
theorem dX4_readHead_33 : decode cX4_readHead 33 = .ok (.if_icmp .ge 51, 3) := by decide +kernel
theorem dX4_readHead_36 : decode cX4_readHead 36 = .ok (.iload_n 1, 1) := by decide +kernel
theorem dX4_readHead_37 : decode cX4_readHead 37 = .ok (.ifCond .eq 47, 3) := by decide +kernel
theorem dX4_readHead_40 : decode cX4_readHead 40 = .ok (.aload_n 0, 1) := by decide +kernel
theorem dX4_readHead_41 : decode cX4_readHead 41 = .ok (.getfield 19, 3) := by decide +kernel
theorem dX4_readHead_44 : decode cX4_readHead 44 = .ok (.iload_n 2, 1) := by decide +kernel
theorem dX4_readHead_45 : decode cX4_readHead 45 = .ok (.iconst 0, 1) := by decide +kernel
theorem dX4_readHead_46 : decode cX4_readHead 46 = .ok (.iastore, 1) := by decide +kernel
theorem dX4_readHead_47 : decode cX4_readHead 47 = .ok (.aload_n 0, 1) := by decide +kernel
theorem dX4_readHead_48 : decode cX4_readHead 48 = .ok (.getfield 16, 3) := by decide +kernel
theorem dX4_readHead_51 : decode cX4_readHead 51 = .ok (.iload_n 2, 1) := by decide +kernel
theorem dX4_readHead_52 : decode cX4_readHead 52 = .ok (.aload_n 0, 1) := by decide +kernel
theorem dX4_readHead_53 : decode cX4_readHead 53 = .ok (.bipush 48, 2) := by decide +kernel
theorem dX4_readHead_55 : decode cX4_readHead 55 = .ok (.iconst 0, 1) := by decide +kernel
theorem dX4_readHead_56 : decode cX4_readHead 56 = .ok (.iconst 4, 1) := by decide +kernel
theorem dX4_readHead_57 : decode cX4_readHead 57 = .ok (.invokevirtual 68, 3) := by decide +kernel
theorem dX4_readHead_60 : decode cX4_readHead 60 = .ok (.iastore, 1) := by decide +kernel
theorem dX4_readHead_61 : decode cX4_readHead 61 = .ok (.aload_n 0, 1) := by decide +kernel
theorem dX4_readHead_62 : decode cX4_readHead 62 = .ok (.getfield 16, 3) := by decide +kernel
theorem dX4_readHead_65 : decode cX4_readHead 65 = .ok (.iload_n 2, 1) := by decide +kernel
theorem dX4_readHead_66 : decode cX4_readHead 66 = .ok (.iaload, 1) := by decide +kernel
theorem dX4_readHead_67 : decode cX4_readHead 67 = .ok (.bipush (-9), 2) := by decide +kernel
theorem dX4_readHead_69 : decode cX4_readHead 69 = .ok (.if_icmp .eq 7, 3) := by decide +kernel
theorem dX4_readHead_72 : decode cX4_readHead 72 = .ok (.iconst 1, 1) := by decide +kernel
theorem dX4_readHead_73 : decode cX4_readHead 73 = .ok (.goto 4, 3) := by decide +kernel
theorem dX4_readHead_76 : decode cX4_readHead 76 = .ok (.iconst 0, 1) := by decide +kernel
theorem dX4_readHead_77 : decode cX4_readHead 77 = .ok (.istore_n 1, 1) := by decide +kernel
theorem dX4_readHead_78 : decode cX4_readHead 78 = .ok (.iinc 2 1, 3) := by decide +kernel
theorem dX4_readHead_81 : decode cX4_readHead 81 = .ok (.goto (-51), 3) := by decide +kernel
theorem dX4_readHead_84 : decode cX4_readHead 84 = .ok (.iload_n 1, 1) := by decide +kernel
theorem dX4_readHead_85 : decode cX4_readHead 85 = .ok (.ireturn, 1) := by decide +kernel
set_option maxRecDepth 20000 in
theorem ggX4_readPart_X4_noCell : GoodIn wsX4_readPart wsX4_noCell := goodIn_r _ [9, 10, 11, 12, 8, 13] (by decide +kernel) (by decide +kernel)
set_option maxRecDepth 20000 in
theorem gX4_readPart_X4_noCell : GoodIn wsX4_readPart (va_wsS RX4 78 yX4_noCell wsX4_noCell) := goodIn_app (goodIn_of _ (by decide +kernel)) ggX4_readPart_X4_noCell
set_option maxRecDepth 20000 in
theorem ggX4_readPart_X4_sign : GoodIn wsX4_readPart wsX4_sign := goodIn_r _ [17, 2, 4, 1, 11, 12, 8, 13, 18, 19, 20, 21, 22, 23, 24, 25, 26, 27, 28, 29, 30, 31, 32, 33, 34, 35, 36, 37, 38, 39, 40, 41, 42] (by decide +kernel) (by decide +kernel)
set_option maxRecDepth 20000 in
theorem gX4_readPart_X4_sign : GoodIn wsX4_readPart (wsV RX4 68 RX4 yX4_sign wsX4_sign) := goodIn_app (goodIn_of _ (by decide +kernel)) ggX4_readPart_X4_sign
theorem dX4_readPart_0 : decode cX4_readPart 0 = .ok (.aload_n 0, 1) := by decide +kernel
theorem dX4_readPart_1 : decode cX4_readPart 1 = .ok (.getfield 7, 3) := by decide +kernel
theorem dX4_readPart_4 : decode cX4_readPart 4 = .ok (.aload_n 0, 1) := by decide +kernel
theorem dX4_readPart_5 : decode cX4_readPart 5 = .ok (.getfield 65, 3) := by decide +kernel
theorem dX4_readPart_8 : decode cX4_readPart 8 = .ok (.iaload, 1) := by decide +kernel
theorem dX4_readPart_9 : decode cX4_readPart 9 = .ok (.bipush 68, 2) := by decide +kernel
theorem dX4_readPart_11 : decode cX4_readPart 11 = .ok (.if_icmp .ne 12, 3) := by decide +kernel
theorem dX4_readPart_14 : decode cX4_readPart 14 = .ok (.aload_n 0, 1) := by decide +kernel
theorem dX4_readPart_15 : decode cX4_readPart 15 = .ok (.getfield 75, 3) := by decide +kernel
theorem dX4_readPart_18 : decode cX4_readPart 18 = .ok (.bipush 8, 2) := by decide +kernel
theorem dX4_readPart_20 : decode cX4_readPart 20 = .ok (.if_icmp .ne 5, 3) := by decide +kernel
theorem dX4_readPart_23 : decode cX4_readPart 23 = .ok (.iconst 0, 1) := by decide +kernel
theorem dX4_readPart_24 : decode cX4_readPart 24 = .ok (.ireturn, 1) := by decide +kernel
theorem dX4_readPart_25 : decode cX4_readPart 25 = .ok (.aload_n 0, 1) := by decide +kernel
theorem dX4_readPart_26 : decode cX4_readPart 26 = .ok (.dup, 1) := by decide +kernel
theorem dX4_readPart_27 : decode cX4_readPart 27 = .ok (.getfield 65, 3) := by decide +kernel
theorem dX4_readPart_30 : decode cX4_readPart 30 = .ok (.iconst 1, 1) := by decide +kernel
theorem dX4_readPart_31 : decode cX4_readPart 31 = .ok (.iadd, 1) := by decide +kernel
theorem dX4_readPart_32 : decode cX4_readPart 32 = .ok (.putfield 65, 3) := by decide +kernel
theorem dX4_readPart_35 : decode cX4_readPart 35 = .ok (.aload_n 0, 1) := by decide +kernel
theorem dX4_readPart_36 : decode cX4_readPart 36 = .ok (.getfield 65, 3) := by decide +kernel
theorem dX4_readPart_39 : decode cX4_readPart 39 = .ok (.aload_n 0, 1) := by decide +kernel
theorem dX4_readPart_40 : decode cX4_readPart 40 = .ok (.getfield 62, 3) := by decide +kernel
theorem dX4_readPart_43 : decode cX4_readPart 43 = .ok (.if_icmp .ge 18, 3) := by decide +kernel
theorem dX4_readPart_46 : decode cX4_readPart 46 = .ok (.aload_n 0, 1) := by decide +kernel
theorem dX4_readPart_47 : decode cX4_readPart 47 = .ok (.getfield 7, 3) := by decide +kernel
theorem dX4_readPart_50 : decode cX4_readPart 50 = .ok (.aload_n 0, 1) := by decide +kernel
theorem dX4_readPart_51 : decode cX4_readPart 51 = .ok (.getfield 65, 3) := by decide +kernel
theorem dX4_readPart_54 : decode cX4_readPart 54 = .ok (.iaload, 1) := by decide +kernel
theorem dX4_readPart_55 : decode cX4_readPart 55 = .ok (.bipush 97, 2) := by decide +kernel
theorem dX4_readPart_57 : decode cX4_readPart 57 = .ok (.isub, 1) := by decide +kernel
theorem dX4_readPart_58 : decode cX4_readPart 58 = .ok (.goto 5, 3) := by decide +kernel
theorem dX4_readPart_61 : decode cX4_readPart 61 = .ok (.bipush (-9), 2) := by decide +kernel
theorem dX4_readPart_63 : decode cX4_readPart 63 = .ok (.istore_n 1, 1) := by decide +kernel
theorem dX4_readPart_64 : decode cX4_readPart 64 = .ok (.iload_n 1, 1) := by decide +kernel
theorem dX4_readPart_65 : decode cX4_readPart 65 = .ok (.invokestatic 78, 3) := by decide +kernel
theorem dX4_readPart_68 : decode cX4_readPart 68 = .ok (.ifCond .ne 12, 3) := by decide +kernel
theorem dX4_readPart_71 : decode cX4_readPart 71 = .ok (.aload_n 0, 1) := by decide +kernel
theorem dX4_readPart_72 : decode cX4_readPart 72 = .ok (.getfield 19, 3) := by decide +kernel
theorem dX4_readPart_75 : decode cX4_readPart 75 = .ok (.iload_n 1, 1) := by decide +kernel
theorem dX4_readPart_76 : decode cX4_readPart 76 = .ok (.iaload, 1) := by decide +kernel
theorem dX4_readPart_77 : decode cX4_readPart 77 = .ok (.ifCond .le 5, 3) := by decide +kernel
theorem dX4_readPart_80 : decode cX4_readPart 80 = .ok (.iconst 0, 1) := by decide +kernel
theorem dX4_readPart_81 : decode cX4_readPart 81 = .ok (.ireturn, 1) := by decide +kernel
theorem dX4_readPart_82 : decode cX4_readPart 82 = .ok (.aload_n 0, 1) := by decide +kernel
theorem dX4_readPart_83 : decode cX4_readPart 83 = .ok (.dup, 1) := by decide +kernel
theorem dX4_readPart_84 : decode cX4_readPart 84 = .ok (.getfield 65, 3) := by decide +kernel
theorem dX4_readPart_87 : decode cX4_readPart 87 = .ok (.iconst 1, 1) := by decide +kernel
theorem dX4_readPart_88 : decode cX4_readPart 88 = .ok (.iadd, 1) := by decide +kernel
theorem dX4_readPart_89 : decode cX4_readPart 89 = .ok (.putfield 65, 3) := by decide +kernel
theorem dX4_readPart_92 : decode cX4_readPart 92 = .ok (.aload_n 0, 1) := by decide +kernel
theorem dX4_readPart_93 : decode cX4_readPart 93 = .ok (.bipush 48, 2) := by decide +kernel
theorem dX4_readPart_95 : decode cX4_readPart 95 = .ok (.iconst 1, 1) := by decide +kernel
theorem dX4_readPart_96 : decode cX4_readPart 96 = .ok (.iconst 4, 1) := by decide +kernel
theorem dX4_readPart_97 : decode cX4_readPart 97 = .ok (.invokevirtual 68, 3) := by decide +kernel
theorem dX4_readPart_100 : decode cX4_readPart 100 = .ok (.istore_n 2, 1) := by decide +kernel
theorem dX4_readPart_101 : decode cX4_readPart 101 = .ok (.iload_n 2, 1) := by decide +kernel
theorem dX4_readPart_102 : decode cX4_readPart 102 = .ok (.bipush (-9), 2) := by decide +kernel
theorem dX4_readPart_104 : decode cX4_readPart 104 = .ok (.if_icmp .ne 5, 3) := by decide +kernel
theorem dX4_readPart_107 : decode cX4_readPart 107 = .ok (.iconst 0, 1) := by decide +kernel
theorem dX4_readPart_108 : decode cX4_readPart 108 = .ok (.ireturn, 1) := by decide +kernel
theorem dX4_readPart_109 : decode cX4_readPart 109 = .ok (.aload_n 0, 1) := by decide +kernel
theorem dX4_readPart_110 : decode cX4_readPart 110 = .ok (.getfield 19, 3) := by decide +kernel
theorem dX4_readPart_113 : decode cX4_readPart 113 = .ok (.iload_n 1, 1) := by decide +kernel
theorem dX4_readPart_114 : decode cX4_readPart 114 = .ok (.iload_n 2, 1) := by decide +kernel
theorem dX4_readPart_115 : decode cX4_readPart 115 = .ok (.iastore, 1) := by decide +kernel
theorem dX4_readPart_116 : decode cX4_readPart 116 = .ok (.aload_n 0, 1) := by decide +kernel
theorem dX4_readPart_117 : decode cX4_readPart 117 = .ok (.dup, 1) := by decide +kernel
theorem dX4_readPart_118 : decode cX4_readPart 118 = .ok (.getfield 75, 3) := by decide +kernel
theorem dX4_readPart_121 : decode cX4_readPart 121 = .ok (.iconst 1, 1) := by decide +kernel
theorem dX4_readPart_122 : decode cX4_readPart 122 = .ok (.iadd, 1) := by decide +kernel
theorem dX4_readPart_123 : decode cX4_readPart 123 = .ok (.putfield 75, 3) := by decide +kernel
theorem dX4_readPart_126 : decode cX4_readPart 126 = .ok (.iconst 1, 1) := by decide +kernel
theorem dX4_readPart_127 : decode cX4_readPart 127 = .ok (.ireturn, 1) := by decide +kernel
set_option maxRecDepth 20000 in
theorem ggX4_readMap_X4_readHead : GoodIn wsX4_readMap wsX4_readHead := goodIn_r _ [9, 10, 11, 12, 13, 14, 15, 8, 16, 1, 3, 4, 17, 18, 19, 28, 29, 30, 31, 32, 33, 34, 35, 36, 37, 38, 39, 40, 41, 42, 43, 44, 45, 46, 47, 48, 49, 50, 51, 52] (by decide +kernel) (by decide +kernel)
set_option maxRecDepth 20000 in
theorem gX4_readMap_X4_readHead : GoodIn wsX4_readMap (wsV RX4 82 RX4 yX4_readHead wsX4_readHead) := goodIn_app (goodIn_of _ (by decide +kernel)) ggX4_readMap_X4_readHead
set_option maxRecDepth 20000 in
theorem ggX4_readMap_X4_readPart : GoodIn wsX4_readMap wsX4_readPart := goodIn_r _ [23, 4, 1, 2, 3, 11, 24, 25, 8, 26, 27, 17, 18, 19, 13, 14, 15, 16, 28, 29, 30, 31, 32, 33, 34, 35, 36, 37, 38, 39, 40, 41, 42, 43, 44, 45, 46, 47, 48, 49, 50, 51, 52] (by decide +kernel) (by decide +kernel)
set_option maxRecDepth 20000 in
theorem gX4_readMap_X4_readPart : GoodIn wsX4_readMap (wsV RX4 86 RX4 yX4_readPart wsX4_readPart) := goodIn_app (goodIn_of _ (by decide +kernel)) ggX4_readMap_X4_readPart
theorem dX4_readMap_0 : decode cX4_readMap 0 = .ok (.aload_n 0, 1) := by decide +kernel
theorem dX4_readMap_1 : decode cX4_readMap 1 = .ok (.iconst 0, 1) := by decide +kernel
theorem dX4_readMap_2 : decode cX4_readMap 2 = .ok (.putfield 65, 3) := by decide +kernel
theorem dX4_readMap_5 : decode cX4_readMap 5 = .ok (.aload_n 0, 1) := by decide +kernel
theorem dX4_readMap_6 : decode cX4_readMap 6 = .ok (.iconst 0, 1) := by decide +kernel
theorem dX4_readMap_7 : decode cX4_readMap 7 = .ok (.putfield 75, 3) := by decide +kernel
theorem dX4_readMap_10 : decode cX4_readMap 10 = .ok (.aload_n 0, 1) := by decide +kernel
theorem dX4_readMap_11 : decode cX4_readMap 11 = .ok (.getfield 62, 3) := by decide +kernel
theorem dX4_readMap_14 : decode cX4_readMap 14 = .ok (.ifCond .eq 14, 3) := by decide +kernel
theorem dX4_readMap_17 : decode cX4_readMap 17 = .ok (.aload_n 0, 1) := by decide +kernel
theorem dX4_readMap_18 : decode cX4_readMap 18 = .ok (.getfield 7, 3) := by decide +kernel
theorem dX4_readMap_21 : decode cX4_readMap 21 = .ok (.iconst 0, 1) := by decide +kernel
theorem dX4_readMap_22 : decode cX4_readMap 22 = .ok (.iaload, 1) := by decide +kernel
theorem dX4_readMap_23 : decode cX4_readMap 23 = .ok (.bipush 77, 2) := by decide +kernel
theorem dX4_readMap_25 : decode cX4_readMap 25 = .ok (.if_icmp .eq 5, 3) := by decide +kernel
theorem dX4_readMap_28 : decode cX4_readMap 28 = .ok (.iconst 0, 1) := by decide +kernel
theorem dX4_readMap_29 : decode cX4_readMap 29 = .ok (.ireturn, 1) := by decide +kernel
theorem dX4_readMap_30 : decode cX4_readMap 30 = .ok (.aload_n 0, 1) := by decide +kernel
theorem dX4_readMap_31 : decode cX4_readMap 31 = .ok (.iconst 1, 1) := by decide +kernel
theorem dX4_readMap_32 : decode cX4_readMap 32 = .ok (.putfield 65, 3) := by decide +kernel
theorem dX4_readMap_35 : decode cX4_readMap 35 = .ok (.aload_n 0, 1) := by decide +kernel
theorem dX4_readMap_36 : decode cX4_readMap 36 = .ok (.invokevirtual 82, 3) := by decide +kernel
theorem dX4_readMap_39 : decode cX4_readMap 39 = .ok (.ifCond .ne 8, 3) := by decide +kernel
theorem dX4_readMap_42 : decode cX4_readMap 42 = .ok (.aload_n 0, 1) := by decide +kernel
theorem dX4_readMap_43 : decode cX4_readMap 43 = .ok (.getfield 65, 3) := by decide +kernel
theorem dX4_readMap_46 : decode cX4_readMap 46 = .ok (.ireturn, 1) := by decide +kernel
theorem dX4_readMap_47 : decode cX4_readMap 47 = .ok (.aload_n 0, 1) := by decide +kernel
theorem dX4_readMap_48 : decode cX4_readMap 48 = .ok (.getfield 65, 3) := by decide +kernel
theorem dX4_readMap_51 : decode cX4_readMap 51 = .ok (.aload_n 0, 1) := by decide +kernel
theorem dX4_readMap_52 : decode cX4_readMap 52 = .ok (.getfield 62, 3) := by decide +kernel
theorem dX4_readMap_55 : decode cX4_readMap 55 = .ok (.if_icmp .ge 15, 3) := by decide +kernel
theorem dX4_readMap_58 : decode cX4_readMap 58 = .ok (.aload_n 0, 1) := by decide +kernel
theorem dX4_readMap_59 : decode cX4_readMap 59 = .ok (.invokevirtual 86, 3) := by decide +kernel
theorem dX4_readMap_62 : decode cX4_readMap 62 = .ok (.ifCond .ne (-15), 3) := by decide +kernel
theorem dX4_readMap_65 : decode cX4_readMap 65 = .ok (.aload_n 0, 1) := by decide +kernel
theorem dX4_readMap_66 : decode cX4_readMap 66 = .ok (.getfield 65, 3) := by decide +kernel
theorem dX4_readMap_69 : decode cX4_readMap 69 = .ok (.ireturn, 1) := by decide +kernel
theorem dX4_readMap_70 : decode cX4_readMap 70 = .ok (.bipush (-9), 2) := by decide +kernel
theorem dX4_readMap_72 : decode cX4_readMap 72 = .ok (.ireturn, 1) := by decide +kernel
set_option maxRecDepth 20000 in
theorem ggX4_fault_X4_readMap : GoodIn wsX4_fault wsX4_readMap := goodIn_r _ [6, 7, 8, 9, 10, 11, 12, 13, 5, 14, 15, 16, 17, 18, 19, 20, 21, 22, 23, 24, 25, 26, 27, 28, 29, 30, 31, 32, 33, 34, 35, 36, 37, 38, 39, 40, 41, 42, 43, 44, 45, 46, 47, 48, 49, 50, 51, 52, 53, 54, 55, 56, 57] (by decide +kernel) (by decide +kernel)
set_option maxRecDepth 20000 in
theorem gX4_fault_X4_readMap : GoodIn wsX4_fault (wsV RX4 89 RX4 yX4_readMap wsX4_readMap) := goodIn_app (goodIn_of _ (by decide +kernel)) ggX4_fault_X4_readMap
theorem dX4_fault_0 : decode cX4_fault 0 = .ok (.aload_n 0, 1) := by decide +kernel
theorem dX4_fault_1 : decode cX4_fault 1 = .ok (.iconst 0, 1) := by decide +kernel
theorem dX4_fault_2 : decode cX4_fault 2 = .ok (.putfield 50, 3) := by decide +kernel
theorem dX4_fault_5 : decode cX4_fault 5 = .ok (.aload_n 0, 1) := by decide +kernel
theorem dX4_fault_6 : decode cX4_fault 6 = .ok (.invokevirtual 89, 3) := by decide +kernel
theorem dX4_fault_9 : decode cX4_fault 9 = .ok (.ireturn, 1) := by decide +kernel
set_option maxRecDepth 20000 in
theorem ggX4_map_X4_readMap : GoodIn wsX4_map wsX4_readMap := goodIn_r _ [14, 15, 9, 16, 17, 18, 19, 20, 13, 21, 6, 5, 4, 22, 23, 24, 25, 26, 27, 28, 29, 30, 31, 32, 33, 34, 35, 36, 37, 38, 39, 40, 41, 42, 43, 44, 45, 46, 47, 48, 49, 50, 51, 52, 53, 54, 55, 56, 57, 58, 59, 60, 61] (by decide +kernel) (by decide +kernel)
set_option maxRecDepth 20000 in
theorem gX4_map_X4_readMap : GoodIn wsX4_map (wsV RX4 89 RX4 yX4_readMap wsX4_readMap) := goodIn_app (goodIn_of _ (by decide +kernel)) ggX4_map_X4_readMap
theorem dX4_map_0 : decode cX4_map 0 = .ok (.aload_n 0, 1) := by decide +kernel
theorem dX4_map_1 : decode cX4_map 1 = .ok (.iconst 0, 1) := by decide +kernel
theorem dX4_map_2 : decode cX4_map 2 = .ok (.putfield 50, 3) := by decide +kernel
theorem dX4_map_5 : decode cX4_map 5 = .ok (.aload_n 0, 1) := by decide +kernel
theorem dX4_map_6 : decode cX4_map 6 = .ok (.invokevirtual 89, 3) := by decide +kernel
theorem dX4_map_9 : decode cX4_map 9 = .ok (.bipush (-9), 2) := by decide +kernel
theorem dX4_map_11 : decode cX4_map 11 = .ok (.if_icmp .eq 6, 3) := by decide +kernel
theorem dX4_map_14 : decode cX4_map 14 = .ok (.bipush (-3), 2) := by decide +kernel
theorem dX4_map_16 : decode cX4_map 16 = .ok (.ireturn, 1) := by decide +kernel
theorem dX4_map_17 : decode cX4_map 17 = .ok (.iconst 0, 1) := by decide +kernel
theorem dX4_map_18 : decode cX4_map 18 = .ok (.istore_n 1, 1) := by decide +kernel
theorem dX4_map_19 : decode cX4_map 19 = .ok (.iload_n 1, 1) := by decide +kernel
theorem dX4_map_20 : decode cX4_map 20 = .ok (.bipush 17, 2) := by decide +kernel
theorem dX4_map_22 : decode cX4_map 22 = .ok (.if_icmp .ge 16, 3) := by decide +kernel
theorem dX4_map_25 : decode cX4_map 25 = .ok (.aload_n 0, 1) := by decide +kernel
theorem dX4_map_26 : decode cX4_map 26 = .ok (.getfield 22, 3) := by decide +kernel
theorem dX4_map_29 : decode cX4_map 29 = .ok (.iload_n 1, 1) := by decide +kernel
theorem dX4_map_30 : decode cX4_map 30 = .ok (.iconst 0, 1) := by decide +kernel
theorem dX4_map_31 : decode cX4_map 31 = .ok (.iastore, 1) := by decide +kernel
theorem dX4_map_32 : decode cX4_map 32 = .ok (.iinc 1 1, 3) := by decide +kernel
theorem dX4_map_35 : decode cX4_map 35 = .ok (.goto (-16), 3) := by decide +kernel
theorem dX4_map_38 : decode cX4_map 38 = .ok (.iconst 0, 1) := by decide +kernel
theorem dX4_map_39 : decode cX4_map 39 = .ok (.istore_n 1, 1) := by decide +kernel
theorem dX4_map_40 : decode cX4_map 40 = .ok (.iload_n 1, 1) := by decide +kernel
theorem dX4_map_41 : decode cX4_map 41 = .ok (.bipush 12, 2) := by decide +kernel
theorem dX4_map_43 : decode cX4_map 43 = .ok (.if_icmp .ge 35, 3) := by decide +kernel
theorem dX4_map_46 : decode cX4_map 46 = .ok (.aload_n 0, 1) := by decide +kernel
theorem dX4_map_47 : decode cX4_map 47 = .ok (.getfield 13, 3) := by decide +kernel
theorem dX4_map_50 : decode cX4_map 50 = .ok (.iload_n 1, 1) := by decide +kernel
theorem dX4_map_51 : decode cX4_map 51 = .ok (.aload_n 0, 1) := by decide +kernel
theorem dX4_map_52 : decode cX4_map 52 = .ok (.getfield 16, 3) := by decide +kernel
theorem dX4_map_55 : decode cX4_map 55 = .ok (.iload_n 1, 1) := by decide +kernel
theorem dX4_map_56 : decode cX4_map 56 = .ok (.iaload, 1) := by decide +kernel
theorem dX4_map_57 : decode cX4_map 57 = .ok (.iastore, 1) := by decide +kernel
theorem dX4_map_58 : decode cX4_map 58 = .ok (.aload_n 0, 1) := by decide +kernel
theorem dX4_map_59 : decode cX4_map 59 = .ok (.getfield 22, 3) := by decide +kernel
theorem dX4_map_62 : decode cX4_map 62 = .ok (.iconst 0, 1) := by decide +kernel
theorem dX4_map_63 : decode cX4_map 63 = .ok (.iload_n 1, 1) := by decide +kernel
theorem dX4_map_64 : decode cX4_map 64 = .ok (.iadd, 1) := by decide +kernel
theorem dX4_map_65 : decode cX4_map 65 = .ok (.aload_n 0, 1) := by decide +kernel
theorem dX4_map_66 : decode cX4_map 66 = .ok (.getfield 19, 3) := by decide +kernel
theorem dX4_map_69 : decode cX4_map 69 = .ok (.iload_n 1, 1) := by decide +kernel
theorem dX4_map_70 : decode cX4_map 70 = .ok (.iaload, 1) := by decide +kernel
theorem dX4_map_71 : decode cX4_map 71 = .ok (.iastore, 1) := by decide +kernel
theorem dX4_map_72 : decode cX4_map 72 = .ok (.iinc 1 1, 3) := by decide +kernel
theorem dX4_map_75 : decode cX4_map 75 = .ok (.goto (-35), 3) := by decide +kernel
theorem dX4_map_78 : decode cX4_map 78 = .ok (.aload_n 0, 1) := by decide +kernel
theorem dX4_map_79 : decode cX4_map 79 = .ok (.getfield 22, 3) := by decide +kernel
theorem dX4_map_82 : decode cX4_map 82 = .ok (.bipush 13, 2) := by decide +kernel
theorem dX4_map_84 : decode cX4_map 84 = .ok (.aload_n 0, 1) := by decide +kernel
theorem dX4_map_85 : decode cX4_map 85 = .ok (.getfield 72, 3) := by decide +kernel
theorem dX4_map_88 : decode cX4_map 88 = .ok (.iastore, 1) := by decide +kernel
theorem dX4_map_89 : decode cX4_map 89 = .ok (.aload_n 0, 1) := by decide +kernel
theorem dX4_map_90 : decode cX4_map 90 = .ok (.iconst 0, 1) := by decide +kernel
theorem dX4_map_91 : decode cX4_map 91 = .ok (.putfield 93, 3) := by decide +kernel
theorem dX4_map_94 : decode cX4_map 94 = .ok (.aload_n 0, 1) := by decide +kernel
theorem dX4_map_95 : decode cX4_map 95 = .ok (.getfield 34, 3) := by decide +kernel
theorem dX4_map_98 : decode cX4_map 98 = .ok (.iconst 0, 1) := by decide +kernel
theorem dX4_map_99 : decode cX4_map 99 = .ok (.iconst 0, 1) := by decide +kernel
theorem dX4_map_100 : decode cX4_map 100 = .ok (.bastore, 1) := by decide +kernel
theorem dX4_map_101 : decode cX4_map 101 = .ok (.aload_n 0, 1) := by decide +kernel
theorem dX4_map_102 : decode cX4_map 102 = .ok (.getfield 34, 3) := by decide +kernel
theorem dX4_map_105 : decode cX4_map 105 = .ok (.iconst 1, 1) := by decide +kernel
theorem dX4_map_106 : decode cX4_map 106 = .ok (.iconst 0, 1) := by decide +kernel
theorem dX4_map_107 : decode cX4_map 107 = .ok (.bastore, 1) := by decide +kernel
theorem dX4_map_108 : decode cX4_map 108 = .ok (.aload_n 0, 1) := by decide +kernel
theorem dX4_map_109 : decode cX4_map 109 = .ok (.getfield 75, 3) := by decide +kernel
theorem dX4_map_112 : decode cX4_map 112 = .ok (.ireturn, 1) := by decide +kernel
theorem dX4_goodOf_0 : decode cX4_goodOf 0 = .ok (.aload_n 1, 1) := by decide +kernel
theorem dX4_goodOf_1 : decode cX4_goodOf 1 = .ok (.iconst 0, 1) := by decide +kernel
theorem dX4_goodOf_2 : decode cX4_goodOf 2 = .ok (.iload_n 2, 1) := by decide +kernel
theorem dX4_goodOf_3 : decode cX4_goodOf 3 = .ok (.iadd, 1) := by decide +kernel
theorem dX4_goodOf_4 : decode cX4_goodOf 4 = .ok (.iaload, 1) := by decide +kernel
theorem dX4_goodOf_5 : decode cX4_goodOf 5 = .ok (.istore_n 3, 1) := by decide +kernel
theorem dX4_goodOf_6 : decode cX4_goodOf 6 = .ok (.iload_n 3, 1) := by decide +kernel
theorem dX4_goodOf_7 : decode cX4_goodOf 7 = .ok (.ifCond .ne 7, 3) := by decide +kernel
theorem dX4_goodOf_10 : decode cX4_goodOf 10 = .ok (.iconst 0, 1) := by decide +kernel
theorem dX4_goodOf_11 : decode cX4_goodOf 11 = .ok (.goto 6, 3) := by decide +kernel
theorem dX4_goodOf_14 : decode cX4_goodOf 14 = .ok (.iconst 4, 1) := by decide +kernel
theorem dX4_goodOf_15 : decode cX4_goodOf 15 = .ok (.iload_n 3, 1) := by decide +kernel
theorem dX4_goodOf_16 : decode cX4_goodOf 16 = .ok (.isub, 1) := by decide +kernel
theorem dX4_goodOf_17 : decode cX4_goodOf 17 = .ok (.istore 4, 2) := by decide +kernel
theorem dX4_goodOf_19 : decode cX4_goodOf 19 = .ok (.iload_n 3, 1) := by decide +kernel
theorem dX4_goodOf_20 : decode cX4_goodOf 20 = .ok (.aload_n 0, 1) := by decide +kernel
theorem dX4_goodOf_21 : decode cX4_goodOf 21 = .ok (.getfield 13, 3) := by decide +kernel
theorem dX4_goodOf_24 : decode cX4_goodOf 24 = .ok (.iload_n 2, 1) := by decide +kernel
theorem dX4_goodOf_25 : decode cX4_goodOf 25 = .ok (.iaload, 1) := by decide +kernel
theorem dX4_goodOf_26 : decode cX4_goodOf 26 = .ok (.if_icmp .ne 8, 3) := by decide +kernel
theorem dX4_goodOf_29 : decode cX4_goodOf 29 = .ok (.iload 4, 2) := by decide +kernel
theorem dX4_goodOf_31 : decode cX4_goodOf 31 = .ok (.goto 7, 3) := by decide +kernel
theorem dX4_goodOf_34 : decode cX4_goodOf 34 = .ok (.iload 4, 2) := by decide +kernel
theorem dX4_goodOf_36 : decode cX4_goodOf 36 = .ok (.iconst 2, 1) := by decide +kernel
theorem dX4_goodOf_37 : decode cX4_goodOf 37 = .ok (.idiv, 1) := by decide +kernel
theorem dX4_goodOf_38 : decode cX4_goodOf 38 = .ok (.ireturn, 1) := by decide +kernel
theorem dX4_errorsOf_0 : decode cX4_errorsOf 0 = .ok (.iconst 0, 1) := by decide +kernel
theorem dX4_errorsOf_1 : decode cX4_errorsOf 1 = .ok (.istore_n 2, 1) := by decide +kernel
theorem dX4_errorsOf_2 : decode cX4_errorsOf 2 = .ok (.iconst 0, 1) := by decide +kernel
theorem dX4_errorsOf_3 : decode cX4_errorsOf 3 = .ok (.istore_n 3, 1) := by decide +kernel
theorem dX4_errorsOf_4 : decode cX4_errorsOf 4 = .ok (.iload_n 3, 1) := by decide +kernel
theorem dX4_errorsOf_5 : decode cX4_errorsOf 5 = .ok (.bipush 12, 2) := by decide +kernel
theorem dX4_errorsOf_7 : decode cX4_errorsOf 7 = .ok (.if_icmp .ge 41, 3) := by decide +kernel
theorem dX4_errorsOf_10 : decode cX4_errorsOf 10 = .ok (.iload_n 2, 1) := by decide +kernel
theorem dX4_errorsOf_11 : decode cX4_errorsOf 11 = .ok (.aload_n 1, 1) := by decide +kernel
theorem dX4_errorsOf_12 : decode cX4_errorsOf 12 = .ok (.iconst 0, 1) := by decide +kernel
theorem dX4_errorsOf_13 : decode cX4_errorsOf 13 = .ok (.iload_n 3, 1) := by decide +kernel
theorem dX4_errorsOf_14 : decode cX4_errorsOf 14 = .ok (.iadd, 1) := by decide +kernel
theorem dX4_errorsOf_15 : decode cX4_errorsOf 15 = .ok (.iaload, 1) := by decide +kernel
theorem dX4_errorsOf_16 : decode cX4_errorsOf 16 = .ok (.ifCond .le 23, 3) := by decide +kernel
theorem dX4_errorsOf_19 : decode cX4_errorsOf 19 = .ok (.aload_n 1, 1) := by decide +kernel
theorem dX4_errorsOf_20 : decode cX4_errorsOf 20 = .ok (.iconst 0, 1) := by decide +kernel
theorem dX4_errorsOf_21 : decode cX4_errorsOf 21 = .ok (.iload_n 3, 1) := by decide +kernel
theorem dX4_errorsOf_22 : decode cX4_errorsOf 22 = .ok (.iadd, 1) := by decide +kernel
theorem dX4_errorsOf_23 : decode cX4_errorsOf 23 = .ok (.iaload, 1) := by decide +kernel
theorem dX4_errorsOf_24 : decode cX4_errorsOf 24 = .ok (.aload_n 0, 1) := by decide +kernel
theorem dX4_errorsOf_25 : decode cX4_errorsOf 25 = .ok (.getfield 13, 3) := by decide +kernel
theorem dX4_errorsOf_28 : decode cX4_errorsOf 28 = .ok (.iload_n 3, 1) := by decide +kernel
theorem dX4_errorsOf_29 : decode cX4_errorsOf 29 = .ok (.iaload, 1) := by decide +kernel
theorem dX4_errorsOf_30 : decode cX4_errorsOf 30 = .ok (.if_icmp .eq 9, 3) := by decide +kernel
theorem dX4_errorsOf_33 : decode cX4_errorsOf 33 = .ok (.iconst 1, 1) := by decide +kernel
theorem dX4_errorsOf_34 : decode cX4_errorsOf 34 = .ok (.iload_n 3, 1) := by decide +kernel
theorem dX4_errorsOf_35 : decode cX4_errorsOf 35 = .ok (.ishl, 1) := by decide +kernel
theorem dX4_errorsOf_36 : decode cX4_errorsOf 36 = .ok (.goto 4, 3) := by decide +kernel
theorem dX4_errorsOf_39 : decode cX4_errorsOf 39 = .ok (.iconst 0, 1) := by decide +kernel
theorem dX4_errorsOf_40 : decode cX4_errorsOf 40 = .ok (.ior, 1) := by decide +kernel
theorem dX4_errorsOf_41 : decode cX4_errorsOf 41 = .ok (.istore_n 2, 1) := by decide +kernel
theorem dX4_errorsOf_42 : decode cX4_errorsOf 42 = .ok (.iinc 3 1, 3) := by decide +kernel
theorem dX4_errorsOf_45 : decode cX4_errorsOf 45 = .ok (.goto (-41), 3) := by decide +kernel
theorem dX4_errorsOf_48 : decode cX4_errorsOf 48 = .ok (.iload_n 2, 1) := by decide +kernel
theorem dX4_errorsOf_49 : decode cX4_errorsOf 49 = .ok (.ireturn, 1) := by decide +kernel
set_option maxRecDepth 20000 in
theorem ggX4_about_X4_signsOf : GoodIn wsX4_about wsX4_signsOf := goodIn_r _ [8] (by decide +kernel) (by decide +kernel)
set_option maxRecDepth 20000 in
theorem gX4_about_X4_signsOf : GoodIn wsX4_about (va_wsS RX4 96 yX4_signsOf wsX4_signsOf) := goodIn_app (goodIn_of _ (by decide +kernel)) ggX4_about_X4_signsOf
set_option maxRecDepth 20000 in
theorem ggX4_about_X4_errorsOf : GoodIn wsX4_about wsX4_errorsOf := goodIn_r _ [12, 13, 14, 15, 16, 17, 18, 19, 20, 21, 22, 23, 24, 25, 26, 27, 28, 29, 30, 31, 32, 33, 34, 35, 36, 37, 38] (by decide +kernel) (by decide +kernel)
set_option maxRecDepth 20000 in
theorem gX4_about_X4_errorsOf : GoodIn wsX4_about (wsV RX4 100 RX4 yX4_errorsOf wsX4_errorsOf) := goodIn_app (goodIn_of _ (by decide +kernel)) ggX4_about_X4_errorsOf
theorem dX4_about_0 : decode cX4_about 0 = .ok (.aload_n 0, 1) := by decide +kernel
theorem dX4_about_1 : decode cX4_about 1 = .ok (.iconst 0, 1) := by decide +kernel
theorem dX4_about_2 : decode cX4_about 2 = .ok (.putfield 50, 3) := by decide +kernel
theorem dX4_about_5 : decode cX4_about 5 = .ok (.iload_n 1, 1) := by decide +kernel
theorem dX4_about_6 : decode cX4_about 6 = .ok (.tableswitch 117 0 8 #[50, 58, 66, 74, 82, 90, 98, 107, 112], 50) := by decide +kernel
theorem dX4_about_56 : decode cX4_about 56 = .ok (.aload_n 0, 1) := by decide +kernel
theorem dX4_about_57 : decode cX4_about 57 = .ok (.getfield 22, 3) := by decide +kernel
theorem dX4_about_60 : decode cX4_about 60 = .ok (.invokestatic 96, 3) := by decide +kernel
theorem dX4_about_63 : decode cX4_about 63 = .ok (.ireturn, 1) := by decide +kernel
theorem dX4_about_64 : decode cX4_about 64 = .ok (.aload_n 0, 1) := by decide +kernel
theorem dX4_about_65 : decode cX4_about 65 = .ok (.getfield 22, 3) := by decide +kernel
theorem dX4_about_68 : decode cX4_about 68 = .ok (.bipush 12, 2) := by decide +kernel
theorem dX4_about_70 : decode cX4_about 70 = .ok (.iaload, 1) := by decide +kernel
theorem dX4_about_71 : decode cX4_about 71 = .ok (.ireturn, 1) := by decide +kernel
theorem dX4_about_72 : decode cX4_about 72 = .ok (.aload_n 0, 1) := by decide +kernel
theorem dX4_about_73 : decode cX4_about 73 = .ok (.getfield 22, 3) := by decide +kernel
theorem dX4_about_76 : decode cX4_about 76 = .ok (.bipush 13, 2) := by decide +kernel
theorem dX4_about_78 : decode cX4_about 78 = .ok (.iaload, 1) := by decide +kernel
theorem dX4_about_79 : decode cX4_about 79 = .ok (.ireturn, 1) := by decide +kernel
theorem dX4_about_80 : decode cX4_about 80 = .ok (.aload_n 0, 1) := by decide +kernel
theorem dX4_about_81 : decode cX4_about 81 = .ok (.getfield 22, 3) := by decide +kernel
theorem dX4_about_84 : decode cX4_about 84 = .ok (.bipush 14, 2) := by decide +kernel
theorem dX4_about_86 : decode cX4_about 86 = .ok (.iaload, 1) := by decide +kernel
theorem dX4_about_87 : decode cX4_about 87 = .ok (.ireturn, 1) := by decide +kernel
theorem dX4_about_88 : decode cX4_about 88 = .ok (.aload_n 0, 1) := by decide +kernel
theorem dX4_about_89 : decode cX4_about 89 = .ok (.getfield 22, 3) := by decide +kernel
theorem dX4_about_92 : decode cX4_about 92 = .ok (.bipush 15, 2) := by decide +kernel
theorem dX4_about_94 : decode cX4_about 94 = .ok (.iaload, 1) := by decide +kernel
theorem dX4_about_95 : decode cX4_about 95 = .ok (.ireturn, 1) := by decide +kernel
theorem dX4_about_96 : decode cX4_about 96 = .ok (.aload_n 0, 1) := by decide +kernel
theorem dX4_about_97 : decode cX4_about 97 = .ok (.getfield 22, 3) := by decide +kernel
theorem dX4_about_100 : decode cX4_about 100 = .ok (.bipush 16, 2) := by decide +kernel
theorem dX4_about_102 : decode cX4_about 102 = .ok (.iaload, 1) := by decide +kernel
theorem dX4_about_103 : decode cX4_about 103 = .ok (.ireturn, 1) := by decide +kernel
theorem dX4_about_104 : decode cX4_about 104 = .ok (.aload_n 0, 1) := by decide +kernel
theorem dX4_about_105 : decode cX4_about 105 = .ok (.aload_n 0, 1) := by decide +kernel
theorem dX4_about_106 : decode cX4_about 106 = .ok (.getfield 22, 3) := by decide +kernel
theorem dX4_about_109 : decode cX4_about 109 = .ok (.invokevirtual 100, 3) := by decide +kernel
theorem dX4_about_112 : decode cX4_about 112 = .ok (.ireturn, 1) := by decide +kernel
theorem dX4_about_113 : decode cX4_about 113 = .ok (.aload_n 0, 1) := by decide +kernel
theorem dX4_about_114 : decode cX4_about 114 = .ok (.getfield 93, 3) := by decide +kernel
theorem dX4_about_117 : decode cX4_about 117 = .ok (.ireturn, 1) := by decide +kernel
theorem dX4_about_118 : decode cX4_about 118 = .ok (.aload_n 0, 1) := by decide +kernel
theorem dX4_about_119 : decode cX4_about 119 = .ok (.getfield 62, 3) := by decide +kernel
theorem dX4_about_122 : decode cX4_about 122 = .ok (.ireturn, 1) := by decide +kernel
theorem dX4_about_123 : decode cX4_about 123 = .ok (.bipush (-2), 2) := by decide +kernel
theorem dX4_about_125 : decode cX4_about 125 = .ok (.ireturn, 1) := by decide +kernel
set_option maxRecDepth 20000 in
theorem ggX4_cell_X4_noCell : GoodIn wsX4_cell wsX4_noCell := goodIn_r _ [7, 8, 9, 10, 6, 11] (by decide +kernel) (by decide +kernel)
set_option maxRecDepth 20000 in
theorem gX4_cell_X4_noCell : GoodIn wsX4_cell (va_wsS RX4 78 yX4_noCell wsX4_noCell) := goodIn_app (goodIn_of _ (by decide +kernel)) ggX4_cell_X4_noCell
set_option maxRecDepth 20000 in
theorem ggX4_cell_X4_goodOf : GoodIn wsX4_cell wsX4_goodOf := goodIn_r _ [15, 2, 16, 17, 18, 19, 20, 21, 22, 23, 24, 25, 26, 27, 28, 29, 30, 31, 32, 33, 34, 35, 36, 37, 38, 39, 40] (by decide +kernel) (by decide +kernel)
set_option maxRecDepth 20000 in
theorem gX4_cell_X4_goodOf : GoodIn wsX4_cell (wsV RX4 103 RX4 yX4_goodOf wsX4_goodOf) := goodIn_app (goodIn_of _ (by decide +kernel)) ggX4_cell_X4_goodOf
theorem dX4_cell_0 : decode cX4_cell 0 = .ok (.aload_n 0, 1) := by decide +kernel
theorem dX4_cell_1 : decode cX4_cell 1 = .ok (.iconst 0, 1) := by decide +kernel
theorem dX4_cell_2 : decode cX4_cell 2 = .ok (.putfield 50, 3) := by decide +kernel
theorem dX4_cell_5 : decode cX4_cell 5 = .ok (.iload_n 1, 1) := by decide +kernel
theorem dX4_cell_6 : decode cX4_cell 6 = .ok (.invokestatic 78, 3) := by decide +kernel
theorem dX4_cell_9 : decode cX4_cell 9 = .ok (.ifCond .eq 5, 3) := by decide +kernel
theorem dX4_cell_12 : decode cX4_cell 12 = .ok (.iconst (-1), 1) := by decide +kernel
theorem dX4_cell_13 : decode cX4_cell 13 = .ok (.ireturn, 1) := by decide +kernel
theorem dX4_cell_14 : decode cX4_cell 14 = .ok (.iload_n 2, 1) := by decide +kernel
theorem dX4_cell_15 : decode cX4_cell 15 = .ok (.tableswitch 51 0 2 #[25, 32, 41], 25) := by decide +kernel
theorem dX4_cell_40 : decode cX4_cell 40 = .ok (.aload_n 0, 1) := by decide +kernel
theorem dX4_cell_41 : decode cX4_cell 41 = .ok (.getfield 13, 3) := by decide +kernel
theorem dX4_cell_44 : decode cX4_cell 44 = .ok (.iload_n 1, 1) := by decide +kernel
theorem dX4_cell_45 : decode cX4_cell 45 = .ok (.iaload, 1) := by decide +kernel
theorem dX4_cell_46 : decode cX4_cell 46 = .ok (.ireturn, 1) := by decide +kernel
theorem dX4_cell_47 : decode cX4_cell 47 = .ok (.aload_n 0, 1) := by decide +kernel
theorem dX4_cell_48 : decode cX4_cell 48 = .ok (.getfield 22, 3) := by decide +kernel
theorem dX4_cell_51 : decode cX4_cell 51 = .ok (.iconst 0, 1) := by decide +kernel
theorem dX4_cell_52 : decode cX4_cell 52 = .ok (.iload_n 1, 1) := by decide +kernel
theorem dX4_cell_53 : decode cX4_cell 53 = .ok (.iadd, 1) := by decide +kernel
theorem dX4_cell_54 : decode cX4_cell 54 = .ok (.iaload, 1) := by decide +kernel
theorem dX4_cell_55 : decode cX4_cell 55 = .ok (.ireturn, 1) := by decide +kernel
theorem dX4_cell_56 : decode cX4_cell 56 = .ok (.aload_n 0, 1) := by decide +kernel
theorem dX4_cell_57 : decode cX4_cell 57 = .ok (.aload_n 0, 1) := by decide +kernel
theorem dX4_cell_58 : decode cX4_cell 58 = .ok (.getfield 22, 3) := by decide +kernel
theorem dX4_cell_61 : decode cX4_cell 61 = .ok (.iload_n 1, 1) := by decide +kernel
theorem dX4_cell_62 : decode cX4_cell 62 = .ok (.invokevirtual 103, 3) := by decide +kernel
theorem dX4_cell_65 : decode cX4_cell 65 = .ok (.ireturn, 1) := by decide +kernel
theorem dX4_cell_66 : decode cX4_cell 66 = .ok (.bipush (-2), 2) := by decide +kernel
theorem dX4_cell_68 : decode cX4_cell 68 = .ok (.ireturn, 1) := by decide +kernel
theorem dX4_to_0 : decode cX4_to 0 = .ok (.iload_n 1, 1) := by decide +kernel
theorem dX4_to_1 : decode cX4_to 1 = .ok (.ifCond .ne 17, 3) := by decide +kernel
theorem dX4_to_4 : decode cX4_to 4 = .ok (.iload_n 0, 1) := by decide +kernel
theorem dX4_to_5 : decode cX4_to 5 = .ok (.iconst 4, 1) := by decide +kernel
theorem dX4_to_6 : decode cX4_to 6 = .ok (.if_icmp .ge 8, 3) := by decide +kernel
theorem dX4_to_9 : decode cX4_to 9 = .ok (.bipush (-9), 2) := by decide +kernel
theorem dX4_to_11 : decode cX4_to 11 = .ok (.goto 6, 3) := by decide +kernel
theorem dX4_to_14 : decode cX4_to 14 = .ok (.iload_n 0, 1) := by decide +kernel
theorem dX4_to_15 : decode cX4_to 15 = .ok (.iconst 4, 1) := by decide +kernel
theorem dX4_to_16 : decode cX4_to 16 = .ok (.isub, 1) := by decide +kernel
theorem dX4_to_17 : decode cX4_to 17 = .ok (.ireturn, 1) := by decide +kernel
theorem dX4_to_18 : decode cX4_to 18 = .ok (.iload_n 1, 1) := by decide +kernel
theorem dX4_to_19 : decode cX4_to 19 = .ok (.iconst 1, 1) := by decide +kernel
theorem dX4_to_20 : decode cX4_to 20 = .ok (.if_icmp .ne 18, 3) := by decide +kernel
theorem dX4_to_23 : decode cX4_to 23 = .ok (.iload_n 0, 1) := by decide +kernel
theorem dX4_to_24 : decode cX4_to 24 = .ok (.bipush 7, 2) := by decide +kernel
theorem dX4_to_26 : decode cX4_to 26 = .ok (.if_icmp .le 8, 3) := by decide +kernel
theorem dX4_to_29 : decode cX4_to 29 = .ok (.bipush (-9), 2) := by decide +kernel
theorem dX4_to_31 : decode cX4_to 31 = .ok (.goto 6, 3) := by decide +kernel
theorem dX4_to_34 : decode cX4_to 34 = .ok (.iload_n 0, 1) := by decide +kernel
theorem dX4_to_35 : decode cX4_to 35 = .ok (.iconst 4, 1) := by decide +kernel
theorem dX4_to_36 : decode cX4_to 36 = .ok (.iadd, 1) := by decide +kernel
theorem dX4_to_37 : decode cX4_to 37 = .ok (.ireturn, 1) := by decide +kernel
theorem dX4_to_38 : decode cX4_to 38 = .ok (.iload_n 1, 1) := by decide +kernel
theorem dX4_to_39 : decode cX4_to 39 = .ok (.iconst 2, 1) := by decide +kernel
theorem dX4_to_40 : decode cX4_to 40 = .ok (.if_icmp .ne 18, 3) := by decide +kernel
theorem dX4_to_43 : decode cX4_to 43 = .ok (.iload_n 0, 1) := by decide +kernel
theorem dX4_to_44 : decode cX4_to 44 = .ok (.iconst 4, 1) := by decide +kernel
theorem dX4_to_45 : decode cX4_to 45 = .ok (.irem, 1) := by decide +kernel
theorem dX4_to_46 : decode cX4_to 46 = .ok (.ifCond .ne 8, 3) := by decide +kernel
theorem dX4_to_49 : decode cX4_to 49 = .ok (.bipush (-9), 2) := by decide +kernel
theorem dX4_to_51 : decode cX4_to 51 = .ok (.goto 6, 3) := by decide +kernel
theorem dX4_to_54 : decode cX4_to 54 = .ok (.iload_n 0, 1) := by decide +kernel
theorem dX4_to_55 : decode cX4_to 55 = .ok (.iconst 1, 1) := by decide +kernel
theorem dX4_to_56 : decode cX4_to 56 = .ok (.isub, 1) := by decide +kernel
theorem dX4_to_57 : decode cX4_to 57 = .ok (.ireturn, 1) := by decide +kernel
theorem dX4_to_58 : decode cX4_to 58 = .ok (.iload_n 0, 1) := by decide +kernel
theorem dX4_to_59 : decode cX4_to 59 = .ok (.iconst 4, 1) := by decide +kernel
theorem dX4_to_60 : decode cX4_to 60 = .ok (.irem, 1) := by decide +kernel
theorem dX4_to_61 : decode cX4_to 61 = .ok (.iconst 3, 1) := by decide +kernel
theorem dX4_to_62 : decode cX4_to 62 = .ok (.if_icmp .ne 8, 3) := by decide +kernel
theorem dX4_to_65 : decode cX4_to 65 = .ok (.bipush (-9), 2) := by decide +kernel
theorem dX4_to_67 : decode cX4_to 67 = .ok (.goto 6, 3) := by decide +kernel
theorem dX4_to_70 : decode cX4_to 70 = .ok (.iload_n 0, 1) := by decide +kernel
theorem dX4_to_71 : decode cX4_to 71 = .ok (.iconst 1, 1) := by decide +kernel
theorem dX4_to_72 : decode cX4_to 72 = .ok (.iadd, 1) := by decide +kernel
theorem dX4_to_73 : decode cX4_to 73 = .ok (.ireturn, 1) := by decide +kernel
theorem dX4_mayEnter_0 : decode cX4_mayEnter 0 = .ok (.iload_n 1, 1) := by decide +kernel
theorem dX4_mayEnter_1 : decode cX4_mayEnter 1 = .ok (.bipush (-9), 2) := by decide +kernel
theorem dX4_mayEnter_3 : decode cX4_mayEnter 3 = .ok (.if_icmp .eq 24, 3) := by decide +kernel
theorem dX4_mayEnter_6 : decode cX4_mayEnter 6 = .ok (.aload_n 0, 1) := by decide +kernel
theorem dX4_mayEnter_7 : decode cX4_mayEnter 7 = .ok (.iconst 0, 1) := by decide +kernel
theorem dX4_mayEnter_8 : decode cX4_mayEnter 8 = .ok (.iload_n 1, 1) := by decide +kernel
theorem dX4_mayEnter_9 : decode cX4_mayEnter 9 = .ok (.iadd, 1) := by decide +kernel
theorem dX4_mayEnter_10 : decode cX4_mayEnter 10 = .ok (.iaload, 1) := by decide +kernel
theorem dX4_mayEnter_11 : decode cX4_mayEnter 11 = .ok (.ifCond .le 16, 3) := by decide +kernel
theorem dX4_mayEnter_14 : decode cX4_mayEnter 14 = .ok (.aload_n 0, 1) := by decide +kernel
theorem dX4_mayEnter_15 : decode cX4_mayEnter 15 = .ok (.iconst 0, 1) := by decide +kernel
theorem dX4_mayEnter_16 : decode cX4_mayEnter 16 = .ok (.iload_n 1, 1) := by decide +kernel
theorem dX4_mayEnter_17 : decode cX4_mayEnter 17 = .ok (.iadd, 1) := by decide +kernel
theorem dX4_mayEnter_18 : decode cX4_mayEnter 18 = .ok (.iaload, 1) := by decide +kernel
theorem dX4_mayEnter_19 : decode cX4_mayEnter 19 = .ok (.iconst 4, 1) := by decide +kernel
theorem dX4_mayEnter_20 : decode cX4_mayEnter 20 = .ok (.if_icmp .ge 7, 3) := by decide +kernel
theorem dX4_mayEnter_23 : decode cX4_mayEnter 23 = .ok (.iconst 1, 1) := by decide +kernel
theorem dX4_mayEnter_24 : decode cX4_mayEnter 24 = .ok (.goto 4, 3) := by decide +kernel
theorem dX4_mayEnter_27 : decode cX4_mayEnter 27 = .ok (.iconst 0, 1) := by decide +kernel
theorem dX4_mayEnter_28 : decode cX4_mayEnter 28 = .ok (.ireturn, 1) := by decide +kernel
set_option maxRecDepth 20000 in
theorem ggX4_can_X4_to : GoodIn wsX4_can wsX4_to := goodIn_r _ [4] (by decide +kernel) (by decide +kernel)
set_option maxRecDepth 20000 in
theorem gX4_can_X4_to : GoodIn wsX4_can (va_wsS RX4 107 yX4_to wsX4_to) := goodIn_app (goodIn_of _ (by decide +kernel)) ggX4_can_X4_to
set_option maxRecDepth 20000 in
theorem ggX4_can_X4_mayEnter : GoodIn wsX4_can wsX4_mayEnter := goodIn_r _ [7] (by decide +kernel) (by decide +kernel)
set_option maxRecDepth 20000 in
theorem gX4_can_X4_mayEnter : GoodIn wsX4_can (va_wsS RX4 111 yX4_mayEnter wsX4_mayEnter) := goodIn_app (goodIn_of _ (by decide +kernel)) ggX4_can_X4_mayEnter
theorem dX4_can_0 : decode cX4_can 0 = .ok (.aload_n 0, 1) := by decide +kernel
theorem dX4_can_1 : decode cX4_can 1 = .ok (.bipush 13, 2) := by decide +kernel
theorem dX4_can_3 : decode cX4_can 3 = .ok (.iaload, 1) := by decide +kernel
theorem dX4_can_4 : decode cX4_can 4 = .ok (.ifCond .le 27, 3) := by decide +kernel
theorem dX4_can_7 : decode cX4_can 7 = .ok (.iload_n 1, 1) := by decide +kernel
theorem dX4_can_8 : decode cX4_can 8 = .ok (.iconst 4, 1) := by decide +kernel
theorem dX4_can_9 : decode cX4_can 9 = .ok (.if_icmp .eq 18, 3) := by decide +kernel
theorem dX4_can_12 : decode cX4_can 12 = .ok (.aload_n 0, 1) := by decide +kernel
theorem dX4_can_13 : decode cX4_can 13 = .ok (.aload_n 0, 1) := by decide +kernel
theorem dX4_can_14 : decode cX4_can 14 = .ok (.bipush 12, 2) := by decide +kernel
theorem dX4_can_16 : decode cX4_can 16 = .ok (.iaload, 1) := by decide +kernel
theorem dX4_can_17 : decode cX4_can 17 = .ok (.iload_n 1, 1) := by decide +kernel
theorem dX4_can_18 : decode cX4_can 18 = .ok (.invokestatic 107, 3) := by decide +kernel
theorem dX4_can_21 : decode cX4_can 21 = .ok (.invokestatic 111, 3) := by decide +kernel
theorem dX4_can_24 : decode cX4_can 24 = .ok (.ifCond .eq 7, 3) := by decide +kernel
theorem dX4_can_27 : decode cX4_can 27 = .ok (.iconst 1, 1) := by decide +kernel
theorem dX4_can_28 : decode cX4_can 28 = .ok (.goto 4, 3) := by decide +kernel
theorem dX4_can_31 : decode cX4_can 31 = .ok (.iconst 0, 1) := by decide +kernel
theorem dX4_can_32 : decode cX4_can 32 = .ok (.ireturn, 1) := by decide +kernel
set_option maxRecDepth 20000 in
theorem ggX4_step_X4_to : GoodIn wsX4_step wsX4_to := goodIn_r _ [5] (by decide +kernel) (by decide +kernel)
set_option maxRecDepth 20000 in
theorem gX4_step_X4_to : GoodIn wsX4_step (va_wsS RX4 107 yX4_to wsX4_to) := goodIn_app (goodIn_of _ (by decide +kernel)) ggX4_step_X4_to
set_option maxRecDepth 20000 in
theorem ggX4_step_X4_has : GoodIn wsX4_step wsX4_has := goodIn_r _ [8] (by decide +kernel) (by decide +kernel)
set_option maxRecDepth 20000 in
theorem gX4_step_X4_has : GoodIn wsX4_step (va_wsS RX4 115 yX4_has wsX4_has) := goodIn_app (goodIn_of _ (by decide +kernel)) ggX4_step_X4_has
set_option maxRecDepth 20000 in
theorem ggX4_step_X4_goodOf : GoodIn wsX4_step wsX4_goodOf := goodIn_r _ [12, 1, 13, 14, 15, 16, 17, 18, 19, 20, 21, 22, 23, 24, 25, 26, 27, 28, 29, 30, 31, 32, 33, 34, 35, 36, 37] (by decide +kernel) (by decide +kernel)
set_option maxRecDepth 20000 in
theorem gX4_step_X4_goodOf : GoodIn wsX4_step (wsV RX4 103 RX4 yX4_goodOf wsX4_goodOf) := goodIn_app (goodIn_of _ (by decide +kernel)) ggX4_step_X4_goodOf
theorem dX4_step_0 : decode cX4_step 0 = .ok (.aload_n 1, 1) := by decide +kernel
theorem dX4_step_1 : decode cX4_step 1 = .ok (.bipush 13, 2) := by decide +kernel
theorem dX4_step_3 : decode cX4_step 3 = .ok (.dup2, 1) := by decide +kernel
theorem dX4_step_4 : decode cX4_step 4 = .ok (.iaload, 1) := by decide +kernel
theorem dX4_step_5 : decode cX4_step 5 = .ok (.iconst 1, 1) := by decide +kernel
theorem dX4_step_6 : decode cX4_step 6 = .ok (.isub, 1) := by decide +kernel
theorem dX4_step_7 : decode cX4_step 7 = .ok (.iastore, 1) := by decide +kernel
theorem dX4_step_8 : decode cX4_step 8 = .ok (.aload_n 1, 1) := by decide +kernel
theorem dX4_step_9 : decode cX4_step 9 = .ok (.bipush 16, 2) := by decide +kernel
theorem dX4_step_11 : decode cX4_step 11 = .ok (.dup2, 1) := by decide +kernel
theorem dX4_step_12 : decode cX4_step 12 = .ok (.iaload, 1) := by decide +kernel
theorem dX4_step_13 : decode cX4_step 13 = .ok (.iconst 1, 1) := by decide +kernel
theorem dX4_step_14 : decode cX4_step 14 = .ok (.iadd, 1) := by decide +kernel
theorem dX4_step_15 : decode cX4_step 15 = .ok (.iastore, 1) := by decide +kernel
theorem dX4_step_16 : decode cX4_step 16 = .ok (.iload_n 2, 1) := by decide +kernel
theorem dX4_step_17 : decode cX4_step 17 = .ok (.iconst 4, 1) := by decide +kernel
theorem dX4_step_18 : decode cX4_step 18 = .ok (.if_icmp .eq 76, 3) := by decide +kernel
theorem dX4_step_21 : decode cX4_step 21 = .ok (.aload_n 1, 1) := by decide +kernel
theorem dX4_step_22 : decode cX4_step 22 = .ok (.bipush 12, 2) := by decide +kernel
theorem dX4_step_24 : decode cX4_step 24 = .ok (.iaload, 1) := by decide +kernel
theorem dX4_step_25 : decode cX4_step 25 = .ok (.iload_n 2, 1) := by decide +kernel
theorem dX4_step_26 : decode cX4_step 26 = .ok (.invokestatic 107, 3) := by decide +kernel
theorem dX4_step_29 : decode cX4_step 29 = .ok (.istore_n 3, 1) := by decide +kernel
theorem dX4_step_30 : decode cX4_step 30 = .ok (.aload_n 0, 1) := by decide +kernel
theorem dX4_step_31 : decode cX4_step 31 = .ok (.getfield 13, 3) := by decide +kernel
theorem dX4_step_34 : decode cX4_step 34 = .ok (.iload_n 3, 1) := by decide +kernel
theorem dX4_step_35 : decode cX4_step 35 = .ok (.iaload, 1) := by decide +kernel
theorem dX4_step_36 : decode cX4_step 36 = .ok (.iconst 4, 1) := by decide +kernel
theorem dX4_step_37 : decode cX4_step 37 = .ok (.if_icmp .ne 14, 3) := by decide +kernel
theorem dX4_step_40 : decode cX4_step 40 = .ok (.aload_n 1, 1) := by decide +kernel
theorem dX4_step_41 : decode cX4_step 41 = .ok (.bipush 14, 2) := by decide +kernel
theorem dX4_step_43 : decode cX4_step 43 = .ok (.dup2, 1) := by decide +kernel
theorem dX4_step_44 : decode cX4_step 44 = .ok (.iaload, 1) := by decide +kernel
theorem dX4_step_45 : decode cX4_step 45 = .ok (.iconst 1, 1) := by decide +kernel
theorem dX4_step_46 : decode cX4_step 46 = .ok (.iadd, 1) := by decide +kernel
theorem dX4_step_47 : decode cX4_step 47 = .ok (.iastore, 1) := by decide +kernel
theorem dX4_step_48 : decode cX4_step 48 = .ok (.goto 46, 3) := by decide +kernel
theorem dX4_step_51 : decode cX4_step 51 = .ok (.aload_n 1, 1) := by decide +kernel
theorem dX4_step_52 : decode cX4_step 52 = .ok (.bipush 12, 2) := by decide +kernel
theorem dX4_step_54 : decode cX4_step 54 = .ok (.iload_n 3, 1) := by decide +kernel
theorem dX4_step_55 : decode cX4_step 55 = .ok (.iastore, 1) := by decide +kernel
theorem dX4_step_56 : decode cX4_step 56 = .ok (.aload_n 1, 1) := by decide +kernel
