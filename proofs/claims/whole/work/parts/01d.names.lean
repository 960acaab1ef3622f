theorem inlX0 : ∀ w ∈ wsX00, w ∈ wsL_law := fun _ h => List.mem_append_left _ (List.mem_append_right _ h)
theorem inX0 : ∀ w ∈ wsX00, w ∈ lw_tbl := fun w h => wsL_law_in w (inlX0 w h)
theorem inlX1 : ∀ w ∈ wsX10, w ∈ wsL_law := fun _ h => List.mem_append_left _ (List.mem_append_left _ (List.mem_append_right _ h))
theorem inX1 : ∀ w ∈ wsX10, w ∈ lw_tbl := fun w h => wsL_law_in w (inlX1 w h)
theorem inlX2 : ∀ w ∈ wsX20, w ∈ wsL_law := fun _ h => List.mem_append_left _ (List.mem_append_left _ (List.mem_append_left _ (List.mem_append_right _ h)))
theorem inX2 : ∀ w ∈ wsX20, w ∈ lw_tbl := fun w h => wsL_law_in w (inlX2 w h)
theorem inlX3 : ∀ w ∈ wsX30, w ∈ wsL_law := fun _ h => List.mem_append_left _ (List.mem_append_left _ (List.mem_append_left _ (List.mem_append_left _ (List.mem_append_left _ (List.mem_append_right _ h)))))
theorem inX3 : ∀ w ∈ wsX30, w ∈ lw_tbl := fun w h => wsL_law_in w (inlX3 w h)
theorem inlX4 : ∀ w ∈ wsX40, w ∈ wsL_law := fun _ h => List.mem_append_left _ (List.mem_append_left _ (List.mem_append_left _ (List.mem_append_left _ (List.mem_append_right _ h))))
theorem inX4 : ∀ w ∈ wsX40, w ∈ lw_tbl := fun w h => wsL_law_in w (inlX4 w h)
theorem inJ6 : ∀ w ∈ wsJ60, w ∈ lw_tbl := by decide +kernel
theorem inJ9 : ∀ w ∈ wsJ90, w ∈ lw_tbl := by decide +kernel
set_option maxRecDepth 20000 in
theorem ggX0_init_X1_init : GoodIn wsX0_init wsX1_init := goodIn_r _ [10, 11, 2, 3, 12, 15, 16, 17, 18, 19, 20, 21, 22] (by decide +kernel) (by decide +kernel)
set_option maxRecDepth 20000 in
theorem gX0_init_X1_init : GoodIn wsX0_init (wsX1_init) := ggX0_init_X1_init
theorem dX0_init_0 : decode cX0_init 0 = .ok (.aload_n 0, 1) := by decide +kernel
theorem dX0_init_1 : decode cX0_init 1 = .ok (.invokespecial 3, 3) := by decide +kernel
theorem dX0_init_4 : decode cX0_init 4 = .ok (.aload_n 0, 1) := by decide +kernel
theorem dX0_init_5 : decode cX0_init 5 = .ok (.bipush 14, 2) := by decide +kernel
theorem dX0_init_7 : decode cX0_init 7 = .ok (.anewarray 9, 3) := by decide +kernel
theorem dX0_init_10 : decode cX0_init 10 = .ok (.putfield 11, 3) := by decide +kernel
theorem dX0_init_13 : decode cX0_init 13 = .ok (.iconst 0, 1) := by decide +kernel
theorem dX0_init_14 : decode cX0_init 14 = .ok (.istore_n 1, 1) := by decide +kernel
theorem dX0_init_15 : decode cX0_init 15 = .ok (.iload_n 1, 1) := by decide +kernel
theorem dX0_init_16 : decode cX0_init 16 = .ok (.aload_n 0, 1) := by decide +kernel
theorem dX0_init_17 : decode cX0_init 17 = .ok (.getfield 11, 3) := by decide +kernel
theorem dX0_init_20 : decode cX0_init 20 = .ok (.arraylength, 1) := by decide +kernel
theorem dX0_init_21 : decode cX0_init 21 = .ok (.if_icmp .ge 23, 3) := by decide +kernel
theorem dX0_init_24 : decode cX0_init 24 = .ok (.aload_n 0, 1) := by decide +kernel
theorem dX0_init_25 : decode cX0_init 25 = .ok (.getfield 11, 3) := by decide +kernel
theorem dX0_init_28 : decode cX0_init 28 = .ok (.iload_n 1, 1) := by decide +kernel
theorem dX0_init_29 : decode cX0_init 29 = .ok (.new 9, 3) := by decide +kernel
theorem dX0_init_32 : decode cX0_init 32 = .ok (.dup, 1) := by decide +kernel
theorem dX0_init_33 : decode cX0_init 33 = .ok (.aconst_null, 1) := by decide +kernel
theorem dX0_init_34 : decode cX0_init 34 = .ok (.invokespecial 17, 3) := by decide +kernel
theorem dX0_init_37 : decode cX0_init 37 = .ok (.aastore, 1) := by decide +kernel
theorem dX0_init_38 : decode cX0_init 38 = .ok (.iinc 1 1, 3) := by decide +kernel
theorem dX0_init_41 : decode cX0_init 41 = .ok (.goto (-26), 3) := by decide +kernel
theorem dX0_init_44 : decode cX0_init 44 = .ok (.return_, 1) := by decide +kernel
set_option maxRecDepth 20000 in
theorem ggX0_add_X0_forgetFirst : GoodIn wsX0_add wsX0_forgetFirst := goodIn_r _ [7, 2, 1, 24, 25] (by decide +kernel) (by decide +kernel)
set_option maxRecDepth 20000 in
theorem gX0_add_X0_forgetFirst : GoodIn wsX0_add (wsV RX0 24 RX0 yX0_forgetFirst wsX0_forgetFirst) := goodIn_app (goodIn_of _ (by decide +kernel)) ggX0_add_X0_forgetFirst
set_option maxRecDepth 20000 in
theorem ggX0_add_X0_lifeOf : GoodIn wsX0_add wsX0_lifeOf := goodIn_r _ [11, 2, 24, 25] (by decide +kernel) (by decide +kernel)
set_option maxRecDepth 20000 in
theorem gX0_add_X0_lifeOf : GoodIn wsX0_add (wsV RX0 27 RX0 yX0_lifeOf wsX0_lifeOf) := goodIn_app (goodIn_of _ (by decide +kernel)) ggX0_add_X0_lifeOf
set_option maxRecDepth 20000 in
theorem ggX0_add_X1_become : GoodIn wsX0_add wsX1_become := goodIn_r _ [16, 17, 18, 19, 20, 21, 22, 23, 26, 27, 28, 29, 30, 31, 32, 33] (by decide +kernel) (by decide +kernel)
set_option maxRecDepth 20000 in
theorem gX0_add_X1_become : GoodIn wsX0_add (wsV RX0 31 RX1 yX1_become wsX1_become) := goodIn_app (goodIn_of _ (by decide +kernel)) ggX0_add_X1_become
theorem dX0_add_0 : decode cX0_add 0 = .ok (.aload_n 0, 1) := by decide +kernel
theorem dX0_add_1 : decode cX0_add 1 = .ok (.getfield 20, 3) := by decide +kernel
theorem dX0_add_4 : decode cX0_add 4 = .ok (.aload_n 0, 1) := by decide +kernel
theorem dX0_add_5 : decode cX0_add 5 = .ok (.getfield 11, 3) := by decide +kernel
theorem dX0_add_8 : decode cX0_add 8 = .ok (.arraylength, 1) := by decide +kernel
theorem dX0_add_9 : decode cX0_add 9 = .ok (.if_icmp .lt 7, 3) := by decide +kernel
theorem dX0_add_12 : decode cX0_add 12 = .ok (.aload_n 0, 1) := by decide +kernel
theorem dX0_add_13 : decode cX0_add 13 = .ok (.invokevirtual 24, 3) := by decide +kernel
theorem dX0_add_16 : decode cX0_add 16 = .ok (.aload_n 0, 1) := by decide +kernel
theorem dX0_add_17 : decode cX0_add 17 = .ok (.aload_n 0, 1) := by decide +kernel
theorem dX0_add_18 : decode cX0_add 18 = .ok (.getfield 20, 3) := by decide +kernel
theorem dX0_add_21 : decode cX0_add 21 = .ok (.invokevirtual 27, 3) := by decide +kernel
theorem dX0_add_24 : decode cX0_add 24 = .ok (.astore_n 2, 1) := by decide +kernel
theorem dX0_add_25 : decode cX0_add 25 = .ok (.aload_n 2, 1) := by decide +kernel
theorem dX0_add_26 : decode cX0_add 26 = .ok (.ifnull 18, 3) := by decide +kernel
theorem dX0_add_29 : decode cX0_add 29 = .ok (.aload_n 2, 1) := by decide +kernel
theorem dX0_add_30 : decode cX0_add 30 = .ok (.aload_n 1, 1) := by decide +kernel
theorem dX0_add_31 : decode cX0_add 31 = .ok (.invokevirtual 31, 3) := by decide +kernel
theorem dX0_add_34 : decode cX0_add 34 = .ok (.aload_n 0, 1) := by decide +kernel
theorem dX0_add_35 : decode cX0_add 35 = .ok (.dup, 1) := by decide +kernel
theorem dX0_add_36 : decode cX0_add 36 = .ok (.getfield 20, 3) := by decide +kernel
theorem dX0_add_39 : decode cX0_add 39 = .ok (.iconst 1, 1) := by decide +kernel
theorem dX0_add_40 : decode cX0_add 40 = .ok (.iadd, 1) := by decide +kernel
theorem dX0_add_41 : decode cX0_add 41 = .ok (.putfield 20, 3) := by decide +kernel
theorem dX0_add_44 : decode cX0_add 44 = .ok (.return_, 1) := by decide +kernel
set_option maxRecDepth 20000 in
theorem ggX0_takeBack_X0_lifeOf : GoodIn wsX0_takeBack wsX0_lifeOf := goodIn_r _ [6, 7, 20, 21] (by decide +kernel) (by decide +kernel)
set_option maxRecDepth 20000 in
theorem gX0_takeBack_X0_lifeOf : GoodIn wsX0_takeBack (wsV RX0 27 RX0 yX0_lifeOf wsX0_lifeOf) := goodIn_app (goodIn_of _ (by decide +kernel)) ggX0_takeBack_X0_lifeOf
set_option maxRecDepth 20000 in
theorem ggX0_takeBack_X1_become : GoodIn wsX0_takeBack wsX1_become := goodIn_r _ [12, 13, 14, 15, 16, 17, 18, 19, 22, 23, 24, 25, 26, 27, 28, 29] (by decide +kernel) (by decide +kernel)
set_option maxRecDepth 20000 in
theorem gX0_takeBack_X1_become : GoodIn wsX0_takeBack (wsV RX0 31 RX1 yX1_become wsX1_become) := goodIn_app (goodIn_of _ (by decide +kernel)) ggX0_takeBack_X1_become
theorem dX0_takeBack_0 : decode cX0_takeBack 0 = .ok (.aload_n 0, 1) := by decide +kernel
theorem dX0_takeBack_1 : decode cX0_takeBack 1 = .ok (.aload_n 0, 1) := by decide +kernel
theorem dX0_takeBack_2 : decode cX0_takeBack 2 = .ok (.getfield 20, 3) := by decide +kernel
theorem dX0_takeBack_5 : decode cX0_takeBack 5 = .ok (.iconst 1, 1) := by decide +kernel
theorem dX0_takeBack_6 : decode cX0_takeBack 6 = .ok (.isub, 1) := by decide +kernel
theorem dX0_takeBack_7 : decode cX0_takeBack 7 = .ok (.invokevirtual 27, 3) := by decide +kernel
theorem dX0_takeBack_10 : decode cX0_takeBack 10 = .ok (.astore_n 2, 1) := by decide +kernel
theorem dX0_takeBack_11 : decode cX0_takeBack 11 = .ok (.aload_n 2, 1) := by decide +kernel
theorem dX0_takeBack_12 : decode cX0_takeBack 12 = .ok (.ifnonnull 5, 3) := by decide +kernel
theorem dX0_takeBack_15 : decode cX0_takeBack 15 = .ok (.iconst 0, 1) := by decide +kernel
theorem dX0_takeBack_16 : decode cX0_takeBack 16 = .ok (.ireturn, 1) := by decide +kernel
theorem dX0_takeBack_17 : decode cX0_takeBack 17 = .ok (.aload_n 1, 1) := by decide +kernel
theorem dX0_takeBack_18 : decode cX0_takeBack 18 = .ok (.aload_n 2, 1) := by decide +kernel
theorem dX0_takeBack_19 : decode cX0_takeBack 19 = .ok (.invokevirtual 31, 3) := by decide +kernel
theorem dX0_takeBack_22 : decode cX0_takeBack 22 = .ok (.aload_n 0, 1) := by decide +kernel
theorem dX0_takeBack_23 : decode cX0_takeBack 23 = .ok (.dup, 1) := by decide +kernel
theorem dX0_takeBack_24 : decode cX0_takeBack 24 = .ok (.getfield 20, 3) := by decide +kernel
theorem dX0_takeBack_27 : decode cX0_takeBack 27 = .ok (.iconst 1, 1) := by decide +kernel
theorem dX0_takeBack_28 : decode cX0_takeBack 28 = .ok (.isub, 1) := by decide +kernel
theorem dX0_takeBack_29 : decode cX0_takeBack 29 = .ok (.putfield 20, 3) := by decide +kernel
theorem dX0_takeBack_32 : decode cX0_takeBack 32 = .ok (.iconst 1, 1) := by decide +kernel
theorem dX0_takeBack_33 : decode cX0_takeBack 33 = .ok (.ireturn, 1) := by decide +kernel
theorem dX0_forgetFirst_0 : decode cX0_forgetFirst 0 = .ok (.iconst 1, 1) := by decide +kernel
theorem dX0_forgetFirst_1 : decode cX0_forgetFirst 1 = .ok (.istore_n 1, 1) := by decide +kernel
theorem dX0_forgetFirst_2 : decode cX0_forgetFirst 2 = .ok (.iload_n 1, 1) := by decide +kernel
theorem dX0_forgetFirst_3 : decode cX0_forgetFirst 3 = .ok (.aload_n 0, 1) := by decide +kernel
theorem dX0_forgetFirst_4 : decode cX0_forgetFirst 4 = .ok (.getfield 11, 3) := by decide +kernel
theorem dX0_forgetFirst_7 : decode cX0_forgetFirst 7 = .ok (.arraylength, 1) := by decide +kernel
theorem dX0_forgetFirst_8 : decode cX0_forgetFirst 8 = .ok (.if_icmp .ge 39, 3) := by decide +kernel
theorem dX0_forgetFirst_11 : decode cX0_forgetFirst 11 = .ok (.aload_n 0, 1) := by decide +kernel
theorem dX0_forgetFirst_12 : decode cX0_forgetFirst 12 = .ok (.getfield 11, 3) := by decide +kernel
theorem dX0_forgetFirst_15 : decode cX0_forgetFirst 15 = .ok (.iload_n 1, 1) := by decide +kernel
theorem dX0_forgetFirst_16 : decode cX0_forgetFirst 16 = .ok (.iconst 1, 1) := by decide +kernel
theorem dX0_forgetFirst_17 : decode cX0_forgetFirst 17 = .ok (.isub, 1) := by decide +kernel
theorem dX0_forgetFirst_18 : decode cX0_forgetFirst 18 = .ok (.aaload, 1) := by decide +kernel
theorem dX0_forgetFirst_19 : decode cX0_forgetFirst 19 = .ok (.astore_n 2, 1) := by decide +kernel
theorem dX0_forgetFirst_20 : decode cX0_forgetFirst 20 = .ok (.aload_n 0, 1) := by decide +kernel
theorem dX0_forgetFirst_21 : decode cX0_forgetFirst 21 = .ok (.getfield 11, 3) := by decide +kernel
theorem dX0_forgetFirst_24 : decode cX0_forgetFirst 24 = .ok (.iload_n 1, 1) := by decide +kernel
theorem dX0_forgetFirst_25 : decode cX0_forgetFirst 25 = .ok (.iconst 1, 1) := by decide +kernel
theorem dX0_forgetFirst_26 : decode cX0_forgetFirst 26 = .ok (.isub, 1) := by decide +kernel
theorem dX0_forgetFirst_27 : decode cX0_forgetFirst 27 = .ok (.aload_n 0, 1) := by decide +kernel
theorem dX0_forgetFirst_28 : decode cX0_forgetFirst 28 = .ok (.getfield 11, 3) := by decide +kernel
theorem dX0_forgetFirst_31 : decode cX0_forgetFirst 31 = .ok (.iload_n 1, 1) := by decide +kernel
theorem dX0_forgetFirst_32 : decode cX0_forgetFirst 32 = .ok (.aaload, 1) := by decide +kernel
theorem dX0_forgetFirst_33 : decode cX0_forgetFirst 33 = .ok (.aastore, 1) := by decide +kernel
theorem dX0_forgetFirst_34 : decode cX0_forgetFirst 34 = .ok (.aload_n 0, 1) := by decide +kernel
theorem dX0_forgetFirst_35 : decode cX0_forgetFirst 35 = .ok (.getfield 11, 3) := by decide +kernel
theorem dX0_forgetFirst_38 : decode cX0_forgetFirst 38 = .ok (.iload_n 1, 1) := by decide +kernel
theorem dX0_forgetFirst_39 : decode cX0_forgetFirst 39 = .ok (.aload_n 2, 1) := by decide +kernel
theorem dX0_forgetFirst_40 : decode cX0_forgetFirst 40 = .ok (.aastore, 1) := by decide +kernel
theorem dX0_forgetFirst_41 : decode cX0_forgetFirst 41 = .ok (.iinc 1 1, 3) := by decide +kernel
theorem dX0_forgetFirst_44 : decode cX0_forgetFirst 44 = .ok (.goto (-42), 3) := by decide +kernel
theorem dX0_forgetFirst_47 : decode cX0_forgetFirst 47 = .ok (.aload_n 0, 1) := by decide +kernel
theorem dX0_forgetFirst_48 : decode cX0_forgetFirst 48 = .ok (.aload_n 0, 1) := by decide +kernel
theorem dX0_forgetFirst_49 : decode cX0_forgetFirst 49 = .ok (.getfield 11, 3) := by decide +kernel
theorem dX0_forgetFirst_52 : decode cX0_forgetFirst 52 = .ok (.arraylength, 1) := by decide +kernel
theorem dX0_forgetFirst_53 : decode cX0_forgetFirst 53 = .ok (.iconst 1, 1) := by decide +kernel
theorem dX0_forgetFirst_54 : decode cX0_forgetFirst 54 = .ok (.isub, 1) := by decide +kernel
theorem dX0_forgetFirst_55 : decode cX0_forgetFirst 55 = .ok (.putfield 20, 3) := by decide +kernel
theorem dX0_forgetFirst_58 : decode cX0_forgetFirst 58 = .ok (.return_, 1) := by decide +kernel
theorem dX0_lifeOf_0 : decode cX0_lifeOf 0 = .ok (.iload_n 1, 1) := by decide +kernel
theorem dX0_lifeOf_1 : decode cX0_lifeOf 1 = .ok (.ifCond .lt 21, 3) := by decide +kernel
theorem dX0_lifeOf_4 : decode cX0_lifeOf 4 = .ok (.iload_n 1, 1) := by decide +kernel
theorem dX0_lifeOf_5 : decode cX0_lifeOf 5 = .ok (.aload_n 0, 1) := by decide +kernel
theorem dX0_lifeOf_6 : decode cX0_lifeOf 6 = .ok (.getfield 11, 3) := by decide +kernel
theorem dX0_lifeOf_9 : decode cX0_lifeOf 9 = .ok (.arraylength, 1) := by decide +kernel
theorem dX0_lifeOf_10 : decode cX0_lifeOf 10 = .ok (.if_icmp .ge 12, 3) := by decide +kernel
theorem dX0_lifeOf_13 : decode cX0_lifeOf 13 = .ok (.aload_n 0, 1) := by decide +kernel
theorem dX0_lifeOf_14 : decode cX0_lifeOf 14 = .ok (.getfield 11, 3) := by decide +kernel
theorem dX0_lifeOf_17 : decode cX0_lifeOf 17 = .ok (.iload_n 1, 1) := by decide +kernel
theorem dX0_lifeOf_18 : decode cX0_lifeOf 18 = .ok (.aaload, 1) := by decide +kernel
theorem dX0_lifeOf_19 : decode cX0_lifeOf 19 = .ok (.goto 4, 3) := by decide +kernel
theorem dX0_lifeOf_22 : decode cX0_lifeOf 22 = .ok (.aconst_null, 1) := by decide +kernel
theorem dX0_lifeOf_23 : decode cX0_lifeOf 23 = .ok (.areturn, 1) := by decide +kernel
theorem dX1_init_0 : decode cX1_init 0 = .ok (.aload_n 0, 1) := by decide +kernel
theorem dX1_init_1 : decode cX1_init 1 = .ok (.invokespecial 3, 3) := by decide +kernel
theorem dX1_init_4 : decode cX1_init 4 = .ok (.aload_n 0, 1) := by decide +kernel
theorem dX1_init_5 : decode cX1_init 5 = .ok (.aload_n 1, 1) := by decide +kernel
theorem dX1_init_6 : decode cX1_init 6 = .ok (.putfield 9, 3) := by decide +kernel
theorem dX1_init_9 : decode cX1_init 9 = .ok (.return_, 1) := by decide +kernel
theorem dX1_become_0 : decode cX1_become 0 = .ok (.aload_n 1, 1) := by decide +kernel
theorem dX1_become_1 : decode cX1_become 1 = .ok (.ifnonnull 4, 3) := by decide +kernel
theorem dX1_become_4 : decode cX1_become 4 = .ok (.return_, 1) := by decide +kernel
theorem dX1_become_5 : decode cX1_become 5 = .ok (.aload_n 0, 1) := by decide +kernel
theorem dX1_become_6 : decode cX1_become 6 = .ok (.aload_n 1, 1) := by decide +kernel
theorem dX1_become_7 : decode cX1_become 7 = .ok (.getfield 15, 3) := by decide +kernel
theorem dX1_become_10 : decode cX1_become 10 = .ok (.putfield 15, 3) := by decide +kernel
theorem dX1_become_13 : decode cX1_become 13 = .ok (.aload_n 0, 1) := by decide +kernel
theorem dX1_become_14 : decode cX1_become 14 = .ok (.aload_n 1, 1) := by decide +kernel
theorem dX1_become_15 : decode cX1_become 15 = .ok (.getfield 19, 3) := by decide +kernel
theorem dX1_become_18 : decode cX1_become 18 = .ok (.putfield 19, 3) := by decide +kernel
theorem dX1_become_21 : decode cX1_become 21 = .ok (.aload_n 0, 1) := by decide +kernel
theorem dX1_become_22 : decode cX1_become 22 = .ok (.aload_n 1, 1) := by decide +kernel
theorem dX1_become_23 : decode cX1_become 23 = .ok (.getfield 22, 3) := by decide +kernel
theorem dX1_become_26 : decode cX1_become 26 = .ok (.putfield 22, 3) := by decide +kernel
theorem dX1_become_29 : decode cX1_become 29 = .ok (.aload_n 0, 1) := by decide +kernel
theorem dX1_become_30 : decode cX1_become 30 = .ok (.aload_n 1, 1) := by decide +kernel
theorem dX1_become_31 : decode cX1_become 31 = .ok (.getfield 26, 3) := by decide +kernel
theorem dX1_become_34 : decode cX1_become 34 = .ok (.putfield 26, 3) := by decide +kernel
theorem dX1_become_37 : decode cX1_become 37 = .ok (.aload_n 0, 1) := by decide +kernel
theorem dX1_become_38 : decode cX1_become 38 = .ok (.aload_n 1, 1) := by decide +kernel
theorem dX1_become_39 : decode cX1_become 39 = .ok (.getfield 29, 3) := by decide +kernel
theorem dX1_become_42 : decode cX1_become 42 = .ok (.putfield 29, 3) := by decide +kernel
theorem dX1_become_45 : decode cX1_become 45 = .ok (.aload_n 0, 1) := by decide +kernel
theorem dX1_become_46 : decode cX1_become 46 = .ok (.aload_n 1, 1) := by decide +kernel
theorem dX1_become_47 : decode cX1_become 47 = .ok (.getfield 32, 3) := by decide +kernel
theorem dX1_become_50 : decode cX1_become 50 = .ok (.putfield 32, 3) := by decide +kernel
theorem dX1_become_53 : decode cX1_become 53 = .ok (.aload_n 0, 1) := by decide +kernel
theorem dX1_become_54 : decode cX1_become 54 = .ok (.aload_n 1, 1) := by decide +kernel
theorem dX1_become_55 : decode cX1_become 55 = .ok (.getfield 35, 3) := by decide +kernel
theorem dX1_become_58 : decode cX1_become 58 = .ok (.putfield 35, 3) := by decide +kernel
theorem dX1_become_61 : decode cX1_become 61 = .ok (.return_, 1) := by decide +kernel
set_option maxRecDepth 20000 in
theorem ggX1_beginBy_X2_at : GoodIn wsX1_beginBy wsX2_at := goodIn_r _ [13, 14, 30, 31] (by decide +kernel) (by decide +kernel)
set_option maxRecDepth 20000 in
theorem gX1_beginBy_X2_at : GoodIn wsX1_beginBy (wsV RX1 38 RX2 yX2_at wsX2_at) := goodIn_app (goodIn_of _ (by decide +kernel)) ggX1_beginBy_X2_at
set_option maxRecDepth 20000 in
theorem ggX1_beginBy_X1_setSign : GoodIn wsX1_beginBy wsX1_setSign := goodIn_r _ [19, 2, 20, 21, 22, 23, 24, 25, 26, 27, 28, 29] (by decide +kernel) (by decide +kernel)
set_option maxRecDepth 20000 in
theorem gX1_beginBy_X1_setSign : GoodIn wsX1_beginBy (wsV RX1 47 RX1 yX1_setSign wsX1_setSign) := goodIn_app (goodIn_of _ (by decide +kernel)) ggX1_beginBy_X1_setSign
theorem dX1_beginBy_0 : decode cX1_beginBy 0 = .ok (.aload_n 0, 1) := by decide +kernel
theorem dX1_beginBy_1 : decode cX1_beginBy 1 = .ok (.lconst 0, 1) := by decide +kernel
theorem dX1_beginBy_2 : decode cX1_beginBy 2 = .ok (.putfield 15, 3) := by decide +kernel
theorem dX1_beginBy_5 : decode cX1_beginBy 5 = .ok (.aload_n 0, 1) := by decide +kernel
theorem dX1_beginBy_6 : decode cX1_beginBy 6 = .ok (.lconst 0, 1) := by decide +kernel
theorem dX1_beginBy_7 : decode cX1_beginBy 7 = .ok (.putfield 19, 3) := by decide +kernel
theorem dX1_beginBy_10 : decode cX1_beginBy 10 = .ok (.aload_n 0, 1) := by decide +kernel
theorem dX1_beginBy_11 : decode cX1_beginBy 11 = .ok (.iconst 0, 1) := by decide +kernel
theorem dX1_beginBy_12 : decode cX1_beginBy 12 = .ok (.putfield 22, 3) := by decide +kernel
theorem dX1_beginBy_15 : decode cX1_beginBy 15 = .ok (.aload_n 0, 1) := by decide +kernel
theorem dX1_beginBy_16 : decode cX1_beginBy 16 = .ok (.aload_n 1, 1) := by decide +kernel
theorem dX1_beginBy_17 : decode cX1_beginBy 17 = .ok (.iconst 1, 1) := by decide +kernel
theorem dX1_beginBy_18 : decode cX1_beginBy 18 = .ok (.invokevirtual 38, 3) := by decide +kernel
theorem dX1_beginBy_21 : decode cX1_beginBy 21 = .ok (.bipush 48, 2) := by decide +kernel
theorem dX1_beginBy_23 : decode cX1_beginBy 23 = .ok (.isub, 1) := by decide +kernel
theorem dX1_beginBy_24 : decode cX1_beginBy 24 = .ok (.putfield 26, 3) := by decide +kernel
theorem dX1_beginBy_27 : decode cX1_beginBy 27 = .ok (.aload_n 0, 1) := by decide +kernel
theorem dX1_beginBy_28 : decode cX1_beginBy 28 = .ok (.iconst 0, 1) := by decide +kernel
theorem dX1_beginBy_29 : decode cX1_beginBy 29 = .ok (.putfield 29, 3) := by decide +kernel
theorem dX1_beginBy_32 : decode cX1_beginBy 32 = .ok (.aload_n 0, 1) := by decide +kernel
theorem dX1_beginBy_33 : decode cX1_beginBy 33 = .ok (.iconst 0, 1) := by decide +kernel
theorem dX1_beginBy_34 : decode cX1_beginBy 34 = .ok (.putfield 32, 3) := by decide +kernel
theorem dX1_beginBy_37 : decode cX1_beginBy 37 = .ok (.aload_n 0, 1) := by decide +kernel
theorem dX1_beginBy_38 : decode cX1_beginBy 38 = .ok (.iconst 0, 1) := by decide +kernel
theorem dX1_beginBy_39 : decode cX1_beginBy 39 = .ok (.putfield 35, 3) := by decide +kernel
theorem dX1_beginBy_42 : decode cX1_beginBy 42 = .ok (.iconst 0, 1) := by decide +kernel
theorem dX1_beginBy_43 : decode cX1_beginBy 43 = .ok (.istore_n 2, 1) := by decide +kernel
theorem dX1_beginBy_44 : decode cX1_beginBy 44 = .ok (.iload_n 2, 1) := by decide +kernel
theorem dX1_beginBy_45 : decode cX1_beginBy 45 = .ok (.bipush 12, 2) := by decide +kernel
theorem dX1_beginBy_47 : decode cX1_beginBy 47 = .ok (.if_icmp .ge 33, 3) := by decide +kernel
theorem dX1_beginBy_50 : decode cX1_beginBy 50 = .ok (.aload_n 0, 1) := by decide +kernel
theorem dX1_beginBy_51 : decode cX1_beginBy 51 = .ok (.dup, 1) := by decide +kernel
theorem dX1_beginBy_52 : decode cX1_beginBy 52 = .ok (.getfield 15, 3) := by decide +kernel
theorem dX1_beginBy_55 : decode cX1_beginBy 55 = .ok (.aload_n 1, 1) := by decide +kernel
theorem dX1_beginBy_56 : decode cX1_beginBy 56 = .ok (.iconst 2, 1) := by decide +kernel
theorem dX1_beginBy_57 : decode cX1_beginBy 57 = .ok (.iload_n 2, 1) := by decide +kernel
theorem dX1_beginBy_58 : decode cX1_beginBy 58 = .ok (.iadd, 1) := by decide +kernel
theorem dX1_beginBy_59 : decode cX1_beginBy 59 = .ok (.invokevirtual 38, 3) := by decide +kernel
theorem dX1_beginBy_62 : decode cX1_beginBy 62 = .ok (.bipush 48, 2) := by decide +kernel
theorem dX1_beginBy_64 : decode cX1_beginBy 64 = .ok (.isub, 1) := by decide +kernel
theorem dX1_beginBy_65 : decode cX1_beginBy 65 = .ok (.i2l, 1) := by decide +kernel
theorem dX1_beginBy_66 : decode cX1_beginBy 66 = .ok (.iconst 4, 1) := by decide +kernel
theorem dX1_beginBy_67 : decode cX1_beginBy 67 = .ok (.iload_n 2, 1) := by decide +kernel
theorem dX1_beginBy_68 : decode cX1_beginBy 68 = .ok (.imul, 1) := by decide +kernel
theorem dX1_beginBy_69 : decode cX1_beginBy 69 = .ok (.lshl, 1) := by decide +kernel
theorem dX1_beginBy_70 : decode cX1_beginBy 70 = .ok (.lor, 1) := by decide +kernel
theorem dX1_beginBy_71 : decode cX1_beginBy 71 = .ok (.putfield 15, 3) := by decide +kernel
theorem dX1_beginBy_74 : decode cX1_beginBy 74 = .ok (.iinc 2 1, 3) := by decide +kernel
theorem dX1_beginBy_77 : decode cX1_beginBy 77 = .ok (.goto (-33), 3) := by decide +kernel
theorem dX1_beginBy_80 : decode cX1_beginBy 80 = .ok (.bipush 14, 2) := by decide +kernel
theorem dX1_beginBy_82 : decode cX1_beginBy 82 = .ok (.istore_n 2, 1) := by decide +kernel
theorem dX1_beginBy_83 : decode cX1_beginBy 83 = .ok (.iload_n 2, 1) := by decide +kernel
theorem dX1_beginBy_84 : decode cX1_beginBy 84 = .ok (.iconst 2, 1) := by decide +kernel
theorem dX1_beginBy_85 : decode cX1_beginBy 85 = .ok (.iadd, 1) := by decide +kernel
theorem dX1_beginBy_86 : decode cX1_beginBy 86 = .ok (.aload_n 1, 1) := by decide +kernel
theorem dX1_beginBy_87 : decode cX1_beginBy 87 = .ok (.getfield 44, 3) := by decide +kernel
theorem dX1_beginBy_90 : decode cX1_beginBy 90 = .ok (.if_icmp .ge 33, 3) := by decide +kernel
theorem dX1_beginBy_93 : decode cX1_beginBy 93 = .ok (.aload_n 0, 1) := by decide +kernel
theorem dX1_beginBy_94 : decode cX1_beginBy 94 = .ok (.aload_n 1, 1) := by decide +kernel
theorem dX1_beginBy_95 : decode cX1_beginBy 95 = .ok (.iload_n 2, 1) := by decide +kernel
theorem dX1_beginBy_96 : decode cX1_beginBy 96 = .ok (.iconst 1, 1) := by decide +kernel
theorem dX1_beginBy_97 : decode cX1_beginBy 97 = .ok (.iadd, 1) := by decide +kernel
theorem dX1_beginBy_98 : decode cX1_beginBy 98 = .ok (.invokevirtual 38, 3) := by decide +kernel
theorem dX1_beginBy_101 : decode cX1_beginBy 101 = .ok (.bipush 97, 2) := by decide +kernel
theorem dX1_beginBy_103 : decode cX1_beginBy 103 = .ok (.isub, 1) := by decide +kernel
theorem dX1_beginBy_104 : decode cX1_beginBy 104 = .ok (.aload_n 1, 1) := by decide +kernel
theorem dX1_beginBy_105 : decode cX1_beginBy 105 = .ok (.iload_n 2, 1) := by decide +kernel
theorem dX1_beginBy_106 : decode cX1_beginBy 106 = .ok (.iconst 2, 1) := by decide +kernel
theorem dX1_beginBy_107 : decode cX1_beginBy 107 = .ok (.iadd, 1) := by decide +kernel
theorem dX1_beginBy_108 : decode cX1_beginBy 108 = .ok (.invokevirtual 38, 3) := by decide +kernel
theorem dX1_beginBy_111 : decode cX1_beginBy 111 = .ok (.bipush 48, 2) := by decide +kernel
theorem dX1_beginBy_113 : decode cX1_beginBy 113 = .ok (.isub, 1) := by decide +kernel
theorem dX1_beginBy_114 : decode cX1_beginBy 114 = .ok (.invokevirtual 47, 3) := by decide +kernel
theorem dX1_beginBy_117 : decode cX1_beginBy 117 = .ok (.iinc 2 3, 3) := by decide +kernel
theorem dX1_beginBy_120 : decode cX1_beginBy 120 = .ok (.goto (-37), 3) := by decide +kernel
theorem dX1_beginBy_123 : decode cX1_beginBy 123 = .ok (.return_, 1) := by decide +kernel
theorem dX1_landOf_0 : decode cX1_landOf 0 = .ok (.aload_n 0, 1) := by decide +kernel
theorem dX1_landOf_1 : decode cX1_landOf 1 = .ok (.getfield 15, 3) := by decide +kernel
theorem dX1_landOf_4 : decode cX1_landOf 4 = .ok (.iconst 4, 1) := by decide +kernel
theorem dX1_landOf_5 : decode cX1_landOf 5 = .ok (.iload_n 1, 1) := by decide +kernel
theorem dX1_landOf_6 : decode cX1_landOf 6 = .ok (.imul, 1) := by decide +kernel
theorem dX1_landOf_7 : decode cX1_landOf 7 = .ok (.lushr, 1) := by decide +kernel
theorem dX1_landOf_8 : decode cX1_landOf 8 = .ok (.l2i, 1) := by decide +kernel
theorem dX1_landOf_9 : decode cX1_landOf 9 = .ok (.bipush 15, 2) := by decide +kernel
theorem dX1_landOf_11 : decode cX1_landOf 11 = .ok (.iand, 1) := by decide +kernel
theorem dX1_landOf_12 : decode cX1_landOf 12 = .ok (.ireturn, 1) := by decide +kernel
theorem dX1_signOf_0 : decode cX1_signOf 0 = .ok (.aload_n 0, 1) := by decide +kernel
theorem dX1_signOf_1 : decode cX1_signOf 1 = .ok (.getfield 19, 3) := by decide +kernel
theorem dX1_signOf_4 : decode cX1_signOf 4 = .ok (.iconst 4, 1) := by decide +kernel
theorem dX1_signOf_5 : decode cX1_signOf 5 = .ok (.iload_n 1, 1) := by decide +kernel
theorem dX1_signOf_6 : decode cX1_signOf 6 = .ok (.imul, 1) := by decide +kernel
theorem dX1_signOf_7 : decode cX1_signOf 7 = .ok (.lushr, 1) := by decide +kernel
theorem dX1_signOf_8 : decode cX1_signOf 8 = .ok (.l2i, 1) := by decide +kernel
theorem dX1_signOf_9 : decode cX1_signOf 9 = .ok (.bipush 15, 2) := by decide +kernel
theorem dX1_signOf_11 : decode cX1_signOf 11 = .ok (.iand, 1) := by decide +kernel
theorem dX1_signOf_12 : decode cX1_signOf 12 = .ok (.ireturn, 1) := by decide +kernel
theorem dX1_setSign_0 : decode cX1_setSign 0 = .ok (.aload_n 0, 1) := by decide +kernel
theorem dX1_setSign_1 : decode cX1_setSign 1 = .ok (.aload_n 0, 1) := by decide +kernel
theorem dX1_setSign_2 : decode cX1_setSign 2 = .ok (.getfield 19, 3) := by decide +kernel
theorem dX1_setSign_5 : decode cX1_setSign 5 = .ok (.ldc2_w 51, 3) := by decide +kernel
theorem dX1_setSign_8 : decode cX1_setSign 8 = .ok (.iconst 4, 1) := by decide +kernel
theorem dX1_setSign_9 : decode cX1_setSign 9 = .ok (.iload_n 1, 1) := by decide +kernel
theorem dX1_setSign_10 : decode cX1_setSign 10 = .ok (.imul, 1) := by decide +kernel
theorem dX1_setSign_11 : decode cX1_setSign 11 = .ok (.lshl, 1) := by decide +kernel
theorem dX1_setSign_12 : decode cX1_setSign 12 = .ok (.ldc2_w 53, 3) := by decide +kernel
theorem dX1_setSign_15 : decode cX1_setSign 15 = .ok (.lxor, 1) := by decide +kernel
theorem dX1_setSign_16 : decode cX1_setSign 16 = .ok (.land, 1) := by decide +kernel
theorem dX1_setSign_17 : decode cX1_setSign 17 = .ok (.iload_n 2, 1) := by decide +kernel
theorem dX1_setSign_18 : decode cX1_setSign 18 = .ok (.i2l, 1) := by decide +kernel
theorem dX1_setSign_19 : decode cX1_setSign 19 = .ok (.iconst 4, 1) := by decide +kernel
theorem dX1_setSign_20 : decode cX1_setSign 20 = .ok (.iload_n 1, 1) := by decide +kernel
theorem dX1_setSign_21 : decode cX1_setSign 21 = .ok (.imul, 1) := by decide +kernel
theorem dX1_setSign_22 : decode cX1_setSign 22 = .ok (.lshl, 1) := by decide +kernel
theorem dX1_setSign_23 : decode cX1_setSign 23 = .ok (.lor, 1) := by decide +kernel
theorem dX1_setSign_24 : decode cX1_setSign 24 = .ok (.putfield 19, 3) := by decide +kernel
theorem dX1_setSign_27 : decode cX1_setSign 27 = .ok (.return_, 1) := by decide +kernel
set_option maxRecDepth 20000 in
theorem ggX1_leaveSigns_X3_hasCell : GoodIn wsX1_leaveSigns wsX3_hasCell := goodIn_r _ [3] (by decide +kernel) (by decide +kernel)
set_option maxRecDepth 20000 in
theorem gX1_leaveSigns_X3_hasCell_n55 : GoodIn wsX1_leaveSigns (wsX3_hasCell) := ggX1_leaveSigns_X3_hasCell
set_option maxRecDepth 20000 in
theorem ggX1_leaveSigns_X1_setSign : GoodIn wsX1_leaveSigns wsX1_setSign := goodIn_r _ [8, 9, 10, 11, 12, 13, 14, 15, 16, 17, 18, 19] (by decide +kernel) (by decide +kernel)
set_option maxRecDepth 20000 in
theorem gX1_leaveSigns_X1_setSign : GoodIn wsX1_leaveSigns (wsV RX1 47 RX1 yX1_setSign wsX1_setSign) := goodIn_app (goodIn_of _ (by decide +kernel)) ggX1_leaveSigns_X1_setSign
theorem dX1_leaveSigns_0 : decode cX1_leaveSigns 0 = .ok (.iconst 0, 1) := by decide +kernel
theorem dX1_leaveSigns_1 : decode cX1_leaveSigns 1 = .ok (.istore_n 2, 1) := by decide +kernel
theorem dX1_leaveSigns_2 : decode cX1_leaveSigns 2 = .ok (.iload_n 2, 1) := by decide +kernel
theorem dX1_leaveSigns_3 : decode cX1_leaveSigns 3 = .ok (.bipush 12, 2) := by decide +kernel
theorem dX1_leaveSigns_5 : decode cX1_leaveSigns 5 = .ok (.if_icmp .ge 23, 3) := by decide +kernel
theorem dX1_leaveSigns_8 : decode cX1_leaveSigns 8 = .ok (.iload_n 1, 1) := by decide +kernel
theorem dX1_leaveSigns_9 : decode cX1_leaveSigns 9 = .ok (.iload_n 2, 1) := by decide +kernel
theorem dX1_leaveSigns_10 : decode cX1_leaveSigns 10 = .ok (.invokestatic 55, 3) := by decide +kernel
theorem dX1_leaveSigns_13 : decode cX1_leaveSigns 13 = .ok (.ifCond .ne 9, 3) := by decide +kernel
theorem dX1_leaveSigns_16 : decode cX1_leaveSigns 16 = .ok (.aload_n 0, 1) := by decide +kernel
theorem dX1_leaveSigns_17 : decode cX1_leaveSigns 17 = .ok (.iload_n 2, 1) := by decide +kernel
theorem dX1_leaveSigns_18 : decode cX1_leaveSigns 18 = .ok (.iconst 0, 1) := by decide +kernel
theorem dX1_leaveSigns_19 : decode cX1_leaveSigns 19 = .ok (.invokevirtual 47, 3) := by decide +kernel
theorem dX1_leaveSigns_22 : decode cX1_leaveSigns 22 = .ok (.iinc 2 1, 3) := by decide +kernel
theorem dX1_leaveSigns_25 : decode cX1_leaveSigns 25 = .ok (.goto (-23), 3) := by decide +kernel
theorem dX1_leaveSigns_28 : decode cX1_leaveSigns 28 = .ok (.return_, 1) := by decide +kernel
set_option maxRecDepth 20000 in
theorem ggX1_goodOf_X1_signOf : GoodIn wsX1_goodOf wsX1_signOf := goodIn_r _ [5, 6, 12, 13, 14, 15, 16, 17, 18, 19] (by decide +kernel) (by decide +kernel)
set_option maxRecDepth 20000 in
theorem gX1_goodOf_X1_signOf : GoodIn wsX1_goodOf (wsV RX1 59 RX1 yX1_signOf wsX1_signOf) := goodIn_app (goodIn_of _ (by decide +kernel)) ggX1_goodOf_X1_signOf
set_option maxRecDepth 20000 in
theorem ggX1_goodOf_X1_landOf : GoodIn wsX1_goodOf wsX1_landOf := goodIn_r _ [10, 11, 12, 13, 14, 15, 16, 17, 18, 19] (by decide +kernel) (by decide +kernel)
set_option maxRecDepth 20000 in
theorem gX1_goodOf_X1_landOf : GoodIn wsX1_goodOf (wsV RX1 62 RX1 yX1_landOf wsX1_landOf) := goodIn_app (goodIn_of _ (by decide +kernel)) ggX1_goodOf_X1_landOf
theorem dX1_goodOf_0 : decode cX1_goodOf 0 = .ok (.aload_n 0, 1) := by decide +kernel
theorem dX1_goodOf_1 : decode cX1_goodOf 1 = .ok (.iload_n 1, 1) := by decide +kernel
theorem dX1_goodOf_2 : decode cX1_goodOf 2 = .ok (.invokevirtual 59, 3) := by decide +kernel
theorem dX1_goodOf_5 : decode cX1_goodOf 5 = .ok (.istore_n 2, 1) := by decide +kernel
theorem dX1_goodOf_6 : decode cX1_goodOf 6 = .ok (.iload_n 2, 1) := by decide +kernel
theorem dX1_goodOf_7 : decode cX1_goodOf 7 = .ok (.ifCond .ne 7, 3) := by decide +kernel
theorem dX1_goodOf_10 : decode cX1_goodOf 10 = .ok (.iconst 0, 1) := by decide +kernel
theorem dX1_goodOf_11 : decode cX1_goodOf 11 = .ok (.goto 6, 3) := by decide +kernel
theorem dX1_goodOf_14 : decode cX1_goodOf 14 = .ok (.iconst 4, 1) := by decide +kernel
theorem dX1_goodOf_15 : decode cX1_goodOf 15 = .ok (.iload_n 2, 1) := by decide +kernel
theorem dX1_goodOf_16 : decode cX1_goodOf 16 = .ok (.isub, 1) := by decide +kernel
theorem dX1_goodOf_17 : decode cX1_goodOf 17 = .ok (.istore_n 3, 1) := by decide +kernel
theorem dX1_goodOf_18 : decode cX1_goodOf 18 = .ok (.iload_n 2, 1) := by decide +kernel
theorem dX1_goodOf_19 : decode cX1_goodOf 19 = .ok (.aload_n 0, 1) := by decide +kernel
theorem dX1_goodOf_20 : decode cX1_goodOf 20 = .ok (.iload_n 1, 1) := by decide +kernel
theorem dX1_goodOf_21 : decode cX1_goodOf 21 = .ok (.invokevirtual 62, 3) := by decide +kernel
theorem dX1_goodOf_24 : decode cX1_goodOf 24 = .ok (.if_icmp .ne 7, 3) := by decide +kernel
theorem dX1_goodOf_27 : decode cX1_goodOf 27 = .ok (.iload_n 3, 1) := by decide +kernel
theorem dX1_goodOf_28 : decode cX1_goodOf 28 = .ok (.goto 6, 3) := by decide +kernel
theorem dX1_goodOf_31 : decode cX1_goodOf 31 = .ok (.iload_n 3, 1) := by decide +kernel
theorem dX1_goodOf_32 : decode cX1_goodOf 32 = .ok (.iconst 2, 1) := by decide +kernel
theorem dX1_goodOf_33 : decode cX1_goodOf 33 = .ok (.idiv, 1) := by decide +kernel
theorem dX1_goodOf_34 : decode cX1_goodOf 34 = .ok (.ireturn, 1) := by decide +kernel
set_option maxRecDepth 20000 in
theorem ggX1_isError_X1_signOf : GoodIn wsX1_isError wsX1_signOf := goodIn_r _ [5, 6, 12, 13, 14, 15, 16, 17, 18, 19] (by decide +kernel) (by decide +kernel)
set_option maxRecDepth 20000 in
theorem gX1_isError_X1_signOf : GoodIn wsX1_isError (wsV RX1 59 RX1 yX1_signOf wsX1_signOf) := goodIn_app (goodIn_of _ (by decide +kernel)) ggX1_isError_X1_signOf
set_option maxRecDepth 20000 in
theorem ggX1_isError_X1_landOf : GoodIn wsX1_isError wsX1_landOf := goodIn_r _ [10, 11, 12, 13, 14, 15, 16, 17, 18, 19] (by decide +kernel) (by decide +kernel)
set_option maxRecDepth 20000 in
theorem gX1_isError_X1_landOf : GoodIn wsX1_isError (wsV RX1 62 RX1 yX1_landOf wsX1_landOf) := goodIn_app (goodIn_of _ (by decide +kernel)) ggX1_isError_X1_landOf
theorem dX1_isError_0 : decode cX1_isError 0 = .ok (.aload_n 0, 1) := by decide +kernel
theorem dX1_isError_1 : decode cX1_isError 1 = .ok (.iload_n 1, 1) := by decide +kernel
theorem dX1_isError_2 : decode cX1_isError 2 = .ok (.invokevirtual 59, 3) := by decide +kernel
theorem dX1_isError_5 : decode cX1_isError 5 = .ok (.ifCond .eq 20, 3) := by decide +kernel
theorem dX1_isError_8 : decode cX1_isError 8 = .ok (.aload_n 0, 1) := by decide +kernel
theorem dX1_isError_9 : decode cX1_isError 9 = .ok (.iload_n 1, 1) := by decide +kernel
theorem dX1_isError_10 : decode cX1_isError 10 = .ok (.invokevirtual 59, 3) := by decide +kernel
theorem dX1_isError_13 : decode cX1_isError 13 = .ok (.aload_n 0, 1) := by decide +kernel
theorem dX1_isError_14 : decode cX1_isError 14 = .ok (.iload_n 1, 1) := by decide +kernel
theorem dX1_isError_15 : decode cX1_isError 15 = .ok (.invokevirtual 62, 3) := by decide +kernel
theorem dX1_isError_18 : decode cX1_isError 18 = .ok (.if_icmp .eq 7, 3) := by decide +kernel
theorem dX1_isError_21 : decode cX1_isError 21 = .ok (.iconst 1, 1) := by decide +kernel
theorem dX1_isError_22 : decode cX1_isError 22 = .ok (.goto 4, 3) := by decide +kernel
theorem dX1_isError_25 : decode cX1_isError 25 = .ok (.iconst 0, 1) := by decide +kernel
theorem dX1_isError_26 : decode cX1_isError 26 = .ok (.ireturn, 1) := by decide +kernel
set_option maxRecDepth 20000 in
theorem ggX1_isOpen_X1_signOf : GoodIn wsX1_isOpen wsX1_signOf := goodIn_r _ [5, 6, 12, 13, 14, 15, 16, 17, 18, 19] (by decide +kernel) (by decide +kernel)
set_option maxRecDepth 20000 in
theorem gX1_isOpen_X1_signOf : GoodIn wsX1_isOpen (wsV RX1 59 RX1 yX1_signOf wsX1_signOf) := goodIn_app (goodIn_of _ (by decide +kernel)) ggX1_isOpen_X1_signOf
set_option maxRecDepth 20000 in
theorem ggX1_isOpen_X1_landOf : GoodIn wsX1_isOpen wsX1_landOf := goodIn_r _ [10, 11, 12, 13, 14, 15, 16, 17, 18, 19] (by decide +kernel) (by decide +kernel)
set_option maxRecDepth 20000 in
theorem gX1_isOpen_X1_landOf : GoodIn wsX1_isOpen (wsV RX1 62 RX1 yX1_landOf wsX1_landOf) := goodIn_app (goodIn_of _ (by decide +kernel)) ggX1_isOpen_X1_landOf
theorem dX1_isOpen_0 : decode cX1_isOpen 0 = .ok (.aload_n 0, 1) := by decide +kernel
theorem dX1_isOpen_1 : decode cX1_isOpen 1 = .ok (.iload_n 1, 1) := by decide +kernel
theorem dX1_isOpen_2 : decode cX1_isOpen 2 = .ok (.invokevirtual 59, 3) := by decide +kernel
theorem dX1_isOpen_5 : decode cX1_isOpen 5 = .ok (.istore_n 3, 1) := by decide +kernel
theorem dX1_isOpen_6 : decode cX1_isOpen 6 = .ok (.iload_n 3, 1) := by decide +kernel
theorem dX1_isOpen_7 : decode cX1_isOpen 7 = .ok (.ifCond .eq 25, 3) := by decide +kernel
theorem dX1_isOpen_10 : decode cX1_isOpen 10 = .ok (.iload_n 3, 1) := by decide +kernel
theorem dX1_isOpen_11 : decode cX1_isOpen 11 = .ok (.iconst 4, 1) := by decide +kernel
theorem dX1_isOpen_12 : decode cX1_isOpen 12 = .ok (.if_icmp .eq 20, 3) := by decide +kernel
theorem dX1_isOpen_15 : decode cX1_isOpen 15 = .ok (.iload_n 2, 1) := by decide +kernel
theorem dX1_isOpen_16 : decode cX1_isOpen 16 = .ok (.ifCond .eq 12, 3) := by decide +kernel
theorem dX1_isOpen_19 : decode cX1_isOpen 19 = .ok (.aload_n 0, 1) := by decide +kernel
theorem dX1_isOpen_20 : decode cX1_isOpen 20 = .ok (.iload_n 1, 1) := by decide +kernel
theorem dX1_isOpen_21 : decode cX1_isOpen 21 = .ok (.invokevirtual 62, 3) := by decide +kernel
theorem dX1_isOpen_24 : decode cX1_isOpen 24 = .ok (.iconst 4, 1) := by decide +kernel
theorem dX1_isOpen_25 : decode cX1_isOpen 25 = .ok (.if_icmp .eq 7, 3) := by decide +kernel
theorem dX1_isOpen_28 : decode cX1_isOpen 28 = .ok (.iconst 1, 1) := by decide +kernel
theorem dX1_isOpen_29 : decode cX1_isOpen 29 = .ok (.goto 4, 3) := by decide +kernel
theorem dX1_isOpen_32 : decode cX1_isOpen 32 = .ok (.iconst 0, 1) := by decide +kernel
theorem dX1_isOpen_33 : decode cX1_isOpen 33 = .ok (.ireturn, 1) := by decide +kernel
set_option maxRecDepth 20000 in
theorem ggX1_signedCells_X1_signOf : GoodIn wsX1_signedCells wsX1_signOf := goodIn_r _ [5, 6, 7, 8, 9, 10, 11, 12, 13, 14] (by decide +kernel) (by decide +kernel)
set_option maxRecDepth 20000 in
theorem gX1_signedCells_X1_signOf : GoodIn wsX1_signedCells (wsV RX1 59 RX1 yX1_signOf wsX1_signOf) := goodIn_app (goodIn_of _ (by decide +kernel)) ggX1_signedCells_X1_signOf
theorem dX1_signedCells_0 : decode cX1_signedCells 0 = .ok (.iconst 0, 1) := by decide +kernel
theorem dX1_signedCells_1 : decode cX1_signedCells 1 = .ok (.istore_n 1, 1) := by decide +kernel
theorem dX1_signedCells_2 : decode cX1_signedCells 2 = .ok (.iconst 0, 1) := by decide +kernel
theorem dX1_signedCells_3 : decode cX1_signedCells 3 = .ok (.istore_n 2, 1) := by decide +kernel
theorem dX1_signedCells_4 : decode cX1_signedCells 4 = .ok (.iload_n 2, 1) := by decide +kernel
theorem dX1_signedCells_5 : decode cX1_signedCells 5 = .ok (.bipush 12, 2) := by decide +kernel
theorem dX1_signedCells_7 : decode cX1_signedCells 7 = .ok (.if_icmp .ge 27, 3) := by decide +kernel
theorem dX1_signedCells_10 : decode cX1_signedCells 10 = .ok (.iload_n 1, 1) := by decide +kernel
theorem dX1_signedCells_11 : decode cX1_signedCells 11 = .ok (.aload_n 0, 1) := by decide +kernel
theorem dX1_signedCells_12 : decode cX1_signedCells 12 = .ok (.iload_n 2, 1) := by decide +kernel
theorem dX1_signedCells_13 : decode cX1_signedCells 13 = .ok (.invokevirtual 59, 3) := by decide +kernel
theorem dX1_signedCells_16 : decode cX1_signedCells 16 = .ok (.ifCond .eq 9, 3) := by decide +kernel
theorem dX1_signedCells_19 : decode cX1_signedCells 19 = .ok (.iconst 1, 1) := by decide +kernel
theorem dX1_signedCells_20 : decode cX1_signedCells 20 = .ok (.iload_n 2, 1) := by decide +kernel
theorem dX1_signedCells_21 : decode cX1_signedCells 21 = .ok (.ishl, 1) := by decide +kernel
theorem dX1_signedCells_22 : decode cX1_signedCells 22 = .ok (.goto 4, 3) := by decide +kernel
theorem dX1_signedCells_25 : decode cX1_signedCells 25 = .ok (.iconst 0, 1) := by decide +kernel
theorem dX1_signedCells_26 : decode cX1_signedCells 26 = .ok (.ior, 1) := by decide +kernel
theorem dX1_signedCells_27 : decode cX1_signedCells 27 = .ok (.istore_n 1, 1) := by decide +kernel
theorem dX1_signedCells_28 : decode cX1_signedCells 28 = .ok (.iinc 2 1, 3) := by decide +kernel
theorem dX1_signedCells_31 : decode cX1_signedCells 31 = .ok (.goto (-27), 3) := by decide +kernel
theorem dX1_signedCells_34 : decode cX1_signedCells 34 = .ok (.iload_n 1, 1) := by decide +kernel
theorem dX1_signedCells_35 : decode cX1_signedCells 35 = .ok (.ireturn, 1) := by decide +kernel
set_option maxRecDepth 20000 in
theorem ggX1_countSigns_X1_signedCells : GoodIn wsX1_countSigns wsX1_signedCells := goodIn_r _ [5, 6, 7, 8, 4, 9, 10, 18, 19, 20, 21, 22, 23, 24, 25] (by decide +kernel) (by decide +kernel)
set_option maxRecDepth 20000 in
theorem gX1_countSigns_X1_signedCells : GoodIn wsX1_countSigns (wsV RX1 65 RX1 yX1_signedCells wsX1_signedCells) := goodIn_app (goodIn_of _ (by decide +kernel)) ggX1_countSigns_X1_signedCells
set_option maxRecDepth 20000 in
theorem ggX1_countSigns_J6_bitCount_0f7a4 : GoodIn wsX1_countSigns wsJ6_bitCount_0f7a4 := goodIn_r _ [14, 15, 16, 17] (by decide +kernel) (by decide +kernel)
set_option maxRecDepth 20000 in
theorem gX1_countSigns_J6_bitCount_0f7a4 : GoodIn wsX1_countSigns (va_wsS RX1 69 yJ6_bitCount_0f7a4 wsJ6_bitCount_0f7a4) := goodIn_app (goodIn_of _ (by decide +kernel)) ggX1_countSigns_J6_bitCount_0f7a4
theorem dX1_countSigns_0 : decode cX1_countSigns 0 = .ok (.aload_n 0, 1) := by decide +kernel
theorem dX1_countSigns_1 : decode cX1_countSigns 1 = .ok (.invokevirtual 65, 3) := by decide +kernel
theorem dX1_countSigns_4 : decode cX1_countSigns 4 = .ok (.invokestatic 69, 3) := by decide +kernel
theorem dX1_countSigns_7 : decode cX1_countSigns 7 = .ok (.ireturn, 1) := by decide +kernel
set_option maxRecDepth 20000 in
theorem ggX1_errors_X1_isError : GoodIn wsX1_errors wsX1_isError := goodIn_r _ [5, 6, 7, 8, 4, 9, 10, 11, 12, 13, 14, 15, 16, 17, 18, 19, 20, 21, 22, 23] (by decide +kernel) (by decide +kernel)
set_option maxRecDepth 20000 in
theorem gX1_errors_X1_isError : GoodIn wsX1_errors (wsV RX1 74 RX1 yX1_isError wsX1_isError) := goodIn_app (goodIn_of _ (by decide +kernel)) ggX1_errors_X1_isError
theorem dX1_errors_0 : decode cX1_errors 0 = .ok (.iconst 0, 1) := by decide +kernel
theorem dX1_errors_1 : decode cX1_errors 1 = .ok (.istore_n 1, 1) := by decide +kernel
theorem dX1_errors_2 : decode cX1_errors 2 = .ok (.iconst 0, 1) := by decide +kernel
theorem dX1_errors_3 : decode cX1_errors 3 = .ok (.istore_n 2, 1) := by decide +kernel
theorem dX1_errors_4 : decode cX1_errors 4 = .ok (.iload_n 2, 1) := by decide +kernel
theorem dX1_errors_5 : decode cX1_errors 5 = .ok (.bipush 12, 2) := by decide +kernel
theorem dX1_errors_7 : decode cX1_errors 7 = .ok (.if_icmp .ge 27, 3) := by decide +kernel
theorem dX1_errors_10 : decode cX1_errors 10 = .ok (.iload_n 1, 1) := by decide +kernel
theorem dX1_errors_11 : decode cX1_errors 11 = .ok (.aload_n 0, 1) := by decide +kernel
theorem dX1_errors_12 : decode cX1_errors 12 = .ok (.iload_n 2, 1) := by decide +kernel
theorem dX1_errors_13 : decode cX1_errors 13 = .ok (.invokevirtual 74, 3) := by decide +kernel
theorem dX1_errors_16 : decode cX1_errors 16 = .ok (.ifCond .eq 9, 3) := by decide +kernel
theorem dX1_errors_19 : decode cX1_errors 19 = .ok (.iconst 1, 1) := by decide +kernel
theorem dX1_errors_20 : decode cX1_errors 20 = .ok (.iload_n 2, 1) := by decide +kernel
theorem dX1_errors_21 : decode cX1_errors 21 = .ok (.ishl, 1) := by decide +kernel
theorem dX1_errors_22 : decode cX1_errors 22 = .ok (.goto 4, 3) := by decide +kernel
theorem dX1_errors_25 : decode cX1_errors 25 = .ok (.iconst 0, 1) := by decide +kernel
theorem dX1_errors_26 : decode cX1_errors 26 = .ok (.ior, 1) := by decide +kernel
theorem dX1_errors_27 : decode cX1_errors 27 = .ok (.istore_n 1, 1) := by decide +kernel
theorem dX1_errors_28 : decode cX1_errors 28 = .ok (.iinc 2 1, 3) := by decide +kernel
theorem dX1_errors_31 : decode cX1_errors 31 = .ok (.goto (-27), 3) := by decide +kernel
theorem dX1_errors_34 : decode cX1_errors 34 = .ok (.iload_n 1, 1) := by decide +kernel
theorem dX1_errors_35 : decode cX1_errors 35 = .ok (.ireturn, 1) := by decide +kernel
set_option maxRecDepth 20000 in
theorem ggX1_cellsToDraw_X1_signOf : GoodIn wsX1_cellsToDraw wsX1_signOf := goodIn_r _ [5, 6, 12, 13, 14, 15, 16, 17, 18, 19] (by decide +kernel) (by decide +kernel)
set_option maxRecDepth 20000 in
theorem gX1_cellsToDraw_X1_signOf : GoodIn wsX1_cellsToDraw (wsV RX1 59 RX1 yX1_signOf wsX1_signOf) := goodIn_app (goodIn_of _ (by decide +kernel)) ggX1_cellsToDraw_X1_signOf
set_option maxRecDepth 20000 in
theorem ggX1_cellsToDraw_X1_landOf : GoodIn wsX1_cellsToDraw wsX1_landOf := goodIn_r _ [10, 11, 12, 13, 14, 15, 16, 17, 18, 19] (by decide +kernel) (by decide +kernel)
set_option maxRecDepth 20000 in
theorem gX1_cellsToDraw_X1_landOf : GoodIn wsX1_cellsToDraw (wsV RX1 62 RX1 yX1_landOf wsX1_landOf) := goodIn_app (goodIn_of _ (by decide +kernel)) ggX1_cellsToDraw_X1_landOf
theorem dX1_cellsToDraw_0 : decode cX1_cellsToDraw 0 = .ok (.iconst 0, 1) := by decide +kernel
theorem dX1_cellsToDraw_1 : decode cX1_cellsToDraw 1 = .ok (.istore_n 1, 1) := by decide +kernel
theorem dX1_cellsToDraw_2 : decode cX1_cellsToDraw 2 = .ok (.iconst 0, 1) := by decide +kernel
theorem dX1_cellsToDraw_3 : decode cX1_cellsToDraw 3 = .ok (.istore_n 2, 1) := by decide +kernel
theorem dX1_cellsToDraw_4 : decode cX1_cellsToDraw 4 = .ok (.iload_n 2, 1) := by decide +kernel
theorem dX1_cellsToDraw_5 : decode cX1_cellsToDraw 5 = .ok (.bipush 12, 2) := by decide +kernel
theorem dX1_cellsToDraw_7 : decode cX1_cellsToDraw 7 = .ok (.if_icmp .ge 35, 3) := by decide +kernel
theorem dX1_cellsToDraw_10 : decode cX1_cellsToDraw 10 = .ok (.iload_n 1, 1) := by decide +kernel
theorem dX1_cellsToDraw_11 : decode cX1_cellsToDraw 11 = .ok (.aload_n 0, 1) := by decide +kernel
theorem dX1_cellsToDraw_12 : decode cX1_cellsToDraw 12 = .ok (.iload_n 2, 1) := by decide +kernel
theorem dX1_cellsToDraw_13 : decode cX1_cellsToDraw 13 = .ok (.invokevirtual 59, 3) := by decide +kernel
theorem dX1_cellsToDraw_16 : decode cX1_cellsToDraw 16 = .ok (.ifCond .ne 17, 3) := by decide +kernel
theorem dX1_cellsToDraw_19 : decode cX1_cellsToDraw 19 = .ok (.aload_n 0, 1) := by decide +kernel
theorem dX1_cellsToDraw_20 : decode cX1_cellsToDraw 20 = .ok (.iload_n 2, 1) := by decide +kernel
theorem dX1_cellsToDraw_21 : decode cX1_cellsToDraw 21 = .ok (.invokevirtual 62, 3) := by decide +kernel
theorem dX1_cellsToDraw_24 : decode cX1_cellsToDraw 24 = .ok (.ifCond .eq 9, 3) := by decide +kernel
theorem dX1_cellsToDraw_27 : decode cX1_cellsToDraw 27 = .ok (.iconst 1, 1) := by decide +kernel
theorem dX1_cellsToDraw_28 : decode cX1_cellsToDraw 28 = .ok (.iload_n 2, 1) := by decide +kernel
theorem dX1_cellsToDraw_29 : decode cX1_cellsToDraw 29 = .ok (.ishl, 1) := by decide +kernel
theorem dX1_cellsToDraw_30 : decode cX1_cellsToDraw 30 = .ok (.goto 4, 3) := by decide +kernel
theorem dX1_cellsToDraw_33 : decode cX1_cellsToDraw 33 = .ok (.iconst 0, 1) := by decide +kernel
theorem dX1_cellsToDraw_34 : decode cX1_cellsToDraw 34 = .ok (.ior, 1) := by decide +kernel
theorem dX1_cellsToDraw_35 : decode cX1_cellsToDraw 35 = .ok (.istore_n 1, 1) := by decide +kernel
theorem dX1_cellsToDraw_36 : decode cX1_cellsToDraw 36 = .ok (.iinc 2 1, 3) := by decide +kernel
theorem dX1_cellsToDraw_39 : decode cX1_cellsToDraw 39 = .ok (.goto (-35), 3) := by decide +kernel
theorem dX1_cellsToDraw_42 : decode cX1_cellsToDraw 42 = .ok (.iload_n 1, 1) := by decide +kernel
theorem dX1_cellsToDraw_43 : decode cX1_cellsToDraw 43 = .ok (.ireturn, 1) := by decide +kernel
set_option maxRecDepth 20000 in
theorem ggX1_openCells_X1_isOpen : GoodIn wsX1_openCells wsX1_isOpen := goodIn_r _ [5, 6, 7, 8, 4, 9, 10, 11, 12, 13, 14, 15, 16, 17, 18, 19, 20, 21, 22, 23] (by decide +kernel) (by decide +kernel)
set_option maxRecDepth 20000 in
theorem gX1_openCells_X1_isOpen : GoodIn wsX1_openCells (wsV RX1 78 RX1 yX1_isOpen wsX1_isOpen) := goodIn_app (goodIn_of _ (by decide +kernel)) ggX1_openCells_X1_isOpen
theorem dX1_openCells_0 : decode cX1_openCells 0 = .ok (.iconst 0, 1) := by decide +kernel
theorem dX1_openCells_1 : decode cX1_openCells 1 = .ok (.istore_n 2, 1) := by decide +kernel
theorem dX1_openCells_2 : decode cX1_openCells 2 = .ok (.iconst 0, 1) := by decide +kernel
theorem dX1_openCells_3 : decode cX1_openCells 3 = .ok (.istore_n 3, 1) := by decide +kernel
theorem dX1_openCells_4 : decode cX1_openCells 4 = .ok (.iload_n 3, 1) := by decide +kernel
theorem dX1_openCells_5 : decode cX1_openCells 5 = .ok (.bipush 12, 2) := by decide +kernel
theorem dX1_openCells_7 : decode cX1_openCells 7 = .ok (.if_icmp .ge 28, 3) := by decide +kernel
theorem dX1_openCells_10 : decode cX1_openCells 10 = .ok (.iload_n 2, 1) := by decide +kernel
theorem dX1_openCells_11 : decode cX1_openCells 11 = .ok (.aload_n 0, 1) := by decide +kernel
theorem dX1_openCells_12 : decode cX1_openCells 12 = .ok (.iload_n 3, 1) := by decide +kernel
theorem dX1_openCells_13 : decode cX1_openCells 13 = .ok (.iload_n 1, 1) := by decide +kernel
theorem dX1_openCells_14 : decode cX1_openCells 14 = .ok (.invokevirtual 78, 3) := by decide +kernel
theorem dX1_openCells_17 : decode cX1_openCells 17 = .ok (.ifCond .eq 9, 3) := by decide +kernel
theorem dX1_openCells_20 : decode cX1_openCells 20 = .ok (.iconst 1, 1) := by decide +kernel
theorem dX1_openCells_21 : decode cX1_openCells 21 = .ok (.iload_n 3, 1) := by decide +kernel
theorem dX1_openCells_22 : decode cX1_openCells 22 = .ok (.ishl, 1) := by decide +kernel
theorem dX1_openCells_23 : decode cX1_openCells 23 = .ok (.goto 4, 3) := by decide +kernel
theorem dX1_openCells_26 : decode cX1_openCells 26 = .ok (.iconst 0, 1) := by decide +kernel
theorem dX1_openCells_27 : decode cX1_openCells 27 = .ok (.ior, 1) := by decide +kernel
theorem dX1_openCells_28 : decode cX1_openCells 28 = .ok (.istore_n 2, 1) := by decide +kernel
theorem dX1_openCells_29 : decode cX1_openCells 29 = .ok (.iinc 3 1, 3) := by decide +kernel
theorem dX1_openCells_32 : decode cX1_openCells 32 = .ok (.goto (-28), 3) := by decide +kernel
theorem dX1_openCells_35 : decode cX1_openCells 35 = .ok (.iload_n 2, 1) := by decide +kernel
theorem dX1_openCells_36 : decode cX1_openCells 36 = .ok (.ireturn, 1) := by decide +kernel
set_option maxRecDepth 20000 in
theorem ggX1_live_X3_beside : GoodIn wsX1_live wsX3_beside := goodIn_r _ [6] (by decide +kernel) (by decide +kernel)
set_option maxRecDepth 20000 in
theorem gX1_live_X3_beside_n82 : GoodIn wsX1_live (wsX3_beside) := ggX1_live_X3_beside
set_option maxRecDepth 20000 in
theorem ggX1_live_X1_isOpen : GoodIn wsX1_live wsX1_isOpen := goodIn_r _ [11, 12, 13, 14, 10, 15, 16, 17, 18, 19, 20, 21, 34, 35, 36, 37, 38, 39, 40, 41] (by decide +kernel) (by decide +kernel)
set_option maxRecDepth 20000 in
theorem gX1_live_X1_isOpen : GoodIn wsX1_live (wsV RX1 78 RX1 yX1_isOpen wsX1_isOpen) := goodIn_app (goodIn_of _ (by decide +kernel)) ggX1_live_X1_isOpen
set_option maxRecDepth 20000 in
theorem ggX1_live_X1_comeInto : GoodIn wsX1_live wsX1_comeInto := goodIn_r _ [25, 26, 2, 27, 1, 17, 18, 19, 10, 20, 21, 28, 5, 29, 30, 31, 32, 33, 12, 13, 14, 15, 16, 34, 35, 36, 37, 38, 39, 40, 41] (by decide +kernel) (by decide +kernel)
set_option maxRecDepth 20000 in
theorem gX1_live_X1_comeInto : GoodIn wsX1_live (wsV RX1 86 RX1 yX1_comeInto wsX1_comeInto) := goodIn_app (goodIn_of _ (by decide +kernel)) ggX1_live_X1_comeInto
theorem dX1_live_0 : decode cX1_live 0 = .ok (.aload_n 0, 1) := by decide +kernel
theorem dX1_live_1 : decode cX1_live 1 = .ok (.getfield 26, 3) := by decide +kernel
theorem dX1_live_4 : decode cX1_live 4 = .ok (.ifCond .gt 5, 3) := by decide +kernel
theorem dX1_live_7 : decode cX1_live 7 = .ok (.iconst 0, 1) := by decide +kernel
theorem dX1_live_8 : decode cX1_live 8 = .ok (.ireturn, 1) := by decide +kernel
theorem dX1_live_9 : decode cX1_live 9 = .ok (.iload_n 1, 1) := by decide +kernel
theorem dX1_live_10 : decode cX1_live 10 = .ok (.iconst 4, 1) := by decide +kernel
theorem dX1_live_11 : decode cX1_live 11 = .ok (.if_icmp .eq 33, 3) := by decide +kernel
theorem dX1_live_14 : decode cX1_live 14 = .ok (.aload_n 0, 1) := by decide +kernel
theorem dX1_live_15 : decode cX1_live 15 = .ok (.getfield 22, 3) := by decide +kernel
theorem dX1_live_18 : decode cX1_live 18 = .ok (.iload_n 1, 1) := by decide +kernel
theorem dX1_live_19 : decode cX1_live 19 = .ok (.invokestatic 82, 3) := by decide +kernel
theorem dX1_live_22 : decode cX1_live 22 = .ok (.istore_n 2, 1) := by decide +kernel
theorem dX1_live_23 : decode cX1_live 23 = .ok (.iload_n 2, 1) := by decide +kernel
theorem dX1_live_24 : decode cX1_live 24 = .ok (.iconst (-1), 1) := by decide +kernel
theorem dX1_live_25 : decode cX1_live 25 = .ok (.if_icmp .eq 12, 3) := by decide +kernel
theorem dX1_live_28 : decode cX1_live 28 = .ok (.aload_n 0, 1) := by decide +kernel
theorem dX1_live_29 : decode cX1_live 29 = .ok (.iload_n 2, 1) := by decide +kernel
theorem dX1_live_30 : decode cX1_live 30 = .ok (.iconst 0, 1) := by decide +kernel
theorem dX1_live_31 : decode cX1_live 31 = .ok (.invokevirtual 78, 3) := by decide +kernel
theorem dX1_live_34 : decode cX1_live 34 = .ok (.ifCond .ne 5, 3) := by decide +kernel
theorem dX1_live_37 : decode cX1_live 37 = .ok (.iconst 0, 1) := by decide +kernel
theorem dX1_live_38 : decode cX1_live 38 = .ok (.ireturn, 1) := by decide +kernel
theorem dX1_live_39 : decode cX1_live 39 = .ok (.aload_n 0, 1) := by decide +kernel
theorem dX1_live_40 : decode cX1_live 40 = .ok (.iload_n 2, 1) := by decide +kernel
theorem dX1_live_41 : decode cX1_live 41 = .ok (.invokevirtual 86, 3) := by decide +kernel
theorem dX1_live_44 : decode cX1_live 44 = .ok (.aload_n 0, 1) := by decide +kernel
theorem dX1_live_45 : decode cX1_live 45 = .ok (.dup, 1) := by decide +kernel
theorem dX1_live_46 : decode cX1_live 46 = .ok (.getfield 26, 3) := by decide +kernel
theorem dX1_live_49 : decode cX1_live 49 = .ok (.iconst 1, 1) := by decide +kernel
theorem dX1_live_50 : decode cX1_live 50 = .ok (.isub, 1) := by decide +kernel
theorem dX1_live_51 : decode cX1_live 51 = .ok (.putfield 26, 3) := by decide +kernel
theorem dX1_live_54 : decode cX1_live 54 = .ok (.aload_n 0, 1) := by decide +kernel
theorem dX1_live_55 : decode cX1_live 55 = .ok (.dup, 1) := by decide +kernel
theorem dX1_live_56 : decode cX1_live 56 = .ok (.getfield 35, 3) := by decide +kernel
theorem dX1_live_59 : decode cX1_live 59 = .ok (.iconst 1, 1) := by decide +kernel
theorem dX1_live_60 : decode cX1_live 60 = .ok (.iadd, 1) := by decide +kernel
theorem dX1_live_61 : decode cX1_live 61 = .ok (.putfield 35, 3) := by decide +kernel
theorem dX1_live_64 : decode cX1_live 64 = .ok (.iconst 1, 1) := by decide +kernel
theorem dX1_live_65 : decode cX1_live 65 = .ok (.ireturn, 1) := by decide +kernel
set_option maxRecDepth 20000 in
theorem ggX1_comeInto_X1_landOf : GoodIn wsX1_comeInto wsX1_landOf := goodIn_r _ [9, 10, 23, 24, 25, 26, 27, 28, 29, 30] (by decide +kernel) (by decide +kernel)
set_option maxRecDepth 20000 in
theorem gX1_comeInto_X1_landOf : GoodIn wsX1_comeInto (wsV RX1 62 RX1 yX1_landOf wsX1_landOf) := goodIn_app (goodIn_of _ (by decide +kernel)) ggX1_comeInto_X1_landOf
set_option maxRecDepth 20000 in
theorem ggX1_comeInto_X3_hasCell : GoodIn wsX1_comeInto wsX3_hasCell := goodIn_r _ [13] (by decide +kernel) (by decide +kernel)
set_option maxRecDepth 20000 in
theorem gX1_comeInto_X3_hasCell_n55 : GoodIn wsX1_comeInto (wsX3_hasCell) := ggX1_comeInto_X3_hasCell
set_option maxRecDepth 20000 in
theorem ggX1_comeInto_X1_goodOf : GoodIn wsX1_comeInto wsX1_goodOf := goodIn_r _ [17, 18, 19, 20, 8, 21, 22, 5, 6, 7, 9, 10, 23, 24, 25, 26, 27, 28, 29, 30] (by decide +kernel) (by decide +kernel)
set_option maxRecDepth 20000 in
theorem gX1_comeInto_X1_goodOf : GoodIn wsX1_comeInto (wsV RX1 90 RX1 yX1_goodOf wsX1_goodOf) := goodIn_app (goodIn_of _ (by decide +kernel)) ggX1_comeInto_X1_goodOf
theorem dX1_comeInto_0 : decode cX1_comeInto 0 = .ok (.aload_n 0, 1) := by decide +kernel
theorem dX1_comeInto_1 : decode cX1_comeInto 1 = .ok (.iload_n 1, 1) := by decide +kernel
theorem dX1_comeInto_2 : decode cX1_comeInto 2 = .ok (.invokevirtual 62, 3) := by decide +kernel
theorem dX1_comeInto_5 : decode cX1_comeInto 5 = .ok (.iconst 4, 1) := by decide +kernel
theorem dX1_comeInto_6 : decode cX1_comeInto 6 = .ok (.if_icmp .ne 14, 3) := by decide +kernel
theorem dX1_comeInto_9 : decode cX1_comeInto 9 = .ok (.aload_n 0, 1) := by decide +kernel
theorem dX1_comeInto_10 : decode cX1_comeInto 10 = .ok (.dup, 1) := by decide +kernel
theorem dX1_comeInto_11 : decode cX1_comeInto 11 = .ok (.getfield 29, 3) := by decide +kernel
theorem dX1_comeInto_14 : decode cX1_comeInto 14 = .ok (.iconst 1, 1) := by decide +kernel
theorem dX1_comeInto_15 : decode cX1_comeInto 15 = .ok (.iadd, 1) := by decide +kernel
theorem dX1_comeInto_16 : decode cX1_comeInto 16 = .ok (.putfield 29, 3) := by decide +kernel
theorem dX1_comeInto_19 : decode cX1_comeInto 19 = .ok (.return_, 1) := by decide +kernel
theorem dX1_comeInto_20 : decode cX1_comeInto 20 = .ok (.aload_n 0, 1) := by decide +kernel
theorem dX1_comeInto_21 : decode cX1_comeInto 21 = .ok (.iload_n 1, 1) := by decide +kernel
theorem dX1_comeInto_22 : decode cX1_comeInto 22 = .ok (.putfield 22, 3) := by decide +kernel
theorem dX1_comeInto_25 : decode cX1_comeInto 25 = .ok (.aload_n 0, 1) := by decide +kernel
theorem dX1_comeInto_26 : decode cX1_comeInto 26 = .ok (.getfield 32, 3) := by decide +kernel
theorem dX1_comeInto_29 : decode cX1_comeInto 29 = .ok (.iload_n 1, 1) := by decide +kernel
theorem dX1_comeInto_30 : decode cX1_comeInto 30 = .ok (.invokestatic 55, 3) := by decide +kernel
theorem dX1_comeInto_33 : decode cX1_comeInto 33 = .ok (.ifCond .ne 29, 3) := by decide +kernel
theorem dX1_comeInto_36 : decode cX1_comeInto 36 = .ok (.aload_n 0, 1) := by decide +kernel
theorem dX1_comeInto_37 : decode cX1_comeInto 37 = .ok (.dup, 1) := by decide +kernel
theorem dX1_comeInto_38 : decode cX1_comeInto 38 = .ok (.getfield 26, 3) := by decide +kernel
theorem dX1_comeInto_41 : decode cX1_comeInto 41 = .ok (.aload_n 0, 1) := by decide +kernel
theorem dX1_comeInto_42 : decode cX1_comeInto 42 = .ok (.iload_n 1, 1) := by decide +kernel
theorem dX1_comeInto_43 : decode cX1_comeInto 43 = .ok (.invokevirtual 90, 3) := by decide +kernel
theorem dX1_comeInto_46 : decode cX1_comeInto 46 = .ok (.iadd, 1) := by decide +kernel
theorem dX1_comeInto_47 : decode cX1_comeInto 47 = .ok (.putfield 26, 3) := by decide +kernel
theorem dX1_comeInto_50 : decode cX1_comeInto 50 = .ok (.aload_n 0, 1) := by decide +kernel
theorem dX1_comeInto_51 : decode cX1_comeInto 51 = .ok (.dup, 1) := by decide +kernel
theorem dX1_comeInto_52 : decode cX1_comeInto 52 = .ok (.getfield 32, 3) := by decide +kernel
theorem dX1_comeInto_55 : decode cX1_comeInto 55 = .ok (.iconst 1, 1) := by decide +kernel
theorem dX1_comeInto_56 : decode cX1_comeInto 56 = .ok (.iload_n 1, 1) := by decide +kernel
theorem dX1_comeInto_57 : decode cX1_comeInto 57 = .ok (.ishl, 1) := by decide +kernel
theorem dX1_comeInto_58 : decode cX1_comeInto 58 = .ok (.ior, 1) := by decide +kernel
theorem dX1_comeInto_59 : decode cX1_comeInto 59 = .ok (.putfield 32, 3) := by decide +kernel
theorem dX1_comeInto_62 : decode cX1_comeInto 62 = .ok (.return_, 1) := by decide +kernel
theorem dX2_init_0 : decode cX2_init 0 = .ok (.aload_n 0, 1) := by decide +kernel
theorem dX2_init_1 : decode cX2_init 1 = .ok (.invokespecial 3, 3) := by decide +kernel
theorem dX2_init_4 : decode cX2_init 4 = .ok (.aload_n 0, 1) := by decide +kernel
theorem dX2_init_5 : decode cX2_init 5 = .ok (.bipush 40, 2) := by decide +kernel
theorem dX2_init_7 : decode cX2_init 7 = .ok (.newarray .int, 2) := by decide +kernel
theorem dX2_init_9 : decode cX2_init 9 = .ok (.putfield 9, 3) := by decide +kernel
theorem dX2_init_12 : decode cX2_init 12 = .ok (.return_, 1) := by decide +kernel
theorem dX2_add_0 : decode cX2_add 0 = .ok (.aload_n 0, 1) := by decide +kernel
theorem dX2_add_1 : decode cX2_add 1 = .ok (.getfield 15, 3) := by decide +kernel
theorem dX2_add_4 : decode cX2_add 4 = .ok (.ifCond .lt 15, 3) := by decide +kernel
theorem dX2_add_7 : decode cX2_add 7 = .ok (.aload_n 0, 1) := by decide +kernel
theorem dX2_add_8 : decode cX2_add 8 = .ok (.getfield 15, 3) := by decide +kernel
theorem dX2_add_11 : decode cX2_add 11 = .ok (.aload_n 0, 1) := by decide +kernel
theorem dX2_add_12 : decode cX2_add 12 = .ok (.getfield 9, 3) := by decide +kernel
theorem dX2_add_15 : decode cX2_add 15 = .ok (.arraylength, 1) := by decide +kernel
theorem dX2_add_16 : decode cX2_add 16 = .ok (.if_icmp .lt 5, 3) := by decide +kernel
theorem dX2_add_19 : decode cX2_add 19 = .ok (.iconst 0, 1) := by decide +kernel
theorem dX2_add_20 : decode cX2_add 20 = .ok (.ireturn, 1) := by decide +kernel
theorem dX2_add_21 : decode cX2_add 21 = .ok (.aload_n 0, 1) := by decide +kernel
theorem dX2_add_22 : decode cX2_add 22 = .ok (.getfield 9, 3) := by decide +kernel
theorem dX2_add_25 : decode cX2_add 25 = .ok (.aload_n 0, 1) := by decide +kernel
theorem dX2_add_26 : decode cX2_add 26 = .ok (.getfield 15, 3) := by decide +kernel
theorem dX2_add_29 : decode cX2_add 29 = .ok (.iload_n 1, 1) := by decide +kernel
theorem dX2_add_30 : decode cX2_add 30 = .ok (.iastore, 1) := by decide +kernel
theorem dX2_add_31 : decode cX2_add 31 = .ok (.aload_n 0, 1) := by decide +kernel
theorem dX2_add_32 : decode cX2_add 32 = .ok (.dup, 1) := by decide +kernel
theorem dX2_add_33 : decode cX2_add 33 = .ok (.getfield 15, 3) := by decide +kernel
theorem dX2_add_36 : decode cX2_add 36 = .ok (.iconst 1, 1) := by decide +kernel
theorem dX2_add_37 : decode cX2_add 37 = .ok (.iadd, 1) := by decide +kernel
theorem dX2_add_38 : decode cX2_add 38 = .ok (.putfield 15, 3) := by decide +kernel
theorem dX2_add_41 : decode cX2_add 41 = .ok (.iconst 1, 1) := by decide +kernel
theorem dX2_add_42 : decode cX2_add 42 = .ok (.ireturn, 1) := by decide +kernel
theorem dX2_at_0 : decode cX2_at 0 = .ok (.iload_n 1, 1) := by decide +kernel
theorem dX2_at_1 : decode cX2_at 1 = .ok (.ifCond .lt 21, 3) := by decide +kernel
theorem dX2_at_4 : decode cX2_at 4 = .ok (.iload_n 1, 1) := by decide +kernel
theorem dX2_at_5 : decode cX2_at 5 = .ok (.aload_n 0, 1) := by decide +kernel
theorem dX2_at_6 : decode cX2_at 6 = .ok (.getfield 9, 3) := by decide +kernel
theorem dX2_at_9 : decode cX2_at 9 = .ok (.arraylength, 1) := by decide +kernel
theorem dX2_at_10 : decode cX2_at 10 = .ok (.if_icmp .ge 12, 3) := by decide +kernel
theorem dX2_at_13 : decode cX2_at 13 = .ok (.aload_n 0, 1) := by decide +kernel
theorem dX2_at_14 : decode cX2_at 14 = .ok (.getfield 9, 3) := by decide +kernel
theorem dX2_at_17 : decode cX2_at 17 = .ok (.iload_n 1, 1) := by decide +kernel
