set_option maxRecDepth 20000 in
theorem ggX0_init_X0_begin : GoodIn wsX0_init wsX0_begin := goodIn_r _ [11, 12, 13, 14, 15, 6, 16, 17, 18, 19, 20, 10, 21, 22, 23, 24, 25, 26, 27, 28, 29] (by decide +kernel) (by decide +kernel)
set_option maxRecDepth 20000 in
theorem gX0_init_X0_begin : GoodIn wsX0_init (wsV RX0 18 RX0 yX0_begin wsX0_begin) := goodIn_app (goodIn_of _ (by decide +kernel)) ggX0_init_X0_begin
theorem dX0_init_0 : decode cX0_init 0 = .ok (.aload_n 0, 1) := by decide +kernel
theorem dX0_init_1 : decode cX0_init 1 = .ok (.invokespecial 3, 3) := by decide +kernel
theorem dX0_init_4 : decode cX0_init 4 = .ok (.aload_n 0, 1) := by decide +kernel
theorem dX0_init_5 : decode cX0_init 5 = .ok (.bipush 96, 2) := by decide +kernel
theorem dX0_init_7 : decode cX0_init 7 = .ok (.newarray .int, 2) := by decide +kernel
theorem dX0_init_9 : decode cX0_init 9 = .ok (.putfield 9, 3) := by decide +kernel
theorem dX0_init_12 : decode cX0_init 12 = .ok (.aload_n 0, 1) := by decide +kernel
theorem dX0_init_13 : decode cX0_init 13 = .ok (.bipush 48, 2) := by decide +kernel
theorem dX0_init_15 : decode cX0_init 15 = .ok (.newarray .int, 2) := by decide +kernel
theorem dX0_init_17 : decode cX0_init 17 = .ok (.putfield 15, 3) := by decide +kernel
theorem dX0_init_20 : decode cX0_init 20 = .ok (.aload_n 0, 1) := by decide +kernel
theorem dX0_init_21 : decode cX0_init 21 = .ok (.bipush 8, 2) := by decide +kernel
theorem dX0_init_23 : decode cX0_init 23 = .ok (.iconst 2, 1) := by decide +kernel
theorem dX0_init_24 : decode cX0_init 24 = .ok (.invokevirtual 18, 3) := by decide +kernel
theorem dX0_init_27 : decode cX0_init 27 = .ok (.return_, 1) := by decide +kernel
set_option maxRecDepth 20000 in
theorem ggX0_begin_X0_top : GoodIn wsX0_begin wsX0_top := goodIn_r _ [12, 1, 13, 14, 15, 16, 17, 18, 19, 20] (by decide +kernel) (by decide +kernel)
set_option maxRecDepth 20000 in
theorem gX0_begin_X0_top : GoodIn wsX0_begin (wsV RX0 35 RX0 yX0_top wsX0_top) := goodIn_app (goodIn_of _ (by decide +kernel)) ggX0_begin_X0_top
theorem dX0_begin_0 : decode cX0_begin 0 = .ok (.aload_n 0, 1) := by decide +kernel
theorem dX0_begin_1 : decode cX0_begin 1 = .ok (.iload_n 1, 1) := by decide +kernel
theorem dX0_begin_2 : decode cX0_begin 2 = .ok (.putfield 22, 3) := by decide +kernel
theorem dX0_begin_5 : decode cX0_begin 5 = .ok (.aload_n 0, 1) := by decide +kernel
theorem dX0_begin_6 : decode cX0_begin 6 = .ok (.iload_n 2, 1) := by decide +kernel
theorem dX0_begin_7 : decode cX0_begin 7 = .ok (.putfield 26, 3) := by decide +kernel
theorem dX0_begin_10 : decode cX0_begin 10 = .ok (.aload_n 0, 1) := by decide +kernel
theorem dX0_begin_11 : decode cX0_begin 11 = .ok (.iconst 0, 1) := by decide +kernel
theorem dX0_begin_12 : decode cX0_begin 12 = .ok (.putfield 29, 3) := by decide +kernel
theorem dX0_begin_15 : decode cX0_begin 15 = .ok (.aload_n 0, 1) := by decide +kernel
theorem dX0_begin_16 : decode cX0_begin 16 = .ok (.iconst 1, 1) := by decide +kernel
theorem dX0_begin_17 : decode cX0_begin 17 = .ok (.putfield 32, 3) := by decide +kernel
theorem dX0_begin_20 : decode cX0_begin 20 = .ok (.aload_n 0, 1) := by decide +kernel
theorem dX0_begin_21 : decode cX0_begin 21 = .ok (.getfield 15, 3) := by decide +kernel
theorem dX0_begin_24 : decode cX0_begin 24 = .ok (.iconst 0, 1) := by decide +kernel
theorem dX0_begin_25 : decode cX0_begin 25 = .ok (.aload_n 0, 1) := by decide +kernel
theorem dX0_begin_26 : decode cX0_begin 26 = .ok (.invokevirtual 35, 3) := by decide +kernel
theorem dX0_begin_29 : decode cX0_begin 29 = .ok (.iastore, 1) := by decide +kernel
theorem dX0_begin_30 : decode cX0_begin 30 = .ok (.aload_n 0, 1) := by decide +kernel
theorem dX0_begin_31 : decode cX0_begin 31 = .ok (.iconst 0, 1) := by decide +kernel
theorem dX0_begin_32 : decode cX0_begin 32 = .ok (.putfield 39, 3) := by decide +kernel
theorem dX0_begin_35 : decode cX0_begin 35 = .ok (.aload_n 0, 1) := by decide +kernel
theorem dX0_begin_36 : decode cX0_begin 36 = .ok (.iconst 0, 1) := by decide +kernel
theorem dX0_begin_37 : decode cX0_begin 37 = .ok (.putfield 42, 3) := by decide +kernel
theorem dX0_begin_40 : decode cX0_begin 40 = .ok (.return_, 1) := by decide +kernel
set_option maxRecDepth 20000 in
theorem ggX0_become_X6_copyOver : GoodIn wsX0_become wsX6_copyOver := goodIn_r _ [11, 12, 13, 14, 15, 16, 17, 18, 19] (by decide +kernel) (by decide +kernel)
set_option maxRecDepth 20000 in
theorem gX0_become_X6_copyOver_n45 : GoodIn wsX0_become (wsX6_copyOver) := ggX0_become_X6_copyOver
theorem dX0_become_0 : decode cX0_become 0 = .ok (.aload_n 1, 1) := by decide +kernel
theorem dX0_become_1 : decode cX0_become 1 = .ok (.getfield 9, 3) := by decide +kernel
theorem dX0_become_4 : decode cX0_become 4 = .ok (.aload_n 0, 1) := by decide +kernel
theorem dX0_become_5 : decode cX0_become 5 = .ok (.getfield 9, 3) := by decide +kernel
theorem dX0_become_8 : decode cX0_become 8 = .ok (.invokestatic 45, 3) := by decide +kernel
theorem dX0_become_11 : decode cX0_become 11 = .ok (.aload_n 1, 1) := by decide +kernel
theorem dX0_become_12 : decode cX0_become 12 = .ok (.getfield 15, 3) := by decide +kernel
theorem dX0_become_15 : decode cX0_become 15 = .ok (.aload_n 0, 1) := by decide +kernel
theorem dX0_become_16 : decode cX0_become 16 = .ok (.getfield 15, 3) := by decide +kernel
theorem dX0_become_19 : decode cX0_become 19 = .ok (.invokestatic 45, 3) := by decide +kernel
theorem dX0_become_22 : decode cX0_become 22 = .ok (.aload_n 0, 1) := by decide +kernel
theorem dX0_become_23 : decode cX0_become 23 = .ok (.aload_n 1, 1) := by decide +kernel
theorem dX0_become_24 : decode cX0_become 24 = .ok (.getfield 22, 3) := by decide +kernel
theorem dX0_become_27 : decode cX0_become 27 = .ok (.putfield 22, 3) := by decide +kernel
theorem dX0_become_30 : decode cX0_become 30 = .ok (.aload_n 0, 1) := by decide +kernel
theorem dX0_become_31 : decode cX0_become 31 = .ok (.aload_n 1, 1) := by decide +kernel
theorem dX0_become_32 : decode cX0_become 32 = .ok (.getfield 26, 3) := by decide +kernel
theorem dX0_become_35 : decode cX0_become 35 = .ok (.putfield 26, 3) := by decide +kernel
theorem dX0_become_38 : decode cX0_become 38 = .ok (.aload_n 0, 1) := by decide +kernel
theorem dX0_become_39 : decode cX0_become 39 = .ok (.aload_n 1, 1) := by decide +kernel
theorem dX0_become_40 : decode cX0_become 40 = .ok (.getfield 29, 3) := by decide +kernel
theorem dX0_become_43 : decode cX0_become 43 = .ok (.putfield 29, 3) := by decide +kernel
theorem dX0_become_46 : decode cX0_become 46 = .ok (.aload_n 0, 1) := by decide +kernel
theorem dX0_become_47 : decode cX0_become 47 = .ok (.aload_n 1, 1) := by decide +kernel
theorem dX0_become_48 : decode cX0_become 48 = .ok (.getfield 32, 3) := by decide +kernel
theorem dX0_become_51 : decode cX0_become 51 = .ok (.putfield 32, 3) := by decide +kernel
theorem dX0_become_54 : decode cX0_become 54 = .ok (.aload_n 0, 1) := by decide +kernel
theorem dX0_become_55 : decode cX0_become 55 = .ok (.aload_n 1, 1) := by decide +kernel
theorem dX0_become_56 : decode cX0_become 56 = .ok (.getfield 39, 3) := by decide +kernel
theorem dX0_become_59 : decode cX0_become 59 = .ok (.putfield 39, 3) := by decide +kernel
theorem dX0_become_62 : decode cX0_become 62 = .ok (.aload_n 0, 1) := by decide +kernel
theorem dX0_become_63 : decode cX0_become 63 = .ok (.aload_n 1, 1) := by decide +kernel
theorem dX0_become_64 : decode cX0_become 64 = .ok (.getfield 42, 3) := by decide +kernel
theorem dX0_become_67 : decode cX0_become 67 = .ok (.putfield 42, 3) := by decide +kernel
theorem dX0_become_70 : decode cX0_become 70 = .ok (.return_, 1) := by decide +kernel
theorem dX0_top_0 : decode cX0_top 0 = .ok (.iconst 1, 1) := by decide +kernel
theorem dX0_top_1 : decode cX0_top 1 = .ok (.aload_n 0, 1) := by decide +kernel
theorem dX0_top_2 : decode cX0_top 2 = .ok (.getfield 22, 3) := by decide +kernel
theorem dX0_top_5 : decode cX0_top 5 = .ok (.ishl, 1) := by decide +kernel
theorem dX0_top_6 : decode cX0_top 6 = .ok (.iconst 1, 1) := by decide +kernel
theorem dX0_top_7 : decode cX0_top 7 = .ok (.isub, 1) := by decide +kernel
theorem dX0_top_8 : decode cX0_top 8 = .ok (.ireturn, 1) := by decide +kernel
set_option maxRecDepth 20000 in
theorem ggX0_inBounds_X0_top : GoodIn wsX0_inBounds wsX0_top := goodIn_r _ [5, 6, 7, 8, 9, 10, 11, 12, 13, 14] (by decide +kernel) (by decide +kernel)
set_option maxRecDepth 20000 in
theorem gX0_inBounds_X0_top : GoodIn wsX0_inBounds (wsV RX0 35 RX0 yX0_top wsX0_top) := goodIn_app (goodIn_of _ (by decide +kernel)) ggX0_inBounds_X0_top
theorem dX0_inBounds_0 : decode cX0_inBounds 0 = .ok (.iload_n 1, 1) := by decide +kernel
theorem dX0_inBounds_1 : decode cX0_inBounds 1 = .ok (.ifCond .lt 15, 3) := by decide +kernel
theorem dX0_inBounds_4 : decode cX0_inBounds 4 = .ok (.iload_n 1, 1) := by decide +kernel
theorem dX0_inBounds_5 : decode cX0_inBounds 5 = .ok (.aload_n 0, 1) := by decide +kernel
theorem dX0_inBounds_6 : decode cX0_inBounds 6 = .ok (.invokevirtual 35, 3) := by decide +kernel
theorem dX0_inBounds_9 : decode cX0_inBounds 9 = .ok (.if_icmp .gt 7, 3) := by decide +kernel
theorem dX0_inBounds_12 : decode cX0_inBounds 12 = .ok (.iconst 1, 1) := by decide +kernel
theorem dX0_inBounds_13 : decode cX0_inBounds 13 = .ok (.goto 4, 3) := by decide +kernel
theorem dX0_inBounds_16 : decode cX0_inBounds 16 = .ok (.iconst 0, 1) := by decide +kernel
theorem dX0_inBounds_17 : decode cX0_inBounds 17 = .ok (.ireturn, 1) := by decide +kernel
theorem dX0_hasLevel_0 : decode cX0_hasLevel 0 = .ok (.iload_n 1, 1) := by decide +kernel
theorem dX0_hasLevel_1 : decode cX0_hasLevel 1 = .ok (.ifCond .lt 15, 3) := by decide +kernel
theorem dX0_hasLevel_4 : decode cX0_hasLevel 4 = .ok (.iload_n 1, 1) := by decide +kernel
theorem dX0_hasLevel_5 : decode cX0_hasLevel 5 = .ok (.aload_n 0, 1) := by decide +kernel
theorem dX0_hasLevel_6 : decode cX0_hasLevel 6 = .ok (.getfield 22, 3) := by decide +kernel
theorem dX0_hasLevel_9 : decode cX0_hasLevel 9 = .ok (.if_icmp .gt 7, 3) := by decide +kernel
theorem dX0_hasLevel_12 : decode cX0_hasLevel 12 = .ok (.iconst 1, 1) := by decide +kernel
theorem dX0_hasLevel_13 : decode cX0_hasLevel 13 = .ok (.goto 4, 3) := by decide +kernel
theorem dX0_hasLevel_16 : decode cX0_hasLevel 16 = .ok (.iconst 0, 1) := by decide +kernel
theorem dX0_hasLevel_17 : decode cX0_hasLevel 17 = .ok (.ireturn, 1) := by decide +kernel
set_option maxRecDepth 20000 in
theorem ggX0_rankOf_X6_firstNotBelow : GoodIn wsX0_rankOf wsX6_firstNotBelow := goodIn_r _ [5] (by decide +kernel) (by decide +kernel)
set_option maxRecDepth 20000 in
theorem gX0_rankOf_X6_firstNotBelow_n49 : GoodIn wsX0_rankOf (wsX6_firstNotBelow) := ggX0_rankOf_X6_firstNotBelow
theorem dX0_rankOf_0 : decode cX0_rankOf 0 = .ok (.aload_n 0, 1) := by decide +kernel
theorem dX0_rankOf_1 : decode cX0_rankOf 1 = .ok (.getfield 9, 3) := by decide +kernel
theorem dX0_rankOf_4 : decode cX0_rankOf 4 = .ok (.aload_n 0, 1) := by decide +kernel
theorem dX0_rankOf_5 : decode cX0_rankOf 5 = .ok (.getfield 29, 3) := by decide +kernel
theorem dX0_rankOf_8 : decode cX0_rankOf 8 = .ok (.iload_n 1, 1) := by decide +kernel
theorem dX0_rankOf_9 : decode cX0_rankOf 9 = .ok (.invokestatic 49, 3) := by decide +kernel
theorem dX0_rankOf_12 : decode cX0_rankOf 12 = .ok (.ireturn, 1) := by decide +kernel
theorem dX0_keyAt_0 : decode cX0_keyAt 0 = .ok (.iload_n 1, 1) := by decide +kernel
theorem dX0_keyAt_1 : decode cX0_keyAt 1 = .ok (.ifCond .lt 29, 3) := by decide +kernel
theorem dX0_keyAt_4 : decode cX0_keyAt 4 = .ok (.iload_n 1, 1) := by decide +kernel
theorem dX0_keyAt_5 : decode cX0_keyAt 5 = .ok (.aload_n 0, 1) := by decide +kernel
theorem dX0_keyAt_6 : decode cX0_keyAt 6 = .ok (.getfield 29, 3) := by decide +kernel
theorem dX0_keyAt_9 : decode cX0_keyAt 9 = .ok (.if_icmp .ge 21, 3) := by decide +kernel
theorem dX0_keyAt_12 : decode cX0_keyAt 12 = .ok (.iload_n 1, 1) := by decide +kernel
theorem dX0_keyAt_13 : decode cX0_keyAt 13 = .ok (.aload_n 0, 1) := by decide +kernel
theorem dX0_keyAt_14 : decode cX0_keyAt 14 = .ok (.getfield 9, 3) := by decide +kernel
theorem dX0_keyAt_17 : decode cX0_keyAt 17 = .ok (.arraylength, 1) := by decide +kernel
theorem dX0_keyAt_18 : decode cX0_keyAt 18 = .ok (.if_icmp .ge 12, 3) := by decide +kernel
theorem dX0_keyAt_21 : decode cX0_keyAt 21 = .ok (.aload_n 0, 1) := by decide +kernel
theorem dX0_keyAt_22 : decode cX0_keyAt 22 = .ok (.getfield 9, 3) := by decide +kernel
theorem dX0_keyAt_25 : decode cX0_keyAt 25 = .ok (.iload_n 1, 1) := by decide +kernel
theorem dX0_keyAt_26 : decode cX0_keyAt 26 = .ok (.iaload, 1) := by decide +kernel
theorem dX0_keyAt_27 : decode cX0_keyAt 27 = .ok (.goto 4, 3) := by decide +kernel
theorem dX0_keyAt_30 : decode cX0_keyAt 30 = .ok (.iconst (-1), 1) := by decide +kernel
theorem dX0_keyAt_31 : decode cX0_keyAt 31 = .ok (.ireturn, 1) := by decide +kernel
set_option maxRecDepth 20000 in
theorem ggX0_holds_X0_rankOf : GoodIn wsX0_holds wsX0_rankOf := goodIn_r _ [5, 6, 7, 8, 9, 10, 15, 16, 17, 18, 19, 20, 21, 22] (by decide +kernel) (by decide +kernel)
set_option maxRecDepth 20000 in
theorem gX0_holds_X0_rankOf : GoodIn wsX0_holds (wsV RX0 53 RX0 yX0_rankOf wsX0_rankOf) := goodIn_app (goodIn_of _ (by decide +kernel)) ggX0_holds_X0_rankOf
set_option maxRecDepth 20000 in
theorem ggX0_holds_X0_keyAt : GoodIn wsX0_holds wsX0_keyAt := goodIn_r _ [14, 7, 6, 15, 16, 17, 18, 19, 20, 21, 22] (by decide +kernel) (by decide +kernel)
set_option maxRecDepth 20000 in
theorem gX0_holds_X0_keyAt : GoodIn wsX0_holds (wsV RX0 57 RX0 yX0_keyAt wsX0_keyAt) := goodIn_app (goodIn_of _ (by decide +kernel)) ggX0_holds_X0_keyAt
theorem dX0_holds_0 : decode cX0_holds 0 = .ok (.iload_n 1, 1) := by decide +kernel
theorem dX0_holds_1 : decode cX0_holds 1 = .ok (.ifCond .lt 20, 3) := by decide +kernel
theorem dX0_holds_4 : decode cX0_holds 4 = .ok (.aload_n 0, 1) := by decide +kernel
theorem dX0_holds_5 : decode cX0_holds 5 = .ok (.aload_n 0, 1) := by decide +kernel
theorem dX0_holds_6 : decode cX0_holds 6 = .ok (.iload_n 1, 1) := by decide +kernel
theorem dX0_holds_7 : decode cX0_holds 7 = .ok (.invokevirtual 53, 3) := by decide +kernel
theorem dX0_holds_10 : decode cX0_holds 10 = .ok (.invokevirtual 57, 3) := by decide +kernel
theorem dX0_holds_13 : decode cX0_holds 13 = .ok (.iload_n 1, 1) := by decide +kernel
theorem dX0_holds_14 : decode cX0_holds 14 = .ok (.if_icmp .ne 7, 3) := by decide +kernel
theorem dX0_holds_17 : decode cX0_holds 17 = .ok (.iconst 1, 1) := by decide +kernel
theorem dX0_holds_18 : decode cX0_holds 18 = .ok (.goto 4, 3) := by decide +kernel
theorem dX0_holds_21 : decode cX0_holds 21 = .ok (.iconst 0, 1) := by decide +kernel
theorem dX0_holds_22 : decode cX0_holds 22 = .ok (.ireturn, 1) := by decide +kernel
theorem dX0_markAt_0 : decode cX0_markAt 0 = .ok (.iload_n 1, 1) := by decide +kernel
theorem dX0_markAt_1 : decode cX0_markAt 1 = .ok (.ifCond .lt 29, 3) := by decide +kernel
theorem dX0_markAt_4 : decode cX0_markAt 4 = .ok (.iload_n 1, 1) := by decide +kernel
theorem dX0_markAt_5 : decode cX0_markAt 5 = .ok (.aload_n 0, 1) := by decide +kernel
theorem dX0_markAt_6 : decode cX0_markAt 6 = .ok (.getfield 32, 3) := by decide +kernel
theorem dX0_markAt_9 : decode cX0_markAt 9 = .ok (.if_icmp .ge 21, 3) := by decide +kernel
theorem dX0_markAt_12 : decode cX0_markAt 12 = .ok (.iload_n 1, 1) := by decide +kernel
theorem dX0_markAt_13 : decode cX0_markAt 13 = .ok (.aload_n 0, 1) := by decide +kernel
theorem dX0_markAt_14 : decode cX0_markAt 14 = .ok (.getfield 15, 3) := by decide +kernel
theorem dX0_markAt_17 : decode cX0_markAt 17 = .ok (.arraylength, 1) := by decide +kernel
theorem dX0_markAt_18 : decode cX0_markAt 18 = .ok (.if_icmp .ge 12, 3) := by decide +kernel
theorem dX0_markAt_21 : decode cX0_markAt 21 = .ok (.aload_n 0, 1) := by decide +kernel
theorem dX0_markAt_22 : decode cX0_markAt 22 = .ok (.getfield 15, 3) := by decide +kernel
theorem dX0_markAt_25 : decode cX0_markAt 25 = .ok (.iload_n 1, 1) := by decide +kernel
theorem dX0_markAt_26 : decode cX0_markAt 26 = .ok (.iaload, 1) := by decide +kernel
theorem dX0_markAt_27 : decode cX0_markAt 27 = .ok (.goto 4, 3) := by decide +kernel
theorem dX0_markAt_30 : decode cX0_markAt 30 = .ok (.iconst (-1), 1) := by decide +kernel
theorem dX0_markAt_31 : decode cX0_markAt 31 = .ok (.ireturn, 1) := by decide +kernel
set_option maxRecDepth 20000 in
theorem ggX0_bucketOf_X6_firstNotBelow : GoodIn wsX0_bucketOf wsX6_firstNotBelow := goodIn_r _ [5] (by decide +kernel) (by decide +kernel)
set_option maxRecDepth 20000 in
theorem gX0_bucketOf_X6_firstNotBelow_n49 : GoodIn wsX0_bucketOf (wsX6_firstNotBelow) := ggX0_bucketOf_X6_firstNotBelow
theorem dX0_bucketOf_0 : decode cX0_bucketOf 0 = .ok (.aload_n 0, 1) := by decide +kernel
theorem dX0_bucketOf_1 : decode cX0_bucketOf 1 = .ok (.getfield 15, 3) := by decide +kernel
theorem dX0_bucketOf_4 : decode cX0_bucketOf 4 = .ok (.aload_n 0, 1) := by decide +kernel
theorem dX0_bucketOf_5 : decode cX0_bucketOf 5 = .ok (.getfield 32, 3) := by decide +kernel
theorem dX0_bucketOf_8 : decode cX0_bucketOf 8 = .ok (.iload_n 1, 1) := by decide +kernel
theorem dX0_bucketOf_9 : decode cX0_bucketOf 9 = .ok (.invokestatic 49, 3) := by decide +kernel
theorem dX0_bucketOf_12 : decode cX0_bucketOf 12 = .ok (.ireturn, 1) := by decide +kernel
set_option maxRecDepth 20000 in
theorem ggX0_startOf_X0_endOf : GoodIn wsX0_startOf wsX0_endOf := goodIn_r _ [5, 6, 7, 8, 9, 10, 4, 11, 12, 13, 14, 15, 16, 17, 18, 19, 20, 21, 22, 23, 24] (by decide +kernel) (by decide +kernel)
set_option maxRecDepth 20000 in
theorem gX0_startOf_X0_endOf : GoodIn wsX0_startOf (wsV RX0 60 RX0 yX0_endOf wsX0_endOf) := goodIn_app (goodIn_of _ (by decide +kernel)) ggX0_startOf_X0_endOf
theorem dX0_startOf_0 : decode cX0_startOf 0 = .ok (.aload_n 0, 1) := by decide +kernel
theorem dX0_startOf_1 : decode cX0_startOf 1 = .ok (.iload_n 1, 1) := by decide +kernel
theorem dX0_startOf_2 : decode cX0_startOf 2 = .ok (.iconst 1, 1) := by decide +kernel
theorem dX0_startOf_3 : decode cX0_startOf 3 = .ok (.isub, 1) := by decide +kernel
theorem dX0_startOf_4 : decode cX0_startOf 4 = .ok (.invokevirtual 60, 3) := by decide +kernel
theorem dX0_startOf_7 : decode cX0_startOf 7 = .ok (.ireturn, 1) := by decide +kernel
set_option maxRecDepth 20000 in
theorem ggX0_endOf_X0_markAt : GoodIn wsX0_endOf wsX0_markAt := goodIn_r _ [7, 8, 9, 13, 14, 15, 16, 17, 18, 19, 20] (by decide +kernel) (by decide +kernel)
set_option maxRecDepth 20000 in
theorem gX0_endOf_X0_markAt : GoodIn wsX0_endOf (wsV RX0 63 RX0 yX0_markAt wsX0_markAt) := goodIn_app (goodIn_of _ (by decide +kernel)) ggX0_endOf_X0_markAt
set_option maxRecDepth 20000 in
theorem ggX0_endOf_X6_firstNotBelow : GoodIn wsX0_endOf wsX6_firstNotBelow := goodIn_r _ [12] (by decide +kernel) (by decide +kernel)
set_option maxRecDepth 20000 in
theorem gX0_endOf_X6_firstNotBelow_n49 : GoodIn wsX0_endOf (wsX6_firstNotBelow) := ggX0_endOf_X6_firstNotBelow
theorem dX0_endOf_0 : decode cX0_endOf 0 = .ok (.aload_n 0, 1) := by decide +kernel
theorem dX0_endOf_1 : decode cX0_endOf 1 = .ok (.getfield 9, 3) := by decide +kernel
theorem dX0_endOf_4 : decode cX0_endOf 4 = .ok (.aload_n 0, 1) := by decide +kernel
theorem dX0_endOf_5 : decode cX0_endOf 5 = .ok (.getfield 29, 3) := by decide +kernel
theorem dX0_endOf_8 : decode cX0_endOf 8 = .ok (.aload_n 0, 1) := by decide +kernel
theorem dX0_endOf_9 : decode cX0_endOf 9 = .ok (.iload_n 1, 1) := by decide +kernel
theorem dX0_endOf_10 : decode cX0_endOf 10 = .ok (.invokevirtual 63, 3) := by decide +kernel
theorem dX0_endOf_13 : decode cX0_endOf 13 = .ok (.iconst 1, 1) := by decide +kernel
theorem dX0_endOf_14 : decode cX0_endOf 14 = .ok (.iadd, 1) := by decide +kernel
theorem dX0_endOf_15 : decode cX0_endOf 15 = .ok (.invokestatic 49, 3) := by decide +kernel
theorem dX0_endOf_18 : decode cX0_endOf 18 = .ok (.ireturn, 1) := by decide +kernel
set_option maxRecDepth 20000 in
theorem ggX0_keysIn_X0_endOf : GoodIn wsX0_keysIn wsX0_endOf := goodIn_r _ [5, 6, 7, 8, 9, 10, 4, 11, 12, 13, 14, 15, 16, 17, 18, 19, 20, 21, 22, 23, 24] (by decide +kernel) (by decide +kernel)
set_option maxRecDepth 20000 in
theorem gX0_keysIn_X0_endOf : GoodIn wsX0_keysIn (wsV RX0 60 RX0 yX0_endOf wsX0_endOf) := goodIn_app (goodIn_of _ (by decide +kernel)) ggX0_keysIn_X0_endOf
theorem dX0_keysIn_0 : decode cX0_keysIn 0 = .ok (.aload_n 0, 1) := by decide +kernel
theorem dX0_keysIn_1 : decode cX0_keysIn 1 = .ok (.iload_n 1, 1) := by decide +kernel
theorem dX0_keysIn_2 : decode cX0_keysIn 2 = .ok (.invokevirtual 60, 3) := by decide +kernel
theorem dX0_keysIn_5 : decode cX0_keysIn 5 = .ok (.aload_n 0, 1) := by decide +kernel
theorem dX0_keysIn_6 : decode cX0_keysIn 6 = .ok (.iload_n 1, 1) := by decide +kernel
theorem dX0_keysIn_7 : decode cX0_keysIn 7 = .ok (.iconst 1, 1) := by decide +kernel
theorem dX0_keysIn_8 : decode cX0_keysIn 8 = .ok (.isub, 1) := by decide +kernel
theorem dX0_keysIn_9 : decode cX0_keysIn 9 = .ok (.invokevirtual 60, 3) := by decide +kernel
theorem dX0_keysIn_12 : decode cX0_keysIn 12 = .ok (.isub, 1) := by decide +kernel
theorem dX0_keysIn_13 : decode cX0_keysIn 13 = .ok (.ireturn, 1) := by decide +kernel
set_option maxRecDepth 20000 in
theorem ggX0_putIn_X0_holds : GoodIn wsX0_putIn wsX0_holds := goodIn_r _ [8, 9, 10, 11, 7, 12, 1, 2, 13, 14, 15, 16, 17, 18, 19, 45, 46, 47, 48, 49, 50, 51, 52] (by decide +kernel) (by decide +kernel)
set_option maxRecDepth 20000 in
theorem gX0_putIn_X0_holds : GoodIn wsX0_putIn (wsV RX0 66 RX0 yX0_holds wsX0_holds) := goodIn_app (goodIn_of _ (by decide +kernel)) ggX0_putIn_X0_holds
set_option maxRecDepth 20000 in
theorem ggX0_putIn_X0_rankOf : GoodIn wsX0_putIn wsX0_rankOf := goodIn_r _ [12, 1, 2, 13, 14, 15, 45, 46, 47, 48, 49, 50, 51, 52] (by decide +kernel) (by decide +kernel)
set_option maxRecDepth 20000 in
theorem gX0_putIn_X0_rankOf : GoodIn wsX0_putIn (wsV RX0 53 RX0 yX0_rankOf wsX0_rankOf) := goodIn_app (goodIn_of _ (by decide +kernel)) ggX0_putIn_X0_rankOf
set_option maxRecDepth 20000 in
theorem ggX0_putIn_X6_insertAt : GoodIn wsX0_putIn wsX6_insertAt := goodIn_r _ [21] (by decide +kernel) (by decide +kernel)
set_option maxRecDepth 20000 in
theorem gX0_putIn_X6_insertAt_n70 : GoodIn wsX0_putIn (wsX6_insertAt) := ggX0_putIn_X6_insertAt
set_option maxRecDepth 20000 in
theorem ggX0_putIn_X0_bucketOf : GoodIn wsX0_putIn wsX0_bucketOf := goodIn_r _ [25, 26, 27, 13, 14, 15, 45, 46, 47, 48, 49, 50, 51, 52] (by decide +kernel) (by decide +kernel)
set_option maxRecDepth 20000 in
theorem gX0_putIn_X0_bucketOf : GoodIn wsX0_putIn (wsV RX0 74 RX0 yX0_bucketOf wsX0_bucketOf) := goodIn_app (goodIn_of _ (by decide +kernel)) ggX0_putIn_X0_bucketOf
set_option maxRecDepth 20000 in
theorem ggX0_putIn_X0_keysIn : GoodIn wsX0_putIn wsX0_keysIn := goodIn_r _ [31, 32, 33, 34, 7, 35, 1, 2, 36, 37, 38, 39, 27, 26, 13, 14, 15, 45, 46, 47, 48, 49, 50, 51, 52] (by decide +kernel) (by decide +kernel)
set_option maxRecDepth 20000 in
theorem gX0_putIn_X0_keysIn : GoodIn wsX0_putIn (wsV RX0 77 RX0 yX0_keysIn wsX0_keysIn) := goodIn_app (goodIn_of _ (by decide +kernel)) ggX0_putIn_X0_keysIn
set_option maxRecDepth 20000 in
theorem ggX0_putIn_X0_halve : GoodIn wsX0_putIn wsX0_halve := goodIn_r _ [43, 26, 27, 44, 32, 33, 34, 7, 35, 1, 2, 36, 37, 38, 39, 13, 14, 15, 16, 17, 18, 19, 20, 21, 45, 46, 47, 48, 49, 50, 51, 52] (by decide +kernel) (by decide +kernel)
set_option maxRecDepth 20000 in
theorem gX0_putIn_X0_halve : GoodIn wsX0_putIn (wsV RX0 80 RX0 yX0_halve wsX0_halve) := goodIn_app (goodIn_of _ (by decide +kernel)) ggX0_putIn_X0_halve
theorem dX0_putIn_0 : decode cX0_putIn 0 = .ok (.aload_n 0, 1) := by decide +kernel
theorem dX0_putIn_1 : decode cX0_putIn 1 = .ok (.iload_n 1, 1) := by decide +kernel
theorem dX0_putIn_2 : decode cX0_putIn 2 = .ok (.invokevirtual 66, 3) := by decide +kernel
theorem dX0_putIn_5 : decode cX0_putIn 5 = .ok (.ifCond .ne 23, 3) := by decide +kernel
theorem dX0_putIn_8 : decode cX0_putIn 8 = .ok (.aload_n 0, 1) := by decide +kernel
theorem dX0_putIn_9 : decode cX0_putIn 9 = .ok (.getfield 9, 3) := by decide +kernel
theorem dX0_putIn_12 : decode cX0_putIn 12 = .ok (.aload_n 0, 1) := by decide +kernel
theorem dX0_putIn_13 : decode cX0_putIn 13 = .ok (.getfield 29, 3) := by decide +kernel
theorem dX0_putIn_16 : decode cX0_putIn 16 = .ok (.aload_n 0, 1) := by decide +kernel
theorem dX0_putIn_17 : decode cX0_putIn 17 = .ok (.iload_n 1, 1) := by decide +kernel
theorem dX0_putIn_18 : decode cX0_putIn 18 = .ok (.invokevirtual 53, 3) := by decide +kernel
theorem dX0_putIn_21 : decode cX0_putIn 21 = .ok (.iload_n 1, 1) := by decide +kernel
theorem dX0_putIn_22 : decode cX0_putIn 22 = .ok (.invokestatic 70, 3) := by decide +kernel
theorem dX0_putIn_25 : decode cX0_putIn 25 = .ok (.ifCond .ne 4, 3) := by decide +kernel
theorem dX0_putIn_28 : decode cX0_putIn 28 = .ok (.return_, 1) := by decide +kernel
theorem dX0_putIn_29 : decode cX0_putIn 29 = .ok (.aload_n 0, 1) := by decide +kernel
theorem dX0_putIn_30 : decode cX0_putIn 30 = .ok (.dup, 1) := by decide +kernel
theorem dX0_putIn_31 : decode cX0_putIn 31 = .ok (.getfield 29, 3) := by decide +kernel
theorem dX0_putIn_34 : decode cX0_putIn 34 = .ok (.iconst 1, 1) := by decide +kernel
theorem dX0_putIn_35 : decode cX0_putIn 35 = .ok (.iadd, 1) := by decide +kernel
theorem dX0_putIn_36 : decode cX0_putIn 36 = .ok (.putfield 29, 3) := by decide +kernel
theorem dX0_putIn_39 : decode cX0_putIn 39 = .ok (.aload_n 0, 1) := by decide +kernel
theorem dX0_putIn_40 : decode cX0_putIn 40 = .ok (.iload_n 1, 1) := by decide +kernel
theorem dX0_putIn_41 : decode cX0_putIn 41 = .ok (.invokevirtual 74, 3) := by decide +kernel
theorem dX0_putIn_44 : decode cX0_putIn 44 = .ok (.istore_n 2, 1) := by decide +kernel
theorem dX0_putIn_45 : decode cX0_putIn 45 = .ok (.aload_n 0, 1) := by decide +kernel
theorem dX0_putIn_46 : decode cX0_putIn 46 = .ok (.iload_n 2, 1) := by decide +kernel
theorem dX0_putIn_47 : decode cX0_putIn 47 = .ok (.invokevirtual 77, 3) := by decide +kernel
theorem dX0_putIn_50 : decode cX0_putIn 50 = .ok (.iconst 4, 1) := by decide +kernel
theorem dX0_putIn_51 : decode cX0_putIn 51 = .ok (.aload_n 0, 1) := by decide +kernel
theorem dX0_putIn_52 : decode cX0_putIn 52 = .ok (.getfield 26, 3) := by decide +kernel
theorem dX0_putIn_55 : decode cX0_putIn 55 = .ok (.imul, 1) := by decide +kernel
theorem dX0_putIn_56 : decode cX0_putIn 56 = .ok (.if_icmp .le 8, 3) := by decide +kernel
theorem dX0_putIn_59 : decode cX0_putIn 59 = .ok (.aload_n 0, 1) := by decide +kernel
theorem dX0_putIn_60 : decode cX0_putIn 60 = .ok (.iload_n 2, 1) := by decide +kernel
theorem dX0_putIn_61 : decode cX0_putIn 61 = .ok (.invokevirtual 80, 3) := by decide +kernel
theorem dX0_putIn_64 : decode cX0_putIn 64 = .ok (.return_, 1) := by decide +kernel
set_option maxRecDepth 20000 in
theorem ggX0_putInAll_X0_inBounds : GoodIn wsX0_putInAll wsX0_inBounds := goodIn_r _ [5, 6, 7, 8, 4, 9, 10, 58, 59, 60, 61, 62, 63, 64, 65] (by decide +kernel) (by decide +kernel)
set_option maxRecDepth 20000 in
theorem gX0_putInAll_X0_inBounds : GoodIn wsX0_putInAll (wsV RX0 84 RX0 yX0_inBounds wsX0_inBounds) := goodIn_app (goodIn_of _ (by decide +kernel)) ggX0_putInAll_X0_inBounds
set_option maxRecDepth 20000 in
theorem ggX0_putInAll_X0_putIn : GoodIn wsX0_putInAll wsX0_putIn := goodIn_r _ [14, 15, 16, 17, 18, 19, 20, 4, 21, 22, 23, 24, 25, 26, 27, 28, 29, 30, 31, 32, 33, 34, 35, 36, 37, 38, 39, 40, 41, 42, 43, 44, 45, 46, 47, 48, 49, 50, 51, 52, 53, 54, 55, 56, 57, 58, 59, 60, 61, 62, 63, 64, 65] (by decide +kernel) (by decide +kernel)
set_option maxRecDepth 20000 in
theorem gX0_putInAll_X0_putIn : GoodIn wsX0_putInAll (wsV RX0 87 RX0 yX0_putIn wsX0_putIn) := goodIn_app (goodIn_of _ (by decide +kernel)) ggX0_putInAll_X0_putIn
theorem dX0_putInAll_0 : decode cX0_putInAll 0 = .ok (.iconst 0, 1) := by decide +kernel
theorem dX0_putInAll_1 : decode cX0_putInAll 1 = .ok (.istore 4, 2) := by decide +kernel
theorem dX0_putInAll_3 : decode cX0_putInAll 3 = .ok (.iload 4, 2) := by decide +kernel
theorem dX0_putInAll_5 : decode cX0_putInAll 5 = .ok (.iload_n 3, 1) := by decide +kernel
theorem dX0_putInAll_6 : decode cX0_putInAll 6 = .ok (.if_icmp .ge 32, 3) := by decide +kernel
theorem dX0_putInAll_9 : decode cX0_putInAll 9 = .ok (.iload_n 1, 1) := by decide +kernel
theorem dX0_putInAll_10 : decode cX0_putInAll 10 = .ok (.iload 4, 2) := by decide +kernel
theorem dX0_putInAll_12 : decode cX0_putInAll 12 = .ok (.iload_n 2, 1) := by decide +kernel
theorem dX0_putInAll_13 : decode cX0_putInAll 13 = .ok (.imul, 1) := by decide +kernel
theorem dX0_putInAll_14 : decode cX0_putInAll 14 = .ok (.iadd, 1) := by decide +kernel
theorem dX0_putInAll_15 : decode cX0_putInAll 15 = .ok (.istore 5, 2) := by decide +kernel
theorem dX0_putInAll_17 : decode cX0_putInAll 17 = .ok (.aload_n 0, 1) := by decide +kernel
theorem dX0_putInAll_18 : decode cX0_putInAll 18 = .ok (.iload 5, 2) := by decide +kernel
theorem dX0_putInAll_20 : decode cX0_putInAll 20 = .ok (.invokevirtual 84, 3) := by decide +kernel
theorem dX0_putInAll_23 : decode cX0_putInAll 23 = .ok (.ifCond .eq 9, 3) := by decide +kernel
theorem dX0_putInAll_26 : decode cX0_putInAll 26 = .ok (.aload_n 0, 1) := by decide +kernel
theorem dX0_putInAll_27 : decode cX0_putInAll 27 = .ok (.iload 5, 2) := by decide +kernel
theorem dX0_putInAll_29 : decode cX0_putInAll 29 = .ok (.invokevirtual 87, 3) := by decide +kernel
theorem dX0_putInAll_32 : decode cX0_putInAll 32 = .ok (.iinc 4 1, 3) := by decide +kernel
theorem dX0_putInAll_35 : decode cX0_putInAll 35 = .ok (.goto (-32), 3) := by decide +kernel
theorem dX0_putInAll_38 : decode cX0_putInAll 38 = .ok (.return_, 1) := by decide +kernel
set_option maxRecDepth 20000 in
theorem ggX0_takeOut_X0_holds : GoodIn wsX0_takeOut wsX0_holds := goodIn_r _ [9, 10, 11, 12, 8, 13, 1, 2, 14, 15, 16, 17, 18, 19, 20, 52, 53, 54, 55, 56, 57, 58, 59] (by decide +kernel) (by decide +kernel)
set_option maxRecDepth 20000 in
theorem gX0_takeOut_X0_holds : GoodIn wsX0_takeOut (wsV RX0 66 RX0 yX0_holds wsX0_holds) := goodIn_app (goodIn_of _ (by decide +kernel)) ggX0_takeOut_X0_holds
set_option maxRecDepth 20000 in
theorem ggX0_takeOut_X0_rankOf : GoodIn wsX0_takeOut wsX0_rankOf := goodIn_r _ [13, 1, 2, 14, 15, 16, 52, 53, 54, 55, 56, 57, 58, 59] (by decide +kernel) (by decide +kernel)
set_option maxRecDepth 20000 in
theorem gX0_takeOut_X0_rankOf : GoodIn wsX0_takeOut (wsV RX0 53 RX0 yX0_rankOf wsX0_rankOf) := goodIn_app (goodIn_of _ (by decide +kernel)) ggX0_takeOut_X0_rankOf
set_option maxRecDepth 20000 in
theorem ggX0_takeOut_X6_deleteAt : GoodIn wsX0_takeOut wsX6_deleteAt := goodIn_r _ [22] (by decide +kernel) (by decide +kernel)
set_option maxRecDepth 20000 in
theorem gX0_takeOut_X6_deleteAt_n90 : GoodIn wsX0_takeOut (wsX6_deleteAt) := ggX0_takeOut_X6_deleteAt
set_option maxRecDepth 20000 in
theorem ggX0_takeOut_X0_bucketOf : GoodIn wsX0_takeOut wsX0_bucketOf := goodIn_r _ [26, 27, 3, 14, 15, 16, 52, 53, 54, 55, 56, 57, 58, 59] (by decide +kernel) (by decide +kernel)
set_option maxRecDepth 20000 in
theorem gX0_takeOut_X0_bucketOf : GoodIn wsX0_takeOut (wsV RX0 74 RX0 yX0_bucketOf wsX0_bucketOf) := goodIn_app (goodIn_of _ (by decide +kernel)) ggX0_takeOut_X0_bucketOf
set_option maxRecDepth 20000 in
theorem ggX0_takeOut_X0_keysIn : GoodIn wsX0_takeOut wsX0_keysIn := goodIn_r _ [31, 32, 33, 34, 8, 35, 1, 2, 36, 37, 38, 39, 3, 27, 14, 15, 16, 52, 53, 54, 55, 56, 57, 58, 59] (by decide +kernel) (by decide +kernel)
set_option maxRecDepth 20000 in
theorem gX0_takeOut_X0_keysIn : GoodIn wsX0_takeOut (wsV RX0 77 RX0 yX0_keysIn wsX0_keysIn) := goodIn_app (goodIn_of _ (by decide +kernel)) ggX0_takeOut_X0_keysIn
set_option maxRecDepth 20000 in
theorem ggX0_takeOut_X0_unite : GoodIn wsX0_takeOut wsX0_unite := goodIn_r _ [43, 3, 27, 44, 4, 21, 15, 22, 28, 29, 30, 8, 31, 32, 33, 34, 35, 1, 2, 36, 37, 38, 39, 14, 16, 45, 46, 47, 48, 49, 17, 18, 19, 20, 50, 51, 52, 53, 54, 55, 56, 57, 58, 59] (by decide +kernel) (by decide +kernel)
set_option maxRecDepth 20000 in
theorem gX0_takeOut_X0_unite : GoodIn wsX0_takeOut (wsV RX0 94 RX0 yX0_unite wsX0_unite) := goodIn_app (goodIn_of _ (by decide +kernel)) ggX0_takeOut_X0_unite
theorem dX0_takeOut_0 : decode cX0_takeOut 0 = .ok (.aload_n 0, 1) := by decide +kernel
theorem dX0_takeOut_1 : decode cX0_takeOut 1 = .ok (.iload_n 1, 1) := by decide +kernel
theorem dX0_takeOut_2 : decode cX0_takeOut 2 = .ok (.invokevirtual 66, 3) := by decide +kernel
theorem dX0_takeOut_5 : decode cX0_takeOut 5 = .ok (.ifCond .eq 22, 3) := by decide +kernel
theorem dX0_takeOut_8 : decode cX0_takeOut 8 = .ok (.aload_n 0, 1) := by decide +kernel
theorem dX0_takeOut_9 : decode cX0_takeOut 9 = .ok (.getfield 9, 3) := by decide +kernel
theorem dX0_takeOut_12 : decode cX0_takeOut 12 = .ok (.aload_n 0, 1) := by decide +kernel
theorem dX0_takeOut_13 : decode cX0_takeOut 13 = .ok (.getfield 29, 3) := by decide +kernel
theorem dX0_takeOut_16 : decode cX0_takeOut 16 = .ok (.aload_n 0, 1) := by decide +kernel
theorem dX0_takeOut_17 : decode cX0_takeOut 17 = .ok (.iload_n 1, 1) := by decide +kernel
theorem dX0_takeOut_18 : decode cX0_takeOut 18 = .ok (.invokevirtual 53, 3) := by decide +kernel
theorem dX0_takeOut_21 : decode cX0_takeOut 21 = .ok (.invokestatic 90, 3) := by decide +kernel
theorem dX0_takeOut_24 : decode cX0_takeOut 24 = .ok (.ifCond .ne 4, 3) := by decide +kernel
theorem dX0_takeOut_27 : decode cX0_takeOut 27 = .ok (.return_, 1) := by decide +kernel
theorem dX0_takeOut_28 : decode cX0_takeOut 28 = .ok (.aload_n 0, 1) := by decide +kernel
theorem dX0_takeOut_29 : decode cX0_takeOut 29 = .ok (.dup, 1) := by decide +kernel
theorem dX0_takeOut_30 : decode cX0_takeOut 30 = .ok (.getfield 29, 3) := by decide +kernel
theorem dX0_takeOut_33 : decode cX0_takeOut 33 = .ok (.iconst 1, 1) := by decide +kernel
theorem dX0_takeOut_34 : decode cX0_takeOut 34 = .ok (.isub, 1) := by decide +kernel
theorem dX0_takeOut_35 : decode cX0_takeOut 35 = .ok (.putfield 29, 3) := by decide +kernel
theorem dX0_takeOut_38 : decode cX0_takeOut 38 = .ok (.aload_n 0, 1) := by decide +kernel
theorem dX0_takeOut_39 : decode cX0_takeOut 39 = .ok (.iload_n 1, 1) := by decide +kernel
theorem dX0_takeOut_40 : decode cX0_takeOut 40 = .ok (.invokevirtual 74, 3) := by decide +kernel
theorem dX0_takeOut_43 : decode cX0_takeOut 43 = .ok (.istore_n 2, 1) := by decide +kernel
theorem dX0_takeOut_44 : decode cX0_takeOut 44 = .ok (.aload_n 0, 1) := by decide +kernel
theorem dX0_takeOut_45 : decode cX0_takeOut 45 = .ok (.getfield 32, 3) := by decide +kernel
theorem dX0_takeOut_48 : decode cX0_takeOut 48 = .ok (.iconst 1, 1) := by decide +kernel
theorem dX0_takeOut_49 : decode cX0_takeOut 49 = .ok (.if_icmp .le 20, 3) := by decide +kernel
theorem dX0_takeOut_52 : decode cX0_takeOut 52 = .ok (.aload_n 0, 1) := by decide +kernel
theorem dX0_takeOut_53 : decode cX0_takeOut 53 = .ok (.iload_n 2, 1) := by decide +kernel
theorem dX0_takeOut_54 : decode cX0_takeOut 54 = .ok (.invokevirtual 77, 3) := by decide +kernel
theorem dX0_takeOut_57 : decode cX0_takeOut 57 = .ok (.aload_n 0, 1) := by decide +kernel
theorem dX0_takeOut_58 : decode cX0_takeOut 58 = .ok (.getfield 26, 3) := by decide +kernel
theorem dX0_takeOut_61 : decode cX0_takeOut 61 = .ok (.if_icmp .ge 8, 3) := by decide +kernel
theorem dX0_takeOut_64 : decode cX0_takeOut 64 = .ok (.aload_n 0, 1) := by decide +kernel
theorem dX0_takeOut_65 : decode cX0_takeOut 65 = .ok (.iload_n 2, 1) := by decide +kernel
theorem dX0_takeOut_66 : decode cX0_takeOut 66 = .ok (.invokevirtual 94, 3) := by decide +kernel
theorem dX0_takeOut_69 : decode cX0_takeOut 69 = .ok (.return_, 1) := by decide +kernel
set_option maxRecDepth 20000 in
theorem ggX0_takeOutAll_X0_rankOf : GoodIn wsX0_takeOutAll wsX0_rankOf := goodIn_r _ [5, 6, 7, 8, 9, 10, 56, 57, 58, 59, 60, 61, 62, 63] (by decide +kernel) (by decide +kernel)
set_option maxRecDepth 20000 in
theorem gX0_takeOutAll_X0_rankOf : GoodIn wsX0_takeOutAll (wsV RX0 53 RX0 yX0_rankOf wsX0_rankOf) := goodIn_app (goodIn_of _ (by decide +kernel)) ggX0_takeOutAll_X0_rankOf
set_option maxRecDepth 20000 in
theorem ggX0_takeOutAll_X0_keyAt : GoodIn wsX0_takeOutAll wsX0_keyAt := goodIn_r _ [14, 7, 6, 56, 57, 58, 59, 60, 61, 62, 63] (by decide +kernel) (by decide +kernel)
set_option maxRecDepth 20000 in
theorem gX0_takeOutAll_X0_keyAt : GoodIn wsX0_takeOutAll (wsV RX0 57 RX0 yX0_keyAt wsX0_keyAt) := goodIn_app (goodIn_of _ (by decide +kernel)) ggX0_takeOutAll_X0_keyAt
set_option maxRecDepth 20000 in
theorem ggX0_takeOutAll_X0_takeOut : GoodIn wsX0_takeOutAll wsX0_takeOut := goodIn_r _ [18, 6, 7, 19, 20, 21, 22, 23, 4, 24, 1, 2, 3, 5, 8, 9, 10, 11, 12, 13, 14, 25, 26, 27, 28, 29, 30, 31, 32, 33, 34, 35, 36, 37, 38, 39, 40, 41, 42, 43, 44, 45, 46, 47, 48, 49, 50, 51, 52, 53, 54, 55, 56, 57, 58, 59, 60, 61, 62, 63] (by decide +kernel) (by decide +kernel)
set_option maxRecDepth 20000 in
theorem gX0_takeOutAll_X0_takeOut : GoodIn wsX0_takeOutAll (wsV RX0 97 RX0 yX0_takeOut wsX0_takeOut) := goodIn_app (goodIn_of _ (by decide +kernel)) ggX0_takeOutAll_X0_takeOut
theorem dX0_takeOutAll_0 : decode cX0_takeOutAll 0 = .ok (.aload_n 0, 1) := by decide +kernel
theorem dX0_takeOutAll_1 : decode cX0_takeOutAll 1 = .ok (.iload_n 2, 1) := by decide +kernel
theorem dX0_takeOutAll_2 : decode cX0_takeOutAll 2 = .ok (.iconst 1, 1) := by decide +kernel
theorem dX0_takeOutAll_3 : decode cX0_takeOutAll 3 = .ok (.iadd, 1) := by decide +kernel
theorem dX0_takeOutAll_4 : decode cX0_takeOutAll 4 = .ok (.invokevirtual 53, 3) := by decide +kernel
theorem dX0_takeOutAll_7 : decode cX0_takeOutAll 7 = .ok (.aload_n 0, 1) := by decide +kernel
theorem dX0_takeOutAll_8 : decode cX0_takeOutAll 8 = .ok (.iload_n 1, 1) := by decide +kernel
theorem dX0_takeOutAll_9 : decode cX0_takeOutAll 9 = .ok (.invokevirtual 53, 3) := by decide +kernel
theorem dX0_takeOutAll_12 : decode cX0_takeOutAll 12 = .ok (.isub, 1) := by decide +kernel
theorem dX0_takeOutAll_13 : decode cX0_takeOutAll 13 = .ok (.istore_n 3, 1) := by decide +kernel
theorem dX0_takeOutAll_14 : decode cX0_takeOutAll 14 = .ok (.iconst 0, 1) := by decide +kernel
theorem dX0_takeOutAll_15 : decode cX0_takeOutAll 15 = .ok (.istore 4, 2) := by decide +kernel
theorem dX0_takeOutAll_17 : decode cX0_takeOutAll 17 = .ok (.iload 4, 2) := by decide +kernel
theorem dX0_takeOutAll_19 : decode cX0_takeOutAll 19 = .ok (.iload_n 3, 1) := by decide +kernel
theorem dX0_takeOutAll_20 : decode cX0_takeOutAll 20 = .ok (.if_icmp .ge 22, 3) := by decide +kernel
theorem dX0_takeOutAll_23 : decode cX0_takeOutAll 23 = .ok (.aload_n 0, 1) := by decide +kernel
theorem dX0_takeOutAll_24 : decode cX0_takeOutAll 24 = .ok (.aload_n 0, 1) := by decide +kernel
theorem dX0_takeOutAll_25 : decode cX0_takeOutAll 25 = .ok (.aload_n 0, 1) := by decide +kernel
theorem dX0_takeOutAll_26 : decode cX0_takeOutAll 26 = .ok (.iload_n 1, 1) := by decide +kernel
theorem dX0_takeOutAll_27 : decode cX0_takeOutAll 27 = .ok (.invokevirtual 53, 3) := by decide +kernel
theorem dX0_takeOutAll_30 : decode cX0_takeOutAll 30 = .ok (.invokevirtual 57, 3) := by decide +kernel
theorem dX0_takeOutAll_33 : decode cX0_takeOutAll 33 = .ok (.invokevirtual 97, 3) := by decide +kernel
theorem dX0_takeOutAll_36 : decode cX0_takeOutAll 36 = .ok (.iinc 4 1, 3) := by decide +kernel
theorem dX0_takeOutAll_39 : decode cX0_takeOutAll 39 = .ok (.goto (-22), 3) := by decide +kernel
theorem dX0_takeOutAll_42 : decode cX0_takeOutAll 42 = .ok (.return_, 1) := by decide +kernel
set_option maxRecDepth 20000 in
theorem ggX0_halve_X0_endOf : GoodIn wsX0_halve wsX0_endOf := goodIn_r _ [8, 9, 10, 11, 12, 13, 7, 14, 2, 1, 15, 16, 17, 24, 25, 26, 27, 28, 29, 30, 31] (by decide +kernel) (by decide +kernel)
set_option maxRecDepth 20000 in
theorem gX0_halve_X0_endOf : GoodIn wsX0_halve (wsV RX0 60 RX0 yX0_endOf wsX0_endOf) := goodIn_app (goodIn_of _ (by decide +kernel)) ggX0_halve_X0_endOf
set_option maxRecDepth 20000 in
theorem ggX0_halve_X0_keyAt : GoodIn wsX0_halve wsX0_keyAt := goodIn_r _ [21, 10, 9, 24, 25, 26, 27, 28, 29, 30, 31] (by decide +kernel) (by decide +kernel)
set_option maxRecDepth 20000 in
theorem gX0_halve_X0_keyAt : GoodIn wsX0_halve (wsV RX0 57 RX0 yX0_keyAt wsX0_keyAt) := goodIn_app (goodIn_of _ (by decide +kernel)) ggX0_halve_X0_keyAt
set_option maxRecDepth 20000 in
theorem ggX0_halve_X6_insertAt : GoodIn wsX0_halve wsX6_insertAt := goodIn_r _ [23] (by decide +kernel) (by decide +kernel)
set_option maxRecDepth 20000 in
theorem gX0_halve_X6_insertAt_n70 : GoodIn wsX0_halve (wsX6_insertAt) := ggX0_halve_X6_insertAt
theorem dX0_halve_0 : decode cX0_halve 0 = .ok (.aload_n 0, 1) := by decide +kernel
theorem dX0_halve_1 : decode cX0_halve 1 = .ok (.iload_n 1, 1) := by decide +kernel
theorem dX0_halve_2 : decode cX0_halve 2 = .ok (.iconst 1, 1) := by decide +kernel
theorem dX0_halve_3 : decode cX0_halve 3 = .ok (.isub, 1) := by decide +kernel
theorem dX0_halve_4 : decode cX0_halve 4 = .ok (.invokevirtual 60, 3) := by decide +kernel
theorem dX0_halve_7 : decode cX0_halve 7 = .ok (.istore_n 2, 1) := by decide +kernel
theorem dX0_halve_8 : decode cX0_halve 8 = .ok (.aload_n 0, 1) := by decide +kernel
theorem dX0_halve_9 : decode cX0_halve 9 = .ok (.iload_n 1, 1) := by decide +kernel
theorem dX0_halve_10 : decode cX0_halve 10 = .ok (.invokevirtual 60, 3) := by decide +kernel
theorem dX0_halve_13 : decode cX0_halve 13 = .ok (.iload_n 2, 1) := by decide +kernel
theorem dX0_halve_14 : decode cX0_halve 14 = .ok (.isub, 1) := by decide +kernel
theorem dX0_halve_15 : decode cX0_halve 15 = .ok (.iconst 2, 1) := by decide +kernel
theorem dX0_halve_16 : decode cX0_halve 16 = .ok (.idiv, 1) := by decide +kernel
theorem dX0_halve_17 : decode cX0_halve 17 = .ok (.istore_n 3, 1) := by decide +kernel
theorem dX0_halve_18 : decode cX0_halve 18 = .ok (.aload_n 0, 1) := by decide +kernel
theorem dX0_halve_19 : decode cX0_halve 19 = .ok (.iload_n 2, 1) := by decide +kernel
theorem dX0_halve_20 : decode cX0_halve 20 = .ok (.iload_n 3, 1) := by decide +kernel
theorem dX0_halve_21 : decode cX0_halve 21 = .ok (.iadd, 1) := by decide +kernel
theorem dX0_halve_22 : decode cX0_halve 22 = .ok (.iconst 1, 1) := by decide +kernel
theorem dX0_halve_23 : decode cX0_halve 23 = .ok (.isub, 1) := by decide +kernel
theorem dX0_halve_24 : decode cX0_halve 24 = .ok (.invokevirtual 57, 3) := by decide +kernel
theorem dX0_halve_27 : decode cX0_halve 27 = .ok (.istore 4, 2) := by decide +kernel
theorem dX0_halve_29 : decode cX0_halve 29 = .ok (.aload_n 0, 1) := by decide +kernel
theorem dX0_halve_30 : decode cX0_halve 30 = .ok (.getfield 15, 3) := by decide +kernel
theorem dX0_halve_33 : decode cX0_halve 33 = .ok (.aload_n 0, 1) := by decide +kernel
theorem dX0_halve_34 : decode cX0_halve 34 = .ok (.getfield 32, 3) := by decide +kernel
theorem dX0_halve_37 : decode cX0_halve 37 = .ok (.iload_n 1, 1) := by decide +kernel
theorem dX0_halve_38 : decode cX0_halve 38 = .ok (.iload 4, 2) := by decide +kernel
theorem dX0_halve_40 : decode cX0_halve 40 = .ok (.invokestatic 70, 3) := by decide +kernel
theorem dX0_halve_43 : decode cX0_halve 43 = .ok (.ifCond .eq 23, 3) := by decide +kernel
theorem dX0_halve_46 : decode cX0_halve 46 = .ok (.aload_n 0, 1) := by decide +kernel
theorem dX0_halve_47 : decode cX0_halve 47 = .ok (.dup, 1) := by decide +kernel
theorem dX0_halve_48 : decode cX0_halve 48 = .ok (.getfield 32, 3) := by decide +kernel
theorem dX0_halve_51 : decode cX0_halve 51 = .ok (.iconst 1, 1) := by decide +kernel
theorem dX0_halve_52 : decode cX0_halve 52 = .ok (.iadd, 1) := by decide +kernel
theorem dX0_halve_53 : decode cX0_halve 53 = .ok (.putfield 32, 3) := by decide +kernel
theorem dX0_halve_56 : decode cX0_halve 56 = .ok (.aload_n 0, 1) := by decide +kernel
theorem dX0_halve_57 : decode cX0_halve 57 = .ok (.dup, 1) := by decide +kernel
theorem dX0_halve_58 : decode cX0_halve 58 = .ok (.getfield 39, 3) := by decide +kernel
theorem dX0_halve_61 : decode cX0_halve 61 = .ok (.iconst 1, 1) := by decide +kernel
theorem dX0_halve_62 : decode cX0_halve 62 = .ok (.iadd, 1) := by decide +kernel
theorem dX0_halve_63 : decode cX0_halve 63 = .ok (.putfield 39, 3) := by decide +kernel
theorem dX0_halve_66 : decode cX0_halve 66 = .ok (.return_, 1) := by decide +kernel
set_option maxRecDepth 20000 in
theorem ggX0_unite_X6_deleteAt : GoodIn wsX0_unite wsX6_deleteAt := goodIn_r _ [7] (by decide +kernel) (by decide +kernel)
set_option maxRecDepth 20000 in
theorem gX0_unite_X6_deleteAt_n90 : GoodIn wsX0_unite (wsX6_deleteAt) := ggX0_unite_X6_deleteAt
set_option maxRecDepth 20000 in
theorem ggX0_unite_X0_keysIn : GoodIn wsX0_unite wsX0_keysIn := goodIn_r _ [12, 13, 14, 15, 11, 16, 17, 18, 19, 20, 21, 22, 1, 2, 23, 6, 24, 36, 37, 38, 39, 40, 41, 42, 43] (by decide +kernel) (by decide +kernel)
set_option maxRecDepth 20000 in
theorem gX0_unite_X0_keysIn : GoodIn wsX0_unite (wsV RX0 77 RX0 yX0_keysIn wsX0_keysIn) := goodIn_app (goodIn_of _ (by decide +kernel)) ggX0_unite_X0_keysIn
set_option maxRecDepth 20000 in
theorem ggX0_unite_X0_halve : GoodIn wsX0_unite wsX0_halve := goodIn_r _ [28, 2, 1, 29, 13, 14, 15, 11, 16, 17, 18, 19, 20, 21, 22, 23, 6, 24, 30, 31, 32, 33, 34, 35, 36, 37, 38, 39, 40, 41, 42, 43] (by decide +kernel) (by decide +kernel)
set_option maxRecDepth 20000 in
theorem gX0_unite_X0_halve : GoodIn wsX0_unite (wsV RX0 80 RX0 yX0_halve wsX0_halve) := goodIn_app (goodIn_of _ (by decide +kernel)) ggX0_unite_X0_halve
theorem dX0_unite_0 : decode cX0_unite 0 = .ok (.iload_n 1, 1) := by decide +kernel
theorem dX0_unite_1 : decode cX0_unite 1 = .ok (.aload_n 0, 1) := by decide +kernel
theorem dX0_unite_2 : decode cX0_unite 2 = .ok (.getfield 32, 3) := by decide +kernel
theorem dX0_unite_5 : decode cX0_unite 5 = .ok (.iconst 1, 1) := by decide +kernel
theorem dX0_unite_6 : decode cX0_unite 6 = .ok (.isub, 1) := by decide +kernel
theorem dX0_unite_7 : decode cX0_unite 7 = .ok (.if_icmp .ne 9, 3) := by decide +kernel
theorem dX0_unite_10 : decode cX0_unite 10 = .ok (.iload_n 1, 1) := by decide +kernel
theorem dX0_unite_11 : decode cX0_unite 11 = .ok (.iconst 1, 1) := by decide +kernel
theorem dX0_unite_12 : decode cX0_unite 12 = .ok (.isub, 1) := by decide +kernel
theorem dX0_unite_13 : decode cX0_unite 13 = .ok (.goto 4, 3) := by decide +kernel
theorem dX0_unite_16 : decode cX0_unite 16 = .ok (.iload_n 1, 1) := by decide +kernel
theorem dX0_unite_17 : decode cX0_unite 17 = .ok (.istore_n 2, 1) := by decide +kernel
theorem dX0_unite_18 : decode cX0_unite 18 = .ok (.aload_n 0, 1) := by decide +kernel
theorem dX0_unite_19 : decode cX0_unite 19 = .ok (.getfield 15, 3) := by decide +kernel
theorem dX0_unite_22 : decode cX0_unite 22 = .ok (.aload_n 0, 1) := by decide +kernel
theorem dX0_unite_23 : decode cX0_unite 23 = .ok (.getfield 32, 3) := by decide +kernel
theorem dX0_unite_26 : decode cX0_unite 26 = .ok (.iload_n 2, 1) := by decide +kernel
theorem dX0_unite_27 : decode cX0_unite 27 = .ok (.invokestatic 90, 3) := by decide +kernel
theorem dX0_unite_30 : decode cX0_unite 30 = .ok (.ifCond .ne 4, 3) := by decide +kernel
theorem dX0_unite_33 : decode cX0_unite 33 = .ok (.return_, 1) := by decide +kernel
theorem dX0_unite_34 : decode cX0_unite 34 = .ok (.aload_n 0, 1) := by decide +kernel
theorem dX0_unite_35 : decode cX0_unite 35 = .ok (.dup, 1) := by decide +kernel
theorem dX0_unite_36 : decode cX0_unite 36 = .ok (.getfield 32, 3) := by decide +kernel
theorem dX0_unite_39 : decode cX0_unite 39 = .ok (.iconst 1, 1) := by decide +kernel
theorem dX0_unite_40 : decode cX0_unite 40 = .ok (.isub, 1) := by decide +kernel
theorem dX0_unite_41 : decode cX0_unite 41 = .ok (.putfield 32, 3) := by decide +kernel
theorem dX0_unite_44 : decode cX0_unite 44 = .ok (.aload_n 0, 1) := by decide +kernel
theorem dX0_unite_45 : decode cX0_unite 45 = .ok (.dup, 1) := by decide +kernel
theorem dX0_unite_46 : decode cX0_unite 46 = .ok (.getfield 42, 3) := by decide +kernel
theorem dX0_unite_49 : decode cX0_unite 49 = .ok (.iconst 1, 1) := by decide +kernel
theorem dX0_unite_50 : decode cX0_unite 50 = .ok (.iadd, 1) := by decide +kernel
theorem dX0_unite_51 : decode cX0_unite 51 = .ok (.putfield 42, 3) := by decide +kernel
theorem dX0_unite_54 : decode cX0_unite 54 = .ok (.aload_n 0, 1) := by decide +kernel
theorem dX0_unite_55 : decode cX0_unite 55 = .ok (.iload_n 2, 1) := by decide +kernel
theorem dX0_unite_56 : decode cX0_unite 56 = .ok (.invokevirtual 77, 3) := by decide +kernel
theorem dX0_unite_59 : decode cX0_unite 59 = .ok (.iconst 3, 1) := by decide +kernel
theorem dX0_unite_60 : decode cX0_unite 60 = .ok (.aload_n 0, 1) := by decide +kernel
theorem dX0_unite_61 : decode cX0_unite 61 = .ok (.getfield 26, 3) := by decide +kernel
theorem dX0_unite_64 : decode cX0_unite 64 = .ok (.imul, 1) := by decide +kernel
theorem dX0_unite_65 : decode cX0_unite 65 = .ok (.if_icmp .le 8, 3) := by decide +kernel
theorem dX0_unite_68 : decode cX0_unite 68 = .ok (.aload_n 0, 1) := by decide +kernel
theorem dX0_unite_69 : decode cX0_unite 69 = .ok (.iload_n 2, 1) := by decide +kernel
theorem dX0_unite_70 : decode cX0_unite 70 = .ok (.invokevirtual 80, 3) := by decide +kernel
theorem dX0_unite_73 : decode cX0_unite 73 = .ok (.return_, 1) := by decide +kernel
theorem dX0_beginningOf_0 : decode cX0_beginningOf 0 = .ok (.iload_n 1, 1) := by decide +kernel
theorem dX0_beginningOf_1 : decode cX0_beginningOf 1 = .ok (.aload_n 0, 1) := by decide +kernel
theorem dX0_beginningOf_2 : decode cX0_beginningOf 2 = .ok (.getfield 22, 3) := by decide +kernel
theorem dX0_beginningOf_5 : decode cX0_beginningOf 5 = .ok (.iload_n 2, 1) := by decide +kernel
theorem dX0_beginningOf_6 : decode cX0_beginningOf 6 = .ok (.isub, 1) := by decide +kernel
theorem dX0_beginningOf_7 : decode cX0_beginningOf 7 = .ok (.ishr, 1) := by decide +kernel
theorem dX0_beginningOf_8 : decode cX0_beginningOf 8 = .ok (.ireturn, 1) := by decide +kernel
set_option maxRecDepth 20000 in
theorem ggX0_marksAhead_X6_firstNotBelow : GoodIn wsX0_marksAhead wsX6_firstNotBelow := goodIn_r _ [6] (by decide +kernel) (by decide +kernel)
set_option maxRecDepth 20000 in
theorem gX0_marksAhead_X6_firstNotBelow_n49 : GoodIn wsX0_marksAhead (wsX6_firstNotBelow) := ggX0_marksAhead_X6_firstNotBelow
theorem dX0_marksAhead_0 : decode cX0_marksAhead 0 = .ok (.aload_n 0, 1) := by decide +kernel
theorem dX0_marksAhead_1 : decode cX0_marksAhead 1 = .ok (.getfield 15, 3) := by decide +kernel
theorem dX0_marksAhead_4 : decode cX0_marksAhead 4 = .ok (.aload_n 0, 1) := by decide +kernel
theorem dX0_marksAhead_5 : decode cX0_marksAhead 5 = .ok (.getfield 32, 3) := by decide +kernel
theorem dX0_marksAhead_8 : decode cX0_marksAhead 8 = .ok (.iload_n 2, 1) := by decide +kernel
theorem dX0_marksAhead_9 : decode cX0_marksAhead 9 = .ok (.aload_n 0, 1) := by decide +kernel
theorem dX0_marksAhead_10 : decode cX0_marksAhead 10 = .ok (.getfield 22, 3) := by decide +kernel
theorem dX0_marksAhead_13 : decode cX0_marksAhead 13 = .ok (.iload_n 1, 1) := by decide +kernel
theorem dX0_marksAhead_14 : decode cX0_marksAhead 14 = .ok (.isub, 1) := by decide +kernel
theorem dX0_marksAhead_15 : decode cX0_marksAhead 15 = .ok (.ishl, 1) := by decide +kernel
theorem dX0_marksAhead_16 : decode cX0_marksAhead 16 = .ok (.invokestatic 49, 3) := by decide +kernel
theorem dX0_marksAhead_19 : decode cX0_marksAhead 19 = .ok (.ireturn, 1) := by decide +kernel
set_option maxRecDepth 20000 in
theorem ggX0_marksBehind_X6_firstNotBelow : GoodIn wsX0_marksBehind wsX6_firstNotBelow := goodIn_r _ [6] (by decide +kernel) (by decide +kernel)
set_option maxRecDepth 20000 in
theorem gX0_marksBehind_X6_firstNotBelow_n49 : GoodIn wsX0_marksBehind (wsX6_firstNotBelow) := ggX0_marksBehind_X6_firstNotBelow
theorem dX0_marksBehind_0 : decode cX0_marksBehind 0 = .ok (.aload_n 0, 1) := by decide +kernel
theorem dX0_marksBehind_1 : decode cX0_marksBehind 1 = .ok (.getfield 15, 3) := by decide +kernel
theorem dX0_marksBehind_4 : decode cX0_marksBehind 4 = .ok (.aload_n 0, 1) := by decide +kernel
theorem dX0_marksBehind_5 : decode cX0_marksBehind 5 = .ok (.getfield 32, 3) := by decide +kernel
theorem dX0_marksBehind_8 : decode cX0_marksBehind 8 = .ok (.iload_n 2, 1) := by decide +kernel
theorem dX0_marksBehind_9 : decode cX0_marksBehind 9 = .ok (.iconst 1, 1) := by decide +kernel
theorem dX0_marksBehind_10 : decode cX0_marksBehind 10 = .ok (.iadd, 1) := by decide +kernel
theorem dX0_marksBehind_11 : decode cX0_marksBehind 11 = .ok (.aload_n 0, 1) := by decide +kernel
theorem dX0_marksBehind_12 : decode cX0_marksBehind 12 = .ok (.getfield 22, 3) := by decide +kernel
theorem dX0_marksBehind_15 : decode cX0_marksBehind 15 = .ok (.iload_n 1, 1) := by decide +kernel
theorem dX0_marksBehind_16 : decode cX0_marksBehind 16 = .ok (.isub, 1) := by decide +kernel
theorem dX0_marksBehind_17 : decode cX0_marksBehind 17 = .ok (.ishl, 1) := by decide +kernel
theorem dX0_marksBehind_18 : decode cX0_marksBehind 18 = .ok (.invokestatic 49, 3) := by decide +kernel
theorem dX0_marksBehind_21 : decode cX0_marksBehind 21 = .ok (.ireturn, 1) := by decide +kernel
set_option maxRecDepth 20000 in
theorem ggX0_isBeginning_X0_marksAhead : GoodIn wsX0_isBeginning wsX0_marksAhead := goodIn_r _ [5, 6, 7, 8, 9, 10, 11, 20, 21, 22, 23, 24, 25, 26, 27] (by decide +kernel) (by decide +kernel)
set_option maxRecDepth 20000 in
theorem gX0_isBeginning_X0_marksAhead : GoodIn wsX0_isBeginning (wsV RX0 100 RX0 yX0_marksAhead wsX0_marksAhead) := goodIn_app (goodIn_of _ (by decide +kernel)) ggX0_isBeginning_X0_marksAhead
set_option maxRecDepth 20000 in
theorem ggX0_isBeginning_X0_markAt : GoodIn wsX0_isBeginning wsX0_markAt := goodIn_r _ [15, 7, 6, 20, 21, 22, 23, 24, 25, 26, 27] (by decide +kernel) (by decide +kernel)
set_option maxRecDepth 20000 in
theorem gX0_isBeginning_X0_markAt : GoodIn wsX0_isBeginning (wsV RX0 63 RX0 yX0_markAt wsX0_markAt) := goodIn_app (goodIn_of _ (by decide +kernel)) ggX0_isBeginning_X0_markAt
set_option maxRecDepth 20000 in
theorem ggX0_isBeginning_X0_beginningOf : GoodIn wsX0_isBeginning wsX0_beginningOf := goodIn_r _ [19, 8, 20, 21, 22, 23, 24, 25, 26, 27] (by decide +kernel) (by decide +kernel)
set_option maxRecDepth 20000 in
theorem gX0_isBeginning_X0_beginningOf : GoodIn wsX0_isBeginning (wsV RX0 104 RX0 yX0_beginningOf wsX0_beginningOf) := goodIn_app (goodIn_of _ (by decide +kernel)) ggX0_isBeginning_X0_beginningOf
theorem dX0_isBeginning_0 : decode cX0_isBeginning 0 = .ok (.aload_n 0, 1) := by decide +kernel
theorem dX0_isBeginning_1 : decode cX0_isBeginning 1 = .ok (.aload_n 0, 1) := by decide +kernel
theorem dX0_isBeginning_2 : decode cX0_isBeginning 2 = .ok (.aload_n 0, 1) := by decide +kernel
theorem dX0_isBeginning_3 : decode cX0_isBeginning 3 = .ok (.iload_n 1, 1) := by decide +kernel
theorem dX0_isBeginning_4 : decode cX0_isBeginning 4 = .ok (.iload_n 2, 1) := by decide +kernel
theorem dX0_isBeginning_5 : decode cX0_isBeginning 5 = .ok (.invokevirtual 100, 3) := by decide +kernel
theorem dX0_isBeginning_8 : decode cX0_isBeginning 8 = .ok (.invokevirtual 63, 3) := by decide +kernel
theorem dX0_isBeginning_11 : decode cX0_isBeginning 11 = .ok (.iload_n 1, 1) := by decide +kernel
theorem dX0_isBeginning_12 : decode cX0_isBeginning 12 = .ok (.invokevirtual 104, 3) := by decide +kernel
theorem dX0_isBeginning_15 : decode cX0_isBeginning 15 = .ok (.iload_n 2, 1) := by decide +kernel
theorem dX0_isBeginning_16 : decode cX0_isBeginning 16 = .ok (.if_icmp .ne 7, 3) := by decide +kernel
theorem dX0_isBeginning_19 : decode cX0_isBeginning 19 = .ok (.iconst 1, 1) := by decide +kernel
theorem dX0_isBeginning_20 : decode cX0_isBeginning 20 = .ok (.goto 4, 3) := by decide +kernel
theorem dX0_isBeginning_23 : decode cX0_isBeginning 23 = .ok (.iconst 0, 1) := by decide +kernel
theorem dX0_isBeginning_24 : decode cX0_isBeginning 24 = .ok (.ireturn, 1) := by decide +kernel
set_option maxRecDepth 20000 in
theorem ggX0_beginnings_X0_markAt : GoodIn wsX0_beginnings wsX0_markAt := goodIn_r _ [6, 1, 7, 13, 14, 15, 16, 17, 18, 19, 20] (by decide +kernel) (by decide +kernel)
set_option maxRecDepth 20000 in
theorem gX0_beginnings_X0_markAt : GoodIn wsX0_beginnings (wsV RX0 63 RX0 yX0_markAt wsX0_markAt) := goodIn_app (goodIn_of _ (by decide +kernel)) ggX0_beginnings_X0_markAt
set_option maxRecDepth 20000 in
theorem ggX0_beginnings_X0_beginningOf : GoodIn wsX0_beginnings wsX0_beginningOf := goodIn_r _ [11, 12, 13, 14, 15, 16, 17, 18, 19, 20] (by decide +kernel) (by decide +kernel)
set_option maxRecDepth 20000 in
theorem gX0_beginnings_X0_beginningOf : GoodIn wsX0_beginnings (wsV RX0 104 RX0 yX0_beginningOf wsX0_beginningOf) := goodIn_app (goodIn_of _ (by decide +kernel)) ggX0_beginnings_X0_beginningOf
theorem dX0_beginnings_0 : decode cX0_beginnings 0 = .ok (.iconst 0, 1) := by decide +kernel
theorem dX0_beginnings_1 : decode cX0_beginnings 1 = .ok (.istore_n 2, 1) := by decide +kernel
theorem dX0_beginnings_2 : decode cX0_beginnings 2 = .ok (.iconst (-1), 1) := by decide +kernel
theorem dX0_beginnings_3 : decode cX0_beginnings 3 = .ok (.istore_n 3, 1) := by decide +kernel
theorem dX0_beginnings_4 : decode cX0_beginnings 4 = .ok (.iconst 0, 1) := by decide +kernel
theorem dX0_beginnings_5 : decode cX0_beginnings 5 = .ok (.istore 4, 2) := by decide +kernel
theorem dX0_beginnings_7 : decode cX0_beginnings 7 = .ok (.iload 4, 2) := by decide +kernel
theorem dX0_beginnings_9 : decode cX0_beginnings 9 = .ok (.aload_n 0, 1) := by decide +kernel
theorem dX0_beginnings_10 : decode cX0_beginnings 10 = .ok (.getfield 32, 3) := by decide +kernel
theorem dX0_beginnings_13 : decode cX0_beginnings 13 = .ok (.if_icmp .ge 34, 3) := by decide +kernel
theorem dX0_beginnings_16 : decode cX0_beginnings 16 = .ok (.aload_n 0, 1) := by decide +kernel
theorem dX0_beginnings_17 : decode cX0_beginnings 17 = .ok (.aload_n 0, 1) := by decide +kernel
theorem dX0_beginnings_18 : decode cX0_beginnings 18 = .ok (.iload 4, 2) := by decide +kernel
theorem dX0_beginnings_20 : decode cX0_beginnings 20 = .ok (.invokevirtual 63, 3) := by decide +kernel
theorem dX0_beginnings_23 : decode cX0_beginnings 23 = .ok (.iload_n 1, 1) := by decide +kernel
theorem dX0_beginnings_24 : decode cX0_beginnings 24 = .ok (.invokevirtual 104, 3) := by decide +kernel
theorem dX0_beginnings_27 : decode cX0_beginnings 27 = .ok (.istore 5, 2) := by decide +kernel
theorem dX0_beginnings_29 : decode cX0_beginnings 29 = .ok (.iload 5, 2) := by decide +kernel
theorem dX0_beginnings_31 : decode cX0_beginnings 31 = .ok (.iload_n 3, 1) := by decide +kernel
theorem dX0_beginnings_32 : decode cX0_beginnings 32 = .ok (.if_icmp .eq 9, 3) := by decide +kernel
theorem dX0_beginnings_35 : decode cX0_beginnings 35 = .ok (.iinc 2 1, 3) := by decide +kernel
theorem dX0_beginnings_38 : decode cX0_beginnings 38 = .ok (.iload 5, 2) := by decide +kernel
theorem dX0_beginnings_40 : decode cX0_beginnings 40 = .ok (.istore_n 3, 1) := by decide +kernel
theorem dX0_beginnings_41 : decode cX0_beginnings 41 = .ok (.iinc 4 1, 3) := by decide +kernel
theorem dX0_beginnings_44 : decode cX0_beginnings 44 = .ok (.goto (-37), 3) := by decide +kernel
theorem dX0_beginnings_47 : decode cX0_beginnings 47 = .ok (.iload_n 2, 1) := by decide +kernel
theorem dX0_beginnings_48 : decode cX0_beginnings 48 = .ok (.ireturn, 1) := by decide +kernel
set_option maxRecDepth 20000 in
theorem ggX0_allBeginnings_X0_beginnings : GoodIn wsX0_allBeginnings wsX0_beginnings := goodIn_r _ [6, 7, 8, 9, 10, 5, 11, 12, 13, 14, 15, 16, 1, 17, 18, 19, 20, 21, 22, 23, 24] (by decide +kernel) (by decide +kernel)
set_option maxRecDepth 20000 in
theorem gX0_allBeginnings_X0_beginnings : GoodIn wsX0_allBeginnings (wsV RX0 107 RX0 yX0_beginnings wsX0_beginnings) := goodIn_app (goodIn_of _ (by decide +kernel)) ggX0_allBeginnings_X0_beginnings
theorem dX0_allBeginnings_0 : decode cX0_allBeginnings 0 = .ok (.iconst 0, 1) := by decide +kernel
theorem dX0_allBeginnings_1 : decode cX0_allBeginnings 1 = .ok (.istore_n 1, 1) := by decide +kernel
theorem dX0_allBeginnings_2 : decode cX0_allBeginnings 2 = .ok (.iconst 0, 1) := by decide +kernel
theorem dX0_allBeginnings_3 : decode cX0_allBeginnings 3 = .ok (.istore_n 2, 1) := by decide +kernel
theorem dX0_allBeginnings_4 : decode cX0_allBeginnings 4 = .ok (.iload_n 2, 1) := by decide +kernel
theorem dX0_allBeginnings_5 : decode cX0_allBeginnings 5 = .ok (.aload_n 0, 1) := by decide +kernel
theorem dX0_allBeginnings_6 : decode cX0_allBeginnings 6 = .ok (.getfield 22, 3) := by decide +kernel
theorem dX0_allBeginnings_9 : decode cX0_allBeginnings 9 = .ok (.if_icmp .gt 17, 3) := by decide +kernel
theorem dX0_allBeginnings_12 : decode cX0_allBeginnings 12 = .ok (.iload_n 1, 1) := by decide +kernel
theorem dX0_allBeginnings_13 : decode cX0_allBeginnings 13 = .ok (.aload_n 0, 1) := by decide +kernel
theorem dX0_allBeginnings_14 : decode cX0_allBeginnings 14 = .ok (.iload_n 2, 1) := by decide +kernel
theorem dX0_allBeginnings_15 : decode cX0_allBeginnings 15 = .ok (.invokevirtual 107, 3) := by decide +kernel
theorem dX0_allBeginnings_18 : decode cX0_allBeginnings 18 = .ok (.iadd, 1) := by decide +kernel
theorem dX0_allBeginnings_19 : decode cX0_allBeginnings 19 = .ok (.istore_n 1, 1) := by decide +kernel
theorem dX0_allBeginnings_20 : decode cX0_allBeginnings 20 = .ok (.iinc 2 1, 3) := by decide +kernel
theorem dX0_allBeginnings_23 : decode cX0_allBeginnings 23 = .ok (.goto (-19), 3) := by decide +kernel
theorem dX0_allBeginnings_26 : decode cX0_allBeginnings 26 = .ok (.iload_n 1, 1) := by decide +kernel
theorem dX0_allBeginnings_27 : decode cX0_allBeginnings 27 = .ok (.ireturn, 1) := by decide +kernel
set_option maxRecDepth 20000 in
theorem ggX0_numbersOfLength_X0_beginnings : GoodIn wsX0_numbersOfLength wsX0_beginnings := goodIn_r _ [6, 7, 8, 9, 10, 5, 11, 12, 13, 14, 15, 16, 1, 17, 18, 19, 20, 21, 22, 23, 24] (by decide +kernel) (by decide +kernel)
set_option maxRecDepth 20000 in
theorem gX0_numbersOfLength_X0_beginnings : GoodIn wsX0_numbersOfLength (wsV RX0 107 RX0 yX0_beginnings wsX0_beginnings) := goodIn_app (goodIn_of _ (by decide +kernel)) ggX0_numbersOfLength_X0_beginnings
theorem dX0_numbersOfLength_0 : decode cX0_numbersOfLength 0 = .ok (.aload_n 0, 1) := by decide +kernel
theorem dX0_numbersOfLength_1 : decode cX0_numbersOfLength 1 = .ok (.iload_n 1, 1) := by decide +kernel
theorem dX0_numbersOfLength_2 : decode cX0_numbersOfLength 2 = .ok (.invokevirtual 107, 3) := by decide +kernel
theorem dX0_numbersOfLength_5 : decode cX0_numbersOfLength 5 = .ok (.aload_n 0, 1) := by decide +kernel
theorem dX0_numbersOfLength_6 : decode cX0_numbersOfLength 6 = .ok (.getfield 22, 3) := by decide +kernel
theorem dX0_numbersOfLength_9 : decode cX0_numbersOfLength 9 = .ok (.iload_n 1, 1) := by decide +kernel
theorem dX0_numbersOfLength_10 : decode cX0_numbersOfLength 10 = .ok (.isub, 1) := by decide +kernel
theorem dX0_numbersOfLength_11 : decode cX0_numbersOfLength 11 = .ok (.ishl, 1) := by decide +kernel
theorem dX0_numbersOfLength_12 : decode cX0_numbersOfLength 12 = .ok (.istore_n 2, 1) := by decide +kernel
theorem dX0_numbersOfLength_13 : decode cX0_numbersOfLength 13 = .ok (.iload_n 1, 1) := by decide +kernel
theorem dX0_numbersOfLength_14 : decode cX0_numbersOfLength 14 = .ok (.aload_n 0, 1) := by decide +kernel
theorem dX0_numbersOfLength_15 : decode cX0_numbersOfLength 15 = .ok (.getfield 22, 3) := by decide +kernel
theorem dX0_numbersOfLength_18 : decode cX0_numbersOfLength 18 = .ok (.if_icmp .lt 5, 3) := by decide +kernel
theorem dX0_numbersOfLength_21 : decode cX0_numbersOfLength 21 = .ok (.iload_n 2, 1) := by decide +kernel
theorem dX0_numbersOfLength_22 : decode cX0_numbersOfLength 22 = .ok (.ireturn, 1) := by decide +kernel
theorem dX0_numbersOfLength_23 : decode cX0_numbersOfLength 23 = .ok (.iload_n 2, 1) := by decide +kernel
theorem dX0_numbersOfLength_24 : decode cX0_numbersOfLength 24 = .ok (.aload_n 0, 1) := by decide +kernel
theorem dX0_numbersOfLength_25 : decode cX0_numbersOfLength 25 = .ok (.iload_n 1, 1) := by decide +kernel
theorem dX0_numbersOfLength_26 : decode cX0_numbersOfLength 26 = .ok (.iconst 1, 1) := by decide +kernel
theorem dX0_numbersOfLength_27 : decode cX0_numbersOfLength 27 = .ok (.iadd, 1) := by decide +kernel
theorem dX0_numbersOfLength_28 : decode cX0_numbersOfLength 28 = .ok (.invokevirtual 107, 3) := by decide +kernel
theorem dX0_numbersOfLength_31 : decode cX0_numbersOfLength 31 = .ok (.aload_n 0, 1) := by decide +kernel
theorem dX0_numbersOfLength_32 : decode cX0_numbersOfLength 32 = .ok (.getfield 22, 3) := by decide +kernel
theorem dX0_numbersOfLength_35 : decode cX0_numbersOfLength 35 = .ok (.iload_n 1, 1) := by decide +kernel
theorem dX0_numbersOfLength_36 : decode cX0_numbersOfLength 36 = .ok (.isub, 1) := by decide +kernel
theorem dX0_numbersOfLength_37 : decode cX0_numbersOfLength 37 = .ok (.iconst 1, 1) := by decide +kernel
theorem dX0_numbersOfLength_38 : decode cX0_numbersOfLength 38 = .ok (.isub, 1) := by decide +kernel
theorem dX0_numbersOfLength_39 : decode cX0_numbersOfLength 39 = .ok (.ishl, 1) := by decide +kernel
theorem dX0_numbersOfLength_40 : decode cX0_numbersOfLength 40 = .ok (.isub, 1) := by decide +kernel
theorem dX0_numbersOfLength_41 : decode cX0_numbersOfLength 41 = .ok (.ireturn, 1) := by decide +kernel
set_option maxRecDepth 20000 in
theorem ggX0_greatestOfLength_X0_markAt : GoodIn wsX0_greatestOfLength wsX0_markAt := goodIn_r _ [7, 2, 8, 24, 25, 26, 27, 28, 29, 30, 31] (by decide +kernel) (by decide +kernel)
set_option maxRecDepth 20000 in
theorem gX0_greatestOfLength_X0_markAt : GoodIn wsX0_greatestOfLength (wsV RX0 63 RX0 yX0_markAt wsX0_markAt) := goodIn_app (goodIn_of _ (by decide +kernel)) ggX0_greatestOfLength_X0_markAt
set_option maxRecDepth 20000 in
theorem ggX0_greatestOfLength_X0_beginningOf : GoodIn wsX0_greatestOfLength wsX0_beginningOf := goodIn_r _ [12, 1, 24, 25, 26, 27, 28, 29, 30, 31] (by decide +kernel) (by decide +kernel)
set_option maxRecDepth 20000 in
theorem gX0_greatestOfLength_X0_beginningOf : GoodIn wsX0_greatestOfLength (wsV RX0 104 RX0 yX0_beginningOf wsX0_beginningOf) := goodIn_app (goodIn_of _ (by decide +kernel)) ggX0_greatestOfLength_X0_beginningOf
set_option maxRecDepth 20000 in
theorem ggX0_greatestOfLength_X0_isBeginning : GoodIn wsX0_greatestOfLength wsX0_isBeginning := goodIn_r _ [16, 17, 18, 19, 6, 20, 8, 2, 1, 21, 22, 23, 3, 4, 5, 7, 9, 10, 11, 12, 24, 25, 26, 27, 28, 29, 30, 31] (by decide +kernel) (by decide +kernel)
set_option maxRecDepth 20000 in
theorem gX0_greatestOfLength_X0_isBeginning : GoodIn wsX0_greatestOfLength (wsV RX0 110 RX0 yX0_isBeginning wsX0_isBeginning) := goodIn_app (goodIn_of _ (by decide +kernel)) ggX0_greatestOfLength_X0_isBeginning
theorem dX0_greatestOfLength_0 : decode cX0_greatestOfLength 0 = .ok (.iload_n 1, 1) := by decide +kernel
theorem dX0_greatestOfLength_1 : decode cX0_greatestOfLength 1 = .ok (.aload_n 0, 1) := by decide +kernel
theorem dX0_greatestOfLength_2 : decode cX0_greatestOfLength 2 = .ok (.getfield 22, 3) := by decide +kernel
theorem dX0_greatestOfLength_5 : decode cX0_greatestOfLength 5 = .ok (.if_icmp .lt 14, 3) := by decide +kernel
theorem dX0_greatestOfLength_8 : decode cX0_greatestOfLength 8 = .ok (.aload_n 0, 1) := by decide +kernel
theorem dX0_greatestOfLength_9 : decode cX0_greatestOfLength 9 = .ok (.aload_n 0, 1) := by decide +kernel
theorem dX0_greatestOfLength_10 : decode cX0_greatestOfLength 10 = .ok (.getfield 32, 3) := by decide +kernel
theorem dX0_greatestOfLength_13 : decode cX0_greatestOfLength 13 = .ok (.iconst 1, 1) := by decide +kernel
theorem dX0_greatestOfLength_14 : decode cX0_greatestOfLength 14 = .ok (.isub, 1) := by decide +kernel
theorem dX0_greatestOfLength_15 : decode cX0_greatestOfLength 15 = .ok (.invokevirtual 63, 3) := by decide +kernel
theorem dX0_greatestOfLength_18 : decode cX0_greatestOfLength 18 = .ok (.ireturn, 1) := by decide +kernel
theorem dX0_greatestOfLength_19 : decode cX0_greatestOfLength 19 = .ok (.aload_n 0, 1) := by decide +kernel
theorem dX0_greatestOfLength_20 : decode cX0_greatestOfLength 20 = .ok (.getfield 32, 3) := by decide +kernel
theorem dX0_greatestOfLength_23 : decode cX0_greatestOfLength 23 = .ok (.iconst 1, 1) := by decide +kernel
theorem dX0_greatestOfLength_24 : decode cX0_greatestOfLength 24 = .ok (.isub, 1) := by decide +kernel
theorem dX0_greatestOfLength_25 : decode cX0_greatestOfLength 25 = .ok (.istore_n 2, 1) := by decide +kernel
theorem dX0_greatestOfLength_26 : decode cX0_greatestOfLength 26 = .ok (.iload_n 2, 1) := by decide +kernel
theorem dX0_greatestOfLength_27 : decode cX0_greatestOfLength 27 = .ok (.ifCond .lt 74, 3) := by decide +kernel
theorem dX0_greatestOfLength_30 : decode cX0_greatestOfLength 30 = .ok (.iconst 2, 1) := by decide +kernel
theorem dX0_greatestOfLength_31 : decode cX0_greatestOfLength 31 = .ok (.aload_n 0, 1) := by decide +kernel
theorem dX0_greatestOfLength_32 : decode cX0_greatestOfLength 32 = .ok (.aload_n 0, 1) := by decide +kernel
theorem dX0_greatestOfLength_33 : decode cX0_greatestOfLength 33 = .ok (.iload_n 2, 1) := by decide +kernel
theorem dX0_greatestOfLength_34 : decode cX0_greatestOfLength 34 = .ok (.invokevirtual 63, 3) := by decide +kernel
theorem dX0_greatestOfLength_37 : decode cX0_greatestOfLength 37 = .ok (.iload_n 1, 1) := by decide +kernel
theorem dX0_greatestOfLength_38 : decode cX0_greatestOfLength 38 = .ok (.invokevirtual 104, 3) := by decide +kernel
theorem dX0_greatestOfLength_41 : decode cX0_greatestOfLength 41 = .ok (.imul, 1) := by decide +kernel
theorem dX0_greatestOfLength_42 : decode cX0_greatestOfLength 42 = .ok (.istore_n 3, 1) := by decide +kernel
theorem dX0_greatestOfLength_43 : decode cX0_greatestOfLength 43 = .ok (.aload_n 0, 1) := by decide +kernel
theorem dX0_greatestOfLength_44 : decode cX0_greatestOfLength 44 = .ok (.getfield 22, 3) := by decide +kernel
theorem dX0_greatestOfLength_47 : decode cX0_greatestOfLength 47 = .ok (.iload_n 1, 1) := by decide +kernel
theorem dX0_greatestOfLength_48 : decode cX0_greatestOfLength 48 = .ok (.isub, 1) := by decide +kernel
theorem dX0_greatestOfLength_49 : decode cX0_greatestOfLength 49 = .ok (.iconst 1, 1) := by decide +kernel
theorem dX0_greatestOfLength_50 : decode cX0_greatestOfLength 50 = .ok (.isub, 1) := by decide +kernel
theorem dX0_greatestOfLength_51 : decode cX0_greatestOfLength 51 = .ok (.istore 4, 2) := by decide +kernel
theorem dX0_greatestOfLength_53 : decode cX0_greatestOfLength 53 = .ok (.aload_n 0, 1) := by decide +kernel
theorem dX0_greatestOfLength_54 : decode cX0_greatestOfLength 54 = .ok (.iload_n 1, 1) := by decide +kernel
theorem dX0_greatestOfLength_55 : decode cX0_greatestOfLength 55 = .ok (.iconst 1, 1) := by decide +kernel
theorem dX0_greatestOfLength_56 : decode cX0_greatestOfLength 56 = .ok (.iadd, 1) := by decide +kernel
theorem dX0_greatestOfLength_57 : decode cX0_greatestOfLength 57 = .ok (.iload_n 3, 1) := by decide +kernel
theorem dX0_greatestOfLength_58 : decode cX0_greatestOfLength 58 = .ok (.iconst 1, 1) := by decide +kernel
theorem dX0_greatestOfLength_59 : decode cX0_greatestOfLength 59 = .ok (.iadd, 1) := by decide +kernel
theorem dX0_greatestOfLength_60 : decode cX0_greatestOfLength 60 = .ok (.invokevirtual 110, 3) := by decide +kernel
theorem dX0_greatestOfLength_63 : decode cX0_greatestOfLength 63 = .ok (.ifCond .ne 12, 3) := by decide +kernel
theorem dX0_greatestOfLength_66 : decode cX0_greatestOfLength 66 = .ok (.iload_n 3, 1) := by decide +kernel
theorem dX0_greatestOfLength_67 : decode cX0_greatestOfLength 67 = .ok (.iconst 2, 1) := by decide +kernel
theorem dX0_greatestOfLength_68 : decode cX0_greatestOfLength 68 = .ok (.iadd, 1) := by decide +kernel
theorem dX0_greatestOfLength_69 : decode cX0_greatestOfLength 69 = .ok (.iload 4, 2) := by decide +kernel
theorem dX0_greatestOfLength_71 : decode cX0_greatestOfLength 71 = .ok (.ishl, 1) := by decide +kernel
theorem dX0_greatestOfLength_72 : decode cX0_greatestOfLength 72 = .ok (.iconst 1, 1) := by decide +kernel
theorem dX0_greatestOfLength_73 : decode cX0_greatestOfLength 73 = .ok (.isub, 1) := by decide +kernel
theorem dX0_greatestOfLength_74 : decode cX0_greatestOfLength 74 = .ok (.ireturn, 1) := by decide +kernel
theorem dX0_greatestOfLength_75 : decode cX0_greatestOfLength 75 = .ok (.aload_n 0, 1) := by decide +kernel
theorem dX0_greatestOfLength_76 : decode cX0_greatestOfLength 76 = .ok (.iload_n 1, 1) := by decide +kernel
theorem dX0_greatestOfLength_77 : decode cX0_greatestOfLength 77 = .ok (.iconst 1, 1) := by decide +kernel
theorem dX0_greatestOfLength_78 : decode cX0_greatestOfLength 78 = .ok (.iadd, 1) := by decide +kernel
theorem dX0_greatestOfLength_79 : decode cX0_greatestOfLength 79 = .ok (.iload_n 3, 1) := by decide +kernel
theorem dX0_greatestOfLength_80 : decode cX0_greatestOfLength 80 = .ok (.invokevirtual 110, 3) := by decide +kernel
theorem dX0_greatestOfLength_83 : decode cX0_greatestOfLength 83 = .ok (.ifCond .ne 12, 3) := by decide +kernel
theorem dX0_greatestOfLength_86 : decode cX0_greatestOfLength 86 = .ok (.iload_n 3, 1) := by decide +kernel
theorem dX0_greatestOfLength_87 : decode cX0_greatestOfLength 87 = .ok (.iconst 1, 1) := by decide +kernel
theorem dX0_greatestOfLength_88 : decode cX0_greatestOfLength 88 = .ok (.iadd, 1) := by decide +kernel
theorem dX0_greatestOfLength_89 : decode cX0_greatestOfLength 89 = .ok (.iload 4, 2) := by decide +kernel
theorem dX0_greatestOfLength_91 : decode cX0_greatestOfLength 91 = .ok (.ishl, 1) := by decide +kernel
theorem dX0_greatestOfLength_92 : decode cX0_greatestOfLength 92 = .ok (.iconst 1, 1) := by decide +kernel
theorem dX0_greatestOfLength_93 : decode cX0_greatestOfLength 93 = .ok (.isub, 1) := by decide +kernel
theorem dX0_greatestOfLength_94 : decode cX0_greatestOfLength 94 = .ok (.ireturn, 1) := by decide +kernel
theorem dX0_greatestOfLength_95 : decode cX0_greatestOfLength 95 = .ok (.iinc 2 (-1), 3) := by decide +kernel
theorem dX0_greatestOfLength_98 : decode cX0_greatestOfLength 98 = .ok (.goto (-72), 3) := by decide +kernel
theorem dX0_greatestOfLength_101 : decode cX0_greatestOfLength 101 = .ok (.iconst (-1), 1) := by decide +kernel
theorem dX0_greatestOfLength_102 : decode cX0_greatestOfLength 102 = .ok (.ireturn, 1) := by decide +kernel
theorem dX1_init_0 : decode cX1_init 0 = .ok (.aload_n 0, 1) := by decide +kernel
theorem dX1_init_1 : decode cX1_init 1 = .ok (.invokespecial 3, 3) := by decide +kernel
theorem dX1_init_4 : decode cX1_init 4 = .ok (.return_, 1) := by decide +kernel
set_option maxRecDepth 20000 in
theorem ggX1_seek_X1_probe : GoodIn wsX1_seek wsX1_probe := goodIn_r _ [8, 9, 1, 10, 11, 12, 13, 14, 15, 16, 17, 18, 19, 20, 21, 22, 23, 24, 25, 26, 27, 28, 29, 30, 31, 32, 33, 66, 67, 68, 69, 70, 71, 72, 73, 61, 62, 63, 64, 65] (by decide +kernel) (by decide +kernel)
set_option maxRecDepth 20000 in
theorem gX1_seek_X1_probe : GoodIn wsX1_seek (wsV RX1 9 RX1 yX1_probe wsX1_probe) := goodIn_app (goodIn_of _ (by decide +kernel)) ggX1_seek_X1_probe
set_option maxRecDepth 20000 in
theorem ggX1_seek_X0_beginningOf : GoodIn wsX1_seek wsX0_beginningOf := goodIn_r _ [14, 15, 66, 67, 68, 69, 70, 71, 72, 73] (by decide +kernel) (by decide +kernel)
set_option maxRecDepth 20000 in
theorem gX1_seek_X0_beginningOf : GoodIn wsX1_seek (wsV RX1 24 RX0 yX0_beginningOf wsX0_beginningOf) := goodIn_app (goodIn_of _ (by decide +kernel)) ggX1_seek_X0_beginningOf
set_option maxRecDepth 20000 in
theorem ggX1_seek_X0_bucketOf : GoodIn wsX1_seek wsX0_bucketOf := goodIn_r _ [37, 24, 25, 26, 27, 28, 66, 67, 68, 69, 70, 71, 72, 73] (by decide +kernel) (by decide +kernel)
set_option maxRecDepth 20000 in
theorem gX1_seek_X0_bucketOf : GoodIn wsX1_seek (wsV RX1 31 RX0 yX0_bucketOf wsX0_bucketOf) := goodIn_app (goodIn_of _ (by decide +kernel)) ggX1_seek_X0_bucketOf
set_option maxRecDepth 20000 in
theorem ggX1_seek_X1_look : GoodIn wsX1_seek wsX1_look := goodIn_r _ [41, 3, 42, 43, 44, 45, 13, 46, 47, 48, 49, 50, 51, 52, 29, 30, 31, 32, 25, 24, 26, 27, 28, 53, 54, 55, 56, 57, 58, 59, 60, 61, 62, 63, 64, 65, 66, 67, 68, 69, 70, 71, 72, 73] (by decide +kernel) (by decide +kernel)
set_option maxRecDepth 20000 in
theorem gX1_seek_X1_look : GoodIn wsX1_seek (wsV RX1 38 RX1 yX1_look wsX1_look) := goodIn_app (goodIn_of _ (by decide +kernel)) ggX1_seek_X1_look
theorem dX1_seek_0 : decode cX1_seek 0 = .ok (.aload_n 0, 1) := by decide +kernel
theorem dX1_seek_1 : decode cX1_seek 1 = .ok (.aload_n 1, 1) := by decide +kernel
theorem dX1_seek_2 : decode cX1_seek 2 = .ok (.iload_n 2, 1) := by decide +kernel
theorem dX1_seek_3 : decode cX1_seek 3 = .ok (.invokevirtual 9, 3) := by decide +kernel
theorem dX1_seek_6 : decode cX1_seek 6 = .ok (.aload_n 0, 1) := by decide +kernel
theorem dX1_seek_7 : decode cX1_seek 7 = .ok (.getfield 15, 3) := by decide +kernel
theorem dX1_seek_10 : decode cX1_seek 10 = .ok (.aload_n 1, 1) := by decide +kernel
theorem dX1_seek_11 : decode cX1_seek 11 = .ok (.getfield 19, 3) := by decide +kernel
theorem dX1_seek_14 : decode cX1_seek 14 = .ok (.if_icmp .ge 24, 3) := by decide +kernel
theorem dX1_seek_17 : decode cX1_seek 17 = .ok (.aload_n 1, 1) := by decide +kernel
theorem dX1_seek_18 : decode cX1_seek 18 = .ok (.iload_n 2, 1) := by decide +kernel
theorem dX1_seek_19 : decode cX1_seek 19 = .ok (.aload_n 0, 1) := by decide +kernel
theorem dX1_seek_20 : decode cX1_seek 20 = .ok (.getfield 15, 3) := by decide +kernel
theorem dX1_seek_23 : decode cX1_seek 23 = .ok (.iconst 1, 1) := by decide +kernel
theorem dX1_seek_24 : decode cX1_seek 24 = .ok (.iadd, 1) := by decide +kernel
theorem dX1_seek_25 : decode cX1_seek 25 = .ok (.invokevirtual 24, 3) := by decide +kernel
theorem dX1_seek_28 : decode cX1_seek 28 = .ok (.iconst 1, 1) := by decide +kernel
theorem dX1_seek_29 : decode cX1_seek 29 = .ok (.iand, 1) := by decide +kernel
theorem dX1_seek_30 : decode cX1_seek 30 = .ok (.iconst 1, 1) := by decide +kernel
theorem dX1_seek_31 : decode cX1_seek 31 = .ok (.if_icmp .ne 7, 3) := by decide +kernel
theorem dX1_seek_34 : decode cX1_seek 34 = .ok (.iconst 1, 1) := by decide +kernel
theorem dX1_seek_35 : decode cX1_seek 35 = .ok (.goto 4, 3) := by decide +kernel
theorem dX1_seek_38 : decode cX1_seek 38 = .ok (.iconst 0, 1) := by decide +kernel
theorem dX1_seek_39 : decode cX1_seek 39 = .ok (.istore_n 3, 1) := by decide +kernel
theorem dX1_seek_40 : decode cX1_seek 40 = .ok (.aload_n 0, 1) := by decide +kernel
theorem dX1_seek_41 : decode cX1_seek 41 = .ok (.iload_n 3, 1) := by decide +kernel
theorem dX1_seek_42 : decode cX1_seek 42 = .ok (.ifCond .eq 7, 3) := by decide +kernel
theorem dX1_seek_45 : decode cX1_seek 45 = .ok (.iconst 1, 1) := by decide +kernel
theorem dX1_seek_46 : decode cX1_seek 46 = .ok (.goto 4, 3) := by decide +kernel
theorem dX1_seek_49 : decode cX1_seek 49 = .ok (.iconst 0, 1) := by decide +kernel
theorem dX1_seek_50 : decode cX1_seek 50 = .ok (.putfield 28, 3) := by decide +kernel
theorem dX1_seek_53 : decode cX1_seek 53 = .ok (.aload_n 0, 1) := by decide +kernel
theorem dX1_seek_54 : decode cX1_seek 54 = .ok (.aload_n 1, 1) := by decide +kernel
theorem dX1_seek_55 : decode cX1_seek 55 = .ok (.iload_n 2, 1) := by decide +kernel
theorem dX1_seek_56 : decode cX1_seek 56 = .ok (.invokevirtual 31, 3) := by decide +kernel
theorem dX1_seek_59 : decode cX1_seek 59 = .ok (.putfield 35, 3) := by decide +kernel
theorem dX1_seek_62 : decode cX1_seek 62 = .ok (.aload_n 0, 1) := by decide +kernel
theorem dX1_seek_63 : decode cX1_seek 63 = .ok (.aload_n 1, 1) := by decide +kernel
theorem dX1_seek_64 : decode cX1_seek 64 = .ok (.iload_n 2, 1) := by decide +kernel
theorem dX1_seek_65 : decode cX1_seek 65 = .ok (.invokevirtual 38, 3) := by decide +kernel
theorem dX1_seek_68 : decode cX1_seek 68 = .ok (.return_, 1) := by decide +kernel
set_option maxRecDepth 20000 in
theorem ggX1_probe_X0_beginningOf : GoodIn wsX1_probe wsX0_beginningOf := goodIn_r _ [7, 8, 27, 28, 29, 30, 31, 32, 33, 34] (by decide +kernel) (by decide +kernel)
set_option maxRecDepth 20000 in
theorem gX1_probe_X0_beginningOf : GoodIn wsX1_probe (wsV RX1 24 RX0 yX0_beginningOf wsX0_beginningOf) := goodIn_app (goodIn_of _ (by decide +kernel)) ggX1_probe_X0_beginningOf
set_option maxRecDepth 20000 in
theorem ggX1_probe_X0_isBeginning : GoodIn wsX1_probe wsX0_isBeginning := goodIn_r _ [12, 13, 14, 15, 6, 16, 17, 18, 8, 19, 20, 21, 22, 23, 24, 25, 26, 4, 5, 7, 27, 28, 29, 30, 31, 32, 33, 34] (by decide +kernel) (by decide +kernel)
set_option maxRecDepth 20000 in
theorem gX1_probe_X0_isBeginning : GoodIn wsX1_probe (wsV RX1 41 RX0 yX0_isBeginning wsX0_isBeginning) := goodIn_app (goodIn_of _ (by decide +kernel)) ggX1_probe_X0_isBeginning
theorem dX1_probe_0 : decode cX1_probe 0 = .ok (.iconst 0, 1) := by decide +kernel
theorem dX1_probe_1 : decode cX1_probe 1 = .ok (.istore_n 3, 1) := by decide +kernel
theorem dX1_probe_2 : decode cX1_probe 2 = .ok (.aload_n 1, 1) := by decide +kernel
theorem dX1_probe_3 : decode cX1_probe 3 = .ok (.getfield 19, 3) := by decide +kernel
theorem dX1_probe_6 : decode cX1_probe 6 = .ok (.istore 4, 2) := by decide +kernel
theorem dX1_probe_8 : decode cX1_probe 8 = .ok (.iconst 0, 1) := by decide +kernel
theorem dX1_probe_9 : decode cX1_probe 9 = .ok (.istore 5, 2) := by decide +kernel
theorem dX1_probe_11 : decode cX1_probe 11 = .ok (.iload_n 3, 1) := by decide +kernel
theorem dX1_probe_12 : decode cX1_probe 12 = .ok (.iload 4, 2) := by decide +kernel
theorem dX1_probe_14 : decode cX1_probe 14 = .ok (.if_icmp .ge 54, 3) := by decide +kernel
theorem dX1_probe_17 : decode cX1_probe 17 = .ok (.iload 5, 2) := by decide +kernel
theorem dX1_probe_19 : decode cX1_probe 19 = .ok (.bipush 32, 2) := by decide +kernel
theorem dX1_probe_21 : decode cX1_probe 21 = .ok (.if_icmp .ge 47, 3) := by decide +kernel
theorem dX1_probe_24 : decode cX1_probe 24 = .ok (.iload_n 3, 1) := by decide +kernel
theorem dX1_probe_25 : decode cX1_probe 25 = .ok (.iload 4, 2) := by decide +kernel
theorem dX1_probe_27 : decode cX1_probe 27 = .ok (.iadd, 1) := by decide +kernel
theorem dX1_probe_28 : decode cX1_probe 28 = .ok (.iconst 1, 1) := by decide +kernel
theorem dX1_probe_29 : decode cX1_probe 29 = .ok (.iadd, 1) := by decide +kernel
theorem dX1_probe_30 : decode cX1_probe 30 = .ok (.iconst 2, 1) := by decide +kernel
theorem dX1_probe_31 : decode cX1_probe 31 = .ok (.idiv, 1) := by decide +kernel
theorem dX1_probe_32 : decode cX1_probe 32 = .ok (.istore 6, 2) := by decide +kernel
theorem dX1_probe_34 : decode cX1_probe 34 = .ok (.aload_n 1, 1) := by decide +kernel
theorem dX1_probe_35 : decode cX1_probe 35 = .ok (.iload 6, 2) := by decide +kernel
theorem dX1_probe_37 : decode cX1_probe 37 = .ok (.aload_n 1, 1) := by decide +kernel
theorem dX1_probe_38 : decode cX1_probe 38 = .ok (.iload_n 2, 1) := by decide +kernel
theorem dX1_probe_39 : decode cX1_probe 39 = .ok (.iload 6, 2) := by decide +kernel
theorem dX1_probe_41 : decode cX1_probe 41 = .ok (.invokevirtual 24, 3) := by decide +kernel
theorem dX1_probe_44 : decode cX1_probe 44 = .ok (.invokevirtual 41, 3) := by decide +kernel
theorem dX1_probe_47 : decode cX1_probe 47 = .ok (.ifCond .eq 9, 3) := by decide +kernel
theorem dX1_probe_50 : decode cX1_probe 50 = .ok (.iload 6, 2) := by decide +kernel
theorem dX1_probe_52 : decode cX1_probe 52 = .ok (.istore_n 3, 1) := by decide +kernel
theorem dX1_probe_53 : decode cX1_probe 53 = .ok (.goto 9, 3) := by decide +kernel
theorem dX1_probe_56 : decode cX1_probe 56 = .ok (.iload 6, 2) := by decide +kernel
theorem dX1_probe_58 : decode cX1_probe 58 = .ok (.iconst 1, 1) := by decide +kernel
theorem dX1_probe_59 : decode cX1_probe 59 = .ok (.isub, 1) := by decide +kernel
theorem dX1_probe_60 : decode cX1_probe 60 = .ok (.istore 4, 2) := by decide +kernel
theorem dX1_probe_62 : decode cX1_probe 62 = .ok (.iinc 5 1, 3) := by decide +kernel
theorem dX1_probe_65 : decode cX1_probe 65 = .ok (.goto (-54), 3) := by decide +kernel
theorem dX1_probe_68 : decode cX1_probe 68 = .ok (.aload_n 0, 1) := by decide +kernel
theorem dX1_probe_69 : decode cX1_probe 69 = .ok (.iload 5, 2) := by decide +kernel
theorem dX1_probe_71 : decode cX1_probe 71 = .ok (.putfield 45, 3) := by decide +kernel
theorem dX1_probe_74 : decode cX1_probe 74 = .ok (.aload_n 0, 1) := by decide +kernel
theorem dX1_probe_75 : decode cX1_probe 75 = .ok (.iload_n 3, 1) := by decide +kernel
theorem dX1_probe_76 : decode cX1_probe 76 = .ok (.putfield 15, 3) := by decide +kernel
theorem dX1_probe_79 : decode cX1_probe 79 = .ok (.return_, 1) := by decide +kernel
set_option maxRecDepth 20000 in
theorem ggX1_look_X0_startOf : GoodIn wsX1_look wsX0_startOf := goodIn_r _ [7, 8, 9, 10, 6, 11, 12, 13, 14, 15, 16, 17, 18, 19, 20, 21, 22, 36, 37, 38, 39, 40, 41, 42, 43] (by decide +kernel) (by decide +kernel)
set_option maxRecDepth 20000 in
theorem gX1_look_X0_startOf : GoodIn wsX1_look (wsV RX1 48 RX0 yX0_startOf wsX0_startOf) := goodIn_app (goodIn_of _ (by decide +kernel)) ggX1_look_X0_startOf
set_option maxRecDepth 20000 in
theorem ggX1_look_X0_keysIn : GoodIn wsX1_look wsX0_keysIn := goodIn_r _ [26, 8, 9, 10, 6, 11, 12, 13, 14, 15, 16, 17, 18, 19, 20, 21, 22, 36, 37, 38, 39, 40, 41, 42, 43] (by decide +kernel) (by decide +kernel)
set_option maxRecDepth 20000 in
theorem gX1_look_X0_keysIn : GoodIn wsX1_look (wsV RX1 51 RX0 yX0_keysIn wsX0_keysIn) := goodIn_app (goodIn_of _ (by decide +kernel)) ggX1_look_X0_keysIn
set_option maxRecDepth 20000 in
theorem ggX1_look_X0_keyAt : GoodIn wsX1_look wsX0_keyAt := goodIn_r _ [30, 13, 12, 36, 37, 38, 39, 40, 41, 42, 43] (by decide +kernel) (by decide +kernel)
set_option maxRecDepth 20000 in
theorem gX1_look_X0_keyAt : GoodIn wsX1_look (wsV RX1 54 RX0 yX0_keyAt wsX0_keyAt) := goodIn_app (goodIn_of _ (by decide +kernel)) ggX1_look_X0_keyAt
theorem dX1_look_0 : decode cX1_look 0 = .ok (.aload_n 1, 1) := by decide +kernel
theorem dX1_look_1 : decode cX1_look 1 = .ok (.aload_n 0, 1) := by decide +kernel
theorem dX1_look_2 : decode cX1_look 2 = .ok (.getfield 35, 3) := by decide +kernel
theorem dX1_look_5 : decode cX1_look 5 = .ok (.invokevirtual 48, 3) := by decide +kernel
theorem dX1_look_8 : decode cX1_look 8 = .ok (.istore_n 3, 1) := by decide +kernel
theorem dX1_look_9 : decode cX1_look 9 = .ok (.iconst 0, 1) := by decide +kernel
theorem dX1_look_10 : decode cX1_look 10 = .ok (.istore 4, 2) := by decide +kernel
theorem dX1_look_12 : decode cX1_look 12 = .ok (.aload_n 1, 1) := by decide +kernel
theorem dX1_look_13 : decode cX1_look 13 = .ok (.aload_n 0, 1) := by decide +kernel
theorem dX1_look_14 : decode cX1_look 14 = .ok (.getfield 35, 3) := by decide +kernel
theorem dX1_look_17 : decode cX1_look 17 = .ok (.invokevirtual 51, 3) := by decide +kernel
theorem dX1_look_20 : decode cX1_look 20 = .ok (.istore 5, 2) := by decide +kernel
theorem dX1_look_22 : decode cX1_look 22 = .ok (.iconst 0, 1) := by decide +kernel
theorem dX1_look_23 : decode cX1_look 23 = .ok (.istore 6, 2) := by decide +kernel
theorem dX1_look_25 : decode cX1_look 25 = .ok (.iload 4, 2) := by decide +kernel
theorem dX1_look_27 : decode cX1_look 27 = .ok (.iload 5, 2) := by decide +kernel
theorem dX1_look_29 : decode cX1_look 29 = .ok (.if_icmp .ge 50, 3) := by decide +kernel
theorem dX1_look_32 : decode cX1_look 32 = .ok (.iload 6, 2) := by decide +kernel
theorem dX1_look_34 : decode cX1_look 34 = .ok (.bipush 32, 2) := by decide +kernel
theorem dX1_look_36 : decode cX1_look 36 = .ok (.if_icmp .ge 43, 3) := by decide +kernel
theorem dX1_look_39 : decode cX1_look 39 = .ok (.iload 4, 2) := by decide +kernel
theorem dX1_look_41 : decode cX1_look 41 = .ok (.iload 5, 2) := by decide +kernel
theorem dX1_look_43 : decode cX1_look 43 = .ok (.iadd, 1) := by decide +kernel
theorem dX1_look_44 : decode cX1_look 44 = .ok (.iconst 2, 1) := by decide +kernel
theorem dX1_look_45 : decode cX1_look 45 = .ok (.idiv, 1) := by decide +kernel
theorem dX1_look_46 : decode cX1_look 46 = .ok (.istore 7, 2) := by decide +kernel
theorem dX1_look_48 : decode cX1_look 48 = .ok (.aload_n 1, 1) := by decide +kernel
theorem dX1_look_49 : decode cX1_look 49 = .ok (.iload_n 3, 1) := by decide +kernel
theorem dX1_look_50 : decode cX1_look 50 = .ok (.iload 7, 2) := by decide +kernel
theorem dX1_look_52 : decode cX1_look 52 = .ok (.iadd, 1) := by decide +kernel
theorem dX1_look_53 : decode cX1_look 53 = .ok (.invokevirtual 54, 3) := by decide +kernel
theorem dX1_look_56 : decode cX1_look 56 = .ok (.iload_n 2, 1) := by decide +kernel
theorem dX1_look_57 : decode cX1_look 57 = .ok (.if_icmp .ge 12, 3) := by decide +kernel
theorem dX1_look_60 : decode cX1_look 60 = .ok (.iload 7, 2) := by decide +kernel
theorem dX1_look_62 : decode cX1_look 62 = .ok (.iconst 1, 1) := by decide +kernel
theorem dX1_look_63 : decode cX1_look 63 = .ok (.iadd, 1) := by decide +kernel
theorem dX1_look_64 : decode cX1_look 64 = .ok (.istore 4, 2) := by decide +kernel
theorem dX1_look_66 : decode cX1_look 66 = .ok (.goto 7, 3) := by decide +kernel
theorem dX1_look_69 : decode cX1_look 69 = .ok (.iload 7, 2) := by decide +kernel
theorem dX1_look_71 : decode cX1_look 71 = .ok (.istore 5, 2) := by decide +kernel
theorem dX1_look_73 : decode cX1_look 73 = .ok (.iinc 6 1, 3) := by decide +kernel
theorem dX1_look_76 : decode cX1_look 76 = .ok (.goto (-51), 3) := by decide +kernel
theorem dX1_look_79 : decode cX1_look 79 = .ok (.aload_n 0, 1) := by decide +kernel
theorem dX1_look_80 : decode cX1_look 80 = .ok (.iload 6, 2) := by decide +kernel
theorem dX1_look_82 : decode cX1_look 82 = .ok (.putfield 57, 3) := by decide +kernel
theorem dX1_look_85 : decode cX1_look 85 = .ok (.return_, 1) := by decide +kernel
set_option maxRecDepth 20000 in
theorem ggX2_init_X0_init : GoodIn wsX2_init wsX0_init := goodIn_r _ [12, 13, 2, 3, 14, 15, 16, 17, 18, 19, 9, 20, 21, 22, 23, 24, 25, 26, 27, 28, 29, 30, 33, 34, 35, 36, 37, 38, 39, 40] (by decide +kernel) (by decide +kernel)
set_option maxRecDepth 20000 in
theorem gX2_init_X0_init : GoodIn wsX2_init (wsX0_init) := ggX2_init_X0_init
theorem dX2_init_0 : decode cX2_init 0 = .ok (.aload_n 0, 1) := by decide +kernel
theorem dX2_init_1 : decode cX2_init 1 = .ok (.invokespecial 3, 3) := by decide +kernel
theorem dX2_init_4 : decode cX2_init 4 = .ok (.aload_n 0, 1) := by decide +kernel
theorem dX2_init_5 : decode cX2_init 5 = .ok (.iconst 2, 1) := by decide +kernel
theorem dX2_init_6 : decode cX2_init 6 = .ok (.anewarray 9, 3) := by decide +kernel
theorem dX2_init_9 : decode cX2_init 9 = .ok (.putfield 11, 3) := by decide +kernel
theorem dX2_init_12 : decode cX2_init 12 = .ok (.aload_n 0, 1) := by decide +kernel
theorem dX2_init_13 : decode cX2_init 13 = .ok (.iconst 2, 1) := by decide +kernel
theorem dX2_init_14 : decode cX2_init 14 = .ok (.newarray .boolean, 2) := by decide +kernel
theorem dX2_init_16 : decode cX2_init 16 = .ok (.putfield 17, 3) := by decide +kernel
theorem dX2_init_19 : decode cX2_init 19 = .ok (.iconst 0, 1) := by decide +kernel
theorem dX2_init_20 : decode cX2_init 20 = .ok (.istore_n 1, 1) := by decide +kernel
theorem dX2_init_21 : decode cX2_init 21 = .ok (.iload_n 1, 1) := by decide +kernel
theorem dX2_init_22 : decode cX2_init 22 = .ok (.aload_n 0, 1) := by decide +kernel
theorem dX2_init_23 : decode cX2_init 23 = .ok (.getfield 11, 3) := by decide +kernel
theorem dX2_init_26 : decode cX2_init 26 = .ok (.arraylength, 1) := by decide +kernel
theorem dX2_init_27 : decode cX2_init 27 = .ok (.if_icmp .ge 22, 3) := by decide +kernel
theorem dX2_init_30 : decode cX2_init 30 = .ok (.aload_n 0, 1) := by decide +kernel
theorem dX2_init_31 : decode cX2_init 31 = .ok (.getfield 11, 3) := by decide +kernel
theorem dX2_init_34 : decode cX2_init 34 = .ok (.iload_n 1, 1) := by decide +kernel
theorem dX2_init_35 : decode cX2_init 35 = .ok (.new 9, 3) := by decide +kernel
theorem dX2_init_38 : decode cX2_init 38 = .ok (.dup, 1) := by decide +kernel
theorem dX2_init_39 : decode cX2_init 39 = .ok (.invokespecial 21, 3) := by decide +kernel
theorem dX2_init_42 : decode cX2_init 42 = .ok (.aastore, 1) := by decide +kernel
theorem dX2_init_43 : decode cX2_init 43 = .ok (.iinc 1 1, 3) := by decide +kernel
theorem dX2_init_46 : decode cX2_init 46 = .ok (.goto (-25), 3) := by decide +kernel
theorem dX2_init_49 : decode cX2_init 49 = .ok (.return_, 1) := by decide +kernel
theorem dX2_known_0 : decode cX2_known 0 = .ok (.iload_n 1, 1) := by decide +kernel
theorem dX2_known_1 : decode cX2_known 1 = .ok (.ifCond .lt 25, 3) := by decide +kernel
theorem dX2_known_4 : decode cX2_known 4 = .ok (.iload_n 1, 1) := by decide +kernel
theorem dX2_known_5 : decode cX2_known 5 = .ok (.aload_n 0, 1) := by decide +kernel
theorem dX2_known_6 : decode cX2_known 6 = .ok (.getfield 11, 3) := by decide +kernel
theorem dX2_known_9 : decode cX2_known 9 = .ok (.arraylength, 1) := by decide +kernel
theorem dX2_known_10 : decode cX2_known 10 = .ok (.if_icmp .ge 16, 3) := by decide +kernel
theorem dX2_known_13 : decode cX2_known 13 = .ok (.iload_n 1, 1) := by decide +kernel
theorem dX2_known_14 : decode cX2_known 14 = .ok (.aload_n 0, 1) := by decide +kernel
theorem dX2_known_15 : decode cX2_known 15 = .ok (.getfield 17, 3) := by decide +kernel
theorem dX2_known_18 : decode cX2_known 18 = .ok (.arraylength, 1) := by decide +kernel
theorem dX2_known_19 : decode cX2_known 19 = .ok (.if_icmp .ge 7, 3) := by decide +kernel
theorem dX2_known_22 : decode cX2_known 22 = .ok (.iconst 1, 1) := by decide +kernel
theorem dX2_known_23 : decode cX2_known 23 = .ok (.goto 4, 3) := by decide +kernel
theorem dX2_known_26 : decode cX2_known 26 = .ok (.iconst 0, 1) := by decide +kernel
theorem dX2_known_27 : decode cX2_known 27 = .ok (.ireturn, 1) := by decide +kernel
set_option maxRecDepth 20000 in
theorem ggX2_holds_X2_known : GoodIn wsX2_holds wsX2_known := goodIn_r _ [6, 7, 1, 8, 9] (by decide +kernel) (by decide +kernel)
set_option maxRecDepth 20000 in
theorem gX2_holds_X2_known : GoodIn wsX2_holds (wsV RX2 22 RX2 yX2_known wsX2_known) := goodIn_app (goodIn_of _ (by decide +kernel)) ggX2_holds_X2_known
theorem dX2_holds_0 : decode cX2_holds 0 = .ok (.aload_n 0, 1) := by decide +kernel
theorem dX2_holds_1 : decode cX2_holds 1 = .ok (.iload_n 1, 1) := by decide +kernel
theorem dX2_holds_2 : decode cX2_holds 2 = .ok (.invokevirtual 22, 3) := by decide +kernel
theorem dX2_holds_5 : decode cX2_holds 5 = .ok (.ifCond .eq 16, 3) := by decide +kernel
theorem dX2_holds_8 : decode cX2_holds 8 = .ok (.aload_n 0, 1) := by decide +kernel
theorem dX2_holds_9 : decode cX2_holds 9 = .ok (.getfield 17, 3) := by decide +kernel
theorem dX2_holds_12 : decode cX2_holds 12 = .ok (.iload_n 1, 1) := by decide +kernel
theorem dX2_holds_13 : decode cX2_holds 13 = .ok (.baload, 1) := by decide +kernel
theorem dX2_holds_14 : decode cX2_holds 14 = .ok (.ifCond .eq 7, 3) := by decide +kernel
theorem dX2_holds_17 : decode cX2_holds 17 = .ok (.iconst 1, 1) := by decide +kernel
theorem dX2_holds_18 : decode cX2_holds 18 = .ok (.goto 4, 3) := by decide +kernel
theorem dX2_holds_21 : decode cX2_holds 21 = .ok (.iconst 0, 1) := by decide +kernel
theorem dX2_holds_22 : decode cX2_holds 22 = .ok (.ireturn, 1) := by decide +kernel
set_option maxRecDepth 20000 in
theorem ggX2_remember_X2_known : GoodIn wsX2_remember wsX2_known := goodIn_r _ [7, 1, 2, 32, 33] (by decide +kernel) (by decide +kernel)
set_option maxRecDepth 20000 in
theorem gX2_remember_X2_known : GoodIn wsX2_remember (wsV RX2 22 RX2 yX2_known wsX2_known) := goodIn_app (goodIn_of _ (by decide +kernel)) ggX2_remember_X2_known
set_option maxRecDepth 20000 in
theorem ggX2_remember_X0_become : GoodIn wsX2_remember wsX0_become := goodIn_r _ [12, 13, 14, 15, 16, 17, 18, 19, 20, 21, 22, 23, 24, 25, 26, 27, 28, 29, 30, 31, 34, 35, 36, 37, 38, 39, 40, 41] (by decide +kernel) (by decide +kernel)
set_option maxRecDepth 20000 in
theorem gX2_remember_X0_become : GoodIn wsX2_remember (wsV RX2 26 RX0 yX0_become wsX0_become) := goodIn_app (goodIn_of _ (by decide +kernel)) ggX2_remember_X0_become
theorem dX2_remember_0 : decode cX2_remember 0 = .ok (.aload_n 0, 1) := by decide +kernel
theorem dX2_remember_1 : decode cX2_remember 1 = .ok (.iload_n 1, 1) := by decide +kernel
theorem dX2_remember_2 : decode cX2_remember 2 = .ok (.invokevirtual 22, 3) := by decide +kernel
theorem dX2_remember_5 : decode cX2_remember 5 = .ok (.ifCond .eq 12, 3) := by decide +kernel
theorem dX2_remember_8 : decode cX2_remember 8 = .ok (.aload_n 0, 1) := by decide +kernel
theorem dX2_remember_9 : decode cX2_remember 9 = .ok (.getfield 11, 3) := by decide +kernel
theorem dX2_remember_12 : decode cX2_remember 12 = .ok (.iload_n 1, 1) := by decide +kernel
theorem dX2_remember_13 : decode cX2_remember 13 = .ok (.aaload, 1) := by decide +kernel
theorem dX2_remember_14 : decode cX2_remember 14 = .ok (.ifnonnull 4, 3) := by decide +kernel
theorem dX2_remember_17 : decode cX2_remember 17 = .ok (.return_, 1) := by decide +kernel
theorem dX2_remember_18 : decode cX2_remember 18 = .ok (.aload_n 0, 1) := by decide +kernel
theorem dX2_remember_19 : decode cX2_remember 19 = .ok (.getfield 11, 3) := by decide +kernel
theorem dX2_remember_22 : decode cX2_remember 22 = .ok (.iload_n 1, 1) := by decide +kernel
theorem dX2_remember_23 : decode cX2_remember 23 = .ok (.aaload, 1) := by decide +kernel
theorem dX2_remember_24 : decode cX2_remember 24 = .ok (.aload_n 2, 1) := by decide +kernel
theorem dX2_remember_25 : decode cX2_remember 25 = .ok (.invokevirtual 26, 3) := by decide +kernel
theorem dX2_remember_28 : decode cX2_remember 28 = .ok (.aload_n 0, 1) := by decide +kernel
theorem dX2_remember_29 : decode cX2_remember 29 = .ok (.getfield 17, 3) := by decide +kernel
theorem dX2_remember_32 : decode cX2_remember 32 = .ok (.iload_n 1, 1) := by decide +kernel
theorem dX2_remember_33 : decode cX2_remember 33 = .ok (.iconst 1, 1) := by decide +kernel
theorem dX2_remember_34 : decode cX2_remember 34 = .ok (.bastore, 1) := by decide +kernel
theorem dX2_remember_35 : decode cX2_remember 35 = .ok (.return_, 1) := by decide +kernel
set_option maxRecDepth 20000 in
theorem ggX2_restore_X2_holds : GoodIn wsX2_restore wsX2_holds := goodIn_r _ [6, 7, 8, 9, 10, 5, 11, 1, 36, 37] (by decide +kernel) (by decide +kernel)
set_option maxRecDepth 20000 in
theorem gX2_restore_X2_holds : GoodIn wsX2_restore (wsV RX2 30 RX2 yX2_holds wsX2_holds) := goodIn_app (goodIn_of _ (by decide +kernel)) ggX2_restore_X2_holds
set_option maxRecDepth 20000 in
theorem ggX2_restore_X0_become : GoodIn wsX2_restore wsX0_become := goodIn_r _ [16, 17, 18, 19, 20, 21, 22, 23, 24, 25, 26, 27, 28, 29, 30, 31, 32, 33, 34, 35, 38, 39, 40, 41, 42, 43, 44, 45] (by decide +kernel) (by decide +kernel)
set_option maxRecDepth 20000 in
theorem gX2_restore_X0_become : GoodIn wsX2_restore (wsV RX2 26 RX0 yX0_become wsX0_become) := goodIn_app (goodIn_of _ (by decide +kernel)) ggX2_restore_X0_become
theorem dX2_restore_0 : decode cX2_restore 0 = .ok (.aload_n 0, 1) := by decide +kernel
theorem dX2_restore_1 : decode cX2_restore 1 = .ok (.iload_n 1, 1) := by decide +kernel
theorem dX2_restore_2 : decode cX2_restore 2 = .ok (.invokevirtual 30, 3) := by decide +kernel
theorem dX2_restore_5 : decode cX2_restore 5 = .ok (.ifCond .eq 12, 3) := by decide +kernel
theorem dX2_restore_8 : decode cX2_restore 8 = .ok (.aload_n 0, 1) := by decide +kernel
theorem dX2_restore_9 : decode cX2_restore 9 = .ok (.getfield 11, 3) := by decide +kernel
theorem dX2_restore_12 : decode cX2_restore 12 = .ok (.iload_n 1, 1) := by decide +kernel
theorem dX2_restore_13 : decode cX2_restore 13 = .ok (.aaload, 1) := by decide +kernel
theorem dX2_restore_14 : decode cX2_restore 14 = .ok (.ifnonnull 4, 3) := by decide +kernel
theorem dX2_restore_17 : decode cX2_restore 17 = .ok (.return_, 1) := by decide +kernel
theorem dX2_restore_18 : decode cX2_restore 18 = .ok (.aload_n 2, 1) := by decide +kernel
theorem dX2_restore_19 : decode cX2_restore 19 = .ok (.aload_n 0, 1) := by decide +kernel
theorem dX2_restore_20 : decode cX2_restore 20 = .ok (.getfield 11, 3) := by decide +kernel
theorem dX2_restore_23 : decode cX2_restore 23 = .ok (.iload_n 1, 1) := by decide +kernel
theorem dX2_restore_24 : decode cX2_restore 24 = .ok (.aaload, 1) := by decide +kernel
theorem dX2_restore_25 : decode cX2_restore 25 = .ok (.invokevirtual 26, 3) := by decide +kernel
theorem dX2_restore_28 : decode cX2_restore 28 = .ok (.return_, 1) := by decide +kernel
theorem dX2_forget_0 : decode cX2_forget 0 = .ok (.iconst 0, 1) := by decide +kernel
theorem dX2_forget_1 : decode cX2_forget 1 = .ok (.istore_n 1, 1) := by decide +kernel
theorem dX2_forget_2 : decode cX2_forget 2 = .ok (.iload_n 1, 1) := by decide +kernel
theorem dX2_forget_3 : decode cX2_forget 3 = .ok (.aload_n 0, 1) := by decide +kernel
theorem dX2_forget_4 : decode cX2_forget 4 = .ok (.getfield 17, 3) := by decide +kernel
theorem dX2_forget_7 : decode cX2_forget 7 = .ok (.arraylength, 1) := by decide +kernel
theorem dX2_forget_8 : decode cX2_forget 8 = .ok (.if_icmp .ge 16, 3) := by decide +kernel
theorem dX2_forget_11 : decode cX2_forget 11 = .ok (.aload_n 0, 1) := by decide +kernel
theorem dX2_forget_12 : decode cX2_forget 12 = .ok (.getfield 17, 3) := by decide +kernel
theorem dX2_forget_15 : decode cX2_forget 15 = .ok (.iload_n 1, 1) := by decide +kernel
theorem dX2_forget_16 : decode cX2_forget 16 = .ok (.iconst 0, 1) := by decide +kernel
theorem dX2_forget_17 : decode cX2_forget 17 = .ok (.bastore, 1) := by decide +kernel
theorem dX2_forget_18 : decode cX2_forget 18 = .ok (.iinc 1 1, 3) := by decide +kernel
theorem dX2_forget_21 : decode cX2_forget 21 = .ok (.goto (-19), 3) := by decide +kernel
theorem dX2_forget_24 : decode cX2_forget 24 = .ok (.return_, 1) := by decide +kernel
set_option maxRecDepth 20000 in
theorem ggX3_init_X0_init : GoodIn wsX3_init wsX0_init := goodIn_r _ [10, 11, 2, 3, 12, 13, 14, 15, 16, 17, 7, 18, 19, 20, 21, 22, 23, 24, 25, 26, 27, 28, 32, 33, 34, 35, 36, 37, 38, 39] (by decide +kernel) (by decide +kernel)
set_option maxRecDepth 20000 in
theorem gX3_init_X0_init : GoodIn wsX3_init (wsX0_init) := ggX3_init_X0_init
theorem dX3_init_0 : decode cX3_init 0 = .ok (.aload_n 0, 1) := by decide +kernel
theorem dX3_init_1 : decode cX3_init 1 = .ok (.invokespecial 3, 3) := by decide +kernel
theorem dX3_init_4 : decode cX3_init 4 = .ok (.aload_n 0, 1) := by decide +kernel
theorem dX3_init_5 : decode cX3_init 5 = .ok (.bipush 8, 2) := by decide +kernel
theorem dX3_init_7 : decode cX3_init 7 = .ok (.anewarray 9, 3) := by decide +kernel
theorem dX3_init_10 : decode cX3_init 10 = .ok (.putfield 11, 3) := by decide +kernel
theorem dX3_init_13 : decode cX3_init 13 = .ok (.iconst 0, 1) := by decide +kernel
theorem dX3_init_14 : decode cX3_init 14 = .ok (.istore_n 1, 1) := by decide +kernel
theorem dX3_init_15 : decode cX3_init 15 = .ok (.iload_n 1, 1) := by decide +kernel
theorem dX3_init_16 : decode cX3_init 16 = .ok (.aload_n 0, 1) := by decide +kernel
theorem dX3_init_17 : decode cX3_init 17 = .ok (.getfield 11, 3) := by decide +kernel
theorem dX3_init_20 : decode cX3_init 20 = .ok (.arraylength, 1) := by decide +kernel
theorem dX3_init_21 : decode cX3_init 21 = .ok (.if_icmp .ge 22, 3) := by decide +kernel
theorem dX3_init_24 : decode cX3_init 24 = .ok (.aload_n 0, 1) := by decide +kernel
theorem dX3_init_25 : decode cX3_init 25 = .ok (.getfield 11, 3) := by decide +kernel
theorem dX3_init_28 : decode cX3_init 28 = .ok (.iload_n 1, 1) := by decide +kernel
theorem dX3_init_29 : decode cX3_init 29 = .ok (.new 9, 3) := by decide +kernel
theorem dX3_init_32 : decode cX3_init 32 = .ok (.dup, 1) := by decide +kernel
theorem dX3_init_33 : decode cX3_init 33 = .ok (.invokespecial 17, 3) := by decide +kernel
theorem dX3_init_36 : decode cX3_init 36 = .ok (.aastore, 1) := by decide +kernel
theorem dX3_init_37 : decode cX3_init 37 = .ok (.iinc 1 1, 3) := by decide +kernel
theorem dX3_init_40 : decode cX3_init 40 = .ok (.goto (-25), 3) := by decide +kernel
theorem dX3_init_43 : decode cX3_init 43 = .ok (.return_, 1) := by decide +kernel
set_option maxRecDepth 20000 in
theorem ggX3_remember_X3_copyAt : GoodIn wsX3_remember wsX3_copyAt := goodIn_r _ [11, 12, 34, 35, 36] (by decide +kernel) (by decide +kernel)
set_option maxRecDepth 20000 in
theorem gX3_remember_X3_copyAt : GoodIn wsX3_remember (wsV RX3 22 RX3 yX3_copyAt wsX3_copyAt) := goodIn_app (goodIn_of _ (by decide +kernel)) ggX3_remember_X3_copyAt
set_option maxRecDepth 20000 in
theorem ggX3_remember_X0_become : GoodIn wsX3_remember wsX0_become := goodIn_r _ [17, 18, 19, 20, 21, 22, 23, 24, 25, 26, 27, 28, 29, 4, 5, 6, 30, 31, 32, 33, 37, 38, 39, 40, 41, 42, 43, 44] (by decide +kernel) (by decide +kernel)
set_option maxRecDepth 20000 in
theorem gX3_remember_X0_become : GoodIn wsX3_remember (wsV RX3 26 RX0 yX0_become wsX0_become) := goodIn_app (goodIn_of _ (by decide +kernel)) ggX3_remember_X0_become
theorem dX3_remember_0 : decode cX3_remember 0 = .ok (.aload_n 0, 1) := by decide +kernel
theorem dX3_remember_1 : decode cX3_remember 1 = .ok (.aload_n 0, 1) := by decide +kernel
theorem dX3_remember_2 : decode cX3_remember 2 = .ok (.getfield 18, 3) := by decide +kernel
theorem dX3_remember_5 : decode cX3_remember 5 = .ok (.invokevirtual 22, 3) := by decide +kernel
theorem dX3_remember_8 : decode cX3_remember 8 = .ok (.astore_n 2, 1) := by decide +kernel
theorem dX3_remember_9 : decode cX3_remember 9 = .ok (.aload_n 2, 1) := by decide +kernel
theorem dX3_remember_10 : decode cX3_remember 10 = .ok (.ifnonnull 4, 3) := by decide +kernel
theorem dX3_remember_13 : decode cX3_remember 13 = .ok (.return_, 1) := by decide +kernel
theorem dX3_remember_14 : decode cX3_remember 14 = .ok (.aload_n 2, 1) := by decide +kernel
theorem dX3_remember_15 : decode cX3_remember 15 = .ok (.aload_n 1, 1) := by decide +kernel
theorem dX3_remember_16 : decode cX3_remember 16 = .ok (.invokevirtual 26, 3) := by decide +kernel
theorem dX3_remember_19 : decode cX3_remember 19 = .ok (.aload_n 0, 1) := by decide +kernel
theorem dX3_remember_20 : decode cX3_remember 20 = .ok (.aload_n 0, 1) := by decide +kernel
theorem dX3_remember_21 : decode cX3_remember 21 = .ok (.getfield 18, 3) := by decide +kernel
theorem dX3_remember_24 : decode cX3_remember 24 = .ok (.iconst 1, 1) := by decide +kernel
theorem dX3_remember_25 : decode cX3_remember 25 = .ok (.iadd, 1) := by decide +kernel
theorem dX3_remember_26 : decode cX3_remember 26 = .ok (.bipush 8, 2) := by decide +kernel
theorem dX3_remember_28 : decode cX3_remember 28 = .ok (.irem, 1) := by decide +kernel
theorem dX3_remember_29 : decode cX3_remember 29 = .ok (.putfield 18, 3) := by decide +kernel
theorem dX3_remember_32 : decode cX3_remember 32 = .ok (.aload_n 0, 1) := by decide +kernel
theorem dX3_remember_33 : decode cX3_remember 33 = .ok (.aload_n 0, 1) := by decide +kernel
theorem dX3_remember_34 : decode cX3_remember 34 = .ok (.getfield 30, 3) := by decide +kernel
theorem dX3_remember_37 : decode cX3_remember 37 = .ok (.iconst 1, 1) := by decide +kernel
theorem dX3_remember_38 : decode cX3_remember 38 = .ok (.iadd, 1) := by decide +kernel
theorem dX3_remember_39 : decode cX3_remember 39 = .ok (.bipush 8, 2) := by decide +kernel
theorem dX3_remember_41 : decode cX3_remember 41 = .ok (.invokestatic 33, 3) := by decide +kernel
theorem dX3_remember_44 : decode cX3_remember 44 = .ok (.putfield 30, 3) := by decide +kernel
theorem dX3_remember_47 : decode cX3_remember 47 = .ok (.return_, 1) := by decide +kernel
set_option maxRecDepth 20000 in
theorem ggX3_restore_X3_copyAt : GoodIn wsX3_restore wsX3_copyAt := goodIn_r _ [7, 8, 33, 34, 35] (by decide +kernel) (by decide +kernel)
set_option maxRecDepth 20000 in
theorem gX3_restore_X3_copyAt : GoodIn wsX3_restore (wsV RX3 22 RX3 yX3_copyAt wsX3_copyAt) := goodIn_app (goodIn_of _ (by decide +kernel)) ggX3_restore_X3_copyAt
set_option maxRecDepth 20000 in
theorem ggX3_restore_X0_become : GoodIn wsX3_restore wsX0_become := goodIn_r _ [13, 14, 15, 16, 17, 18, 19, 20, 21, 22, 23, 24, 25, 26, 27, 28, 29, 30, 31, 32, 36, 37, 38, 39, 40, 41, 42, 43] (by decide +kernel) (by decide +kernel)
set_option maxRecDepth 20000 in
theorem gX3_restore_X0_become : GoodIn wsX3_restore (wsV RX3 26 RX0 yX0_become wsX0_become) := goodIn_app (goodIn_of _ (by decide +kernel)) ggX3_restore_X0_become
theorem dX3_restore_0 : decode cX3_restore 0 = .ok (.aload_n 0, 1) := by decide +kernel
theorem dX3_restore_1 : decode cX3_restore 1 = .ok (.getfield 18, 3) := by decide +kernel
theorem dX3_restore_4 : decode cX3_restore 4 = .ok (.bipush 8, 2) := by decide +kernel
theorem dX3_restore_6 : decode cX3_restore 6 = .ok (.iadd, 1) := by decide +kernel
theorem dX3_restore_7 : decode cX3_restore 7 = .ok (.iconst 1, 1) := by decide +kernel
theorem dX3_restore_8 : decode cX3_restore 8 = .ok (.isub, 1) := by decide +kernel
theorem dX3_restore_9 : decode cX3_restore 9 = .ok (.bipush 8, 2) := by decide +kernel
theorem dX3_restore_11 : decode cX3_restore 11 = .ok (.irem, 1) := by decide +kernel
theorem dX3_restore_12 : decode cX3_restore 12 = .ok (.istore_n 2, 1) := by decide +kernel
theorem dX3_restore_13 : decode cX3_restore 13 = .ok (.aload_n 0, 1) := by decide +kernel
theorem dX3_restore_14 : decode cX3_restore 14 = .ok (.iload_n 2, 1) := by decide +kernel
theorem dX3_restore_15 : decode cX3_restore 15 = .ok (.invokevirtual 22, 3) := by decide +kernel
theorem dX3_restore_18 : decode cX3_restore 18 = .ok (.astore_n 3, 1) := by decide +kernel
theorem dX3_restore_19 : decode cX3_restore 19 = .ok (.aload_n 0, 1) := by decide +kernel
theorem dX3_restore_20 : decode cX3_restore 20 = .ok (.getfield 30, 3) := by decide +kernel
theorem dX3_restore_23 : decode cX3_restore 23 = .ok (.ifCond .le 7, 3) := by decide +kernel
theorem dX3_restore_26 : decode cX3_restore 26 = .ok (.aload_n 3, 1) := by decide +kernel
theorem dX3_restore_27 : decode cX3_restore 27 = .ok (.ifnonnull 4, 3) := by decide +kernel
theorem dX3_restore_30 : decode cX3_restore 30 = .ok (.return_, 1) := by decide +kernel
theorem dX3_restore_31 : decode cX3_restore 31 = .ok (.aload_n 1, 1) := by decide +kernel
theorem dX3_restore_32 : decode cX3_restore 32 = .ok (.aload_n 3, 1) := by decide +kernel
theorem dX3_restore_33 : decode cX3_restore 33 = .ok (.invokevirtual 26, 3) := by decide +kernel
theorem dX3_restore_36 : decode cX3_restore 36 = .ok (.aload_n 0, 1) := by decide +kernel
theorem dX3_restore_37 : decode cX3_restore 37 = .ok (.iload_n 2, 1) := by decide +kernel
theorem dX3_restore_38 : decode cX3_restore 38 = .ok (.putfield 18, 3) := by decide +kernel
theorem dX3_restore_41 : decode cX3_restore 41 = .ok (.aload_n 0, 1) := by decide +kernel
theorem dX3_restore_42 : decode cX3_restore 42 = .ok (.dup, 1) := by decide +kernel
theorem dX3_restore_43 : decode cX3_restore 43 = .ok (.getfield 30, 3) := by decide +kernel
theorem dX3_restore_46 : decode cX3_restore 46 = .ok (.iconst 1, 1) := by decide +kernel
theorem dX3_restore_47 : decode cX3_restore 47 = .ok (.isub, 1) := by decide +kernel
theorem dX3_restore_48 : decode cX3_restore 48 = .ok (.putfield 30, 3) := by decide +kernel
theorem dX3_restore_51 : decode cX3_restore 51 = .ok (.return_, 1) := by decide +kernel
theorem dX3_forget_0 : decode cX3_forget 0 = .ok (.aload_n 0, 1) := by decide +kernel
theorem dX3_forget_1 : decode cX3_forget 1 = .ok (.iconst 0, 1) := by decide +kernel
theorem dX3_forget_2 : decode cX3_forget 2 = .ok (.putfield 30, 3) := by decide +kernel
theorem dX3_forget_5 : decode cX3_forget 5 = .ok (.return_, 1) := by decide +kernel
theorem dX3_copyAt_0 : decode cX3_copyAt 0 = .ok (.iload_n 1, 1) := by decide +kernel
theorem dX3_copyAt_1 : decode cX3_copyAt 1 = .ok (.ifCond .lt 21, 3) := by decide +kernel
theorem dX3_copyAt_4 : decode cX3_copyAt 4 = .ok (.iload_n 1, 1) := by decide +kernel
theorem dX3_copyAt_5 : decode cX3_copyAt 5 = .ok (.aload_n 0, 1) := by decide +kernel
theorem dX3_copyAt_6 : decode cX3_copyAt 6 = .ok (.getfield 11, 3) := by decide +kernel
theorem dX3_copyAt_9 : decode cX3_copyAt 9 = .ok (.arraylength, 1) := by decide +kernel
theorem dX3_copyAt_10 : decode cX3_copyAt 10 = .ok (.if_icmp .ge 12, 3) := by decide +kernel
theorem dX3_copyAt_13 : decode cX3_copyAt 13 = .ok (.aload_n 0, 1) := by decide +kernel
theorem dX3_copyAt_14 : decode cX3_copyAt 14 = .ok (.getfield 11, 3) := by decide +kernel
theorem dX3_copyAt_17 : decode cX3_copyAt 17 = .ok (.iload_n 1, 1) := by decide +kernel
theorem dX3_copyAt_18 : decode cX3_copyAt 18 = .ok (.aaload, 1) := by decide +kernel
theorem dX3_copyAt_19 : decode cX3_copyAt 19 = .ok (.goto 4, 3) := by decide +kernel
theorem dX3_copyAt_22 : decode cX3_copyAt 22 = .ok (.aconst_null, 1) := by decide +kernel
theorem dX3_copyAt_23 : decode cX3_copyAt 23 = .ok (.areturn, 1) := by decide +kernel
theorem dX4_init_0 : decode cX4_init 0 = .ok (.aload_n 0, 1) := by decide +kernel
theorem dX4_init_1 : decode cX4_init 1 = .ok (.invokespecial 3, 3) := by decide +kernel
theorem dX4_init_4 : decode cX4_init 4 = .ok (.aload_n 0, 1) := by decide +kernel
theorem dX4_init_5 : decode cX4_init 5 = .ok (.bipush 36, 2) := by decide +kernel
theorem dX4_init_7 : decode cX4_init 7 = .ok (.newarray .long, 2) := by decide +kernel
theorem dX4_init_9 : decode cX4_init 9 = .ok (.putfield 9, 3) := by decide +kernel
theorem dX4_init_12 : decode cX4_init 12 = .ok (.aload_n 0, 1) := by decide +kernel
theorem dX4_init_13 : decode cX4_init 13 = .ok (.iconst 3, 1) := by decide +kernel
theorem dX4_init_14 : decode cX4_init 14 = .ok (.newarray .int, 2) := by decide +kernel
theorem dX4_init_16 : decode cX4_init 16 = .ok (.putfield 15, 3) := by decide +kernel
theorem dX4_init_19 : decode cX4_init 19 = .ok (.iconst 0, 1) := by decide +kernel
theorem dX4_init_20 : decode cX4_init 20 = .ok (.istore_n 1, 1) := by decide +kernel
theorem dX4_init_21 : decode cX4_init 21 = .ok (.iload_n 1, 1) := by decide +kernel
theorem dX4_init_22 : decode cX4_init 22 = .ok (.aload_n 0, 1) := by decide +kernel
theorem dX4_init_23 : decode cX4_init 23 = .ok (.getfield 15, 3) := by decide +kernel
theorem dX4_init_26 : decode cX4_init 26 = .ok (.arraylength, 1) := by decide +kernel
theorem dX4_init_27 : decode cX4_init 27 = .ok (.if_icmp .ge 16, 3) := by decide +kernel
theorem dX4_init_30 : decode cX4_init 30 = .ok (.aload_n 0, 1) := by decide +kernel
theorem dX4_init_31 : decode cX4_init 31 = .ok (.getfield 15, 3) := by decide +kernel
theorem dX4_init_34 : decode cX4_init 34 = .ok (.iload_n 1, 1) := by decide +kernel
theorem dX4_init_35 : decode cX4_init 35 = .ok (.iconst (-1), 1) := by decide +kernel
theorem dX4_init_36 : decode cX4_init 36 = .ok (.iastore, 1) := by decide +kernel
theorem dX4_init_37 : decode cX4_init 37 = .ok (.iinc 1 1, 3) := by decide +kernel
theorem dX4_init_40 : decode cX4_init 40 = .ok (.goto (-19), 3) := by decide +kernel
theorem dX4_init_43 : decode cX4_init 43 = .ok (.return_, 1) := by decide +kernel
theorem dX4_known_0 : decode cX4_known 0 = .ok (.iload_n 1, 1) := by decide +kernel
theorem dX4_known_1 : decode cX4_known 1 = .ok (.ifCond .lt 16, 3) := by decide +kernel
theorem dX4_known_4 : decode cX4_known 4 = .ok (.iload_n 1, 1) := by decide +kernel
theorem dX4_known_5 : decode cX4_known 5 = .ok (.aload_n 0, 1) := by decide +kernel
theorem dX4_known_6 : decode cX4_known 6 = .ok (.getfield 15, 3) := by decide +kernel
theorem dX4_known_9 : decode cX4_known 9 = .ok (.arraylength, 1) := by decide +kernel
theorem dX4_known_10 : decode cX4_known 10 = .ok (.if_icmp .ge 7, 3) := by decide +kernel
theorem dX4_known_13 : decode cX4_known 13 = .ok (.iconst 1, 1) := by decide +kernel
theorem dX4_known_14 : decode cX4_known 14 = .ok (.goto 4, 3) := by decide +kernel
theorem dX4_known_17 : decode cX4_known 17 = .ok (.iconst 0, 1) := by decide +kernel
theorem dX4_known_18 : decode cX4_known 18 = .ok (.ireturn, 1) := by decide +kernel
set_option maxRecDepth 20000 in
theorem ggX4_lengthOf_X4_known : GoodIn wsX4_lengthOf wsX4_known := goodIn_r _ [6, 1, 7, 8] (by decide +kernel) (by decide +kernel)
set_option maxRecDepth 20000 in
theorem gX4_lengthOf_X4_known : GoodIn wsX4_lengthOf (wsV RX4 19 RX4 yX4_known wsX4_known) := goodIn_app (goodIn_of _ (by decide +kernel)) ggX4_lengthOf_X4_known
theorem dX4_lengthOf_0 : decode cX4_lengthOf 0 = .ok (.aload_n 0, 1) := by decide +kernel
theorem dX4_lengthOf_1 : decode cX4_lengthOf 1 = .ok (.iload_n 1, 1) := by decide +kernel
theorem dX4_lengthOf_2 : decode cX4_lengthOf 2 = .ok (.invokevirtual 19, 3) := by decide +kernel
theorem dX4_lengthOf_5 : decode cX4_lengthOf 5 = .ok (.ifCond .eq 12, 3) := by decide +kernel
theorem dX4_lengthOf_8 : decode cX4_lengthOf 8 = .ok (.aload_n 0, 1) := by decide +kernel
theorem dX4_lengthOf_9 : decode cX4_lengthOf 9 = .ok (.getfield 15, 3) := by decide +kernel
theorem dX4_lengthOf_12 : decode cX4_lengthOf 12 = .ok (.iload_n 1, 1) := by decide +kernel
theorem dX4_lengthOf_13 : decode cX4_lengthOf 13 = .ok (.iaload, 1) := by decide +kernel
theorem dX4_lengthOf_14 : decode cX4_lengthOf 14 = .ok (.goto 4, 3) := by decide +kernel
theorem dX4_lengthOf_17 : decode cX4_lengthOf 17 = .ok (.iconst (-1), 1) := by decide +kernel
theorem dX4_lengthOf_18 : decode cX4_lengthOf 18 = .ok (.ireturn, 1) := by decide +kernel
set_option maxRecDepth 20000 in
theorem ggX4_refusalOf_X4_known : GoodIn wsX4_refusalOf wsX4_known := goodIn_r _ [5, 6, 11, 12] (by decide +kernel) (by decide +kernel)
set_option maxRecDepth 20000 in
theorem gX4_refusalOf_X4_known : GoodIn wsX4_refusalOf (wsV RX4 19 RX4 yX4_known wsX4_known) := goodIn_app (goodIn_of _ (by decide +kernel)) ggX4_refusalOf_X4_known
set_option maxRecDepth 20000 in
theorem ggX4_refusalOf_X4_lengthOf : GoodIn wsX4_refusalOf wsX4_lengthOf := goodIn_r _ [10, 6, 1, 2, 3, 4, 5, 11, 12] (by decide +kernel) (by decide +kernel)
set_option maxRecDepth 20000 in
theorem gX4_refusalOf_X4_lengthOf : GoodIn wsX4_refusalOf (wsV RX4 23 RX4 yX4_lengthOf wsX4_lengthOf) := goodIn_app (goodIn_of _ (by decide +kernel)) ggX4_refusalOf_X4_lengthOf
theorem dX4_refusalOf_0 : decode cX4_refusalOf 0 = .ok (.aload_n 0, 1) := by decide +kernel
theorem dX4_refusalOf_1 : decode cX4_refusalOf 1 = .ok (.iload_n 1, 1) := by decide +kernel
theorem dX4_refusalOf_2 : decode cX4_refusalOf 2 = .ok (.invokevirtual 19, 3) := by decide +kernel
theorem dX4_refusalOf_5 : decode cX4_refusalOf 5 = .ok (.ifCond .ne 6, 3) := by decide +kernel
theorem dX4_refusalOf_8 : decode cX4_refusalOf 8 = .ok (.bipush (-2), 2) := by decide +kernel
theorem dX4_refusalOf_10 : decode cX4_refusalOf 10 = .ok (.ireturn, 1) := by decide +kernel
theorem dX4_refusalOf_11 : decode cX4_refusalOf 11 = .ok (.aload_n 0, 1) := by decide +kernel
theorem dX4_refusalOf_12 : decode cX4_refusalOf 12 = .ok (.iload_n 1, 1) := by decide +kernel
theorem dX4_refusalOf_13 : decode cX4_refusalOf 13 = .ok (.invokevirtual 23, 3) := by decide +kernel
theorem dX4_refusalOf_16 : decode cX4_refusalOf 16 = .ok (.iconst (-1), 1) := by decide +kernel
theorem dX4_refusalOf_17 : decode cX4_refusalOf 17 = .ok (.if_icmp .ne 8, 3) := by decide +kernel
theorem dX4_refusalOf_20 : decode cX4_refusalOf 20 = .ok (.bipush (-11), 2) := by decide +kernel
theorem dX4_refusalOf_22 : decode cX4_refusalOf 22 = .ok (.goto 4, 3) := by decide +kernel
theorem dX4_refusalOf_25 : decode cX4_refusalOf 25 = .ok (.iconst 0, 1) := by decide +kernel
theorem dX4_refusalOf_26 : decode cX4_refusalOf 26 = .ok (.ireturn, 1) := by decide +kernel
set_option maxRecDepth 20000 in
theorem ggX4_refusalAt_X4_refusalOf : GoodIn wsX4_refusalAt wsX4_refusalOf := goodIn_r _ [5, 6, 7, 8, 4, 9, 10, 11, 12, 13, 14, 15, 16] (by decide +kernel) (by decide +kernel)
set_option maxRecDepth 20000 in
theorem gX4_refusalAt_X4_refusalOf : GoodIn wsX4_refusalAt (wsV RX4 27 RX4 yX4_refusalOf wsX4_refusalOf) := goodIn_app (goodIn_of _ (by decide +kernel)) ggX4_refusalAt_X4_refusalOf
set_option maxRecDepth 20000 in
theorem ggX4_refusalAt_X4_lengthOf : GoodIn wsX4_refusalAt wsX4_lengthOf := goodIn_r _ [14, 10, 6, 7, 8, 4, 9, 15, 16] (by decide +kernel) (by decide +kernel)
set_option maxRecDepth 20000 in
theorem gX4_refusalAt_X4_lengthOf : GoodIn wsX4_refusalAt (wsV RX4 23 RX4 yX4_lengthOf wsX4_lengthOf) := goodIn_app (goodIn_of _ (by decide +kernel)) ggX4_refusalAt_X4_lengthOf
theorem dX4_refusalAt_0 : decode cX4_refusalAt 0 = .ok (.aload_n 0, 1) := by decide +kernel
theorem dX4_refusalAt_1 : decode cX4_refusalAt 1 = .ok (.iload_n 1, 1) := by decide +kernel
theorem dX4_refusalAt_2 : decode cX4_refusalAt 2 = .ok (.invokevirtual 27, 3) := by decide +kernel
theorem dX4_refusalAt_5 : decode cX4_refusalAt 5 = .ok (.istore_n 3, 1) := by decide +kernel
theorem dX4_refusalAt_6 : decode cX4_refusalAt 6 = .ok (.iload_n 3, 1) := by decide +kernel
theorem dX4_refusalAt_7 : decode cX4_refusalAt 7 = .ok (.ifCond .eq 5, 3) := by decide +kernel
theorem dX4_refusalAt_10 : decode cX4_refusalAt 10 = .ok (.iload_n 3, 1) := by decide +kernel
theorem dX4_refusalAt_11 : decode cX4_refusalAt 11 = .ok (.ireturn, 1) := by decide +kernel
theorem dX4_refusalAt_12 : decode cX4_refusalAt 12 = .ok (.iload_n 2, 1) := by decide +kernel
theorem dX4_refusalAt_13 : decode cX4_refusalAt 13 = .ok (.ifCond .lt 12, 3) := by decide +kernel
theorem dX4_refusalAt_16 : decode cX4_refusalAt 16 = .ok (.iload_n 2, 1) := by decide +kernel
theorem dX4_refusalAt_17 : decode cX4_refusalAt 17 = .ok (.aload_n 0, 1) := by decide +kernel
theorem dX4_refusalAt_18 : decode cX4_refusalAt 18 = .ok (.iload_n 1, 1) := by decide +kernel
theorem dX4_refusalAt_19 : decode cX4_refusalAt 19 = .ok (.invokevirtual 23, 3) := by decide +kernel
theorem dX4_refusalAt_22 : decode cX4_refusalAt 22 = .ok (.if_icmp .lt 8, 3) := by decide +kernel
theorem dX4_refusalAt_25 : decode cX4_refusalAt 25 = .ok (.bipush (-12), 2) := by decide +kernel
theorem dX4_refusalAt_27 : decode cX4_refusalAt 27 = .ok (.goto 4, 3) := by decide +kernel
theorem dX4_refusalAt_30 : decode cX4_refusalAt 30 = .ok (.iconst 0, 1) := by decide +kernel
theorem dX4_refusalAt_31 : decode cX4_refusalAt 31 = .ok (.ireturn, 1) := by decide +kernel
set_option maxRecDepth 20000 in
theorem ggX4_renew_X4_known : GoodIn wsX4_renew wsX4_known := goodIn_r _ [6, 1, 28, 29] (by decide +kernel) (by decide +kernel)
set_option maxRecDepth 20000 in
theorem gX4_renew_X4_known : GoodIn wsX4_renew (wsV RX4 19 RX4 yX4_known wsX4_known) := goodIn_app (goodIn_of _ (by decide +kernel)) ggX4_renew_X4_known
set_option maxRecDepth 20000 in
theorem ggX4_renew_X4_put : GoodIn wsX4_renew wsX4_put := goodIn_r _ [10, 11, 12, 13, 14, 5, 15, 16, 17, 18, 19, 20, 21, 22, 23, 2, 3, 4, 6, 1, 24, 25, 26, 27, 28, 29] (by decide +kernel) (by decide +kernel)
set_option maxRecDepth 20000 in
theorem gX4_renew_X4_put : GoodIn wsX4_renew (wsV RX4 30 RX4 yX4_put wsX4_put) := goodIn_app (goodIn_of _ (by decide +kernel)) ggX4_renew_X4_put
theorem dX4_renew_0 : decode cX4_renew 0 = .ok (.aload_n 0, 1) := by decide +kernel
theorem dX4_renew_1 : decode cX4_renew 1 = .ok (.iload_n 1, 1) := by decide +kernel
theorem dX4_renew_2 : decode cX4_renew 2 = .ok (.invokevirtual 19, 3) := by decide +kernel
theorem dX4_renew_5 : decode cX4_renew 5 = .ok (.ifCond .ne 4, 3) := by decide +kernel
theorem dX4_renew_8 : decode cX4_renew 8 = .ok (.return_, 1) := by decide +kernel
theorem dX4_renew_9 : decode cX4_renew 9 = .ok (.aload_n 0, 1) := by decide +kernel
theorem dX4_renew_10 : decode cX4_renew 10 = .ok (.getfield 15, 3) := by decide +kernel
theorem dX4_renew_13 : decode cX4_renew 13 = .ok (.iload_n 1, 1) := by decide +kernel
theorem dX4_renew_14 : decode cX4_renew 14 = .ok (.iload_n 2, 1) := by decide +kernel
theorem dX4_renew_15 : decode cX4_renew 15 = .ok (.iastore, 1) := by decide +kernel
theorem dX4_renew_16 : decode cX4_renew 16 = .ok (.iconst 0, 1) := by decide +kernel
theorem dX4_renew_17 : decode cX4_renew 17 = .ok (.istore_n 3, 1) := by decide +kernel
theorem dX4_renew_18 : decode cX4_renew 18 = .ok (.iload_n 3, 1) := by decide +kernel
theorem dX4_renew_19 : decode cX4_renew 19 = .ok (.iload_n 2, 1) := by decide +kernel
theorem dX4_renew_20 : decode cX4_renew 20 = .ok (.if_icmp .ge 16, 3) := by decide +kernel
theorem dX4_renew_23 : decode cX4_renew 23 = .ok (.aload_n 0, 1) := by decide +kernel
theorem dX4_renew_24 : decode cX4_renew 24 = .ok (.iload_n 1, 1) := by decide +kernel
theorem dX4_renew_25 : decode cX4_renew 25 = .ok (.iload_n 3, 1) := by decide +kernel
theorem dX4_renew_26 : decode cX4_renew 26 = .ok (.lconst 0, 1) := by decide +kernel
theorem dX4_renew_27 : decode cX4_renew 27 = .ok (.invokevirtual 30, 3) := by decide +kernel
theorem dX4_renew_30 : decode cX4_renew 30 = .ok (.iinc 3 1, 3) := by decide +kernel
theorem dX4_renew_33 : decode cX4_renew 33 = .ok (.goto (-15), 3) := by decide +kernel
theorem dX4_renew_36 : decode cX4_renew 36 = .ok (.return_, 1) := by decide +kernel
set_option maxRecDepth 20000 in
theorem ggX4_lose_X4_known : GoodIn wsX4_lose wsX4_known := goodIn_r _ [6, 1, 7, 8] (by decide +kernel) (by decide +kernel)
set_option maxRecDepth 20000 in
theorem gX4_lose_X4_known : GoodIn wsX4_lose (wsV RX4 19 RX4 yX4_known wsX4_known) := goodIn_app (goodIn_of _ (by decide +kernel)) ggX4_lose_X4_known
theorem dX4_lose_0 : decode cX4_lose 0 = .ok (.aload_n 0, 1) := by decide +kernel
theorem dX4_lose_1 : decode cX4_lose 1 = .ok (.iload_n 1, 1) := by decide +kernel
theorem dX4_lose_2 : decode cX4_lose 2 = .ok (.invokevirtual 19, 3) := by decide +kernel
theorem dX4_lose_5 : decode cX4_lose 5 = .ok (.ifCond .eq 10, 3) := by decide +kernel
theorem dX4_lose_8 : decode cX4_lose 8 = .ok (.aload_n 0, 1) := by decide +kernel
theorem dX4_lose_9 : decode cX4_lose 9 = .ok (.getfield 15, 3) := by decide +kernel
theorem dX4_lose_12 : decode cX4_lose 12 = .ok (.iload_n 1, 1) := by decide +kernel
theorem dX4_lose_13 : decode cX4_lose 13 = .ok (.iconst (-1), 1) := by decide +kernel
theorem dX4_lose_14 : decode cX4_lose 14 = .ok (.iastore, 1) := by decide +kernel
theorem dX4_lose_15 : decode cX4_lose 15 = .ok (.return_, 1) := by decide +kernel
set_option maxRecDepth 20000 in
theorem ggX4_at_X4_slotOf : GoodIn wsX4_at wsX4_slotOf := goodIn_r _ [6, 7, 8, 9, 5, 10, 11, 12, 13, 14, 15, 16, 17, 18, 19, 20, 21, 22, 23, 24, 25] (by decide +kernel) (by decide +kernel)
set_option maxRecDepth 20000 in
theorem gX4_at_X4_slotOf : GoodIn wsX4_at (wsV RX4 34 RX4 yX4_slotOf wsX4_slotOf) := goodIn_app (goodIn_of _ (by decide +kernel)) ggX4_at_X4_slotOf
theorem dX4_at_0 : decode cX4_at 0 = .ok (.aload_n 0, 1) := by decide +kernel
theorem dX4_at_1 : decode cX4_at 1 = .ok (.iload_n 1, 1) := by decide +kernel
theorem dX4_at_2 : decode cX4_at 2 = .ok (.iload_n 2, 1) := by decide +kernel
theorem dX4_at_3 : decode cX4_at 3 = .ok (.invokevirtual 34, 3) := by decide +kernel
theorem dX4_at_6 : decode cX4_at 6 = .ok (.istore_n 3, 1) := by decide +kernel
theorem dX4_at_7 : decode cX4_at 7 = .ok (.iload_n 3, 1) := by decide +kernel
theorem dX4_at_8 : decode cX4_at 8 = .ok (.ifCond .lt 21, 3) := by decide +kernel
theorem dX4_at_11 : decode cX4_at 11 = .ok (.iload_n 3, 1) := by decide +kernel
theorem dX4_at_12 : decode cX4_at 12 = .ok (.aload_n 0, 1) := by decide +kernel
theorem dX4_at_13 : decode cX4_at 13 = .ok (.getfield 9, 3) := by decide +kernel
theorem dX4_at_16 : decode cX4_at 16 = .ok (.arraylength, 1) := by decide +kernel
theorem dX4_at_17 : decode cX4_at 17 = .ok (.if_icmp .ge 12, 3) := by decide +kernel
theorem dX4_at_20 : decode cX4_at 20 = .ok (.aload_n 0, 1) := by decide +kernel
theorem dX4_at_21 : decode cX4_at 21 = .ok (.getfield 9, 3) := by decide +kernel
theorem dX4_at_24 : decode cX4_at 24 = .ok (.iload_n 3, 1) := by decide +kernel
theorem dX4_at_25 : decode cX4_at 25 = .ok (.laload, 1) := by decide +kernel
theorem dX4_at_26 : decode cX4_at 26 = .ok (.goto 4, 3) := by decide +kernel
theorem dX4_at_29 : decode cX4_at 29 = .ok (.lconst 0, 1) := by decide +kernel
theorem dX4_at_30 : decode cX4_at 30 = .ok (.lreturn, 1) := by decide +kernel
set_option maxRecDepth 20000 in
theorem ggX4_put_X4_slotOf : GoodIn wsX4_put wsX4_slotOf := goodIn_r _ [6, 7, 8, 9, 5, 10, 11, 12, 13, 14, 15, 16, 17, 18, 19, 20, 21, 22, 23, 24, 25] (by decide +kernel) (by decide +kernel)
set_option maxRecDepth 20000 in
theorem gX4_put_X4_slotOf : GoodIn wsX4_put (wsV RX4 34 RX4 yX4_slotOf wsX4_slotOf) := goodIn_app (goodIn_of _ (by decide +kernel)) ggX4_put_X4_slotOf
theorem dX4_put_0 : decode cX4_put 0 = .ok (.aload_n 0, 1) := by decide +kernel
theorem dX4_put_1 : decode cX4_put 1 = .ok (.iload_n 1, 1) := by decide +kernel
theorem dX4_put_2 : decode cX4_put 2 = .ok (.iload_n 2, 1) := by decide +kernel
theorem dX4_put_3 : decode cX4_put 3 = .ok (.invokevirtual 34, 3) := by decide +kernel
theorem dX4_put_6 : decode cX4_put 6 = .ok (.istore 5, 2) := by decide +kernel
theorem dX4_put_8 : decode cX4_put 8 = .ok (.iload 5, 2) := by decide +kernel
theorem dX4_put_10 : decode cX4_put 10 = .ok (.ifCond .lt 21, 3) := by decide +kernel
theorem dX4_put_13 : decode cX4_put 13 = .ok (.iload 5, 2) := by decide +kernel
theorem dX4_put_15 : decode cX4_put 15 = .ok (.aload_n 0, 1) := by decide +kernel
theorem dX4_put_16 : decode cX4_put 16 = .ok (.getfield 9, 3) := by decide +kernel
theorem dX4_put_19 : decode cX4_put 19 = .ok (.arraylength, 1) := by decide +kernel
theorem dX4_put_20 : decode cX4_put 20 = .ok (.if_icmp .ge 11, 3) := by decide +kernel
theorem dX4_put_23 : decode cX4_put 23 = .ok (.aload_n 0, 1) := by decide +kernel
theorem dX4_put_24 : decode cX4_put 24 = .ok (.getfield 9, 3) := by decide +kernel
theorem dX4_put_27 : decode cX4_put 27 = .ok (.iload 5, 2) := by decide +kernel
theorem dX4_put_29 : decode cX4_put 29 = .ok (.lload_n 3, 1) := by decide +kernel
theorem dX4_put_30 : decode cX4_put 30 = .ok (.lastore, 1) := by decide +kernel
theorem dX4_put_31 : decode cX4_put 31 = .ok (.return_, 1) := by decide +kernel
theorem dX4_allPlaces_0 : decode cX4_allPlaces 0 = .ok (.iconst 0, 1) := by decide +kernel
theorem dX4_allPlaces_1 : decode cX4_allPlaces 1 = .ok (.istore_n 1, 1) := by decide +kernel
theorem dX4_allPlaces_2 : decode cX4_allPlaces 2 = .ok (.iconst 0, 1) := by decide +kernel
theorem dX4_allPlaces_3 : decode cX4_allPlaces 3 = .ok (.istore_n 2, 1) := by decide +kernel
theorem dX4_allPlaces_4 : decode cX4_allPlaces 4 = .ok (.iload_n 2, 1) := by decide +kernel
theorem dX4_allPlaces_5 : decode cX4_allPlaces 5 = .ok (.aload_n 0, 1) := by decide +kernel
theorem dX4_allPlaces_6 : decode cX4_allPlaces 6 = .ok (.getfield 15, 3) := by decide +kernel
theorem dX4_allPlaces_9 : decode cX4_allPlaces 9 = .ok (.arraylength, 1) := by decide +kernel
theorem dX4_allPlaces_10 : decode cX4_allPlaces 10 = .ok (.if_icmp .ge 22, 3) := by decide +kernel
theorem dX4_allPlaces_13 : decode cX4_allPlaces 13 = .ok (.iload_n 1, 1) := by decide +kernel
theorem dX4_allPlaces_14 : decode cX4_allPlaces 14 = .ok (.iconst 0, 1) := by decide +kernel
theorem dX4_allPlaces_15 : decode cX4_allPlaces 15 = .ok (.aload_n 0, 1) := by decide +kernel
theorem dX4_allPlaces_16 : decode cX4_allPlaces 16 = .ok (.getfield 15, 3) := by decide +kernel
theorem dX4_allPlaces_19 : decode cX4_allPlaces 19 = .ok (.iload_n 2, 1) := by decide +kernel
theorem dX4_allPlaces_20 : decode cX4_allPlaces 20 = .ok (.iaload, 1) := by decide +kernel
theorem dX4_allPlaces_21 : decode cX4_allPlaces 21 = .ok (.invokestatic 38, 3) := by decide +kernel
theorem dX4_allPlaces_24 : decode cX4_allPlaces 24 = .ok (.iadd, 1) := by decide +kernel
theorem dX4_allPlaces_25 : decode cX4_allPlaces 25 = .ok (.istore_n 1, 1) := by decide +kernel
theorem dX4_allPlaces_26 : decode cX4_allPlaces 26 = .ok (.iinc 2 1, 3) := by decide +kernel
theorem dX4_allPlaces_29 : decode cX4_allPlaces 29 = .ok (.goto (-25), 3) := by decide +kernel
theorem dX4_allPlaces_32 : decode cX4_allPlaces 32 = .ok (.iload_n 1, 1) := by decide +kernel
theorem dX4_allPlaces_33 : decode cX4_allPlaces 33 = .ok (.ireturn, 1) := by decide +kernel
set_option maxRecDepth 20000 in
theorem ggX4_slotOf_X4_refusalAt : GoodIn wsX4_slotOf wsX4_refusalAt := goodIn_r _ [5, 6, 7, 8, 4, 9, 10, 11, 12, 13, 14, 15, 16, 17, 18, 19, 20] (by decide +kernel) (by decide +kernel)
set_option maxRecDepth 20000 in
theorem gX4_slotOf_X4_refusalAt : GoodIn wsX4_slotOf (wsV RX4 43 RX4 yX4_refusalAt wsX4_refusalAt) := goodIn_app (goodIn_of _ (by decide +kernel)) ggX4_slotOf_X4_refusalAt
theorem dX4_slotOf_0 : decode cX4_slotOf 0 = .ok (.aload_n 0, 1) := by decide +kernel
theorem dX4_slotOf_1 : decode cX4_slotOf 1 = .ok (.iload_n 1, 1) := by decide +kernel
theorem dX4_slotOf_2 : decode cX4_slotOf 2 = .ok (.iload_n 2, 1) := by decide +kernel
theorem dX4_slotOf_3 : decode cX4_slotOf 3 = .ok (.invokevirtual 43, 3) := by decide +kernel
theorem dX4_slotOf_6 : decode cX4_slotOf 6 = .ok (.ifCond .ne 12, 3) := by decide +kernel
theorem dX4_slotOf_9 : decode cX4_slotOf 9 = .ok (.iload_n 1, 1) := by decide +kernel
theorem dX4_slotOf_10 : decode cX4_slotOf 10 = .ok (.bipush 12, 2) := by decide +kernel
theorem dX4_slotOf_12 : decode cX4_slotOf 12 = .ok (.imul, 1) := by decide +kernel
theorem dX4_slotOf_13 : decode cX4_slotOf 13 = .ok (.iload_n 2, 1) := by decide +kernel
theorem dX4_slotOf_14 : decode cX4_slotOf 14 = .ok (.iadd, 1) := by decide +kernel
theorem dX4_slotOf_15 : decode cX4_slotOf 15 = .ok (.goto 4, 3) := by decide +kernel
theorem dX4_slotOf_18 : decode cX4_slotOf 18 = .ok (.iconst (-1), 1) := by decide +kernel
theorem dX4_slotOf_19 : decode cX4_slotOf 19 = .ok (.ireturn, 1) := by decide +kernel
theorem dX5_init_0 : decode cX5_init 0 = .ok (.aload_n 0, 1) := by decide +kernel
theorem dX5_init_1 : decode cX5_init 1 = .ok (.invokespecial 3, 3) := by decide +kernel
theorem dX5_init_4 : decode cX5_init 4 = .ok (.aload_n 0, 1) := by decide +kernel
theorem dX5_init_5 : decode cX5_init 5 = .ok (.sipush 200, 3) := by decide +kernel
theorem dX5_init_8 : decode cX5_init 8 = .ok (.newarray .int, 2) := by decide +kernel
theorem dX5_init_10 : decode cX5_init 10 = .ok (.putfield 9, 3) := by decide +kernel
theorem dX5_init_13 : decode cX5_init 13 = .ok (.aload_n 0, 1) := by decide +kernel
theorem dX5_init_14 : decode cX5_init 14 = .ok (.bipush 24, 2) := by decide +kernel
theorem dX5_init_16 : decode cX5_init 16 = .ok (.newarray .int, 2) := by decide +kernel
theorem dX5_init_18 : decode cX5_init 18 = .ok (.putfield 15, 3) := by decide +kernel
theorem dX5_init_21 : decode cX5_init 21 = .ok (.aload_n 0, 1) := by decide +kernel
theorem dX5_init_22 : decode cX5_init 22 = .ok (.bipush 72, 2) := by decide +kernel
theorem dX5_init_24 : decode cX5_init 24 = .ok (.newarray .int, 2) := by decide +kernel
theorem dX5_init_26 : decode cX5_init 26 = .ok (.putfield 18, 3) := by decide +kernel
theorem dX5_init_29 : decode cX5_init 29 = .ok (.return_, 1) := by decide +kernel
theorem dX5_append_0 : decode cX5_append 0 = .ok (.aload_n 0, 1) := by decide +kernel
theorem dX5_append_1 : decode cX5_append 1 = .ok (.getfield 21, 3) := by decide +kernel
theorem dX5_append_4 : decode cX5_append 4 = .ok (.ifCond .lt 15, 3) := by decide +kernel
theorem dX5_append_7 : decode cX5_append 7 = .ok (.aload_n 0, 1) := by decide +kernel
theorem dX5_append_8 : decode cX5_append 8 = .ok (.getfield 21, 3) := by decide +kernel
theorem dX5_append_11 : decode cX5_append 11 = .ok (.aload_n 0, 1) := by decide +kernel
theorem dX5_append_12 : decode cX5_append 12 = .ok (.getfield 9, 3) := by decide +kernel
theorem dX5_append_15 : decode cX5_append 15 = .ok (.arraylength, 1) := by decide +kernel
theorem dX5_append_16 : decode cX5_append 16 = .ok (.if_icmp .lt 5, 3) := by decide +kernel
theorem dX5_append_19 : decode cX5_append 19 = .ok (.iconst 0, 1) := by decide +kernel
theorem dX5_append_20 : decode cX5_append 20 = .ok (.ireturn, 1) := by decide +kernel
theorem dX5_append_21 : decode cX5_append 21 = .ok (.aload_n 0, 1) := by decide +kernel
theorem dX5_append_22 : decode cX5_append 22 = .ok (.getfield 9, 3) := by decide +kernel
theorem dX5_append_25 : decode cX5_append 25 = .ok (.aload_n 0, 1) := by decide +kernel
theorem dX5_append_26 : decode cX5_append 26 = .ok (.getfield 21, 3) := by decide +kernel
theorem dX5_append_29 : decode cX5_append 29 = .ok (.iload_n 1, 1) := by decide +kernel
theorem dX5_append_30 : decode cX5_append 30 = .ok (.iastore, 1) := by decide +kernel
theorem dX5_append_31 : decode cX5_append 31 = .ok (.aload_n 0, 1) := by decide +kernel
theorem dX5_append_32 : decode cX5_append 32 = .ok (.dup, 1) := by decide +kernel
theorem dX5_append_33 : decode cX5_append 33 = .ok (.getfield 21, 3) := by decide +kernel
theorem dX5_append_36 : decode cX5_append 36 = .ok (.iconst 1, 1) := by decide +kernel
theorem dX5_append_37 : decode cX5_append 37 = .ok (.iadd, 1) := by decide +kernel
theorem dX5_append_38 : decode cX5_append 38 = .ok (.putfield 21, 3) := by decide +kernel
theorem dX5_append_41 : decode cX5_append 41 = .ok (.iconst 1, 1) := by decide +kernel
theorem dX5_append_42 : decode cX5_append 42 = .ok (.ireturn, 1) := by decide +kernel
theorem dX5_clear_0 : decode cX5_clear 0 = .ok (.aload_n 0, 1) := by decide +kernel
theorem dX5_clear_1 : decode cX5_clear 1 = .ok (.getfield 21, 3) := by decide +kernel
theorem dX5_clear_4 : decode cX5_clear 4 = .ok (.istore_n 1, 1) := by decide +kernel
theorem dX5_clear_5 : decode cX5_clear 5 = .ok (.aload_n 0, 1) := by decide +kernel
theorem dX5_clear_6 : decode cX5_clear 6 = .ok (.iconst 0, 1) := by decide +kernel
theorem dX5_clear_7 : decode cX5_clear 7 = .ok (.putfield 21, 3) := by decide +kernel
theorem dX5_clear_10 : decode cX5_clear 10 = .ok (.iload_n 1, 1) := by decide +kernel
theorem dX5_clear_11 : decode cX5_clear 11 = .ok (.ireturn, 1) := by decide +kernel
set_option maxRecDepth 20000 in
theorem ggX5_faultPlace_X5_parseClause : GoodIn wsX5_faultPlace wsX5_parseClause := goodIn_r _ [10, 11, 1, 12, 13, 14, 9, 15, 2, 4, 5, 16, 17, 18, 19, 20, 21, 22, 23, 24, 25, 26, 27, 28, 29, 30, 31, 32, 33, 34, 35, 36, 37, 38, 39, 40, 41, 42, 43, 44, 45, 46, 47, 48, 49, 50, 51, 52, 53, 54, 55, 56, 57, 58, 59, 60, 61, 62, 63, 64, 65, 66, 67, 68, 69, 70, 71, 72, 73, 74, 75, 76, 77, 78, 79, 80, 81, 82, 83, 84, 85, 86, 87, 88, 89, 90, 91, 92, 93, 94, 95, 96, 97, 98, 99, 100, 101, 102, 103] (by decide +kernel) (by decide +kernel)
set_option maxRecDepth 20000 in
theorem gX5_faultPlace_X5_parseClause : GoodIn wsX5_faultPlace (wsV RX5 34 RX5 yX5_parseClause wsX5_parseClause) := goodIn_app (goodIn_of _ (by decide +kernel)) ggX5_faultPlace_X5_parseClause
set_option maxRecDepth 20000 in
theorem ggX5_faultPlace_X5_nextToken : GoodIn wsX5_faultPlace wsX5_nextToken := goodIn_r _ [15, 2, 4, 5, 16, 17, 18, 9, 19, 20, 21, 22, 23, 24, 25, 26, 27, 28, 95, 96, 97, 98, 99, 100, 101, 102, 103] (by decide +kernel) (by decide +kernel)
set_option maxRecDepth 20000 in
theorem gX5_faultPlace_X5_nextToken : GoodIn wsX5_faultPlace (wsV RX5 41 RX5 yX5_nextToken wsX5_nextToken) := goodIn_app (goodIn_of _ (by decide +kernel)) ggX5_faultPlace_X5_nextToken
set_option maxRecDepth 20000 in
theorem ggX5_faultPlace_X5_letterAt : GoodIn wsX5_faultPlace wsX5_letterAt := goodIn_r _ [24, 20, 25, 95, 96, 97, 98, 99, 100, 101, 102, 103] (by decide +kernel) (by decide +kernel)
set_option maxRecDepth 20000 in
theorem gX5_faultPlace_X5_letterAt : GoodIn wsX5_faultPlace (wsV RX5 47 RX5 yX5_letterAt wsX5_letterAt) := goodIn_app (goodIn_of _ (by decide +kernel)) ggX5_faultPlace_X5_letterAt
theorem dX5_faultPlace_0 : decode cX5_faultPlace 0 = .ok (.aload_n 0, 1) := by decide +kernel
theorem dX5_faultPlace_1 : decode cX5_faultPlace 1 = .ok (.iload_n 1, 1) := by decide +kernel
theorem dX5_faultPlace_2 : decode cX5_faultPlace 2 = .ok (.putfield 25, 3) := by decide +kernel
theorem dX5_faultPlace_5 : decode cX5_faultPlace 5 = .ok (.aload_n 0, 1) := by decide +kernel
theorem dX5_faultPlace_6 : decode cX5_faultPlace 6 = .ok (.iconst 0, 1) := by decide +kernel
theorem dX5_faultPlace_7 : decode cX5_faultPlace 7 = .ok (.putfield 28, 3) := by decide +kernel
theorem dX5_faultPlace_10 : decode cX5_faultPlace 10 = .ok (.aload_n 0, 1) := by decide +kernel
theorem dX5_faultPlace_11 : decode cX5_faultPlace 11 = .ok (.iconst 0, 1) := by decide +kernel
theorem dX5_faultPlace_12 : decode cX5_faultPlace 12 = .ok (.putfield 31, 3) := by decide +kernel
theorem dX5_faultPlace_15 : decode cX5_faultPlace 15 = .ok (.iconst 0, 1) := by decide +kernel
theorem dX5_faultPlace_16 : decode cX5_faultPlace 16 = .ok (.istore_n 2, 1) := by decide +kernel
theorem dX5_faultPlace_17 : decode cX5_faultPlace 17 = .ok (.iload_n 2, 1) := by decide +kernel
theorem dX5_faultPlace_18 : decode cX5_faultPlace 18 = .ok (.bipush 24, 2) := by decide +kernel
theorem dX5_faultPlace_20 : decode cX5_faultPlace 20 = .ok (.if_icmp .ge 71, 3) := by decide +kernel
theorem dX5_faultPlace_23 : decode cX5_faultPlace 23 = .ok (.aload_n 0, 1) := by decide +kernel
theorem dX5_faultPlace_24 : decode cX5_faultPlace 24 = .ok (.iload_n 2, 1) := by decide +kernel
theorem dX5_faultPlace_25 : decode cX5_faultPlace 25 = .ok (.invokevirtual 34, 3) := by decide +kernel
theorem dX5_faultPlace_28 : decode cX5_faultPlace 28 = .ok (.ifCond .ne 8, 3) := by decide +kernel
theorem dX5_faultPlace_31 : decode cX5_faultPlace 31 = .ok (.aload_n 0, 1) := by decide +kernel
theorem dX5_faultPlace_32 : decode cX5_faultPlace 32 = .ok (.getfield 38, 3) := by decide +kernel
theorem dX5_faultPlace_35 : decode cX5_faultPlace 35 = .ok (.ireturn, 1) := by decide +kernel
theorem dX5_faultPlace_36 : decode cX5_faultPlace 36 = .ok (.aload_n 0, 1) := by decide +kernel
theorem dX5_faultPlace_37 : decode cX5_faultPlace 37 = .ok (.dup, 1) := by decide +kernel
theorem dX5_faultPlace_38 : decode cX5_faultPlace 38 = .ok (.getfield 31, 3) := by decide +kernel
theorem dX5_faultPlace_41 : decode cX5_faultPlace 41 = .ok (.iconst 1, 1) := by decide +kernel
theorem dX5_faultPlace_42 : decode cX5_faultPlace 42 = .ok (.iadd, 1) := by decide +kernel
theorem dX5_faultPlace_43 : decode cX5_faultPlace 43 = .ok (.putfield 31, 3) := by decide +kernel
theorem dX5_faultPlace_46 : decode cX5_faultPlace 46 = .ok (.aload_n 0, 1) := by decide +kernel
theorem dX5_faultPlace_47 : decode cX5_faultPlace 47 = .ok (.invokevirtual 41, 3) := by decide +kernel
theorem dX5_faultPlace_50 : decode cX5_faultPlace 50 = .ok (.aload_n 0, 1) := by decide +kernel
theorem dX5_faultPlace_51 : decode cX5_faultPlace 51 = .ok (.getfield 44, 3) := by decide +kernel
theorem dX5_faultPlace_54 : decode cX5_faultPlace 54 = .ok (.ifCond .ne 5, 3) := by decide +kernel
theorem dX5_faultPlace_57 : decode cX5_faultPlace 57 = .ok (.iconst (-1), 1) := by decide +kernel
theorem dX5_faultPlace_58 : decode cX5_faultPlace 58 = .ok (.ireturn, 1) := by decide +kernel
theorem dX5_faultPlace_59 : decode cX5_faultPlace 59 = .ok (.aload_n 0, 1) := by decide +kernel
theorem dX5_faultPlace_60 : decode cX5_faultPlace 60 = .ok (.getfield 44, 3) := by decide +kernel
theorem dX5_faultPlace_63 : decode cX5_faultPlace 63 = .ok (.iconst 4, 1) := by decide +kernel
theorem dX5_faultPlace_64 : decode cX5_faultPlace 64 = .ok (.if_icmp .ne 16, 3) := by decide +kernel
theorem dX5_faultPlace_67 : decode cX5_faultPlace 67 = .ok (.aload_n 0, 1) := by decide +kernel
theorem dX5_faultPlace_68 : decode cX5_faultPlace 68 = .ok (.aload_n 0, 1) := by decide +kernel
theorem dX5_faultPlace_69 : decode cX5_faultPlace 69 = .ok (.getfield 38, 3) := by decide +kernel
theorem dX5_faultPlace_72 : decode cX5_faultPlace 72 = .ok (.invokevirtual 47, 3) := by decide +kernel
theorem dX5_faultPlace_75 : decode cX5_faultPlace 75 = .ok (.bipush 59, 2) := by decide +kernel
theorem dX5_faultPlace_77 : decode cX5_faultPlace 77 = .ok (.if_icmp .eq 8, 3) := by decide +kernel
theorem dX5_faultPlace_80 : decode cX5_faultPlace 80 = .ok (.aload_n 0, 1) := by decide +kernel
theorem dX5_faultPlace_81 : decode cX5_faultPlace 81 = .ok (.getfield 38, 3) := by decide +kernel
theorem dX5_faultPlace_84 : decode cX5_faultPlace 84 = .ok (.ireturn, 1) := by decide +kernel
theorem dX5_faultPlace_85 : decode cX5_faultPlace 85 = .ok (.iinc 2 1, 3) := by decide +kernel
theorem dX5_faultPlace_88 : decode cX5_faultPlace 88 = .ok (.goto (-71), 3) := by decide +kernel
theorem dX5_faultPlace_91 : decode cX5_faultPlace 91 = .ok (.aload_n 0, 1) := by decide +kernel
theorem dX5_faultPlace_92 : decode cX5_faultPlace 92 = .ok (.getfield 38, 3) := by decide +kernel
theorem dX5_faultPlace_95 : decode cX5_faultPlace 95 = .ok (.ireturn, 1) := by decide +kernel
set_option maxRecDepth 20000 in
theorem ggX5_perform_X5_numberOf : GoodIn wsX5_perform wsX5_numberOf := goodIn_r _ [7, 8, 86, 87, 88, 89, 90, 91, 92, 93, 94] (by decide +kernel) (by decide +kernel)
set_option maxRecDepth 20000 in
theorem gX5_perform_X5_numberOf : GoodIn wsX5_perform (wsV RX5 51 RX5 yX5_numberOf wsX5_numberOf) := goodIn_app (goodIn_of _ (by decide +kernel)) ggX5_perform_X5_numberOf
set_option maxRecDepth 20000 in
theorem ggX5_perform_X0_begin : GoodIn wsX5_perform wsX0_begin := goodIn_r _ [13, 14, 15, 16, 17, 18, 19, 20, 21, 22, 23, 12, 24, 95, 96, 97, 98, 99, 100, 101, 102] (by decide +kernel) (by decide +kernel)
set_option maxRecDepth 20000 in
theorem gX5_perform_X0_begin : GoodIn wsX5_perform (wsV RX5 55 RX0 yX0_begin wsX0_begin) := goodIn_app (goodIn_of _ (by decide +kernel)) ggX5_perform_X0_begin
set_option maxRecDepth 20000 in
theorem ggX5_perform_X0_putIn : GoodIn wsX5_perform wsX0_putIn := goodIn_r _ [28, 29, 16, 15, 30, 31, 32, 12, 33, 34, 35, 36, 37, 38, 39, 40, 41, 42, 43, 44, 45, 46, 47, 48, 49, 50, 18, 17, 51, 52, 53, 54, 55, 56, 57, 58, 59, 60, 61, 62, 63, 64, 65, 66, 19, 95, 96, 97, 98, 99, 100, 101, 102] (by decide +kernel) (by decide +kernel)
set_option maxRecDepth 20000 in
theorem gX5_perform_X0_putIn : GoodIn wsX5_perform (wsV RX5 61 RX0 yX0_putIn wsX0_putIn) := goodIn_app (goodIn_of _ (by decide +kernel)) ggX5_perform_X0_putIn
set_option maxRecDepth 20000 in
theorem ggX5_perform_X0_takeOut : GoodIn wsX5_perform wsX0_takeOut := goodIn_r _ [70, 29, 16, 17, 15, 30, 31, 32, 12, 33, 34, 35, 36, 37, 38, 39, 40, 41, 42, 43, 44, 71, 72, 47, 48, 49, 50, 18, 51, 52, 53, 54, 55, 56, 57, 58, 59, 60, 61, 62, 73, 74, 75, 76, 20, 63, 64, 65, 66, 19, 45, 46, 95, 96, 97, 98, 99, 100, 101, 102] (by decide +kernel) (by decide +kernel)
set_option maxRecDepth 20000 in
theorem gX5_perform_X0_takeOut : GoodIn wsX5_perform (wsV RX5 65 RX0 yX0_takeOut wsX0_takeOut) := goodIn_app (goodIn_of _ (by decide +kernel)) ggX5_perform_X0_takeOut
set_option maxRecDepth 20000 in
theorem ggX5_perform_X0_putInAll : GoodIn wsX5_perform wsX0_putInAll := goodIn_r _ [80, 81, 82, 83, 12, 84, 21, 22, 23, 24, 14, 85, 26, 27, 28, 29, 16, 15, 30, 31, 32, 33, 34, 35, 36, 37, 38, 39, 40, 41, 42, 43, 44, 45, 46, 47, 48, 49, 50, 18, 17, 51, 52, 53, 54, 55, 56, 57, 58, 59, 60, 61, 62, 63, 64, 65, 66, 19, 95, 96, 97, 98, 99, 100, 101, 102] (by decide +kernel) (by decide +kernel)
set_option maxRecDepth 20000 in
theorem gX5_perform_X0_putInAll : GoodIn wsX5_perform (wsV RX5 68 RX0 yX0_putInAll wsX0_putInAll) := goodIn_app (goodIn_of _ (by decide +kernel)) ggX5_perform_X0_putInAll
theorem dX5_perform_0 : decode cX5_perform 0 = .ok (.iconst 0, 1) := by decide +kernel
theorem dX5_perform_1 : decode cX5_perform 1 = .ok (.istore_n 2, 1) := by decide +kernel
theorem dX5_perform_2 : decode cX5_perform 2 = .ok (.iload_n 2, 1) := by decide +kernel
theorem dX5_perform_3 : decode cX5_perform 3 = .ok (.aload_n 0, 1) := by decide +kernel
theorem dX5_perform_4 : decode cX5_perform 4 = .ok (.getfield 31, 3) := by decide +kernel
theorem dX5_perform_7 : decode cX5_perform 7 = .ok (.if_icmp .ge 106, 3) := by decide +kernel
theorem dX5_perform_10 : decode cX5_perform 10 = .ok (.iload_n 2, 1) := by decide +kernel
theorem dX5_perform_11 : decode cX5_perform 11 = .ok (.aload_n 0, 1) := by decide +kernel
theorem dX5_perform_12 : decode cX5_perform 12 = .ok (.getfield 15, 3) := by decide +kernel
theorem dX5_perform_15 : decode cX5_perform 15 = .ok (.arraylength, 1) := by decide +kernel
theorem dX5_perform_16 : decode cX5_perform 16 = .ok (.if_icmp .ge 97, 3) := by decide +kernel
theorem dX5_perform_19 : decode cX5_perform 19 = .ok (.aload_n 0, 1) := by decide +kernel
theorem dX5_perform_20 : decode cX5_perform 20 = .ok (.iload_n 2, 1) := by decide +kernel
theorem dX5_perform_21 : decode cX5_perform 21 = .ok (.iconst 0, 1) := by decide +kernel
theorem dX5_perform_22 : decode cX5_perform 22 = .ok (.invokevirtual 51, 3) := by decide +kernel
theorem dX5_perform_25 : decode cX5_perform 25 = .ok (.istore_n 3, 1) := by decide +kernel
theorem dX5_perform_26 : decode cX5_perform 26 = .ok (.aload_n 0, 1) := by decide +kernel
theorem dX5_perform_27 : decode cX5_perform 27 = .ok (.getfield 15, 3) := by decide +kernel
theorem dX5_perform_30 : decode cX5_perform 30 = .ok (.iload_n 2, 1) := by decide +kernel
theorem dX5_perform_31 : decode cX5_perform 31 = .ok (.iaload, 1) := by decide +kernel
theorem dX5_perform_32 : decode cX5_perform 32 = .ok (.tableswitch 58 0 2 #[28, 42, 50], 28) := by decide +kernel
theorem dX5_perform_60 : decode cX5_perform 60 = .ok (.aload_n 1, 1) := by decide +kernel
theorem dX5_perform_61 : decode cX5_perform 61 = .ok (.iload_n 3, 1) := by decide +kernel
theorem dX5_perform_62 : decode cX5_perform 62 = .ok (.aload_n 0, 1) := by decide +kernel
theorem dX5_perform_63 : decode cX5_perform 63 = .ok (.iload_n 2, 1) := by decide +kernel
theorem dX5_perform_64 : decode cX5_perform 64 = .ok (.iconst 1, 1) := by decide +kernel
theorem dX5_perform_65 : decode cX5_perform 65 = .ok (.invokevirtual 51, 3) := by decide +kernel
theorem dX5_perform_68 : decode cX5_perform 68 = .ok (.invokevirtual 55, 3) := by decide +kernel
theorem dX5_perform_71 : decode cX5_perform 71 = .ok (.goto 36, 3) := by decide +kernel
theorem dX5_perform_74 : decode cX5_perform 74 = .ok (.aload_n 1, 1) := by decide +kernel
theorem dX5_perform_75 : decode cX5_perform 75 = .ok (.iload_n 3, 1) := by decide +kernel
theorem dX5_perform_76 : decode cX5_perform 76 = .ok (.invokevirtual 61, 3) := by decide +kernel
theorem dX5_perform_79 : decode cX5_perform 79 = .ok (.goto 28, 3) := by decide +kernel
theorem dX5_perform_82 : decode cX5_perform 82 = .ok (.aload_n 1, 1) := by decide +kernel
theorem dX5_perform_83 : decode cX5_perform 83 = .ok (.iload_n 3, 1) := by decide +kernel
theorem dX5_perform_84 : decode cX5_perform 84 = .ok (.invokevirtual 65, 3) := by decide +kernel
theorem dX5_perform_87 : decode cX5_perform 87 = .ok (.goto 20, 3) := by decide +kernel
theorem dX5_perform_90 : decode cX5_perform 90 = .ok (.aload_n 1, 1) := by decide +kernel
theorem dX5_perform_91 : decode cX5_perform 91 = .ok (.iload_n 3, 1) := by decide +kernel
theorem dX5_perform_92 : decode cX5_perform 92 = .ok (.aload_n 0, 1) := by decide +kernel
theorem dX5_perform_93 : decode cX5_perform 93 = .ok (.iload_n 2, 1) := by decide +kernel
theorem dX5_perform_94 : decode cX5_perform 94 = .ok (.iconst 1, 1) := by decide +kernel
theorem dX5_perform_95 : decode cX5_perform 95 = .ok (.invokevirtual 51, 3) := by decide +kernel
theorem dX5_perform_98 : decode cX5_perform 98 = .ok (.aload_n 0, 1) := by decide +kernel
theorem dX5_perform_99 : decode cX5_perform 99 = .ok (.iload_n 2, 1) := by decide +kernel
theorem dX5_perform_100 : decode cX5_perform 100 = .ok (.iconst 2, 1) := by decide +kernel
theorem dX5_perform_101 : decode cX5_perform 101 = .ok (.invokevirtual 51, 3) := by decide +kernel
theorem dX5_perform_104 : decode cX5_perform 104 = .ok (.invokevirtual 68, 3) := by decide +kernel
theorem dX5_perform_107 : decode cX5_perform 107 = .ok (.iinc 2 1, 3) := by decide +kernel
theorem dX5_perform_110 : decode cX5_perform 110 = .ok (.goto (-108), 3) := by decide +kernel
theorem dX5_perform_113 : decode cX5_perform 113 = .ok (.return_, 1) := by decide +kernel
set_option maxRecDepth 20000 in
theorem ggX5_parseClause_X5_nextToken : GoodIn wsX5_parseClause wsX5_nextToken := goodIn_r _ [7, 8, 9, 10, 11, 12, 13, 6, 14, 15, 16, 17, 18, 19, 20, 21, 22, 23, 90, 91, 92, 93, 94, 95, 96, 97, 98] (by decide +kernel) (by decide +kernel)
set_option maxRecDepth 20000 in
theorem gX5_parseClause_X5_nextToken : GoodIn wsX5_parseClause (wsV RX5 41 RX5 yX5_nextToken wsX5_nextToken) := goodIn_app (goodIn_of _ (by decide +kernel)) ggX5_parseClause_X5_nextToken
set_option maxRecDepth 20000 in
theorem ggX5_parseClause_X5_clauseKind : GoodIn wsX5_parseClause wsX5_clauseKind := goodIn_r _ [27, 28, 29, 30, 6, 31, 10, 8, 9, 32, 33, 34, 35, 36, 37, 38, 39, 40, 41, 42, 43, 16, 17, 18, 19, 15, 20, 44, 45, 46, 47, 48, 49, 50, 51, 52, 53, 54, 55, 56, 57, 58, 59, 60, 61, 62, 63, 64, 65, 66, 67, 68, 69, 70, 71, 72, 73, 74, 75, 76, 77, 78, 79, 80, 90, 91, 92, 93, 94, 95, 96, 97, 98] (by decide +kernel) (by decide +kernel)
set_option maxRecDepth 20000 in
theorem gX5_parseClause_X5_clauseKind : GoodIn wsX5_parseClause (wsV RX5 72 RX5 yX5_clauseKind wsX5_clauseKind) := goodIn_app (goodIn_of _ (by decide +kernel)) ggX5_parseClause_X5_clauseKind
set_option maxRecDepth 20000 in
theorem ggX5_parseClause_X5_parseNumber : GoodIn wsX5_parseClause wsX5_parseNumber := goodIn_r _ [84, 10, 8, 9, 85, 3, 4, 5, 6, 7, 11, 12, 13, 14, 15, 16, 17, 18, 19, 20, 21, 22, 23, 90, 91, 92, 93, 94, 95, 96, 97, 98] (by decide +kernel) (by decide +kernel)
set_option maxRecDepth 20000 in
theorem gX5_parseClause_X5_parseNumber : GoodIn wsX5_parseClause (wsV RX5 76 RX5 yX5_parseNumber wsX5_parseNumber) := goodIn_app (goodIn_of _ (by decide +kernel)) ggX5_parseClause_X5_parseNumber
set_option maxRecDepth 20000 in
theorem ggX5_parseClause_X5_numberOf : GoodIn wsX5_parseClause wsX5_numberOf := goodIn_r _ [89, 85, 90, 91, 92, 93, 94, 95, 96, 97, 98] (by decide +kernel) (by decide +kernel)
set_option maxRecDepth 20000 in
theorem gX5_parseClause_X5_numberOf : GoodIn wsX5_parseClause (wsV RX5 51 RX5 yX5_numberOf wsX5_numberOf) := goodIn_app (goodIn_of _ (by decide +kernel)) ggX5_parseClause_X5_numberOf
theorem dX5_parseClause_0 : decode cX5_parseClause 0 = .ok (.aload_n 0, 1) := by decide +kernel
theorem dX5_parseClause_1 : decode cX5_parseClause 1 = .ok (.invokevirtual 41, 3) := by decide +kernel
theorem dX5_parseClause_4 : decode cX5_parseClause 4 = .ok (.aload_n 0, 1) := by decide +kernel
theorem dX5_parseClause_5 : decode cX5_parseClause 5 = .ok (.invokevirtual 72, 3) := by decide +kernel
theorem dX5_parseClause_8 : decode cX5_parseClause 8 = .ok (.istore_n 2, 1) := by decide +kernel
theorem dX5_parseClause_9 : decode cX5_parseClause 9 = .ok (.iload_n 2, 1) := by decide +kernel
theorem dX5_parseClause_10 : decode cX5_parseClause 10 = .ok (.iconst (-1), 1) := by decide +kernel
theorem dX5_parseClause_11 : decode cX5_parseClause 11 = .ok (.if_icmp .eq 16, 3) := by decide +kernel
theorem dX5_parseClause_14 : decode cX5_parseClause 14 = .ok (.iload_n 1, 1) := by decide +kernel
theorem dX5_parseClause_15 : decode cX5_parseClause 15 = .ok (.ifCond .lt 12, 3) := by decide +kernel
theorem dX5_parseClause_18 : decode cX5_parseClause 18 = .ok (.iload_n 1, 1) := by decide +kernel
theorem dX5_parseClause_19 : decode cX5_parseClause 19 = .ok (.aload_n 0, 1) := by decide +kernel
theorem dX5_parseClause_20 : decode cX5_parseClause 20 = .ok (.getfield 15, 3) := by decide +kernel
theorem dX5_parseClause_23 : decode cX5_parseClause 23 = .ok (.arraylength, 1) := by decide +kernel
theorem dX5_parseClause_24 : decode cX5_parseClause 24 = .ok (.if_icmp .lt 5, 3) := by decide +kernel
theorem dX5_parseClause_27 : decode cX5_parseClause 27 = .ok (.iconst 0, 1) := by decide +kernel
theorem dX5_parseClause_28 : decode cX5_parseClause 28 = .ok (.ireturn, 1) := by decide +kernel
theorem dX5_parseClause_29 : decode cX5_parseClause 29 = .ok (.aload_n 0, 1) := by decide +kernel
theorem dX5_parseClause_30 : decode cX5_parseClause 30 = .ok (.getfield 15, 3) := by decide +kernel
theorem dX5_parseClause_33 : decode cX5_parseClause 33 = .ok (.iload_n 1, 1) := by decide +kernel
theorem dX5_parseClause_34 : decode cX5_parseClause 34 = .ok (.iload_n 2, 1) := by decide +kernel
theorem dX5_parseClause_35 : decode cX5_parseClause 35 = .ok (.iastore, 1) := by decide +kernel
theorem dX5_parseClause_36 : decode cX5_parseClause 36 = .ok (.iload_n 2, 1) := by decide +kernel
theorem dX5_parseClause_37 : decode cX5_parseClause 37 = .ok (.ifCond .ne 55, 3) := by decide +kernel
theorem dX5_parseClause_40 : decode cX5_parseClause 40 = .ok (.aload_n 0, 1) := by decide +kernel
theorem dX5_parseClause_41 : decode cX5_parseClause 41 = .ok (.iload_n 1, 1) := by decide +kernel
theorem dX5_parseClause_42 : decode cX5_parseClause 42 = .ok (.iconst 0, 1) := by decide +kernel
theorem dX5_parseClause_43 : decode cX5_parseClause 43 = .ok (.iconst 4, 1) := by decide +kernel
theorem dX5_parseClause_44 : decode cX5_parseClause 44 = .ok (.bipush 16, 2) := by decide +kernel
theorem dX5_parseClause_46 : decode cX5_parseClause 46 = .ok (.invokevirtual 76, 3) := by decide +kernel
theorem dX5_parseClause_49 : decode cX5_parseClause 49 = .ok (.ifCond .eq 18, 3) := by decide +kernel
theorem dX5_parseClause_52 : decode cX5_parseClause 52 = .ok (.aload_n 0, 1) := by decide +kernel
theorem dX5_parseClause_53 : decode cX5_parseClause 53 = .ok (.iload_n 1, 1) := by decide +kernel
theorem dX5_parseClause_54 : decode cX5_parseClause 54 = .ok (.iconst 1, 1) := by decide +kernel
theorem dX5_parseClause_55 : decode cX5_parseClause 55 = .ok (.iconst 2, 1) := by decide +kernel
theorem dX5_parseClause_56 : decode cX5_parseClause 56 = .ok (.iconst 5, 1) := by decide +kernel
theorem dX5_parseClause_57 : decode cX5_parseClause 57 = .ok (.invokevirtual 76, 3) := by decide +kernel
theorem dX5_parseClause_60 : decode cX5_parseClause 60 = .ok (.ifCond .eq 7, 3) := by decide +kernel
theorem dX5_parseClause_63 : decode cX5_parseClause 63 = .ok (.iconst 1, 1) := by decide +kernel
theorem dX5_parseClause_64 : decode cX5_parseClause 64 = .ok (.goto 4, 3) := by decide +kernel
theorem dX5_parseClause_67 : decode cX5_parseClause 67 = .ok (.iconst 0, 1) := by decide +kernel
theorem dX5_parseClause_68 : decode cX5_parseClause 68 = .ok (.istore_n 3, 1) := by decide +kernel
theorem dX5_parseClause_69 : decode cX5_parseClause 69 = .ok (.aload_n 0, 1) := by decide +kernel
theorem dX5_parseClause_70 : decode cX5_parseClause 70 = .ok (.iload_n 3, 1) := by decide +kernel
theorem dX5_parseClause_71 : decode cX5_parseClause 71 = .ok (.ifCond .eq 12, 3) := by decide +kernel
theorem dX5_parseClause_74 : decode cX5_parseClause 74 = .ok (.aload_n 0, 1) := by decide +kernel
theorem dX5_parseClause_75 : decode cX5_parseClause 75 = .ok (.iload_n 1, 1) := by decide +kernel
theorem dX5_parseClause_76 : decode cX5_parseClause 76 = .ok (.iconst 0, 1) := by decide +kernel
theorem dX5_parseClause_77 : decode cX5_parseClause 77 = .ok (.invokevirtual 51, 3) := by decide +kernel
theorem dX5_parseClause_80 : decode cX5_parseClause 80 = .ok (.goto 7, 3) := by decide +kernel
theorem dX5_parseClause_83 : decode cX5_parseClause 83 = .ok (.aload_n 0, 1) := by decide +kernel
theorem dX5_parseClause_84 : decode cX5_parseClause 84 = .ok (.getfield 25, 3) := by decide +kernel
theorem dX5_parseClause_87 : decode cX5_parseClause 87 = .ok (.putfield 25, 3) := by decide +kernel
theorem dX5_parseClause_90 : decode cX5_parseClause 90 = .ok (.iload_n 3, 1) := by decide +kernel
theorem dX5_parseClause_91 : decode cX5_parseClause 91 = .ok (.ireturn, 1) := by decide +kernel
theorem dX5_parseClause_92 : decode cX5_parseClause 92 = .ok (.iconst 1, 1) := by decide +kernel
theorem dX5_parseClause_93 : decode cX5_parseClause 93 = .ok (.aload_n 0, 1) := by decide +kernel
theorem dX5_parseClause_94 : decode cX5_parseClause 94 = .ok (.getfield 25, 3) := by decide +kernel
theorem dX5_parseClause_97 : decode cX5_parseClause 97 = .ok (.ishl, 1) := by decide +kernel
theorem dX5_parseClause_98 : decode cX5_parseClause 98 = .ok (.iconst 1, 1) := by decide +kernel
theorem dX5_parseClause_99 : decode cX5_parseClause 99 = .ok (.isub, 1) := by decide +kernel
theorem dX5_parseClause_100 : decode cX5_parseClause 100 = .ok (.istore_n 3, 1) := by decide +kernel
theorem dX5_parseClause_101 : decode cX5_parseClause 101 = .ok (.iload_n 2, 1) := by decide +kernel
theorem dX5_parseClause_102 : decode cX5_parseClause 102 = .ok (.iconst 3, 1) := by decide +kernel
theorem dX5_parseClause_103 : decode cX5_parseClause 103 = .ok (.if_icmp .ne 45, 3) := by decide +kernel
theorem dX5_parseClause_106 : decode cX5_parseClause 106 = .ok (.aload_n 0, 1) := by decide +kernel
theorem dX5_parseClause_107 : decode cX5_parseClause 107 = .ok (.iload_n 1, 1) := by decide +kernel
theorem dX5_parseClause_108 : decode cX5_parseClause 108 = .ok (.iconst 0, 1) := by decide +kernel
theorem dX5_parseClause_109 : decode cX5_parseClause 109 = .ok (.iconst 0, 1) := by decide +kernel
theorem dX5_parseClause_110 : decode cX5_parseClause 110 = .ok (.iload_n 3, 1) := by decide +kernel
theorem dX5_parseClause_111 : decode cX5_parseClause 111 = .ok (.invokevirtual 76, 3) := by decide +kernel
theorem dX5_parseClause_114 : decode cX5_parseClause 114 = .ok (.ifCond .eq 32, 3) := by decide +kernel
theorem dX5_parseClause_117 : decode cX5_parseClause 117 = .ok (.aload_n 0, 1) := by decide +kernel
theorem dX5_parseClause_118 : decode cX5_parseClause 118 = .ok (.iload_n 1, 1) := by decide +kernel
theorem dX5_parseClause_119 : decode cX5_parseClause 119 = .ok (.iconst 1, 1) := by decide +kernel
theorem dX5_parseClause_120 : decode cX5_parseClause 120 = .ok (.iconst 1, 1) := by decide +kernel
theorem dX5_parseClause_121 : decode cX5_parseClause 121 = .ok (.sipush 999, 3) := by decide +kernel
theorem dX5_parseClause_124 : decode cX5_parseClause 124 = .ok (.invokevirtual 76, 3) := by decide +kernel
theorem dX5_parseClause_127 : decode cX5_parseClause 127 = .ok (.ifCond .eq 19, 3) := by decide +kernel
theorem dX5_parseClause_130 : decode cX5_parseClause 130 = .ok (.aload_n 0, 1) := by decide +kernel
theorem dX5_parseClause_131 : decode cX5_parseClause 131 = .ok (.iload_n 1, 1) := by decide +kernel
theorem dX5_parseClause_132 : decode cX5_parseClause 132 = .ok (.iconst 2, 1) := by decide +kernel
theorem dX5_parseClause_133 : decode cX5_parseClause 133 = .ok (.iconst 1, 1) := by decide +kernel
theorem dX5_parseClause_134 : decode cX5_parseClause 134 = .ok (.bipush 96, 2) := by decide +kernel
theorem dX5_parseClause_136 : decode cX5_parseClause 136 = .ok (.invokevirtual 76, 3) := by decide +kernel
theorem dX5_parseClause_139 : decode cX5_parseClause 139 = .ok (.ifCond .eq 7, 3) := by decide +kernel
theorem dX5_parseClause_142 : decode cX5_parseClause 142 = .ok (.iconst 1, 1) := by decide +kernel
theorem dX5_parseClause_143 : decode cX5_parseClause 143 = .ok (.goto 4, 3) := by decide +kernel
theorem dX5_parseClause_146 : decode cX5_parseClause 146 = .ok (.iconst 0, 1) := by decide +kernel
theorem dX5_parseClause_147 : decode cX5_parseClause 147 = .ok (.ireturn, 1) := by decide +kernel
theorem dX5_parseClause_148 : decode cX5_parseClause 148 = .ok (.aload_n 0, 1) := by decide +kernel
theorem dX5_parseClause_149 : decode cX5_parseClause 149 = .ok (.iload_n 1, 1) := by decide +kernel
theorem dX5_parseClause_150 : decode cX5_parseClause 150 = .ok (.iconst 0, 1) := by decide +kernel
theorem dX5_parseClause_151 : decode cX5_parseClause 151 = .ok (.iconst 0, 1) := by decide +kernel
theorem dX5_parseClause_152 : decode cX5_parseClause 152 = .ok (.iload_n 3, 1) := by decide +kernel
theorem dX5_parseClause_153 : decode cX5_parseClause 153 = .ok (.invokevirtual 76, 3) := by decide +kernel
theorem dX5_parseClause_156 : decode cX5_parseClause 156 = .ok (.ireturn, 1) := by decide +kernel
set_option maxRecDepth 20000 in
theorem ggX5_clauseKind_X5_tokenIs : GoodIn wsX5_clauseKind wsX5_tokenIs := goodIn_r _ [5, 6, 7, 8, 9, 10, 11, 12, 13, 14, 15, 16, 17, 18, 19, 20, 21, 22, 23, 4, 24, 25, 26, 27, 28, 29, 30, 31, 32, 33, 34, 35, 36, 37, 38, 39, 40, 41, 42, 43, 44, 45, 46, 47, 48, 49, 50, 51, 52, 53, 54, 55, 56, 57, 58, 59, 60, 61, 62, 63, 64, 65, 66, 67, 68, 69, 70, 71, 72] (by decide +kernel) (by decide +kernel)
set_option maxRecDepth 20000 in
theorem gX5_clauseKind_X5_tokenIs : GoodIn wsX5_clauseKind (wsV RX5 82 RX5 yX5_tokenIs wsX5_tokenIs) := goodIn_app (goodIn_of _ (by decide +kernel)) ggX5_clauseKind_X5_tokenIs
theorem dX5_clauseKind_0 : decode cX5_clauseKind 0 = .ok (.aload_n 0, 1) := by decide +kernel
theorem dX5_clauseKind_1 : decode cX5_clauseKind 1 = .ok (.ldc 80, 2) := by decide +kernel
theorem dX5_clauseKind_3 : decode cX5_clauseKind 3 = .ok (.invokevirtual 82, 3) := by decide +kernel
theorem dX5_clauseKind_6 : decode cX5_clauseKind 6 = .ok (.ifCond .eq 5, 3) := by decide +kernel
theorem dX5_clauseKind_9 : decode cX5_clauseKind 9 = .ok (.iconst 0, 1) := by decide +kernel
theorem dX5_clauseKind_10 : decode cX5_clauseKind 10 = .ok (.ireturn, 1) := by decide +kernel
theorem dX5_clauseKind_11 : decode cX5_clauseKind 11 = .ok (.aload_n 0, 1) := by decide +kernel
theorem dX5_clauseKind_12 : decode cX5_clauseKind 12 = .ok (.ldc 86, 2) := by decide +kernel
theorem dX5_clauseKind_14 : decode cX5_clauseKind 14 = .ok (.invokevirtual 82, 3) := by decide +kernel
theorem dX5_clauseKind_17 : decode cX5_clauseKind 17 = .ok (.ifCond .eq 5, 3) := by decide +kernel
theorem dX5_clauseKind_20 : decode cX5_clauseKind 20 = .ok (.iconst 1, 1) := by decide +kernel
theorem dX5_clauseKind_21 : decode cX5_clauseKind 21 = .ok (.ireturn, 1) := by decide +kernel
theorem dX5_clauseKind_22 : decode cX5_clauseKind 22 = .ok (.aload_n 0, 1) := by decide +kernel
theorem dX5_clauseKind_23 : decode cX5_clauseKind 23 = .ok (.ldc 88, 2) := by decide +kernel
theorem dX5_clauseKind_25 : decode cX5_clauseKind 25 = .ok (.invokevirtual 82, 3) := by decide +kernel
theorem dX5_clauseKind_28 : decode cX5_clauseKind 28 = .ok (.ifCond .eq 5, 3) := by decide +kernel
theorem dX5_clauseKind_31 : decode cX5_clauseKind 31 = .ok (.iconst 2, 1) := by decide +kernel
theorem dX5_clauseKind_32 : decode cX5_clauseKind 32 = .ok (.ireturn, 1) := by decide +kernel
theorem dX5_clauseKind_33 : decode cX5_clauseKind 33 = .ok (.aload_n 0, 1) := by decide +kernel
theorem dX5_clauseKind_34 : decode cX5_clauseKind 34 = .ok (.ldc 90, 2) := by decide +kernel
theorem dX5_clauseKind_36 : decode cX5_clauseKind 36 = .ok (.invokevirtual 82, 3) := by decide +kernel
theorem dX5_clauseKind_39 : decode cX5_clauseKind 39 = .ok (.ifCond .eq 7, 3) := by decide +kernel
theorem dX5_clauseKind_42 : decode cX5_clauseKind 42 = .ok (.iconst 3, 1) := by decide +kernel
theorem dX5_clauseKind_43 : decode cX5_clauseKind 43 = .ok (.goto 4, 3) := by decide +kernel
theorem dX5_clauseKind_46 : decode cX5_clauseKind 46 = .ok (.iconst (-1), 1) := by decide +kernel
theorem dX5_clauseKind_47 : decode cX5_clauseKind 47 = .ok (.ireturn, 1) := by decide +kernel
set_option maxRecDepth 20000 in
theorem ggX5_parseNumber_X5_nextToken : GoodIn wsX5_parseNumber wsX5_nextToken := goodIn_r _ [9, 2, 3, 1, 10, 11, 12, 8, 13, 14, 15, 16, 17, 18, 19, 20, 21, 22, 23, 24, 25, 26, 27, 28, 29, 30, 31] (by decide +kernel) (by decide +kernel)
set_option maxRecDepth 20000 in
theorem gX5_parseNumber_X5_nextToken : GoodIn wsX5_parseNumber (wsV RX5 41 RX5 yX5_nextToken wsX5_nextToken) := goodIn_app (goodIn_of _ (by decide +kernel)) ggX5_parseNumber_X5_nextToken
set_option maxRecDepth 20000 in
theorem ggX5_parseNumber_X5_letterAt : GoodIn wsX5_parseNumber wsX5_letterAt := goodIn_r _ [18, 14, 19, 23, 24, 25, 26, 27, 28, 29, 30, 31] (by decide +kernel) (by decide +kernel)
set_option maxRecDepth 20000 in
theorem gX5_parseNumber_X5_letterAt : GoodIn wsX5_parseNumber (wsV RX5 47 RX5 yX5_letterAt wsX5_letterAt) := goodIn_app (goodIn_of _ (by decide +kernel)) ggX5_parseNumber_X5_letterAt
theorem dX5_parseNumber_0 : decode cX5_parseNumber 0 = .ok (.aload_n 0, 1) := by decide +kernel
theorem dX5_parseNumber_1 : decode cX5_parseNumber 1 = .ok (.invokevirtual 41, 3) := by decide +kernel
theorem dX5_parseNumber_4 : decode cX5_parseNumber 4 = .ok (.aload_n 0, 1) := by decide +kernel
theorem dX5_parseNumber_5 : decode cX5_parseNumber 5 = .ok (.getfield 44, 3) := by decide +kernel
theorem dX5_parseNumber_8 : decode cX5_parseNumber 8 = .ok (.iconst 3, 1) := by decide +kernel
theorem dX5_parseNumber_9 : decode cX5_parseNumber 9 = .ok (.if_icmp .ne 16, 3) := by decide +kernel
theorem dX5_parseNumber_12 : decode cX5_parseNumber 12 = .ok (.aload_n 0, 1) := by decide +kernel
theorem dX5_parseNumber_13 : decode cX5_parseNumber 13 = .ok (.getfield 28, 3) := by decide +kernel
theorem dX5_parseNumber_16 : decode cX5_parseNumber 16 = .ok (.aload_n 0, 1) := by decide +kernel
theorem dX5_parseNumber_17 : decode cX5_parseNumber 17 = .ok (.getfield 38, 3) := by decide +kernel
theorem dX5_parseNumber_20 : decode cX5_parseNumber 20 = .ok (.isub, 1) := by decide +kernel
theorem dX5_parseNumber_21 : decode cX5_parseNumber 21 = .ok (.iconst 5, 1) := by decide +kernel
theorem dX5_parseNumber_22 : decode cX5_parseNumber 22 = .ok (.if_icmp .le 5, 3) := by decide +kernel
theorem dX5_parseNumber_25 : decode cX5_parseNumber 25 = .ok (.iconst 0, 1) := by decide +kernel
theorem dX5_parseNumber_26 : decode cX5_parseNumber 26 = .ok (.ireturn, 1) := by decide +kernel
theorem dX5_parseNumber_27 : decode cX5_parseNumber 27 = .ok (.iconst 0, 1) := by decide +kernel
theorem dX5_parseNumber_28 : decode cX5_parseNumber 28 = .ok (.istore 5, 2) := by decide +kernel
theorem dX5_parseNumber_30 : decode cX5_parseNumber 30 = .ok (.aload_n 0, 1) := by decide +kernel
theorem dX5_parseNumber_31 : decode cX5_parseNumber 31 = .ok (.getfield 38, 3) := by decide +kernel
theorem dX5_parseNumber_34 : decode cX5_parseNumber 34 = .ok (.istore 6, 2) := by decide +kernel
theorem dX5_parseNumber_36 : decode cX5_parseNumber 36 = .ok (.iload 6, 2) := by decide +kernel
theorem dX5_parseNumber_38 : decode cX5_parseNumber 38 = .ok (.aload_n 0, 1) := by decide +kernel
theorem dX5_parseNumber_39 : decode cX5_parseNumber 39 = .ok (.getfield 28, 3) := by decide +kernel
theorem dX5_parseNumber_42 : decode cX5_parseNumber 42 = .ok (.if_icmp .ge 26, 3) := by decide +kernel
theorem dX5_parseNumber_45 : decode cX5_parseNumber 45 = .ok (.bipush 10, 2) := by decide +kernel
theorem dX5_parseNumber_47 : decode cX5_parseNumber 47 = .ok (.iload 5, 2) := by decide +kernel
theorem dX5_parseNumber_49 : decode cX5_parseNumber 49 = .ok (.imul, 1) := by decide +kernel
theorem dX5_parseNumber_50 : decode cX5_parseNumber 50 = .ok (.aload_n 0, 1) := by decide +kernel
theorem dX5_parseNumber_51 : decode cX5_parseNumber 51 = .ok (.iload 6, 2) := by decide +kernel
theorem dX5_parseNumber_53 : decode cX5_parseNumber 53 = .ok (.invokevirtual 47, 3) := by decide +kernel
theorem dX5_parseNumber_56 : decode cX5_parseNumber 56 = .ok (.bipush 48, 2) := by decide +kernel
theorem dX5_parseNumber_58 : decode cX5_parseNumber 58 = .ok (.isub, 1) := by decide +kernel
theorem dX5_parseNumber_59 : decode cX5_parseNumber 59 = .ok (.iadd, 1) := by decide +kernel
theorem dX5_parseNumber_60 : decode cX5_parseNumber 60 = .ok (.istore 5, 2) := by decide +kernel
theorem dX5_parseNumber_62 : decode cX5_parseNumber 62 = .ok (.iinc 6 1, 3) := by decide +kernel
theorem dX5_parseNumber_65 : decode cX5_parseNumber 65 = .ok (.goto (-29), 3) := by decide +kernel
theorem dX5_parseNumber_68 : decode cX5_parseNumber 68 = .ok (.iload_n 1, 1) := by decide +kernel
theorem dX5_parseNumber_69 : decode cX5_parseNumber 69 = .ok (.iconst 3, 1) := by decide +kernel
theorem dX5_parseNumber_70 : decode cX5_parseNumber 70 = .ok (.imul, 1) := by decide +kernel
theorem dX5_parseNumber_71 : decode cX5_parseNumber 71 = .ok (.iload_n 2, 1) := by decide +kernel
theorem dX5_parseNumber_72 : decode cX5_parseNumber 72 = .ok (.iadd, 1) := by decide +kernel
theorem dX5_parseNumber_73 : decode cX5_parseNumber 73 = .ok (.istore 6, 2) := by decide +kernel
theorem dX5_parseNumber_75 : decode cX5_parseNumber 75 = .ok (.iload 5, 2) := by decide +kernel
theorem dX5_parseNumber_77 : decode cX5_parseNumber 77 = .ok (.iload_n 3, 1) := by decide +kernel
theorem dX5_parseNumber_78 : decode cX5_parseNumber 78 = .ok (.if_icmp .lt 25, 3) := by decide +kernel
theorem dX5_parseNumber_81 : decode cX5_parseNumber 81 = .ok (.iload 5, 2) := by decide +kernel
theorem dX5_parseNumber_83 : decode cX5_parseNumber 83 = .ok (.iload 4, 2) := by decide +kernel
theorem dX5_parseNumber_85 : decode cX5_parseNumber 85 = .ok (.if_icmp .gt 18, 3) := by decide +kernel
theorem dX5_parseNumber_88 : decode cX5_parseNumber 88 = .ok (.iload 6, 2) := by decide +kernel
theorem dX5_parseNumber_90 : decode cX5_parseNumber 90 = .ok (.ifCond .lt 13, 3) := by decide +kernel
theorem dX5_parseNumber_93 : decode cX5_parseNumber 93 = .ok (.iload 6, 2) := by decide +kernel
theorem dX5_parseNumber_95 : decode cX5_parseNumber 95 = .ok (.aload_n 0, 1) := by decide +kernel
theorem dX5_parseNumber_96 : decode cX5_parseNumber 96 = .ok (.getfield 18, 3) := by decide +kernel
theorem dX5_parseNumber_99 : decode cX5_parseNumber 99 = .ok (.arraylength, 1) := by decide +kernel
theorem dX5_parseNumber_100 : decode cX5_parseNumber 100 = .ok (.if_icmp .lt 5, 3) := by decide +kernel
theorem dX5_parseNumber_103 : decode cX5_parseNumber 103 = .ok (.iconst 0, 1) := by decide +kernel
theorem dX5_parseNumber_104 : decode cX5_parseNumber 104 = .ok (.ireturn, 1) := by decide +kernel
theorem dX5_parseNumber_105 : decode cX5_parseNumber 105 = .ok (.aload_n 0, 1) := by decide +kernel
theorem dX5_parseNumber_106 : decode cX5_parseNumber 106 = .ok (.getfield 18, 3) := by decide +kernel
theorem dX5_parseNumber_109 : decode cX5_parseNumber 109 = .ok (.iload 6, 2) := by decide +kernel
theorem dX5_parseNumber_111 : decode cX5_parseNumber 111 = .ok (.iload 5, 2) := by decide +kernel
theorem dX5_parseNumber_113 : decode cX5_parseNumber 113 = .ok (.iastore, 1) := by decide +kernel
theorem dX5_parseNumber_114 : decode cX5_parseNumber 114 = .ok (.iconst 1, 1) := by decide +kernel
theorem dX5_parseNumber_115 : decode cX5_parseNumber 115 = .ok (.ireturn, 1) := by decide +kernel
theorem dX5_numberOf_0 : decode cX5_numberOf 0 = .ok (.iload_n 1, 1) := by decide +kernel
theorem dX5_numberOf_1 : decode cX5_numberOf 1 = .ok (.iconst 3, 1) := by decide +kernel
theorem dX5_numberOf_2 : decode cX5_numberOf 2 = .ok (.imul, 1) := by decide +kernel
theorem dX5_numberOf_3 : decode cX5_numberOf 3 = .ok (.iload_n 2, 1) := by decide +kernel
theorem dX5_numberOf_4 : decode cX5_numberOf 4 = .ok (.iadd, 1) := by decide +kernel
theorem dX5_numberOf_5 : decode cX5_numberOf 5 = .ok (.istore_n 3, 1) := by decide +kernel
theorem dX5_numberOf_6 : decode cX5_numberOf 6 = .ok (.iload_n 3, 1) := by decide +kernel
theorem dX5_numberOf_7 : decode cX5_numberOf 7 = .ok (.ifCond .lt 21, 3) := by decide +kernel
theorem dX5_numberOf_10 : decode cX5_numberOf 10 = .ok (.iload_n 3, 1) := by decide +kernel
theorem dX5_numberOf_11 : decode cX5_numberOf 11 = .ok (.aload_n 0, 1) := by decide +kernel
theorem dX5_numberOf_12 : decode cX5_numberOf 12 = .ok (.getfield 18, 3) := by decide +kernel
theorem dX5_numberOf_15 : decode cX5_numberOf 15 = .ok (.arraylength, 1) := by decide +kernel
theorem dX5_numberOf_16 : decode cX5_numberOf 16 = .ok (.if_icmp .ge 12, 3) := by decide +kernel
theorem dX5_numberOf_19 : decode cX5_numberOf 19 = .ok (.aload_n 0, 1) := by decide +kernel
theorem dX5_numberOf_20 : decode cX5_numberOf 20 = .ok (.getfield 18, 3) := by decide +kernel
theorem dX5_numberOf_23 : decode cX5_numberOf 23 = .ok (.iload_n 3, 1) := by decide +kernel
theorem dX5_numberOf_24 : decode cX5_numberOf 24 = .ok (.iaload, 1) := by decide +kernel
theorem dX5_numberOf_25 : decode cX5_numberOf 25 = .ok (.goto 4, 3) := by decide +kernel
theorem dX5_numberOf_28 : decode cX5_numberOf 28 = .ok (.iconst 0, 1) := by decide +kernel
theorem dX5_numberOf_29 : decode cX5_numberOf 29 = .ok (.ireturn, 1) := by decide +kernel
set_option maxRecDepth 20000 in
theorem ggX5_nextToken_X5_endOfRun : GoodIn wsX5_nextToken wsX5_endOfRun := goodIn_r _ [8, 9, 10, 11, 12, 7, 13, 14, 15, 16, 17, 18, 19, 20, 21, 22, 23, 24, 25, 26] (by decide +kernel) (by decide +kernel)
set_option maxRecDepth 20000 in
theorem gX5_nextToken_X5_endOfRun : GoodIn wsX5_nextToken (wsV RX5 92 RX5 yX5_endOfRun wsX5_endOfRun) := goodIn_app (goodIn_of _ (by decide +kernel)) ggX5_nextToken_X5_endOfRun
set_option maxRecDepth 20000 in
theorem ggX5_nextToken_X5_letterAt : GoodIn wsX5_nextToken wsX5_letterAt := goodIn_r _ [13, 9, 14, 18, 19, 20, 21, 22, 23, 24, 25, 26] (by decide +kernel) (by decide +kernel)
set_option maxRecDepth 20000 in
theorem gX5_nextToken_X5_letterAt : GoodIn wsX5_nextToken (wsV RX5 47 RX5 yX5_letterAt wsX5_letterAt) := goodIn_app (goodIn_of _ (by decide +kernel)) ggX5_nextToken_X5_letterAt
set_option maxRecDepth 20000 in
theorem ggX5_nextToken_X5_kindOf : GoodIn wsX5_nextToken wsX5_kindOf := goodIn_r _ [17] (by decide +kernel) (by decide +kernel)
set_option maxRecDepth 20000 in
theorem gX5_nextToken_X5_kindOf : GoodIn wsX5_nextToken (va_wsS RX5 95 yX5_kindOf wsX5_kindOf) := goodIn_app (goodIn_of _ (by decide +kernel)) ggX5_nextToken_X5_kindOf
theorem dX5_nextToken_0 : decode cX5_nextToken 0 = .ok (.aload_n 0, 1) := by decide +kernel
theorem dX5_nextToken_1 : decode cX5_nextToken 1 = .ok (.aload_n 0, 1) := by decide +kernel
theorem dX5_nextToken_2 : decode cX5_nextToken 2 = .ok (.aload_n 0, 1) := by decide +kernel
theorem dX5_nextToken_3 : decode cX5_nextToken 3 = .ok (.getfield 28, 3) := by decide +kernel
theorem dX5_nextToken_6 : decode cX5_nextToken 6 = .ok (.iconst 1, 1) := by decide +kernel
theorem dX5_nextToken_7 : decode cX5_nextToken 7 = .ok (.invokevirtual 92, 3) := by decide +kernel
theorem dX5_nextToken_10 : decode cX5_nextToken 10 = .ok (.putfield 38, 3) := by decide +kernel
theorem dX5_nextToken_13 : decode cX5_nextToken 13 = .ok (.aload_n 0, 1) := by decide +kernel
theorem dX5_nextToken_14 : decode cX5_nextToken 14 = .ok (.aload_n 0, 1) := by decide +kernel
theorem dX5_nextToken_15 : decode cX5_nextToken 15 = .ok (.aload_n 0, 1) := by decide +kernel
theorem dX5_nextToken_16 : decode cX5_nextToken 16 = .ok (.getfield 38, 3) := by decide +kernel
theorem dX5_nextToken_19 : decode cX5_nextToken 19 = .ok (.invokevirtual 47, 3) := by decide +kernel
theorem dX5_nextToken_22 : decode cX5_nextToken 22 = .ok (.invokestatic 95, 3) := by decide +kernel
theorem dX5_nextToken_25 : decode cX5_nextToken 25 = .ok (.putfield 44, 3) := by decide +kernel
theorem dX5_nextToken_28 : decode cX5_nextToken 28 = .ok (.aload_n 0, 1) := by decide +kernel
theorem dX5_nextToken_29 : decode cX5_nextToken 29 = .ok (.getfield 44, 3) := by decide +kernel
theorem dX5_nextToken_32 : decode cX5_nextToken 32 = .ok (.iconst 2, 1) := by decide +kernel
theorem dX5_nextToken_33 : decode cX5_nextToken 33 = .ok (.if_icmp .eq 11, 3) := by decide +kernel
theorem dX5_nextToken_36 : decode cX5_nextToken 36 = .ok (.aload_n 0, 1) := by decide +kernel
theorem dX5_nextToken_37 : decode cX5_nextToken 37 = .ok (.getfield 44, 3) := by decide +kernel
theorem dX5_nextToken_40 : decode cX5_nextToken 40 = .ok (.iconst 3, 1) := by decide +kernel
theorem dX5_nextToken_41 : decode cX5_nextToken 41 = .ok (.if_icmp .ne 22, 3) := by decide +kernel
theorem dX5_nextToken_44 : decode cX5_nextToken 44 = .ok (.aload_n 0, 1) := by decide +kernel
theorem dX5_nextToken_45 : decode cX5_nextToken 45 = .ok (.aload_n 0, 1) := by decide +kernel
theorem dX5_nextToken_46 : decode cX5_nextToken 46 = .ok (.aload_n 0, 1) := by decide +kernel
theorem dX5_nextToken_47 : decode cX5_nextToken 47 = .ok (.getfield 38, 3) := by decide +kernel
theorem dX5_nextToken_50 : decode cX5_nextToken 50 = .ok (.aload_n 0, 1) := by decide +kernel
theorem dX5_nextToken_51 : decode cX5_nextToken 51 = .ok (.getfield 44, 3) := by decide +kernel
theorem dX5_nextToken_54 : decode cX5_nextToken 54 = .ok (.invokevirtual 92, 3) := by decide +kernel
theorem dX5_nextToken_57 : decode cX5_nextToken 57 = .ok (.putfield 28, 3) := by decide +kernel
theorem dX5_nextToken_60 : decode cX5_nextToken 60 = .ok (.goto 27, 3) := by decide +kernel
theorem dX5_nextToken_63 : decode cX5_nextToken 63 = .ok (.aload_n 0, 1) := by decide +kernel
theorem dX5_nextToken_64 : decode cX5_nextToken 64 = .ok (.aload_n 0, 1) := by decide +kernel
theorem dX5_nextToken_65 : decode cX5_nextToken 65 = .ok (.getfield 44, 3) := by decide +kernel
theorem dX5_nextToken_68 : decode cX5_nextToken 68 = .ok (.ifCond .ne 10, 3) := by decide +kernel
theorem dX5_nextToken_71 : decode cX5_nextToken 71 = .ok (.aload_n 0, 1) := by decide +kernel
theorem dX5_nextToken_72 : decode cX5_nextToken 72 = .ok (.getfield 38, 3) := by decide +kernel
theorem dX5_nextToken_75 : decode cX5_nextToken 75 = .ok (.goto 9, 3) := by decide +kernel
theorem dX5_nextToken_78 : decode cX5_nextToken 78 = .ok (.aload_n 0, 1) := by decide +kernel
theorem dX5_nextToken_79 : decode cX5_nextToken 79 = .ok (.getfield 38, 3) := by decide +kernel
theorem dX5_nextToken_82 : decode cX5_nextToken 82 = .ok (.iconst 1, 1) := by decide +kernel
theorem dX5_nextToken_83 : decode cX5_nextToken 83 = .ok (.iadd, 1) := by decide +kernel
theorem dX5_nextToken_84 : decode cX5_nextToken 84 = .ok (.putfield 28, 3) := by decide +kernel
theorem dX5_nextToken_87 : decode cX5_nextToken 87 = .ok (.return_, 1) := by decide +kernel
set_option maxRecDepth 20000 in
theorem ggX5_endOfRun_X5_letterAt : GoodIn wsX5_endOfRun wsX5_letterAt := goodIn_r _ [6, 1, 7, 11, 12, 13, 14, 15, 16, 17, 18, 19] (by decide +kernel) (by decide +kernel)
set_option maxRecDepth 20000 in
theorem gX5_endOfRun_X5_letterAt : GoodIn wsX5_endOfRun (wsV RX5 47 RX5 yX5_letterAt wsX5_letterAt) := goodIn_app (goodIn_of _ (by decide +kernel)) ggX5_endOfRun_X5_letterAt
set_option maxRecDepth 20000 in
theorem ggX5_endOfRun_X5_kindOf : GoodIn wsX5_endOfRun wsX5_kindOf := goodIn_r _ [10] (by decide +kernel) (by decide +kernel)
set_option maxRecDepth 20000 in
theorem gX5_endOfRun_X5_kindOf : GoodIn wsX5_endOfRun (va_wsS RX5 95 yX5_kindOf wsX5_kindOf) := goodIn_app (goodIn_of _ (by decide +kernel)) ggX5_endOfRun_X5_kindOf
theorem dX5_endOfRun_0 : decode cX5_endOfRun 0 = .ok (.iload_n 1, 1) := by decide +kernel
theorem dX5_endOfRun_1 : decode cX5_endOfRun 1 = .ok (.istore_n 3, 1) := by decide +kernel
theorem dX5_endOfRun_2 : decode cX5_endOfRun 2 = .ok (.iload_n 3, 1) := by decide +kernel
theorem dX5_endOfRun_3 : decode cX5_endOfRun 3 = .ok (.aload_n 0, 1) := by decide +kernel
theorem dX5_endOfRun_4 : decode cX5_endOfRun 4 = .ok (.getfield 21, 3) := by decide +kernel
theorem dX5_endOfRun_7 : decode cX5_endOfRun 7 = .ok (.if_icmp .ge 21, 3) := by decide +kernel
theorem dX5_endOfRun_10 : decode cX5_endOfRun 10 = .ok (.aload_n 0, 1) := by decide +kernel
theorem dX5_endOfRun_11 : decode cX5_endOfRun 11 = .ok (.iload_n 3, 1) := by decide +kernel
theorem dX5_endOfRun_12 : decode cX5_endOfRun 12 = .ok (.invokevirtual 47, 3) := by decide +kernel
theorem dX5_endOfRun_15 : decode cX5_endOfRun 15 = .ok (.invokestatic 95, 3) := by decide +kernel
theorem dX5_endOfRun_18 : decode cX5_endOfRun 18 = .ok (.iload_n 2, 1) := by decide +kernel
theorem dX5_endOfRun_19 : decode cX5_endOfRun 19 = .ok (.if_icmp .ne 9, 3) := by decide +kernel
theorem dX5_endOfRun_22 : decode cX5_endOfRun 22 = .ok (.iinc 3 1, 3) := by decide +kernel
theorem dX5_endOfRun_25 : decode cX5_endOfRun 25 = .ok (.goto (-23), 3) := by decide +kernel
theorem dX5_endOfRun_28 : decode cX5_endOfRun 28 = .ok (.iload_n 3, 1) := by decide +kernel
theorem dX5_endOfRun_29 : decode cX5_endOfRun 29 = .ok (.ireturn, 1) := by decide +kernel
set_option maxRecDepth 20000 in
theorem ggX5_tokenIs_J0_length_8abf5 : GoodIn wsX5_tokenIs wsJ0_length_8abf5 := goodIn_r _ [8, 9, 10, 11, 12, 7, 13, 14, 15] (by decide +kernel) (by decide +kernel)
set_option maxRecDepth 20000 in
theorem gX5_tokenIs_J0_length_8abf5 : GoodIn wsX5_tokenIs (wsV RX5 98 RJ0 yJ0_length_8abf5 wsJ0_length_8abf5) := goodIn_app (goodIn_of _ (by decide +kernel)) ggX5_tokenIs_J0_length_8abf5
set_option maxRecDepth 20000 in
theorem ggX5_tokenIs_X5_letterAt : GoodIn wsX5_tokenIs wsX5_letterAt := goodIn_r _ [20, 21, 22, 60, 61, 62, 63, 64, 65, 66, 67, 68] (by decide +kernel) (by decide +kernel)
set_option maxRecDepth 20000 in
theorem gX5_tokenIs_X5_letterAt : GoodIn wsX5_tokenIs (wsV RX5 47 RX5 yX5_letterAt wsX5_letterAt) := goodIn_app (goodIn_of _ (by decide +kernel)) ggX5_tokenIs_X5_letterAt
set_option maxRecDepth 20000 in
theorem ggX5_tokenIs_J0_charAt_5068e : GoodIn wsX5_tokenIs wsJ0_charAt_5068e := goodIn_r _ [26, 9, 27, 28, 29, 7, 30, 14, 15, 31, 32, 33, 34, 35, 36, 37, 38, 39, 40, 41, 42, 43, 44, 45, 46, 47, 48, 49, 50, 51, 52, 53, 54, 55, 56, 57, 58, 59] (by decide +kernel) (by decide +kernel)
set_option maxRecDepth 20000 in
theorem gX5_tokenIs_J0_charAt_5068e : GoodIn wsX5_tokenIs (wsV RX5 102 RJ0 yJ0_charAt_5068e wsJ0_charAt_5068e) := goodIn_app (goodIn_of _ (by decide +kernel)) ggX5_tokenIs_J0_charAt_5068e
theorem dX5_tokenIs_0 : decode cX5_tokenIs 0 = .ok (.aload_n 0, 1) := by decide +kernel
theorem dX5_tokenIs_1 : decode cX5_tokenIs 1 = .ok (.getfield 44, 3) := by decide +kernel
theorem dX5_tokenIs_4 : decode cX5_tokenIs 4 = .ok (.iconst 2, 1) := by decide +kernel
theorem dX5_tokenIs_5 : decode cX5_tokenIs 5 = .ok (.if_icmp .ne 19, 3) := by decide +kernel
theorem dX5_tokenIs_8 : decode cX5_tokenIs 8 = .ok (.aload_n 0, 1) := by decide +kernel
theorem dX5_tokenIs_9 : decode cX5_tokenIs 9 = .ok (.getfield 28, 3) := by decide +kernel
theorem dX5_tokenIs_12 : decode cX5_tokenIs 12 = .ok (.aload_n 0, 1) := by decide +kernel
theorem dX5_tokenIs_13 : decode cX5_tokenIs 13 = .ok (.getfield 38, 3) := by decide +kernel
theorem dX5_tokenIs_16 : decode cX5_tokenIs 16 = .ok (.isub, 1) := by decide +kernel
theorem dX5_tokenIs_17 : decode cX5_tokenIs 17 = .ok (.aload_n 1, 1) := by decide +kernel
theorem dX5_tokenIs_18 : decode cX5_tokenIs 18 = .ok (.invokevirtual 98, 3) := by decide +kernel
theorem dX5_tokenIs_21 : decode cX5_tokenIs 21 = .ok (.if_icmp .eq 5, 3) := by decide +kernel
theorem dX5_tokenIs_24 : decode cX5_tokenIs 24 = .ok (.iconst 0, 1) := by decide +kernel
theorem dX5_tokenIs_25 : decode cX5_tokenIs 25 = .ok (.ireturn, 1) := by decide +kernel
theorem dX5_tokenIs_26 : decode cX5_tokenIs 26 = .ok (.iconst 0, 1) := by decide +kernel
theorem dX5_tokenIs_27 : decode cX5_tokenIs 27 = .ok (.istore_n 2, 1) := by decide +kernel
theorem dX5_tokenIs_28 : decode cX5_tokenIs 28 = .ok (.iload_n 2, 1) := by decide +kernel
theorem dX5_tokenIs_29 : decode cX5_tokenIs 29 = .ok (.aload_n 1, 1) := by decide +kernel
theorem dX5_tokenIs_30 : decode cX5_tokenIs 30 = .ok (.invokevirtual 98, 3) := by decide +kernel
theorem dX5_tokenIs_33 : decode cX5_tokenIs 33 = .ok (.if_icmp .ge 29, 3) := by decide +kernel
theorem dX5_tokenIs_36 : decode cX5_tokenIs 36 = .ok (.aload_n 0, 1) := by decide +kernel
theorem dX5_tokenIs_37 : decode cX5_tokenIs 37 = .ok (.aload_n 0, 1) := by decide +kernel
theorem dX5_tokenIs_38 : decode cX5_tokenIs 38 = .ok (.getfield 38, 3) := by decide +kernel
theorem dX5_tokenIs_41 : decode cX5_tokenIs 41 = .ok (.iload_n 2, 1) := by decide +kernel
theorem dX5_tokenIs_42 : decode cX5_tokenIs 42 = .ok (.iadd, 1) := by decide +kernel
theorem dX5_tokenIs_43 : decode cX5_tokenIs 43 = .ok (.invokevirtual 47, 3) := by decide +kernel
theorem dX5_tokenIs_46 : decode cX5_tokenIs 46 = .ok (.aload_n 1, 1) := by decide +kernel
theorem dX5_tokenIs_47 : decode cX5_tokenIs 47 = .ok (.iload_n 2, 1) := by decide +kernel
theorem dX5_tokenIs_48 : decode cX5_tokenIs 48 = .ok (.invokevirtual 102, 3) := by decide +kernel
theorem dX5_tokenIs_51 : decode cX5_tokenIs 51 = .ok (.if_icmp .eq 5, 3) := by decide +kernel
theorem dX5_tokenIs_54 : decode cX5_tokenIs 54 = .ok (.iconst 0, 1) := by decide +kernel
theorem dX5_tokenIs_55 : decode cX5_tokenIs 55 = .ok (.ireturn, 1) := by decide +kernel
theorem dX5_tokenIs_56 : decode cX5_tokenIs 56 = .ok (.iinc 2 1, 3) := by decide +kernel
theorem dX5_tokenIs_59 : decode cX5_tokenIs 59 = .ok (.goto (-31), 3) := by decide +kernel
theorem dX5_tokenIs_62 : decode cX5_tokenIs 62 = .ok (.iconst 1, 1) := by decide +kernel
theorem dX5_tokenIs_63 : decode cX5_tokenIs 63 = .ok (.ireturn, 1) := by decide +kernel
theorem dX5_letterAt_0 : decode cX5_letterAt 0 = .ok (.iload_n 1, 1) := by decide +kernel
theorem dX5_letterAt_1 : decode cX5_letterAt 1 = .ok (.ifCond .lt 29, 3) := by decide +kernel
theorem dX5_letterAt_4 : decode cX5_letterAt 4 = .ok (.iload_n 1, 1) := by decide +kernel
theorem dX5_letterAt_5 : decode cX5_letterAt 5 = .ok (.aload_n 0, 1) := by decide +kernel
theorem dX5_letterAt_6 : decode cX5_letterAt 6 = .ok (.getfield 21, 3) := by decide +kernel
theorem dX5_letterAt_9 : decode cX5_letterAt 9 = .ok (.if_icmp .ge 21, 3) := by decide +kernel
theorem dX5_letterAt_12 : decode cX5_letterAt 12 = .ok (.iload_n 1, 1) := by decide +kernel
theorem dX5_letterAt_13 : decode cX5_letterAt 13 = .ok (.aload_n 0, 1) := by decide +kernel
theorem dX5_letterAt_14 : decode cX5_letterAt 14 = .ok (.getfield 9, 3) := by decide +kernel
theorem dX5_letterAt_17 : decode cX5_letterAt 17 = .ok (.arraylength, 1) := by decide +kernel
theorem dX5_letterAt_18 : decode cX5_letterAt 18 = .ok (.if_icmp .ge 12, 3) := by decide +kernel
theorem dX5_letterAt_21 : decode cX5_letterAt 21 = .ok (.aload_n 0, 1) := by decide +kernel
theorem dX5_letterAt_22 : decode cX5_letterAt 22 = .ok (.getfield 9, 3) := by decide +kernel
theorem dX5_letterAt_25 : decode cX5_letterAt 25 = .ok (.iload_n 1, 1) := by decide +kernel
theorem dX5_letterAt_26 : decode cX5_letterAt 26 = .ok (.iaload, 1) := by decide +kernel
theorem dX5_letterAt_27 : decode cX5_letterAt 27 = .ok (.goto 4, 3) := by decide +kernel
theorem dX5_letterAt_30 : decode cX5_letterAt 30 = .ok (.iconst (-1), 1) := by decide +kernel
theorem dX5_letterAt_31 : decode cX5_letterAt 31 = .ok (.ireturn, 1) := by decide +kernel
theorem dX5_kindOf_0 : decode cX5_kindOf 0 = .ok (.iload_n 0, 1) := by decide +kernel
theorem dX5_kindOf_1 : decode cX5_kindOf 1 = .ok (.iconst (-1), 1) := by decide +kernel
theorem dX5_kindOf_2 : decode cX5_kindOf 2 = .ok (.if_icmp .ne 5, 3) := by decide +kernel
theorem dX5_kindOf_5 : decode cX5_kindOf 5 = .ok (.iconst 0, 1) := by decide +kernel
theorem dX5_kindOf_6 : decode cX5_kindOf 6 = .ok (.ireturn, 1) := by decide +kernel
theorem dX5_kindOf_7 : decode cX5_kindOf 7 = .ok (.iload_n 0, 1) := by decide +kernel
theorem dX5_kindOf_8 : decode cX5_kindOf 8 = .ok (.bipush 32, 2) := by decide +kernel
theorem dX5_kindOf_10 : decode cX5_kindOf 10 = .ok (.if_icmp .ne 5, 3) := by decide +kernel
theorem dX5_kindOf_13 : decode cX5_kindOf 13 = .ok (.iconst 1, 1) := by decide +kernel
theorem dX5_kindOf_14 : decode cX5_kindOf 14 = .ok (.ireturn, 1) := by decide +kernel
theorem dX5_kindOf_15 : decode cX5_kindOf 15 = .ok (.iload_n 0, 1) := by decide +kernel
theorem dX5_kindOf_16 : decode cX5_kindOf 16 = .ok (.bipush 97, 2) := by decide +kernel
theorem dX5_kindOf_18 : decode cX5_kindOf 18 = .ok (.if_icmp .lt 11, 3) := by decide +kernel
theorem dX5_kindOf_21 : decode cX5_kindOf 21 = .ok (.iload_n 0, 1) := by decide +kernel
theorem dX5_kindOf_22 : decode cX5_kindOf 22 = .ok (.bipush 122, 2) := by decide +kernel
theorem dX5_kindOf_24 : decode cX5_kindOf 24 = .ok (.if_icmp .gt 5, 3) := by decide +kernel
theorem dX5_kindOf_27 : decode cX5_kindOf 27 = .ok (.iconst 2, 1) := by decide +kernel
theorem dX5_kindOf_28 : decode cX5_kindOf 28 = .ok (.ireturn, 1) := by decide +kernel
theorem dX5_kindOf_29 : decode cX5_kindOf 29 = .ok (.iload_n 0, 1) := by decide +kernel
theorem dX5_kindOf_30 : decode cX5_kindOf 30 = .ok (.bipush 48, 2) := by decide +kernel
theorem dX5_kindOf_32 : decode cX5_kindOf 32 = .ok (.if_icmp .lt 13, 3) := by decide +kernel
theorem dX5_kindOf_35 : decode cX5_kindOf 35 = .ok (.iload_n 0, 1) := by decide +kernel
theorem dX5_kindOf_36 : decode cX5_kindOf 36 = .ok (.bipush 57, 2) := by decide +kernel
theorem dX5_kindOf_38 : decode cX5_kindOf 38 = .ok (.if_icmp .gt 7, 3) := by decide +kernel
theorem dX5_kindOf_41 : decode cX5_kindOf 41 = .ok (.iconst 3, 1) := by decide +kernel
theorem dX5_kindOf_42 : decode cX5_kindOf 42 = .ok (.goto 4, 3) := by decide +kernel
theorem dX5_kindOf_45 : decode cX5_kindOf 45 = .ok (.iconst 4, 1) := by decide +kernel
theorem dX5_kindOf_46 : decode cX5_kindOf 46 = .ok (.ireturn, 1) := by decide +kernel
