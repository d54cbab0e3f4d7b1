theorem dX7_near_47 : decode cX7_near 47 = .ok (.lconst 0, 1) := by decide +kernel
theorem dX7_near_48 : decode cX7_near 48 = .ok (.aload_n 0, 1) := by decide +kernel
theorem dX7_near_49 : decode cX7_near 49 = .ok (.getfield 7, 3) := by decide +kernel
theorem dX7_near_52 : decode cX7_near 52 = .ok (.iconst 2, 1) := by decide +kernel
theorem dX7_near_53 : decode cX7_near 53 = .ok (.iaload, 1) := by decide +kernel
theorem dX7_near_54 : decode cX7_near 54 = .ok (.iconst 1, 1) := by decide +kernel
theorem dX7_near_55 : decode cX7_near 55 = .ok (.isub, 1) := by decide +kernel
theorem dX7_near_56 : decode cX7_near 56 = .ok (.i2l, 1) := by decide +kernel
theorem dX7_near_57 : decode cX7_near 57 = .ok (.invokestatic 75, 3) := by decide +kernel
theorem dX7_near_60 : decode cX7_near 60 = .ok (.ifCond .eq 15, 3) := by decide +kernel
theorem dX7_near_63 : decode cX7_near 63 = .ok (.aload_n 0, 1) := by decide +kernel
theorem dX7_near_64 : decode cX7_near 64 = .ok (.getfield 7, 3) := by decide +kernel
theorem dX7_near_67 : decode cX7_near 67 = .ok (.bipush 6, 2) := by decide +kernel
theorem dX7_near_69 : decode cX7_near 69 = .ok (.iload_n 3, 1) := by decide +kernel
theorem dX7_near_70 : decode cX7_near 70 = .ok (.iadd, 1) := by decide +kernel
theorem dX7_near_71 : decode cX7_near 71 = .ok (.iaload, 1) := by decide +kernel
theorem dX7_near_72 : decode cX7_near 72 = .ok (.goto 4, 3) := by decide +kernel
theorem dX7_near_75 : decode cX7_near 75 = .ok (.iconst (-1), 1) := by decide +kernel
theorem dX7_near_76 : decode cX7_near 76 = .ok (.ireturn, 1) := by decide +kernel
set_option maxRecDepth 20000 in
theorem ggX7_rank_X7_isNumber : GoodIn wsX7_rank wsX7_isNumber := goodIn_r _ [5, 6, 7, 8, 4, 9, 10, 11, 12, 13, 18, 19, 20, 21, 22, 23, 24, 25, 26, 27, 28, 29, 30, 31, 32, 33, 34, 35, 36, 37, 38, 39, 40] (by decide +kernel) (by decide +kernel)
set_option maxRecDepth 20000 in
theorem gX7_rank_X7_isNumber : GoodIn wsX7_rank (wsV RX7 157 RX7 yX7_isNumber wsX7_isNumber) := goodIn_app (goodIn_of _ (by decide +kernel)) ggX7_rank_X7_isNumber
set_option maxRecDepth 20000 in
theorem ggX7_rank_X7_below : GoodIn wsX7_rank wsX7_below := goodIn_r _ [17, 10, 18, 19, 20, 21, 22, 23, 24, 25, 26, 27, 28, 29, 30, 31, 32, 33, 34, 35, 36, 37, 38, 39, 40] (by decide +kernel) (by decide +kernel)
set_option maxRecDepth 20000 in
theorem gX7_rank_X7_below : GoodIn wsX7_rank (wsV RX7 46 RX7 yX7_below wsX7_below) := goodIn_app (goodIn_of _ (by decide +kernel)) ggX7_rank_X7_below
theorem dX7_rank_0 : decode cX7_rank 0 = .ok (.aload_n 0, 1) := by decide +kernel
theorem dX7_rank_1 : decode cX7_rank 1 = .ok (.iload_n 1, 1) := by decide +kernel
theorem dX7_rank_2 : decode cX7_rank 2 = .ok (.invokevirtual 157, 3) := by decide +kernel
theorem dX7_rank_5 : decode cX7_rank 5 = .ok (.ifCond .eq 12, 3) := by decide +kernel
theorem dX7_rank_8 : decode cX7_rank 8 = .ok (.aload_n 0, 1) := by decide +kernel
theorem dX7_rank_9 : decode cX7_rank 9 = .ok (.iconst 0, 1) := by decide +kernel
theorem dX7_rank_10 : decode cX7_rank 10 = .ok (.iload_n 1, 1) := by decide +kernel
theorem dX7_rank_11 : decode cX7_rank 11 = .ok (.invokevirtual 46, 3) := by decide +kernel
theorem dX7_rank_14 : decode cX7_rank 14 = .ok (.goto 5, 3) := by decide +kernel
theorem dX7_rank_17 : decode cX7_rank 17 = .ok (.bipush (-3), 2) := by decide +kernel
theorem dX7_rank_19 : decode cX7_rank 19 = .ok (.ireturn, 1) := by decide +kernel
set_option maxRecDepth 20000 in
theorem ggX7_ranked_X7_in : GoodIn wsX7_ranked wsX7_in := goodIn_r _ [5] (by decide +kernel) (by decide +kernel)
set_option maxRecDepth 20000 in
theorem gX7_ranked_X7_in : GoodIn wsX7_ranked (va_wsS RX7 75 yX7_in wsX7_in) := goodIn_app (goodIn_of _ (by decide +kernel)) ggX7_ranked_X7_in
theorem dX7_ranked_0 : decode cX7_ranked 0 = .ok (.iload_n 1, 1) := by decide +kernel
theorem dX7_ranked_1 : decode cX7_ranked 1 = .ok (.i2l, 1) := by decide +kernel
theorem dX7_ranked_2 : decode cX7_ranked 2 = .ok (.lconst 0, 1) := by decide +kernel
theorem dX7_ranked_3 : decode cX7_ranked 3 = .ok (.aload_n 0, 1) := by decide +kernel
theorem dX7_ranked_4 : decode cX7_ranked 4 = .ok (.getfield 7, 3) := by decide +kernel
theorem dX7_ranked_7 : decode cX7_ranked 7 = .ok (.iconst 2, 1) := by decide +kernel
theorem dX7_ranked_8 : decode cX7_ranked 8 = .ok (.iaload, 1) := by decide +kernel
theorem dX7_ranked_9 : decode cX7_ranked 9 = .ok (.iconst 1, 1) := by decide +kernel
theorem dX7_ranked_10 : decode cX7_ranked 10 = .ok (.isub, 1) := by decide +kernel
theorem dX7_ranked_11 : decode cX7_ranked 11 = .ok (.i2l, 1) := by decide +kernel
theorem dX7_ranked_12 : decode cX7_ranked 12 = .ok (.invokestatic 75, 3) := by decide +kernel
theorem dX7_ranked_15 : decode cX7_ranked 15 = .ok (.ifCond .eq 15, 3) := by decide +kernel
theorem dX7_ranked_18 : decode cX7_ranked 18 = .ok (.aload_n 0, 1) := by decide +kernel
theorem dX7_ranked_19 : decode cX7_ranked 19 = .ok (.getfield 7, 3) := by decide +kernel
theorem dX7_ranked_22 : decode cX7_ranked 22 = .ok (.bipush 6, 2) := by decide +kernel
theorem dX7_ranked_24 : decode cX7_ranked 24 = .ok (.iload_n 1, 1) := by decide +kernel
theorem dX7_ranked_25 : decode cX7_ranked 25 = .ok (.iadd, 1) := by decide +kernel
theorem dX7_ranked_26 : decode cX7_ranked 26 = .ok (.iaload, 1) := by decide +kernel
theorem dX7_ranked_27 : decode cX7_ranked 27 = .ok (.goto 5, 3) := by decide +kernel
theorem dX7_ranked_30 : decode cX7_ranked 30 = .ok (.bipush (-2), 2) := by decide +kernel
theorem dX7_ranked_32 : decode cX7_ranked 32 = .ok (.ireturn, 1) := by decide +kernel
theorem dX7_beginning_0 : decode cX7_beginning 0 = .ok (.iload_n 1, 1) := by decide +kernel
theorem dX7_beginning_1 : decode cX7_beginning 1 = .ok (.aload_n 0, 1) := by decide +kernel
theorem dX7_beginning_2 : decode cX7_beginning 2 = .ok (.getfield 7, 3) := by decide +kernel
theorem dX7_beginning_5 : decode cX7_beginning 5 = .ok (.iconst 0, 1) := by decide +kernel
theorem dX7_beginning_6 : decode cX7_beginning 6 = .ok (.iaload, 1) := by decide +kernel
theorem dX7_beginning_7 : decode cX7_beginning 7 = .ok (.iload_n 2, 1) := by decide +kernel
theorem dX7_beginning_8 : decode cX7_beginning 8 = .ok (.isub, 1) := by decide +kernel
theorem dX7_beginning_9 : decode cX7_beginning 9 = .ok (.ishr, 1) := by decide +kernel
theorem dX7_beginning_10 : decode cX7_beginning 10 = .ok (.ireturn, 1) := by decide +kernel
set_option maxRecDepth 20000 in
theorem ggX7_isBeginning_X7_beginning : GoodIn wsX7_isBeginning wsX7_beginning := goodIn_r _ [6, 1, 7, 8, 9, 10, 11, 12, 13, 14, 15, 16, 17, 18, 19, 20, 21, 22, 23, 24, 25, 26, 27, 28, 29] (by decide +kernel) (by decide +kernel)
set_option maxRecDepth 20000 in
theorem gX7_isBeginning_X7_beginning : GoodIn wsX7_isBeginning (wsV RX7 163 RX7 yX7_beginning wsX7_beginning) := goodIn_app (goodIn_of _ (by decide +kernel)) ggX7_isBeginning_X7_beginning
theorem dX7_isBeginning_0 : decode cX7_isBeginning 0 = .ok (.iconst 0, 1) := by decide +kernel
theorem dX7_isBeginning_1 : decode cX7_isBeginning 1 = .ok (.istore_n 3, 1) := by decide +kernel
theorem dX7_isBeginning_2 : decode cX7_isBeginning 2 = .ok (.iconst 0, 1) := by decide +kernel
theorem dX7_isBeginning_3 : decode cX7_isBeginning 3 = .ok (.istore 4, 2) := by decide +kernel
theorem dX7_isBeginning_5 : decode cX7_isBeginning 5 = .ok (.iload 4, 2) := by decide +kernel
theorem dX7_isBeginning_7 : decode cX7_isBeginning 7 = .ok (.aload_n 0, 1) := by decide +kernel
theorem dX7_isBeginning_8 : decode cX7_isBeginning 8 = .ok (.getfield 7, 3) := by decide +kernel
theorem dX7_isBeginning_11 : decode cX7_isBeginning 11 = .ok (.iconst 3, 1) := by decide +kernel
theorem dX7_isBeginning_12 : decode cX7_isBeginning 12 = .ok (.iaload, 1) := by decide +kernel
theorem dX7_isBeginning_13 : decode cX7_isBeginning 13 = .ok (.if_icmp .ge 38, 3) := by decide +kernel
theorem dX7_isBeginning_16 : decode cX7_isBeginning 16 = .ok (.iload_n 3, 1) := by decide +kernel
theorem dX7_isBeginning_17 : decode cX7_isBeginning 17 = .ok (.ifCond .ne 22, 3) := by decide +kernel
theorem dX7_isBeginning_20 : decode cX7_isBeginning 20 = .ok (.aload_n 0, 1) := by decide +kernel
theorem dX7_isBeginning_21 : decode cX7_isBeginning 21 = .ok (.aload_n 0, 1) := by decide +kernel
theorem dX7_isBeginning_22 : decode cX7_isBeginning 22 = .ok (.getfield 7, 3) := by decide +kernel
theorem dX7_isBeginning_25 : decode cX7_isBeginning 25 = .ok (.bipush 102, 2) := by decide +kernel
theorem dX7_isBeginning_27 : decode cX7_isBeginning 27 = .ok (.iload 4, 2) := by decide +kernel
theorem dX7_isBeginning_29 : decode cX7_isBeginning 29 = .ok (.iadd, 1) := by decide +kernel
theorem dX7_isBeginning_30 : decode cX7_isBeginning 30 = .ok (.iaload, 1) := by decide +kernel
theorem dX7_isBeginning_31 : decode cX7_isBeginning 31 = .ok (.iload_n 1, 1) := by decide +kernel
theorem dX7_isBeginning_32 : decode cX7_isBeginning 32 = .ok (.invokevirtual 163, 3) := by decide +kernel
theorem dX7_isBeginning_35 : decode cX7_isBeginning 35 = .ok (.iload_n 2, 1) := by decide +kernel
theorem dX7_isBeginning_36 : decode cX7_isBeginning 36 = .ok (.if_icmp .ne 7, 3) := by decide +kernel
theorem dX7_isBeginning_39 : decode cX7_isBeginning 39 = .ok (.iconst 1, 1) := by decide +kernel
theorem dX7_isBeginning_40 : decode cX7_isBeginning 40 = .ok (.goto 4, 3) := by decide +kernel
theorem dX7_isBeginning_43 : decode cX7_isBeginning 43 = .ok (.iconst 0, 1) := by decide +kernel
theorem dX7_isBeginning_44 : decode cX7_isBeginning 44 = .ok (.istore_n 3, 1) := by decide +kernel
theorem dX7_isBeginning_45 : decode cX7_isBeginning 45 = .ok (.iinc 4 1, 3) := by decide +kernel
theorem dX7_isBeginning_48 : decode cX7_isBeginning 48 = .ok (.goto (-43), 3) := by decide +kernel
theorem dX7_isBeginning_51 : decode cX7_isBeginning 51 = .ok (.iload_n 3, 1) := by decide +kernel
theorem dX7_isBeginning_52 : decode cX7_isBeginning 52 = .ok (.ireturn, 1) := by decide +kernel
set_option maxRecDepth 20000 in
theorem ggX7_seek_X7_beginning : GoodIn wsX7_seek wsX7_beginning := goodIn_r _ [10, 1, 31, 32, 33, 34, 35, 36, 37, 38, 39, 40, 41, 42, 43, 44, 45, 46, 47, 48, 49, 50, 51, 52, 53] (by decide +kernel) (by decide +kernel)
set_option maxRecDepth 20000 in
theorem gX7_seek_X7_beginning : GoodIn wsX7_seek (wsV RX7 163 RX7 yX7_beginning wsX7_beginning) := goodIn_app (goodIn_of _ (by decide +kernel)) ggX7_seek_X7_beginning
set_option maxRecDepth 20000 in
theorem ggX7_seek_X7_isBeginning : GoodIn wsX7_seek wsX7_isBeginning := goodIn_r _ [14, 1, 6, 7, 8, 9, 10, 31, 32, 33, 34, 35, 36, 37, 38, 39, 40, 41, 42, 43, 44, 45, 46, 47, 48, 49, 50, 51, 52, 53] (by decide +kernel) (by decide +kernel)
set_option maxRecDepth 20000 in
theorem gX7_seek_X7_isBeginning : GoodIn wsX7_seek (wsV RX7 172 RX7 yX7_isBeginning wsX7_isBeginning) := goodIn_app (goodIn_of _ (by decide +kernel)) ggX7_seek_X7_isBeginning
set_option maxRecDepth 20000 in
theorem ggX7_seek_X7_bucketOf : GoodIn wsX7_seek wsX7_bucketOf := goodIn_r _ [18, 1, 31, 32, 33, 34, 35, 36, 37, 38, 39, 40, 41, 42, 43, 44, 45, 46, 47, 48, 49, 50, 51, 52, 53] (by decide +kernel) (by decide +kernel)
set_option maxRecDepth 20000 in
theorem gX7_seek_X7_bucketOf : GoodIn wsX7_seek (wsV RX7 56 RX7 yX7_bucketOf wsX7_bucketOf) := goodIn_app (goodIn_of _ (by decide +kernel)) ggX7_seek_X7_bucketOf
set_option maxRecDepth 20000 in
theorem ggX7_seek_X7_aheadOf : GoodIn wsX7_seek wsX7_aheadOf := goodIn_r _ [22, 1, 23, 24, 25, 9, 26, 31, 32, 33, 34, 35, 36, 37, 38, 39, 40, 41, 42, 43, 44, 45, 46, 47, 48, 49, 50, 51, 52, 53] (by decide +kernel) (by decide +kernel)
set_option maxRecDepth 20000 in
theorem gX7_seek_X7_aheadOf : GoodIn wsX7_seek (wsV RX7 50 RX7 yX7_aheadOf wsX7_aheadOf) := goodIn_app (goodIn_of _ (by decide +kernel)) ggX7_seek_X7_aheadOf
set_option maxRecDepth 20000 in
theorem ggX7_seek_X7_keysIn : GoodIn wsX7_seek wsX7_keysIn := goodIn_r _ [30, 1, 23, 24, 25, 9, 26, 19, 20, 21, 22, 31, 32, 33, 34, 35, 36, 37, 38, 39, 40, 41, 42, 43, 44, 45, 46, 47, 48, 49, 50, 51, 52, 53] (by decide +kernel) (by decide +kernel)
set_option maxRecDepth 20000 in
theorem gX7_seek_X7_keysIn : GoodIn wsX7_seek (wsV RX7 53 RX7 yX7_keysIn wsX7_keysIn) := goodIn_app (goodIn_of _ (by decide +kernel)) ggX7_seek_X7_keysIn
theorem dX7_seek_0 : decode cX7_seek 0 = .ok (.iconst 0, 1) := by decide +kernel
theorem dX7_seek_1 : decode cX7_seek 1 = .ok (.istore_n 2, 1) := by decide +kernel
theorem dX7_seek_2 : decode cX7_seek 2 = .ok (.aload_n 0, 1) := by decide +kernel
theorem dX7_seek_3 : decode cX7_seek 3 = .ok (.getfield 7, 3) := by decide +kernel
theorem dX7_seek_6 : decode cX7_seek 6 = .ok (.iconst 0, 1) := by decide +kernel
theorem dX7_seek_7 : decode cX7_seek 7 = .ok (.iaload, 1) := by decide +kernel
theorem dX7_seek_8 : decode cX7_seek 8 = .ok (.istore_n 3, 1) := by decide +kernel
theorem dX7_seek_9 : decode cX7_seek 9 = .ok (.aload_n 0, 1) := by decide +kernel
theorem dX7_seek_10 : decode cX7_seek 10 = .ok (.iconst 0, 1) := by decide +kernel
theorem dX7_seek_11 : decode cX7_seek 11 = .ok (.putfield 166, 3) := by decide +kernel
theorem dX7_seek_14 : decode cX7_seek 14 = .ok (.aload_n 0, 1) := by decide +kernel
theorem dX7_seek_15 : decode cX7_seek 15 = .ok (.iconst 0, 1) := by decide +kernel
theorem dX7_seek_16 : decode cX7_seek 16 = .ok (.putfield 169, 3) := by decide +kernel
theorem dX7_seek_19 : decode cX7_seek 19 = .ok (.iload_n 2, 1) := by decide +kernel
theorem dX7_seek_20 : decode cX7_seek 20 = .ok (.iload_n 3, 1) := by decide +kernel
theorem dX7_seek_21 : decode cX7_seek 21 = .ok (.if_icmp .ge 66, 3) := by decide +kernel
theorem dX7_seek_24 : decode cX7_seek 24 = .ok (.iload_n 2, 1) := by decide +kernel
theorem dX7_seek_25 : decode cX7_seek 25 = .ok (.iload_n 3, 1) := by decide +kernel
theorem dX7_seek_26 : decode cX7_seek 26 = .ok (.iadd, 1) := by decide +kernel
theorem dX7_seek_27 : decode cX7_seek 27 = .ok (.iconst 1, 1) := by decide +kernel
theorem dX7_seek_28 : decode cX7_seek 28 = .ok (.iadd, 1) := by decide +kernel
theorem dX7_seek_29 : decode cX7_seek 29 = .ok (.iconst 2, 1) := by decide +kernel
theorem dX7_seek_30 : decode cX7_seek 30 = .ok (.idiv, 1) := by decide +kernel
theorem dX7_seek_31 : decode cX7_seek 31 = .ok (.istore 4, 2) := by decide +kernel
theorem dX7_seek_33 : decode cX7_seek 33 = .ok (.aload_n 0, 1) := by decide +kernel
theorem dX7_seek_34 : decode cX7_seek 34 = .ok (.iload 4, 2) := by decide +kernel
theorem dX7_seek_36 : decode cX7_seek 36 = .ok (.aload_n 0, 1) := by decide +kernel
theorem dX7_seek_37 : decode cX7_seek 37 = .ok (.iload_n 1, 1) := by decide +kernel
theorem dX7_seek_38 : decode cX7_seek 38 = .ok (.iload 4, 2) := by decide +kernel
theorem dX7_seek_40 : decode cX7_seek 40 = .ok (.invokevirtual 163, 3) := by decide +kernel
theorem dX7_seek_43 : decode cX7_seek 43 = .ok (.invokevirtual 172, 3) := by decide +kernel
theorem dX7_seek_46 : decode cX7_seek 46 = .ok (.istore 5, 2) := by decide +kernel
theorem dX7_seek_48 : decode cX7_seek 48 = .ok (.iload 5, 2) := by decide +kernel
theorem dX7_seek_50 : decode cX7_seek 50 = .ok (.ifCond .eq 8, 3) := by decide +kernel
theorem dX7_seek_53 : decode cX7_seek 53 = .ok (.iload 4, 2) := by decide +kernel
theorem dX7_seek_55 : decode cX7_seek 55 = .ok (.goto 4, 3) := by decide +kernel
theorem dX7_seek_58 : decode cX7_seek 58 = .ok (.iload_n 2, 1) := by decide +kernel
theorem dX7_seek_59 : decode cX7_seek 59 = .ok (.istore_n 2, 1) := by decide +kernel
theorem dX7_seek_60 : decode cX7_seek 60 = .ok (.iload 5, 2) := by decide +kernel
theorem dX7_seek_62 : decode cX7_seek 62 = .ok (.ifCond .eq 7, 3) := by decide +kernel
theorem dX7_seek_65 : decode cX7_seek 65 = .ok (.iload_n 3, 1) := by decide +kernel
theorem dX7_seek_66 : decode cX7_seek 66 = .ok (.goto 7, 3) := by decide +kernel
theorem dX7_seek_69 : decode cX7_seek 69 = .ok (.iload 4, 2) := by decide +kernel
theorem dX7_seek_71 : decode cX7_seek 71 = .ok (.iconst 1, 1) := by decide +kernel
theorem dX7_seek_72 : decode cX7_seek 72 = .ok (.isub, 1) := by decide +kernel
theorem dX7_seek_73 : decode cX7_seek 73 = .ok (.istore_n 3, 1) := by decide +kernel
theorem dX7_seek_74 : decode cX7_seek 74 = .ok (.aload_n 0, 1) := by decide +kernel
theorem dX7_seek_75 : decode cX7_seek 75 = .ok (.dup, 1) := by decide +kernel
theorem dX7_seek_76 : decode cX7_seek 76 = .ok (.getfield 166, 3) := by decide +kernel
theorem dX7_seek_79 : decode cX7_seek 79 = .ok (.iconst 1, 1) := by decide +kernel
theorem dX7_seek_80 : decode cX7_seek 80 = .ok (.iadd, 1) := by decide +kernel
theorem dX7_seek_81 : decode cX7_seek 81 = .ok (.putfield 166, 3) := by decide +kernel
theorem dX7_seek_84 : decode cX7_seek 84 = .ok (.goto (-65), 3) := by decide +kernel
theorem dX7_seek_87 : decode cX7_seek 87 = .ok (.aload_n 0, 1) := by decide +kernel
theorem dX7_seek_88 : decode cX7_seek 88 = .ok (.iload_n 2, 1) := by decide +kernel
theorem dX7_seek_89 : decode cX7_seek 89 = .ok (.putfield 175, 3) := by decide +kernel
theorem dX7_seek_92 : decode cX7_seek 92 = .ok (.aload_n 0, 1) := by decide +kernel
theorem dX7_seek_93 : decode cX7_seek 93 = .ok (.iload_n 2, 1) := by decide +kernel
theorem dX7_seek_94 : decode cX7_seek 94 = .ok (.aload_n 0, 1) := by decide +kernel
theorem dX7_seek_95 : decode cX7_seek 95 = .ok (.getfield 7, 3) := by decide +kernel
theorem dX7_seek_98 : decode cX7_seek 98 = .ok (.iconst 0, 1) := by decide +kernel
theorem dX7_seek_99 : decode cX7_seek 99 = .ok (.iaload, 1) := by decide +kernel
theorem dX7_seek_100 : decode cX7_seek 100 = .ok (.if_icmp .ge 16, 3) := by decide +kernel
theorem dX7_seek_103 : decode cX7_seek 103 = .ok (.aload_n 0, 1) := by decide +kernel
theorem dX7_seek_104 : decode cX7_seek 104 = .ok (.iload_n 1, 1) := by decide +kernel
theorem dX7_seek_105 : decode cX7_seek 105 = .ok (.iload_n 2, 1) := by decide +kernel
theorem dX7_seek_106 : decode cX7_seek 106 = .ok (.iconst 1, 1) := by decide +kernel
theorem dX7_seek_107 : decode cX7_seek 107 = .ok (.iadd, 1) := by decide +kernel
theorem dX7_seek_108 : decode cX7_seek 108 = .ok (.invokevirtual 163, 3) := by decide +kernel
theorem dX7_seek_111 : decode cX7_seek 111 = .ok (.iconst 1, 1) := by decide +kernel
theorem dX7_seek_112 : decode cX7_seek 112 = .ok (.iand, 1) := by decide +kernel
theorem dX7_seek_113 : decode cX7_seek 113 = .ok (.goto 4, 3) := by decide +kernel
theorem dX7_seek_116 : decode cX7_seek 116 = .ok (.iconst 0, 1) := by decide +kernel
theorem dX7_seek_117 : decode cX7_seek 117 = .ok (.putfield 178, 3) := by decide +kernel
theorem dX7_seek_120 : decode cX7_seek 120 = .ok (.aload_n 0, 1) := by decide +kernel
theorem dX7_seek_121 : decode cX7_seek 121 = .ok (.iconst 0, 1) := by decide +kernel
theorem dX7_seek_122 : decode cX7_seek 122 = .ok (.iload_n 1, 1) := by decide +kernel
theorem dX7_seek_123 : decode cX7_seek 123 = .ok (.invokevirtual 56, 3) := by decide +kernel
theorem dX7_seek_126 : decode cX7_seek 126 = .ok (.istore 4, 2) := by decide +kernel
theorem dX7_seek_128 : decode cX7_seek 128 = .ok (.aload_n 0, 1) := by decide +kernel
theorem dX7_seek_129 : decode cX7_seek 129 = .ok (.iconst 0, 1) := by decide +kernel
theorem dX7_seek_130 : decode cX7_seek 130 = .ok (.iload 4, 2) := by decide +kernel
theorem dX7_seek_132 : decode cX7_seek 132 = .ok (.invokevirtual 50, 3) := by decide +kernel
theorem dX7_seek_135 : decode cX7_seek 135 = .ok (.istore 5, 2) := by decide +kernel
theorem dX7_seek_137 : decode cX7_seek 137 = .ok (.iconst 0, 1) := by decide +kernel
theorem dX7_seek_138 : decode cX7_seek 138 = .ok (.istore_n 2, 1) := by decide +kernel
theorem dX7_seek_139 : decode cX7_seek 139 = .ok (.aload_n 0, 1) := by decide +kernel
theorem dX7_seek_140 : decode cX7_seek 140 = .ok (.iconst 0, 1) := by decide +kernel
theorem dX7_seek_141 : decode cX7_seek 141 = .ok (.iload 4, 2) := by decide +kernel
theorem dX7_seek_143 : decode cX7_seek 143 = .ok (.invokevirtual 53, 3) := by decide +kernel
theorem dX7_seek_146 : decode cX7_seek 146 = .ok (.istore_n 3, 1) := by decide +kernel
theorem dX7_seek_147 : decode cX7_seek 147 = .ok (.iload_n 2, 1) := by decide +kernel
theorem dX7_seek_148 : decode cX7_seek 148 = .ok (.iload_n 3, 1) := by decide +kernel
theorem dX7_seek_149 : decode cX7_seek 149 = .ok (.if_icmp .ge 73, 3) := by decide +kernel
theorem dX7_seek_152 : decode cX7_seek 152 = .ok (.iload_n 2, 1) := by decide +kernel
theorem dX7_seek_153 : decode cX7_seek 153 = .ok (.iload_n 3, 1) := by decide +kernel
theorem dX7_seek_154 : decode cX7_seek 154 = .ok (.iadd, 1) := by decide +kernel
theorem dX7_seek_155 : decode cX7_seek 155 = .ok (.iconst 2, 1) := by decide +kernel
theorem dX7_seek_156 : decode cX7_seek 156 = .ok (.idiv, 1) := by decide +kernel
theorem dX7_seek_157 : decode cX7_seek 157 = .ok (.istore 6, 2) := by decide +kernel
theorem dX7_seek_159 : decode cX7_seek 159 = .ok (.aload_n 0, 1) := by decide +kernel
theorem dX7_seek_160 : decode cX7_seek 160 = .ok (.getfield 7, 3) := by decide +kernel
theorem dX7_seek_163 : decode cX7_seek 163 = .ok (.bipush 6, 2) := by decide +kernel
theorem dX7_seek_165 : decode cX7_seek 165 = .ok (.iload 5, 2) := by decide +kernel
theorem dX7_seek_167 : decode cX7_seek 167 = .ok (.iadd, 1) := by decide +kernel
theorem dX7_seek_168 : decode cX7_seek 168 = .ok (.iload 6, 2) := by decide +kernel
theorem dX7_seek_170 : decode cX7_seek 170 = .ok (.iadd, 1) := by decide +kernel
theorem dX7_seek_171 : decode cX7_seek 171 = .ok (.iaload, 1) := by decide +kernel
theorem dX7_seek_172 : decode cX7_seek 172 = .ok (.iload_n 1, 1) := by decide +kernel
theorem dX7_seek_173 : decode cX7_seek 173 = .ok (.if_icmp .ge 7, 3) := by decide +kernel
theorem dX7_seek_176 : decode cX7_seek 176 = .ok (.iconst 1, 1) := by decide +kernel
theorem dX7_seek_177 : decode cX7_seek 177 = .ok (.goto 4, 3) := by decide +kernel
theorem dX7_seek_180 : decode cX7_seek 180 = .ok (.iconst 0, 1) := by decide +kernel
theorem dX7_seek_181 : decode cX7_seek 181 = .ok (.istore 7, 2) := by decide +kernel
theorem dX7_seek_183 : decode cX7_seek 183 = .ok (.iload 7, 2) := by decide +kernel
theorem dX7_seek_185 : decode cX7_seek 185 = .ok (.ifCond .eq 10, 3) := by decide +kernel
theorem dX7_seek_188 : decode cX7_seek 188 = .ok (.iload 6, 2) := by decide +kernel
theorem dX7_seek_190 : decode cX7_seek 190 = .ok (.iconst 1, 1) := by decide +kernel
theorem dX7_seek_191 : decode cX7_seek 191 = .ok (.iadd, 1) := by decide +kernel
theorem dX7_seek_192 : decode cX7_seek 192 = .ok (.goto 4, 3) := by decide +kernel
theorem dX7_seek_195 : decode cX7_seek 195 = .ok (.iload_n 2, 1) := by decide +kernel
theorem dX7_seek_196 : decode cX7_seek 196 = .ok (.istore_n 2, 1) := by decide +kernel
theorem dX7_seek_197 : decode cX7_seek 197 = .ok (.iload 7, 2) := by decide +kernel
theorem dX7_seek_199 : decode cX7_seek 199 = .ok (.ifCond .eq 7, 3) := by decide +kernel
theorem dX7_seek_202 : decode cX7_seek 202 = .ok (.iload_n 3, 1) := by decide +kernel
theorem dX7_seek_203 : decode cX7_seek 203 = .ok (.goto 5, 3) := by decide +kernel
theorem dX7_seek_206 : decode cX7_seek 206 = .ok (.iload 6, 2) := by decide +kernel
theorem dX7_seek_208 : decode cX7_seek 208 = .ok (.istore_n 3, 1) := by decide +kernel
theorem dX7_seek_209 : decode cX7_seek 209 = .ok (.aload_n 0, 1) := by decide +kernel
theorem dX7_seek_210 : decode cX7_seek 210 = .ok (.dup, 1) := by decide +kernel
theorem dX7_seek_211 : decode cX7_seek 211 = .ok (.getfield 169, 3) := by decide +kernel
theorem dX7_seek_214 : decode cX7_seek 214 = .ok (.iconst 1, 1) := by decide +kernel
theorem dX7_seek_215 : decode cX7_seek 215 = .ok (.iadd, 1) := by decide +kernel
theorem dX7_seek_216 : decode cX7_seek 216 = .ok (.putfield 169, 3) := by decide +kernel
theorem dX7_seek_219 : decode cX7_seek 219 = .ok (.goto (-72), 3) := by decide +kernel
theorem dX7_seek_222 : decode cX7_seek 222 = .ok (.return_, 1) := by decide +kernel
set_option maxRecDepth 20000 in
theorem ggX7_search_X7_isNumber : GoodIn wsX7_search wsX7_isNumber := goodIn_r _ [10, 11, 12, 13, 9, 14, 15, 16, 17, 18, 47, 48, 49, 50, 51, 52, 53, 54, 55, 56, 57, 58, 59, 60, 61, 62, 63, 64, 65, 66, 67, 68, 69] (by decide +kernel) (by decide +kernel)
set_option maxRecDepth 20000 in
theorem gX7_search_X7_isNumber : GoodIn wsX7_search (wsV RX7 157 RX7 yX7_isNumber wsX7_isNumber) := goodIn_app (goodIn_of _ (by decide +kernel)) ggX7_search_X7_isNumber
set_option maxRecDepth 20000 in
theorem ggX7_search_X7_in : GoodIn wsX7_search wsX7_in := goodIn_r _ [18] (by decide +kernel) (by decide +kernel)
set_option maxRecDepth 20000 in
theorem gX7_search_X7_in : GoodIn wsX7_search (va_wsS RX7 75 yX7_in wsX7_in) := goodIn_app (goodIn_of _ (by decide +kernel)) ggX7_search_X7_in
set_option maxRecDepth 20000 in
theorem ggX7_search_X7_seek : GoodIn wsX7_search wsX7_seek := goodIn_r _ [22, 15, 2, 4, 5, 3, 23, 24, 25, 9, 26, 27, 28, 29, 30, 31, 32, 33, 34, 35, 36, 37, 38, 39, 40, 41, 42, 43, 44, 45, 46, 47, 48, 49, 50, 51, 52, 53, 54, 55, 56, 57, 58, 59, 60, 61, 62, 63, 64, 65, 66, 67, 68, 69] (by decide +kernel) (by decide +kernel)
set_option maxRecDepth 20000 in
theorem gX7_search_X7_seek : GoodIn wsX7_search (wsV RX7 183 RX7 yX7_seek wsX7_seek) := goodIn_app (goodIn_of _ (by decide +kernel)) ggX7_search_X7_seek
set_option maxRecDepth 20000 in
theorem ggX7_search_X7_bucketOf : GoodIn wsX7_search wsX7_bucketOf := goodIn_r _ [34, 15, 47, 48, 49, 50, 51, 52, 53, 54, 55, 56, 57, 58, 59, 60, 61, 62, 63, 64, 65, 66, 67, 68, 69] (by decide +kernel) (by decide +kernel)
set_option maxRecDepth 20000 in
theorem gX7_search_X7_bucketOf : GoodIn wsX7_search (wsV RX7 56 RX7 yX7_bucketOf wsX7_bucketOf) := goodIn_app (goodIn_of _ (by decide +kernel)) ggX7_search_X7_bucketOf
theorem dX7_search_0 : decode cX7_search 0 = .ok (.aload_n 0, 1) := by decide +kernel
theorem dX7_search_1 : decode cX7_search 1 = .ok (.iload_n 1, 1) := by decide +kernel
theorem dX7_search_2 : decode cX7_search 2 = .ok (.invokevirtual 157, 3) := by decide +kernel
theorem dX7_search_5 : decode cX7_search 5 = .ok (.ifCond .eq 15, 3) := by decide +kernel
theorem dX7_search_8 : decode cX7_search 8 = .ok (.iload_n 2, 1) := by decide +kernel
theorem dX7_search_9 : decode cX7_search 9 = .ok (.i2l, 1) := by decide +kernel
theorem dX7_search_10 : decode cX7_search 10 = .ok (.lconst 0, 1) := by decide +kernel
theorem dX7_search_11 : decode cX7_search 11 = .ok (.ldc2_w 181, 3) := by decide +kernel
theorem dX7_search_14 : decode cX7_search 14 = .ok (.invokestatic 75, 3) := by decide +kernel
theorem dX7_search_17 : decode cX7_search 17 = .ok (.ifCond .ne 6, 3) := by decide +kernel
theorem dX7_search_20 : decode cX7_search 20 = .ok (.bipush (-3), 2) := by decide +kernel
theorem dX7_search_22 : decode cX7_search 22 = .ok (.ireturn, 1) := by decide +kernel
theorem dX7_search_23 : decode cX7_search 23 = .ok (.aload_n 0, 1) := by decide +kernel
theorem dX7_search_24 : decode cX7_search 24 = .ok (.iload_n 1, 1) := by decide +kernel
theorem dX7_search_25 : decode cX7_search 25 = .ok (.invokevirtual 183, 3) := by decide +kernel
theorem dX7_search_28 : decode cX7_search 28 = .ok (.iload_n 2, 1) := by decide +kernel
theorem dX7_search_29 : decode cX7_search 29 = .ok (.ifCond .ne 10, 3) := by decide +kernel
theorem dX7_search_32 : decode cX7_search 32 = .ok (.aload_n 0, 1) := by decide +kernel
theorem dX7_search_33 : decode cX7_search 33 = .ok (.getfield 166, 3) := by decide +kernel
theorem dX7_search_36 : decode cX7_search 36 = .ok (.goto 45, 3) := by decide +kernel
theorem dX7_search_39 : decode cX7_search 39 = .ok (.iload_n 2, 1) := by decide +kernel
theorem dX7_search_40 : decode cX7_search 40 = .ok (.iconst 1, 1) := by decide +kernel
theorem dX7_search_41 : decode cX7_search 41 = .ok (.if_icmp .ne 10, 3) := by decide +kernel
theorem dX7_search_44 : decode cX7_search 44 = .ok (.aload_n 0, 1) := by decide +kernel
theorem dX7_search_45 : decode cX7_search 45 = .ok (.getfield 178, 3) := by decide +kernel
theorem dX7_search_48 : decode cX7_search 48 = .ok (.goto 33, 3) := by decide +kernel
theorem dX7_search_51 : decode cX7_search 51 = .ok (.iload_n 2, 1) := by decide +kernel
theorem dX7_search_52 : decode cX7_search 52 = .ok (.iconst 2, 1) := by decide +kernel
theorem dX7_search_53 : decode cX7_search 53 = .ok (.if_icmp .ne 10, 3) := by decide +kernel
theorem dX7_search_56 : decode cX7_search 56 = .ok (.aload_n 0, 1) := by decide +kernel
theorem dX7_search_57 : decode cX7_search 57 = .ok (.getfield 169, 3) := by decide +kernel
theorem dX7_search_60 : decode cX7_search 60 = .ok (.goto 21, 3) := by decide +kernel
theorem dX7_search_63 : decode cX7_search 63 = .ok (.iload_n 2, 1) := by decide +kernel
theorem dX7_search_64 : decode cX7_search 64 = .ok (.iconst 3, 1) := by decide +kernel
theorem dX7_search_65 : decode cX7_search 65 = .ok (.if_icmp .ne 10, 3) := by decide +kernel
theorem dX7_search_68 : decode cX7_search 68 = .ok (.aload_n 0, 1) := by decide +kernel
theorem dX7_search_69 : decode cX7_search 69 = .ok (.getfield 175, 3) := by decide +kernel
theorem dX7_search_72 : decode cX7_search 72 = .ok (.goto 9, 3) := by decide +kernel
theorem dX7_search_75 : decode cX7_search 75 = .ok (.aload_n 0, 1) := by decide +kernel
theorem dX7_search_76 : decode cX7_search 76 = .ok (.iconst 0, 1) := by decide +kernel
theorem dX7_search_77 : decode cX7_search 77 = .ok (.iload_n 1, 1) := by decide +kernel
theorem dX7_search_78 : decode cX7_search 78 = .ok (.invokevirtual 56, 3) := by decide +kernel
theorem dX7_search_81 : decode cX7_search 81 = .ok (.ireturn, 1) := by decide +kernel
set_option maxRecDepth 20000 in
theorem ggX7_bucket_X7_in : GoodIn wsX7_bucket wsX7_in := goodIn_r _ [5] (by decide +kernel) (by decide +kernel)
set_option maxRecDepth 20000 in
theorem gX7_bucket_X7_in : GoodIn wsX7_bucket (va_wsS RX7 75 yX7_in wsX7_in) := goodIn_app (goodIn_of _ (by decide +kernel)) ggX7_bucket_X7_in
set_option maxRecDepth 20000 in
theorem ggX7_bucket_X7_aheadOf : GoodIn wsX7_bucket wsX7_aheadOf := goodIn_r _ [9, 1, 10, 11, 12, 4, 13, 18, 19, 20, 21, 22, 23, 24, 25, 26, 27, 28, 29, 30, 31, 32, 33, 34, 35, 36, 37, 38, 39, 40] (by decide +kernel) (by decide +kernel)
set_option maxRecDepth 20000 in
theorem gX7_bucket_X7_aheadOf : GoodIn wsX7_bucket (wsV RX7 50 RX7 yX7_aheadOf wsX7_aheadOf) := goodIn_app (goodIn_of _ (by decide +kernel)) ggX7_bucket_X7_aheadOf
set_option maxRecDepth 20000 in
theorem ggX7_bucket_X7_keysIn : GoodIn wsX7_bucket wsX7_keysIn := goodIn_r _ [17, 1, 10, 11, 12, 4, 13, 6, 7, 8, 9, 18, 19, 20, 21, 22, 23, 24, 25, 26, 27, 28, 29, 30, 31, 32, 33, 34, 35, 36, 37, 38, 39, 40] (by decide +kernel) (by decide +kernel)
set_option maxRecDepth 20000 in
theorem gX7_bucket_X7_keysIn : GoodIn wsX7_bucket (wsV RX7 53 RX7 yX7_keysIn wsX7_keysIn) := goodIn_app (goodIn_of _ (by decide +kernel)) ggX7_bucket_X7_keysIn
theorem dX7_bucket_0 : decode cX7_bucket 0 = .ok (.iload_n 1, 1) := by decide +kernel
theorem dX7_bucket_1 : decode cX7_bucket 1 = .ok (.i2l, 1) := by decide +kernel
theorem dX7_bucket_2 : decode cX7_bucket 2 = .ok (.lconst 0, 1) := by decide +kernel
theorem dX7_bucket_3 : decode cX7_bucket 3 = .ok (.aload_n 0, 1) := by decide +kernel
theorem dX7_bucket_4 : decode cX7_bucket 4 = .ok (.getfield 7, 3) := by decide +kernel
theorem dX7_bucket_7 : decode cX7_bucket 7 = .ok (.iconst 3, 1) := by decide +kernel
theorem dX7_bucket_8 : decode cX7_bucket 8 = .ok (.iaload, 1) := by decide +kernel
theorem dX7_bucket_9 : decode cX7_bucket 9 = .ok (.iconst 1, 1) := by decide +kernel
theorem dX7_bucket_10 : decode cX7_bucket 10 = .ok (.isub, 1) := by decide +kernel
theorem dX7_bucket_11 : decode cX7_bucket 11 = .ok (.i2l, 1) := by decide +kernel
theorem dX7_bucket_12 : decode cX7_bucket 12 = .ok (.invokestatic 75, 3) := by decide +kernel
theorem dX7_bucket_15 : decode cX7_bucket 15 = .ok (.ifCond .ne 6, 3) := by decide +kernel
theorem dX7_bucket_18 : decode cX7_bucket 18 = .ok (.bipush (-2), 2) := by decide +kernel
theorem dX7_bucket_20 : decode cX7_bucket 20 = .ok (.ireturn, 1) := by decide +kernel
theorem dX7_bucket_21 : decode cX7_bucket 21 = .ok (.aload_n 0, 1) := by decide +kernel
theorem dX7_bucket_22 : decode cX7_bucket 22 = .ok (.iconst 0, 1) := by decide +kernel
theorem dX7_bucket_23 : decode cX7_bucket 23 = .ok (.iload_n 1, 1) := by decide +kernel
theorem dX7_bucket_24 : decode cX7_bucket 24 = .ok (.invokevirtual 50, 3) := by decide +kernel
theorem dX7_bucket_27 : decode cX7_bucket 27 = .ok (.istore_n 3, 1) := by decide +kernel
theorem dX7_bucket_28 : decode cX7_bucket 28 = .ok (.aload_n 0, 1) := by decide +kernel
theorem dX7_bucket_29 : decode cX7_bucket 29 = .ok (.iconst 0, 1) := by decide +kernel
theorem dX7_bucket_30 : decode cX7_bucket 30 = .ok (.iload_n 1, 1) := by decide +kernel
theorem dX7_bucket_31 : decode cX7_bucket 31 = .ok (.invokevirtual 53, 3) := by decide +kernel
theorem dX7_bucket_34 : decode cX7_bucket 34 = .ok (.istore 4, 2) := by decide +kernel
theorem dX7_bucket_36 : decode cX7_bucket 36 = .ok (.iload_n 2, 1) := by decide +kernel
theorem dX7_bucket_37 : decode cX7_bucket 37 = .ok (.tableswitch 87 0 3 #[31, 34, 44, 63], 31) := by decide +kernel
theorem dX7_bucket_68 : decode cX7_bucket 68 = .ok (.iload 4, 2) := by decide +kernel
theorem dX7_bucket_70 : decode cX7_bucket 70 = .ok (.ireturn, 1) := by decide +kernel
theorem dX7_bucket_71 : decode cX7_bucket 71 = .ok (.aload_n 0, 1) := by decide +kernel
theorem dX7_bucket_72 : decode cX7_bucket 72 = .ok (.getfield 7, 3) := by decide +kernel
theorem dX7_bucket_75 : decode cX7_bucket 75 = .ok (.bipush 102, 2) := by decide +kernel
theorem dX7_bucket_77 : decode cX7_bucket 77 = .ok (.iload_n 1, 1) := by decide +kernel
theorem dX7_bucket_78 : decode cX7_bucket 78 = .ok (.iadd, 1) := by decide +kernel
theorem dX7_bucket_79 : decode cX7_bucket 79 = .ok (.iaload, 1) := by decide +kernel
theorem dX7_bucket_80 : decode cX7_bucket 80 = .ok (.ireturn, 1) := by decide +kernel
theorem dX7_bucket_81 : decode cX7_bucket 81 = .ok (.iload 4, 2) := by decide +kernel
theorem dX7_bucket_83 : decode cX7_bucket 83 = .ok (.ifCond .ne 7, 3) := by decide +kernel
theorem dX7_bucket_86 : decode cX7_bucket 86 = .ok (.iconst (-1), 1) := by decide +kernel
theorem dX7_bucket_87 : decode cX7_bucket 87 = .ok (.goto 12, 3) := by decide +kernel
theorem dX7_bucket_90 : decode cX7_bucket 90 = .ok (.aload_n 0, 1) := by decide +kernel
theorem dX7_bucket_91 : decode cX7_bucket 91 = .ok (.getfield 7, 3) := by decide +kernel
theorem dX7_bucket_94 : decode cX7_bucket 94 = .ok (.bipush 6, 2) := by decide +kernel
theorem dX7_bucket_96 : decode cX7_bucket 96 = .ok (.iload_n 3, 1) := by decide +kernel
theorem dX7_bucket_97 : decode cX7_bucket 97 = .ok (.iadd, 1) := by decide +kernel
theorem dX7_bucket_98 : decode cX7_bucket 98 = .ok (.iaload, 1) := by decide +kernel
theorem dX7_bucket_99 : decode cX7_bucket 99 = .ok (.ireturn, 1) := by decide +kernel
theorem dX7_bucket_100 : decode cX7_bucket 100 = .ok (.iload 4, 2) := by decide +kernel
theorem dX7_bucket_102 : decode cX7_bucket 102 = .ok (.ifCond .ne 7, 3) := by decide +kernel
theorem dX7_bucket_105 : decode cX7_bucket 105 = .ok (.iconst (-1), 1) := by decide +kernel
theorem dX7_bucket_106 : decode cX7_bucket 106 = .ok (.goto 17, 3) := by decide +kernel
theorem dX7_bucket_109 : decode cX7_bucket 109 = .ok (.aload_n 0, 1) := by decide +kernel
theorem dX7_bucket_110 : decode cX7_bucket 110 = .ok (.getfield 7, 3) := by decide +kernel
theorem dX7_bucket_113 : decode cX7_bucket 113 = .ok (.bipush 6, 2) := by decide +kernel
theorem dX7_bucket_115 : decode cX7_bucket 115 = .ok (.iload_n 3, 1) := by decide +kernel
theorem dX7_bucket_116 : decode cX7_bucket 116 = .ok (.iadd, 1) := by decide +kernel
theorem dX7_bucket_117 : decode cX7_bucket 117 = .ok (.iload 4, 2) := by decide +kernel
theorem dX7_bucket_119 : decode cX7_bucket 119 = .ok (.iadd, 1) := by decide +kernel
theorem dX7_bucket_120 : decode cX7_bucket 120 = .ok (.iconst 1, 1) := by decide +kernel
theorem dX7_bucket_121 : decode cX7_bucket 121 = .ok (.isub, 1) := by decide +kernel
theorem dX7_bucket_122 : decode cX7_bucket 122 = .ok (.iaload, 1) := by decide +kernel
theorem dX7_bucket_123 : decode cX7_bucket 123 = .ok (.ireturn, 1) := by decide +kernel
theorem dX7_bucket_124 : decode cX7_bucket 124 = .ok (.bipush (-3), 2) := by decide +kernel
theorem dX7_bucket_126 : decode cX7_bucket 126 = .ok (.ireturn, 1) := by decide +kernel
set_option maxRecDepth 20000 in
theorem ggX7_isLevel_X7_in : GoodIn wsX7_isLevel wsX7_in := goodIn_r _ [5] (by decide +kernel) (by decide +kernel)
set_option maxRecDepth 20000 in
theorem gX7_isLevel_X7_in : GoodIn wsX7_isLevel (va_wsS RX7 75 yX7_in wsX7_in) := goodIn_app (goodIn_of _ (by decide +kernel)) ggX7_isLevel_X7_in
theorem dX7_isLevel_0 : decode cX7_isLevel 0 = .ok (.iload_n 1, 1) := by decide +kernel
theorem dX7_isLevel_1 : decode cX7_isLevel 1 = .ok (.i2l, 1) := by decide +kernel
theorem dX7_isLevel_2 : decode cX7_isLevel 2 = .ok (.lconst 0, 1) := by decide +kernel
theorem dX7_isLevel_3 : decode cX7_isLevel 3 = .ok (.aload_n 0, 1) := by decide +kernel
theorem dX7_isLevel_4 : decode cX7_isLevel 4 = .ok (.getfield 7, 3) := by decide +kernel
theorem dX7_isLevel_7 : decode cX7_isLevel 7 = .ok (.iconst 0, 1) := by decide +kernel
theorem dX7_isLevel_8 : decode cX7_isLevel 8 = .ok (.iaload, 1) := by decide +kernel
theorem dX7_isLevel_9 : decode cX7_isLevel 9 = .ok (.i2l, 1) := by decide +kernel
theorem dX7_isLevel_10 : decode cX7_isLevel 10 = .ok (.invokestatic 75, 3) := by decide +kernel
theorem dX7_isLevel_13 : decode cX7_isLevel 13 = .ok (.ireturn, 1) := by decide +kernel
set_option maxRecDepth 20000 in
theorem ggX7_levelOf_X7_beginning : GoodIn wsX7_levelOf wsX7_beginning := goodIn_r _ [6, 1, 7, 8, 9, 10, 11, 12, 13, 14, 15, 16, 17, 18, 19, 20, 21, 22, 23, 24, 25, 26, 27, 28, 29] (by decide +kernel) (by decide +kernel)
set_option maxRecDepth 20000 in
theorem gX7_levelOf_X7_beginning : GoodIn wsX7_levelOf (wsV RX7 163 RX7 yX7_beginning wsX7_beginning) := goodIn_app (goodIn_of _ (by decide +kernel)) ggX7_levelOf_X7_beginning
theorem dX7_levelOf_0 : decode cX7_levelOf 0 = .ok (.iconst 1, 1) := by decide +kernel
theorem dX7_levelOf_1 : decode cX7_levelOf 1 = .ok (.istore_n 2, 1) := by decide +kernel
theorem dX7_levelOf_2 : decode cX7_levelOf 2 = .ok (.iconst 1, 1) := by decide +kernel
theorem dX7_levelOf_3 : decode cX7_levelOf 3 = .ok (.istore_n 3, 1) := by decide +kernel
theorem dX7_levelOf_4 : decode cX7_levelOf 4 = .ok (.iload_n 3, 1) := by decide +kernel
theorem dX7_levelOf_5 : decode cX7_levelOf 5 = .ok (.aload_n 0, 1) := by decide +kernel
theorem dX7_levelOf_6 : decode cX7_levelOf 6 = .ok (.getfield 7, 3) := by decide +kernel
theorem dX7_levelOf_9 : decode cX7_levelOf 9 = .ok (.iconst 3, 1) := by decide +kernel
theorem dX7_levelOf_10 : decode cX7_levelOf 10 = .ok (.iaload, 1) := by decide +kernel
theorem dX7_levelOf_11 : decode cX7_levelOf 11 = .ok (.if_icmp .ge 50, 3) := by decide +kernel
theorem dX7_levelOf_14 : decode cX7_levelOf 14 = .ok (.iload_n 2, 1) := by decide +kernel
theorem dX7_levelOf_15 : decode cX7_levelOf 15 = .ok (.aload_n 0, 1) := by decide +kernel
theorem dX7_levelOf_16 : decode cX7_levelOf 16 = .ok (.aload_n 0, 1) := by decide +kernel
theorem dX7_levelOf_17 : decode cX7_levelOf 17 = .ok (.getfield 7, 3) := by decide +kernel
theorem dX7_levelOf_20 : decode cX7_levelOf 20 = .ok (.bipush 102, 2) := by decide +kernel
theorem dX7_levelOf_22 : decode cX7_levelOf 22 = .ok (.iload_n 3, 1) := by decide +kernel
theorem dX7_levelOf_23 : decode cX7_levelOf 23 = .ok (.iadd, 1) := by decide +kernel
theorem dX7_levelOf_24 : decode cX7_levelOf 24 = .ok (.iaload, 1) := by decide +kernel
theorem dX7_levelOf_25 : decode cX7_levelOf 25 = .ok (.iload_n 1, 1) := by decide +kernel
theorem dX7_levelOf_26 : decode cX7_levelOf 26 = .ok (.invokevirtual 163, 3) := by decide +kernel
theorem dX7_levelOf_29 : decode cX7_levelOf 29 = .ok (.aload_n 0, 1) := by decide +kernel
theorem dX7_levelOf_30 : decode cX7_levelOf 30 = .ok (.aload_n 0, 1) := by decide +kernel
theorem dX7_levelOf_31 : decode cX7_levelOf 31 = .ok (.getfield 7, 3) := by decide +kernel
theorem dX7_levelOf_34 : decode cX7_levelOf 34 = .ok (.bipush 102, 2) := by decide +kernel
theorem dX7_levelOf_36 : decode cX7_levelOf 36 = .ok (.iload_n 3, 1) := by decide +kernel
theorem dX7_levelOf_37 : decode cX7_levelOf 37 = .ok (.iadd, 1) := by decide +kernel
theorem dX7_levelOf_38 : decode cX7_levelOf 38 = .ok (.iconst 1, 1) := by decide +kernel
theorem dX7_levelOf_39 : decode cX7_levelOf 39 = .ok (.isub, 1) := by decide +kernel
theorem dX7_levelOf_40 : decode cX7_levelOf 40 = .ok (.iaload, 1) := by decide +kernel
theorem dX7_levelOf_41 : decode cX7_levelOf 41 = .ok (.iload_n 1, 1) := by decide +kernel
theorem dX7_levelOf_42 : decode cX7_levelOf 42 = .ok (.invokevirtual 163, 3) := by decide +kernel
theorem dX7_levelOf_45 : decode cX7_levelOf 45 = .ok (.if_icmp .ne 7, 3) := by decide +kernel
theorem dX7_levelOf_48 : decode cX7_levelOf 48 = .ok (.iconst 0, 1) := by decide +kernel
theorem dX7_levelOf_49 : decode cX7_levelOf 49 = .ok (.goto 4, 3) := by decide +kernel
theorem dX7_levelOf_52 : decode cX7_levelOf 52 = .ok (.iconst 1, 1) := by decide +kernel
theorem dX7_levelOf_53 : decode cX7_levelOf 53 = .ok (.iadd, 1) := by decide +kernel
theorem dX7_levelOf_54 : decode cX7_levelOf 54 = .ok (.istore_n 2, 1) := by decide +kernel
theorem dX7_levelOf_55 : decode cX7_levelOf 55 = .ok (.iinc 3 1, 3) := by decide +kernel
theorem dX7_levelOf_58 : decode cX7_levelOf 58 = .ok (.goto (-54), 3) := by decide +kernel
theorem dX7_levelOf_61 : decode cX7_levelOf 61 = .ok (.iload_n 2, 1) := by decide +kernel
theorem dX7_levelOf_62 : decode cX7_levelOf 62 = .ok (.ireturn, 1) := by decide +kernel
set_option maxRecDepth 20000 in
theorem ggX7_level_X7_isLevel : GoodIn wsX7_level wsX7_isLevel := goodIn_r _ [5, 6, 7, 8, 4, 9, 18, 19, 20, 21, 22, 23, 24, 25, 26, 27, 28, 29, 30, 31, 32, 33, 34, 35, 36, 37, 38, 39, 40] (by decide +kernel) (by decide +kernel)
set_option maxRecDepth 20000 in
theorem gX7_level_X7_isLevel : GoodIn wsX7_level (wsV RX7 186 RX7 yX7_isLevel wsX7_isLevel) := goodIn_app (goodIn_of _ (by decide +kernel)) ggX7_level_X7_isLevel
set_option maxRecDepth 20000 in
theorem ggX7_level_X7_levelOf : GoodIn wsX7_level wsX7_levelOf := goodIn_r _ [13, 6, 14, 15, 16, 4, 17, 18, 19, 20, 21, 22, 23, 24, 25, 26, 27, 28, 29, 30, 31, 32, 33, 34, 35, 36, 37, 38, 39, 40] (by decide +kernel) (by decide +kernel)
set_option maxRecDepth 20000 in
theorem gX7_level_X7_levelOf : GoodIn wsX7_level (wsV RX7 189 RX7 yX7_levelOf wsX7_levelOf) := goodIn_app (goodIn_of _ (by decide +kernel)) ggX7_level_X7_levelOf
theorem dX7_level_0 : decode cX7_level 0 = .ok (.aload_n 0, 1) := by decide +kernel
theorem dX7_level_1 : decode cX7_level 1 = .ok (.iload_n 1, 1) := by decide +kernel
theorem dX7_level_2 : decode cX7_level 2 = .ok (.invokevirtual 186, 3) := by decide +kernel
theorem dX7_level_5 : decode cX7_level 5 = .ok (.ifCond .eq 11, 3) := by decide +kernel
theorem dX7_level_8 : decode cX7_level 8 = .ok (.aload_n 0, 1) := by decide +kernel
theorem dX7_level_9 : decode cX7_level 9 = .ok (.iload_n 1, 1) := by decide +kernel
theorem dX7_level_10 : decode cX7_level 10 = .ok (.invokevirtual 189, 3) := by decide +kernel
theorem dX7_level_13 : decode cX7_level 13 = .ok (.goto 5, 3) := by decide +kernel
theorem dX7_level_16 : decode cX7_level 16 = .ok (.bipush (-2), 2) := by decide +kernel
theorem dX7_level_18 : decode cX7_level 18 = .ok (.ireturn, 1) := by decide +kernel
set_option maxRecDepth 20000 in
theorem ggX7_marks_X7_isLevel : GoodIn wsX7_marks wsX7_isLevel := goodIn_r _ [6, 1, 7, 8, 5, 9, 14, 15, 16, 17, 18, 19, 20, 21, 22, 23, 24, 25, 26, 27, 28, 29, 30, 31, 32, 33, 34, 35, 36] (by decide +kernel) (by decide +kernel)
set_option maxRecDepth 20000 in
theorem gX7_marks_X7_isLevel : GoodIn wsX7_marks (wsV RX7 186 RX7 yX7_isLevel wsX7_isLevel) := goodIn_app (goodIn_of _ (by decide +kernel)) ggX7_marks_X7_isLevel
set_option maxRecDepth 20000 in
theorem ggX7_marks_X7_in : GoodIn wsX7_marks wsX7_in := goodIn_r _ [9] (by decide +kernel) (by decide +kernel)
set_option maxRecDepth 20000 in
theorem gX7_marks_X7_in : GoodIn wsX7_marks (va_wsS RX7 75 yX7_in wsX7_in) := goodIn_app (goodIn_of _ (by decide +kernel)) ggX7_marks_X7_in
set_option maxRecDepth 20000 in
theorem ggX7_marks_X7_beginning : GoodIn wsX7_marks wsX7_beginning := goodIn_r _ [13, 1, 14, 15, 16, 17, 18, 19, 20, 21, 22, 23, 24, 25, 26, 27, 28, 29, 30, 31, 32, 33, 34, 35, 36] (by decide +kernel) (by decide +kernel)
set_option maxRecDepth 20000 in
theorem gX7_marks_X7_beginning : GoodIn wsX7_marks (wsV RX7 163 RX7 yX7_beginning wsX7_beginning) := goodIn_app (goodIn_of _ (by decide +kernel)) ggX7_marks_X7_beginning
theorem dX7_marks_0 : decode cX7_marks 0 = .ok (.aload_n 0, 1) := by decide +kernel
theorem dX7_marks_1 : decode cX7_marks 1 = .ok (.iload_n 1, 1) := by decide +kernel
theorem dX7_marks_2 : decode cX7_marks 2 = .ok (.invokevirtual 186, 3) := by decide +kernel
theorem dX7_marks_5 : decode cX7_marks 5 = .ok (.ifCond .ne 6, 3) := by decide +kernel
theorem dX7_marks_8 : decode cX7_marks 8 = .ok (.bipush (-2), 2) := by decide +kernel
theorem dX7_marks_10 : decode cX7_marks 10 = .ok (.ireturn, 1) := by decide +kernel
theorem dX7_marks_11 : decode cX7_marks 11 = .ok (.iload_n 2, 1) := by decide +kernel
theorem dX7_marks_12 : decode cX7_marks 12 = .ok (.i2l, 1) := by decide +kernel
theorem dX7_marks_13 : decode cX7_marks 13 = .ok (.lconst 0, 1) := by decide +kernel
theorem dX7_marks_14 : decode cX7_marks 14 = .ok (.iconst 1, 1) := by decide +kernel
theorem dX7_marks_15 : decode cX7_marks 15 = .ok (.iload_n 1, 1) := by decide +kernel
theorem dX7_marks_16 : decode cX7_marks 16 = .ok (.ishl, 1) := by decide +kernel
theorem dX7_marks_17 : decode cX7_marks 17 = .ok (.iconst 1, 1) := by decide +kernel
theorem dX7_marks_18 : decode cX7_marks 18 = .ok (.isub, 1) := by decide +kernel
theorem dX7_marks_19 : decode cX7_marks 19 = .ok (.i2l, 1) := by decide +kernel
theorem dX7_marks_20 : decode cX7_marks 20 = .ok (.invokestatic 75, 3) := by decide +kernel
theorem dX7_marks_23 : decode cX7_marks 23 = .ok (.ifCond .ne 6, 3) := by decide +kernel
theorem dX7_marks_26 : decode cX7_marks 26 = .ok (.bipush (-3), 2) := by decide +kernel
theorem dX7_marks_28 : decode cX7_marks 28 = .ok (.ireturn, 1) := by decide +kernel
theorem dX7_marks_29 : decode cX7_marks 29 = .ok (.iconst 0, 1) := by decide +kernel
theorem dX7_marks_30 : decode cX7_marks 30 = .ok (.istore_n 3, 1) := by decide +kernel
theorem dX7_marks_31 : decode cX7_marks 31 = .ok (.iconst 0, 1) := by decide +kernel
theorem dX7_marks_32 : decode cX7_marks 32 = .ok (.istore 4, 2) := by decide +kernel
theorem dX7_marks_34 : decode cX7_marks 34 = .ok (.iload 4, 2) := by decide +kernel
theorem dX7_marks_36 : decode cX7_marks 36 = .ok (.aload_n 0, 1) := by decide +kernel
theorem dX7_marks_37 : decode cX7_marks 37 = .ok (.getfield 7, 3) := by decide +kernel
theorem dX7_marks_40 : decode cX7_marks 40 = .ok (.iconst 3, 1) := by decide +kernel
theorem dX7_marks_41 : decode cX7_marks 41 = .ok (.iaload, 1) := by decide +kernel
theorem dX7_marks_42 : decode cX7_marks 42 = .ok (.if_icmp .ge 36, 3) := by decide +kernel
theorem dX7_marks_45 : decode cX7_marks 45 = .ok (.iload_n 3, 1) := by decide +kernel
theorem dX7_marks_46 : decode cX7_marks 46 = .ok (.aload_n 0, 1) := by decide +kernel
theorem dX7_marks_47 : decode cX7_marks 47 = .ok (.aload_n 0, 1) := by decide +kernel
theorem dX7_marks_48 : decode cX7_marks 48 = .ok (.getfield 7, 3) := by decide +kernel
theorem dX7_marks_51 : decode cX7_marks 51 = .ok (.bipush 102, 2) := by decide +kernel
theorem dX7_marks_53 : decode cX7_marks 53 = .ok (.iload 4, 2) := by decide +kernel
theorem dX7_marks_55 : decode cX7_marks 55 = .ok (.iadd, 1) := by decide +kernel
theorem dX7_marks_56 : decode cX7_marks 56 = .ok (.iaload, 1) := by decide +kernel
theorem dX7_marks_57 : decode cX7_marks 57 = .ok (.iload_n 1, 1) := by decide +kernel
theorem dX7_marks_58 : decode cX7_marks 58 = .ok (.invokevirtual 163, 3) := by decide +kernel
theorem dX7_marks_61 : decode cX7_marks 61 = .ok (.iload_n 2, 1) := by decide +kernel
theorem dX7_marks_62 : decode cX7_marks 62 = .ok (.if_icmp .ne 7, 3) := by decide +kernel
theorem dX7_marks_65 : decode cX7_marks 65 = .ok (.iconst 1, 1) := by decide +kernel
theorem dX7_marks_66 : decode cX7_marks 66 = .ok (.goto 4, 3) := by decide +kernel
theorem dX7_marks_69 : decode cX7_marks 69 = .ok (.iconst 0, 1) := by decide +kernel
theorem dX7_marks_70 : decode cX7_marks 70 = .ok (.iadd, 1) := by decide +kernel
theorem dX7_marks_71 : decode cX7_marks 71 = .ok (.istore_n 3, 1) := by decide +kernel
theorem dX7_marks_72 : decode cX7_marks 72 = .ok (.iinc 4 1, 3) := by decide +kernel
theorem dX7_marks_75 : decode cX7_marks 75 = .ok (.goto (-41), 3) := by decide +kernel
theorem dX7_marks_78 : decode cX7_marks 78 = .ok (.iload_n 3, 1) := by decide +kernel
theorem dX7_marks_79 : decode cX7_marks 79 = .ok (.ireturn, 1) := by decide +kernel
set_option maxRecDepth 20000 in
theorem ggX7_under_X7_isLevel : GoodIn wsX7_under wsX7_isLevel := goodIn_r _ [6, 1, 7, 8, 5, 9, 14, 15, 16, 17, 18, 19, 20, 21, 22, 23, 24, 25, 26, 27, 28, 29, 30, 31, 32, 33, 34, 35, 36] (by decide +kernel) (by decide +kernel)
set_option maxRecDepth 20000 in
theorem gX7_under_X7_isLevel : GoodIn wsX7_under (wsV RX7 186 RX7 yX7_isLevel wsX7_isLevel) := goodIn_app (goodIn_of _ (by decide +kernel)) ggX7_under_X7_isLevel
set_option maxRecDepth 20000 in
theorem ggX7_under_X7_in : GoodIn wsX7_under wsX7_in := goodIn_r _ [9] (by decide +kernel) (by decide +kernel)
set_option maxRecDepth 20000 in
theorem gX7_under_X7_in : GoodIn wsX7_under (va_wsS RX7 75 yX7_in wsX7_in) := goodIn_app (goodIn_of _ (by decide +kernel)) ggX7_under_X7_in
set_option maxRecDepth 20000 in
theorem ggX7_under_X7_beginning : GoodIn wsX7_under wsX7_beginning := goodIn_r _ [13, 1, 14, 15, 16, 17, 18, 19, 20, 21, 22, 23, 24, 25, 26, 27, 28, 29, 30, 31, 32, 33, 34, 35, 36] (by decide +kernel) (by decide +kernel)
set_option maxRecDepth 20000 in
theorem gX7_under_X7_beginning : GoodIn wsX7_under (wsV RX7 163 RX7 yX7_beginning wsX7_beginning) := goodIn_app (goodIn_of _ (by decide +kernel)) ggX7_under_X7_beginning
theorem dX7_under_0 : decode cX7_under 0 = .ok (.aload_n 0, 1) := by decide +kernel
theorem dX7_under_1 : decode cX7_under 1 = .ok (.iload_n 1, 1) := by decide +kernel
theorem dX7_under_2 : decode cX7_under 2 = .ok (.invokevirtual 186, 3) := by decide +kernel
theorem dX7_under_5 : decode cX7_under 5 = .ok (.ifCond .ne 6, 3) := by decide +kernel
theorem dX7_under_8 : decode cX7_under 8 = .ok (.bipush (-2), 2) := by decide +kernel
theorem dX7_under_10 : decode cX7_under 10 = .ok (.ireturn, 1) := by decide +kernel
theorem dX7_under_11 : decode cX7_under 11 = .ok (.iload_n 2, 1) := by decide +kernel
theorem dX7_under_12 : decode cX7_under 12 = .ok (.i2l, 1) := by decide +kernel
theorem dX7_under_13 : decode cX7_under 13 = .ok (.lconst 0, 1) := by decide +kernel
theorem dX7_under_14 : decode cX7_under 14 = .ok (.iconst 1, 1) := by decide +kernel
theorem dX7_under_15 : decode cX7_under 15 = .ok (.iload_n 1, 1) := by decide +kernel
theorem dX7_under_16 : decode cX7_under 16 = .ok (.ishl, 1) := by decide +kernel
theorem dX7_under_17 : decode cX7_under 17 = .ok (.iconst 1, 1) := by decide +kernel
theorem dX7_under_18 : decode cX7_under 18 = .ok (.isub, 1) := by decide +kernel
theorem dX7_under_19 : decode cX7_under 19 = .ok (.i2l, 1) := by decide +kernel
theorem dX7_under_20 : decode cX7_under 20 = .ok (.invokestatic 75, 3) := by decide +kernel
theorem dX7_under_23 : decode cX7_under 23 = .ok (.ifCond .eq 13, 3) := by decide +kernel
theorem dX7_under_26 : decode cX7_under 26 = .ok (.iload_n 3, 1) := by decide +kernel
theorem dX7_under_27 : decode cX7_under 27 = .ok (.i2l, 1) := by decide +kernel
theorem dX7_under_28 : decode cX7_under 28 = .ok (.lconst 0, 1) := by decide +kernel
theorem dX7_under_29 : decode cX7_under 29 = .ok (.lconst 1, 1) := by decide +kernel
theorem dX7_under_30 : decode cX7_under 30 = .ok (.invokestatic 75, 3) := by decide +kernel
theorem dX7_under_33 : decode cX7_under 33 = .ok (.ifCond .ne 6, 3) := by decide +kernel
theorem dX7_under_36 : decode cX7_under 36 = .ok (.bipush (-3), 2) := by decide +kernel
theorem dX7_under_38 : decode cX7_under 38 = .ok (.ireturn, 1) := by decide +kernel
theorem dX7_under_39 : decode cX7_under 39 = .ok (.iconst (-1), 1) := by decide +kernel
theorem dX7_under_40 : decode cX7_under 40 = .ok (.istore 4, 2) := by decide +kernel
theorem dX7_under_42 : decode cX7_under 42 = .ok (.iconst (-1), 1) := by decide +kernel
theorem dX7_under_43 : decode cX7_under 43 = .ok (.istore 5, 2) := by decide +kernel
theorem dX7_under_45 : decode cX7_under 45 = .ok (.iconst 0, 1) := by decide +kernel
theorem dX7_under_46 : decode cX7_under 46 = .ok (.istore 6, 2) := by decide +kernel
theorem dX7_under_48 : decode cX7_under 48 = .ok (.iload 6, 2) := by decide +kernel
theorem dX7_under_50 : decode cX7_under 50 = .ok (.aload_n 0, 1) := by decide +kernel
theorem dX7_under_51 : decode cX7_under 51 = .ok (.getfield 7, 3) := by decide +kernel
theorem dX7_under_54 : decode cX7_under 54 = .ok (.iconst 3, 1) := by decide +kernel
theorem dX7_under_55 : decode cX7_under 55 = .ok (.iaload, 1) := by decide +kernel
theorem dX7_under_56 : decode cX7_under 56 = .ok (.if_icmp .ge 85, 3) := by decide +kernel
theorem dX7_under_59 : decode cX7_under 59 = .ok (.aload_n 0, 1) := by decide +kernel
theorem dX7_under_60 : decode cX7_under 60 = .ok (.aload_n 0, 1) := by decide +kernel
theorem dX7_under_61 : decode cX7_under 61 = .ok (.getfield 7, 3) := by decide +kernel
theorem dX7_under_64 : decode cX7_under 64 = .ok (.bipush 102, 2) := by decide +kernel
theorem dX7_under_66 : decode cX7_under 66 = .ok (.iload 6, 2) := by decide +kernel
theorem dX7_under_68 : decode cX7_under 68 = .ok (.iadd, 1) := by decide +kernel
theorem dX7_under_69 : decode cX7_under 69 = .ok (.iaload, 1) := by decide +kernel
theorem dX7_under_70 : decode cX7_under 70 = .ok (.iload_n 1, 1) := by decide +kernel
theorem dX7_under_71 : decode cX7_under 71 = .ok (.invokevirtual 163, 3) := by decide +kernel
theorem dX7_under_74 : decode cX7_under 74 = .ok (.iload_n 2, 1) := by decide +kernel
theorem dX7_under_75 : decode cX7_under 75 = .ok (.if_icmp .ne 7, 3) := by decide +kernel
theorem dX7_under_78 : decode cX7_under 78 = .ok (.iconst 1, 1) := by decide +kernel
theorem dX7_under_79 : decode cX7_under 79 = .ok (.goto 4, 3) := by decide +kernel
theorem dX7_under_82 : decode cX7_under 82 = .ok (.iconst 0, 1) := by decide +kernel
theorem dX7_under_83 : decode cX7_under 83 = .ok (.istore 7, 2) := by decide +kernel
theorem dX7_under_85 : decode cX7_under 85 = .ok (.iload 7, 2) := by decide +kernel
theorem dX7_under_87 : decode cX7_under 87 = .ok (.ifCond .eq 22, 3) := by decide +kernel
theorem dX7_under_90 : decode cX7_under 90 = .ok (.iload 4, 2) := by decide +kernel
theorem dX7_under_92 : decode cX7_under 92 = .ok (.iconst (-1), 1) := by decide +kernel
theorem dX7_under_93 : decode cX7_under 93 = .ok (.if_icmp .ne 16, 3) := by decide +kernel
theorem dX7_under_96 : decode cX7_under 96 = .ok (.aload_n 0, 1) := by decide +kernel
theorem dX7_under_97 : decode cX7_under 97 = .ok (.getfield 7, 3) := by decide +kernel
theorem dX7_under_100 : decode cX7_under 100 = .ok (.bipush 102, 2) := by decide +kernel
theorem dX7_under_102 : decode cX7_under 102 = .ok (.iload 6, 2) := by decide +kernel
theorem dX7_under_104 : decode cX7_under 104 = .ok (.iadd, 1) := by decide +kernel
theorem dX7_under_105 : decode cX7_under 105 = .ok (.iaload, 1) := by decide +kernel
theorem dX7_under_106 : decode cX7_under 106 = .ok (.goto 5, 3) := by decide +kernel
theorem dX7_under_109 : decode cX7_under 109 = .ok (.iload 4, 2) := by decide +kernel
theorem dX7_under_111 : decode cX7_under 111 = .ok (.istore 4, 2) := by decide +kernel
theorem dX7_under_113 : decode cX7_under 113 = .ok (.iload 7, 2) := by decide +kernel
theorem dX7_under_115 : decode cX7_under 115 = .ok (.ifCond .eq 16, 3) := by decide +kernel
theorem dX7_under_118 : decode cX7_under 118 = .ok (.aload_n 0, 1) := by decide +kernel
theorem dX7_under_119 : decode cX7_under 119 = .ok (.getfield 7, 3) := by decide +kernel
theorem dX7_under_122 : decode cX7_under 122 = .ok (.bipush 102, 2) := by decide +kernel
theorem dX7_under_124 : decode cX7_under 124 = .ok (.iload 6, 2) := by decide +kernel
theorem dX7_under_126 : decode cX7_under 126 = .ok (.iadd, 1) := by decide +kernel
theorem dX7_under_127 : decode cX7_under 127 = .ok (.iaload, 1) := by decide +kernel
theorem dX7_under_128 : decode cX7_under 128 = .ok (.goto 5, 3) := by decide +kernel
theorem dX7_under_131 : decode cX7_under 131 = .ok (.iload 5, 2) := by decide +kernel
theorem dX7_under_133 : decode cX7_under 133 = .ok (.istore 5, 2) := by decide +kernel
theorem dX7_under_135 : decode cX7_under 135 = .ok (.iinc 6 1, 3) := by decide +kernel
theorem dX7_under_138 : decode cX7_under 138 = .ok (.goto (-90), 3) := by decide +kernel
theorem dX7_under_141 : decode cX7_under 141 = .ok (.iload_n 3, 1) := by decide +kernel
theorem dX7_under_142 : decode cX7_under 142 = .ok (.ifCond .ne 8, 3) := by decide +kernel
theorem dX7_under_145 : decode cX7_under 145 = .ok (.iload 4, 2) := by decide +kernel
theorem dX7_under_147 : decode cX7_under 147 = .ok (.goto 5, 3) := by decide +kernel
theorem dX7_under_150 : decode cX7_under 150 = .ok (.iload 5, 2) := by decide +kernel
theorem dX7_under_152 : decode cX7_under 152 = .ok (.ireturn, 1) := by decide +kernel
set_option maxRecDepth 20000 in
theorem ggX7_sweep_X7_isNumber : GoodIn wsX7_sweep wsX7_isNumber := goodIn_r _ [7, 8, 9, 10, 6, 11, 2, 12, 13, 14, 43, 44, 45, 46, 47, 48, 49, 50, 51, 52, 53, 54, 55, 56, 57, 58, 59, 60, 61, 62, 63, 64, 65] (by decide +kernel) (by decide +kernel)
set_option maxRecDepth 20000 in
theorem gX7_sweep_X7_isNumber : GoodIn wsX7_sweep (wsV RX7 157 RX7 yX7_isNumber wsX7_isNumber) := goodIn_app (goodIn_of _ (by decide +kernel)) ggX7_sweep_X7_isNumber
set_option maxRecDepth 20000 in
theorem ggX7_sweep_X7_in : GoodIn wsX7_sweep wsX7_in := goodIn_r _ [14] (by decide +kernel) (by decide +kernel)
set_option maxRecDepth 20000 in
theorem gX7_sweep_X7_in : GoodIn wsX7_sweep (va_wsS RX7 75 yX7_in wsX7_in) := goodIn_app (goodIn_of _ (by decide +kernel)) ggX7_sweep_X7_in
set_option maxRecDepth 20000 in
theorem ggX7_sweep_X7_copyRow : GoodIn wsX7_sweep wsX7_copyRow := goodIn_r _ [18, 2, 43, 44, 45, 46, 47, 48, 49, 50, 51, 52, 53, 54, 55, 56, 57, 58, 59, 60, 61, 62, 63, 64, 65] (by decide +kernel) (by decide +kernel)
set_option maxRecDepth 20000 in
theorem gX7_sweep_X7_copyRow : GoodIn wsX7_sweep (wsV RX7 154 RX7 yX7_copyRow wsX7_copyRow) := goodIn_app (goodIn_of _ (by decide +kernel)) ggX7_sweep_X7_copyRow
set_option maxRecDepth 20000 in
theorem ggX7_sweep_X7_below : GoodIn wsX7_sweep wsX7_below := goodIn_r _ [22, 2, 43, 44, 45, 46, 47, 48, 49, 50, 51, 52, 53, 54, 55, 56, 57, 58, 59, 60, 61, 62, 63, 64, 65] (by decide +kernel) (by decide +kernel)
set_option maxRecDepth 20000 in
theorem gX7_sweep_X7_below : GoodIn wsX7_sweep (wsV RX7 46 RX7 yX7_below wsX7_below) := goodIn_app (goodIn_of _ (by decide +kernel)) ggX7_sweep_X7_below
set_option maxRecDepth 20000 in
theorem ggX7_sweep_X7_takeOut : GoodIn wsX7_sweep wsX7_takeOut := goodIn_r _ [26, 2, 27, 28, 29, 6, 30, 19, 20, 21, 22, 31, 32, 33, 34, 35, 36, 37, 38, 39, 40, 41, 42, 43, 44, 45, 46, 47, 48, 49, 50, 51, 52, 53, 54, 55, 56, 57, 58, 59, 60, 61, 62, 63, 64, 65] (by decide +kernel) (by decide +kernel)
set_option maxRecDepth 20000 in
theorem gX7_sweep_X7_takeOut : GoodIn wsX7_sweep (wsV RX7 111 RX7 yX7_takeOut wsX7_takeOut) := goodIn_app (goodIn_of _ (by decide +kernel)) ggX7_sweep_X7_takeOut
theorem dX7_sweep_0 : decode cX7_sweep 0 = .ok (.aload_n 0, 1) := by decide +kernel
theorem dX7_sweep_1 : decode cX7_sweep 1 = .ok (.iload_n 1, 1) := by decide +kernel
theorem dX7_sweep_2 : decode cX7_sweep 2 = .ok (.invokevirtual 157, 3) := by decide +kernel
theorem dX7_sweep_5 : decode cX7_sweep 5 = .ok (.ifCond .eq 28, 3) := by decide +kernel
theorem dX7_sweep_8 : decode cX7_sweep 8 = .ok (.aload_n 0, 1) := by decide +kernel
theorem dX7_sweep_9 : decode cX7_sweep 9 = .ok (.iload_n 2, 1) := by decide +kernel
theorem dX7_sweep_10 : decode cX7_sweep 10 = .ok (.invokevirtual 157, 3) := by decide +kernel
theorem dX7_sweep_13 : decode cX7_sweep 13 = .ok (.ifCond .eq 20, 3) := by decide +kernel
theorem dX7_sweep_16 : decode cX7_sweep 16 = .ok (.iload_n 1, 1) := by decide +kernel
theorem dX7_sweep_17 : decode cX7_sweep 17 = .ok (.iload_n 2, 1) := by decide +kernel
theorem dX7_sweep_18 : decode cX7_sweep 18 = .ok (.if_icmp .gt 15, 3) := by decide +kernel
theorem dX7_sweep_21 : decode cX7_sweep 21 = .ok (.iload_n 3, 1) := by decide +kernel
theorem dX7_sweep_22 : decode cX7_sweep 22 = .ok (.i2l, 1) := by decide +kernel
theorem dX7_sweep_23 : decode cX7_sweep 23 = .ok (.lconst 0, 1) := by decide +kernel
theorem dX7_sweep_24 : decode cX7_sweep 24 = .ok (.ldc2_w 193, 3) := by decide +kernel
theorem dX7_sweep_27 : decode cX7_sweep 27 = .ok (.invokestatic 75, 3) := by decide +kernel
theorem dX7_sweep_30 : decode cX7_sweep 30 = .ok (.ifCond .ne 6, 3) := by decide +kernel
theorem dX7_sweep_33 : decode cX7_sweep 33 = .ok (.bipush (-3), 2) := by decide +kernel
theorem dX7_sweep_35 : decode cX7_sweep 35 = .ok (.ireturn, 1) := by decide +kernel
theorem dX7_sweep_36 : decode cX7_sweep 36 = .ok (.aload_n 0, 1) := by decide +kernel
theorem dX7_sweep_37 : decode cX7_sweep 37 = .ok (.iconst 0, 1) := by decide +kernel
theorem dX7_sweep_38 : decode cX7_sweep 38 = .ok (.sipush 1672, 3) := by decide +kernel
theorem dX7_sweep_41 : decode cX7_sweep 41 = .ok (.invokevirtual 154, 3) := by decide +kernel
theorem dX7_sweep_44 : decode cX7_sweep 44 = .ok (.aload_n 0, 1) := by decide +kernel
theorem dX7_sweep_45 : decode cX7_sweep 45 = .ok (.sipush 1672, 3) := by decide +kernel
theorem dX7_sweep_48 : decode cX7_sweep 48 = .ok (.iload_n 1, 1) := by decide +kernel
theorem dX7_sweep_49 : decode cX7_sweep 49 = .ok (.invokevirtual 46, 3) := by decide +kernel
theorem dX7_sweep_52 : decode cX7_sweep 52 = .ok (.istore 4, 2) := by decide +kernel
theorem dX7_sweep_54 : decode cX7_sweep 54 = .ok (.iload 4, 2) := by decide +kernel
theorem dX7_sweep_56 : decode cX7_sweep 56 = .ok (.aload_n 0, 1) := by decide +kernel
theorem dX7_sweep_57 : decode cX7_sweep 57 = .ok (.getfield 7, 3) := by decide +kernel
theorem dX7_sweep_60 : decode cX7_sweep 60 = .ok (.sipush 1674, 3) := by decide +kernel
theorem dX7_sweep_63 : decode cX7_sweep 63 = .ok (.iaload, 1) := by decide +kernel
theorem dX7_sweep_64 : decode cX7_sweep 64 = .ok (.if_icmp .ge 39, 3) := by decide +kernel
theorem dX7_sweep_67 : decode cX7_sweep 67 = .ok (.aload_n 0, 1) := by decide +kernel
theorem dX7_sweep_68 : decode cX7_sweep 68 = .ok (.getfield 7, 3) := by decide +kernel
theorem dX7_sweep_71 : decode cX7_sweep 71 = .ok (.sipush 1678, 3) := by decide +kernel
theorem dX7_sweep_74 : decode cX7_sweep 74 = .ok (.iload 4, 2) := by decide +kernel
theorem dX7_sweep_76 : decode cX7_sweep 76 = .ok (.iadd, 1) := by decide +kernel
theorem dX7_sweep_77 : decode cX7_sweep 77 = .ok (.iaload, 1) := by decide +kernel
theorem dX7_sweep_78 : decode cX7_sweep 78 = .ok (.iload_n 2, 1) := by decide +kernel
theorem dX7_sweep_79 : decode cX7_sweep 79 = .ok (.if_icmp .gt 24, 3) := by decide +kernel
theorem dX7_sweep_82 : decode cX7_sweep 82 = .ok (.aload_n 0, 1) := by decide +kernel
theorem dX7_sweep_83 : decode cX7_sweep 83 = .ok (.sipush 1672, 3) := by decide +kernel
theorem dX7_sweep_86 : decode cX7_sweep 86 = .ok (.aload_n 0, 1) := by decide +kernel
theorem dX7_sweep_87 : decode cX7_sweep 87 = .ok (.getfield 7, 3) := by decide +kernel
theorem dX7_sweep_90 : decode cX7_sweep 90 = .ok (.sipush 1678, 3) := by decide +kernel
theorem dX7_sweep_93 : decode cX7_sweep 93 = .ok (.iload 4, 2) := by decide +kernel
theorem dX7_sweep_95 : decode cX7_sweep 95 = .ok (.iadd, 1) := by decide +kernel
theorem dX7_sweep_96 : decode cX7_sweep 96 = .ok (.iaload, 1) := by decide +kernel
theorem dX7_sweep_97 : decode cX7_sweep 97 = .ok (.invokevirtual 111, 3) := by decide +kernel
theorem dX7_sweep_100 : decode cX7_sweep 100 = .ok (.goto (-46), 3) := by decide +kernel
theorem dX7_sweep_103 : decode cX7_sweep 103 = .ok (.iload_n 3, 1) := by decide +kernel
theorem dX7_sweep_104 : decode cX7_sweep 104 = .ok (.ifCond .ne 14, 3) := by decide +kernel
theorem dX7_sweep_107 : decode cX7_sweep 107 = .ok (.aload_n 0, 1) := by decide +kernel
theorem dX7_sweep_108 : decode cX7_sweep 108 = .ok (.getfield 7, 3) := by decide +kernel
theorem dX7_sweep_111 : decode cX7_sweep 111 = .ok (.sipush 1675, 3) := by decide +kernel
theorem dX7_sweep_114 : decode cX7_sweep 114 = .ok (.iaload, 1) := by decide +kernel
theorem dX7_sweep_115 : decode cX7_sweep 115 = .ok (.goto 41, 3) := by decide +kernel
theorem dX7_sweep_118 : decode cX7_sweep 118 = .ok (.iload_n 3, 1) := by decide +kernel
theorem dX7_sweep_119 : decode cX7_sweep 119 = .ok (.iconst 1, 1) := by decide +kernel
theorem dX7_sweep_120 : decode cX7_sweep 120 = .ok (.if_icmp .ne 21, 3) := by decide +kernel
theorem dX7_sweep_123 : decode cX7_sweep 123 = .ok (.aload_n 0, 1) := by decide +kernel
theorem dX7_sweep_124 : decode cX7_sweep 124 = .ok (.getfield 7, 3) := by decide +kernel
theorem dX7_sweep_127 : decode cX7_sweep 127 = .ok (.sipush 1676, 3) := by decide +kernel
theorem dX7_sweep_130 : decode cX7_sweep 130 = .ok (.iaload, 1) := by decide +kernel
theorem dX7_sweep_131 : decode cX7_sweep 131 = .ok (.aload_n 0, 1) := by decide +kernel
theorem dX7_sweep_132 : decode cX7_sweep 132 = .ok (.getfield 7, 3) := by decide +kernel
theorem dX7_sweep_135 : decode cX7_sweep 135 = .ok (.iconst 4, 1) := by decide +kernel
theorem dX7_sweep_136 : decode cX7_sweep 136 = .ok (.iaload, 1) := by decide +kernel
theorem dX7_sweep_137 : decode cX7_sweep 137 = .ok (.isub, 1) := by decide +kernel
theorem dX7_sweep_138 : decode cX7_sweep 138 = .ok (.goto 18, 3) := by decide +kernel
theorem dX7_sweep_141 : decode cX7_sweep 141 = .ok (.aload_n 0, 1) := by decide +kernel
theorem dX7_sweep_142 : decode cX7_sweep 142 = .ok (.getfield 7, 3) := by decide +kernel
theorem dX7_sweep_145 : decode cX7_sweep 145 = .ok (.sipush 1677, 3) := by decide +kernel
theorem dX7_sweep_148 : decode cX7_sweep 148 = .ok (.iaload, 1) := by decide +kernel
theorem dX7_sweep_149 : decode cX7_sweep 149 = .ok (.aload_n 0, 1) := by decide +kernel
theorem dX7_sweep_150 : decode cX7_sweep 150 = .ok (.getfield 7, 3) := by decide +kernel
theorem dX7_sweep_153 : decode cX7_sweep 153 = .ok (.iconst 5, 1) := by decide +kernel
theorem dX7_sweep_154 : decode cX7_sweep 154 = .ok (.iaload, 1) := by decide +kernel
theorem dX7_sweep_155 : decode cX7_sweep 155 = .ok (.isub, 1) := by decide +kernel
theorem dX7_sweep_156 : decode cX7_sweep 156 = .ok (.ireturn, 1) := by decide +kernel
set_option maxRecDepth 20000 in
theorem ggX7_flood_X7_isNumber : GoodIn wsX7_flood wsX7_isNumber := goodIn_r _ [9, 10, 11, 12, 8, 13, 4, 14, 15, 16, 57, 58, 59, 60, 61, 62, 63, 64, 65, 66, 67, 68, 69, 70, 71, 72, 73, 74, 75, 76, 77, 78, 79] (by decide +kernel) (by decide +kernel)
set_option maxRecDepth 20000 in
theorem gX7_flood_X7_isNumber : GoodIn wsX7_flood (wsV RX7 157 RX7 yX7_isNumber wsX7_isNumber) := goodIn_app (goodIn_of _ (by decide +kernel)) ggX7_flood_X7_isNumber
set_option maxRecDepth 20000 in
theorem ggX7_flood_X7_in : GoodIn wsX7_flood wsX7_in := goodIn_r _ [16] (by decide +kernel) (by decide +kernel)
set_option maxRecDepth 20000 in
theorem gX7_flood_X7_in : GoodIn wsX7_flood (va_wsS RX7 75 yX7_in wsX7_in) := goodIn_app (goodIn_of _ (by decide +kernel)) ggX7_flood_X7_in
set_option maxRecDepth 20000 in
theorem ggX7_flood_X7_copyRow : GoodIn wsX7_flood wsX7_copyRow := goodIn_r _ [20, 4, 57, 58, 59, 60, 61, 62, 63, 64, 65, 66, 67, 68, 69, 70, 71, 72, 73, 74, 75, 76, 77, 78, 79] (by decide +kernel) (by decide +kernel)
set_option maxRecDepth 20000 in
theorem gX7_flood_X7_copyRow : GoodIn wsX7_flood (wsV RX7 154 RX7 yX7_copyRow wsX7_copyRow) := goodIn_app (goodIn_of _ (by decide +kernel)) ggX7_flood_X7_copyRow
set_option maxRecDepth 20000 in
theorem ggX7_flood_X7_fill : GoodIn wsX7_flood wsX7_fill := goodIn_r _ [24, 4, 25, 26, 27, 8, 28, 29, 30, 31, 32, 33, 34, 35, 36, 37, 38, 39, 40, 41, 42, 43, 44, 45, 46, 47, 48, 49, 50, 51, 52, 53, 54, 55, 56, 57, 58, 59, 60, 61, 62, 63, 64, 65, 66, 67, 68, 69, 70, 71, 72, 73, 74, 75, 76, 77, 78, 79] (by decide +kernel) (by decide +kernel)
set_option maxRecDepth 20000 in
theorem gX7_flood_X7_fill : GoodIn wsX7_flood (wsV RX7 114 RX7 yX7_fill wsX7_fill) := goodIn_app (goodIn_of _ (by decide +kernel)) ggX7_flood_X7_fill
theorem dX7_flood_0 : decode cX7_flood 0 = .ok (.aload_n 0, 1) := by decide +kernel
theorem dX7_flood_1 : decode cX7_flood 1 = .ok (.iload_n 1, 1) := by decide +kernel
theorem dX7_flood_2 : decode cX7_flood 2 = .ok (.invokevirtual 157, 3) := by decide +kernel
theorem dX7_flood_5 : decode cX7_flood 5 = .ok (.ifCond .eq 40, 3) := by decide +kernel
theorem dX7_flood_8 : decode cX7_flood 8 = .ok (.iload_n 2, 1) := by decide +kernel
theorem dX7_flood_9 : decode cX7_flood 9 = .ok (.i2l, 1) := by decide +kernel
theorem dX7_flood_10 : decode cX7_flood 10 = .ok (.lconst 1, 1) := by decide +kernel
theorem dX7_flood_11 : decode cX7_flood 11 = .ok (.ldc2_w 195, 3) := by decide +kernel
theorem dX7_flood_14 : decode cX7_flood 14 = .ok (.invokestatic 75, 3) := by decide +kernel
theorem dX7_flood_17 : decode cX7_flood 17 = .ok (.ifCond .eq 28, 3) := by decide +kernel
theorem dX7_flood_20 : decode cX7_flood 20 = .ok (.iload_n 3, 1) := by decide +kernel
theorem dX7_flood_21 : decode cX7_flood 21 = .ok (.i2l, 1) := by decide +kernel
theorem dX7_flood_22 : decode cX7_flood 22 = .ok (.lconst 1, 1) := by decide +kernel
theorem dX7_flood_23 : decode cX7_flood 23 = .ok (.ldc2_w 197, 3) := by decide +kernel
theorem dX7_flood_26 : decode cX7_flood 26 = .ok (.invokestatic 75, 3) := by decide +kernel
theorem dX7_flood_29 : decode cX7_flood 29 = .ok (.ifCond .eq 16, 3) := by decide +kernel
theorem dX7_flood_32 : decode cX7_flood 32 = .ok (.iload 4, 2) := by decide +kernel
theorem dX7_flood_34 : decode cX7_flood 34 = .ok (.i2l, 1) := by decide +kernel
theorem dX7_flood_35 : decode cX7_flood 35 = .ok (.lconst 0, 1) := by decide +kernel
theorem dX7_flood_36 : decode cX7_flood 36 = .ok (.ldc2_w 193, 3) := by decide +kernel
theorem dX7_flood_39 : decode cX7_flood 39 = .ok (.invokestatic 75, 3) := by decide +kernel
theorem dX7_flood_42 : decode cX7_flood 42 = .ok (.ifCond .ne 6, 3) := by decide +kernel
theorem dX7_flood_45 : decode cX7_flood 45 = .ok (.bipush (-3), 2) := by decide +kernel
theorem dX7_flood_47 : decode cX7_flood 47 = .ok (.ireturn, 1) := by decide +kernel
theorem dX7_flood_48 : decode cX7_flood 48 = .ok (.aload_n 0, 1) := by decide +kernel
theorem dX7_flood_49 : decode cX7_flood 49 = .ok (.iconst 0, 1) := by decide +kernel
theorem dX7_flood_50 : decode cX7_flood 50 = .ok (.sipush 1672, 3) := by decide +kernel
theorem dX7_flood_53 : decode cX7_flood 53 = .ok (.invokevirtual 154, 3) := by decide +kernel
theorem dX7_flood_56 : decode cX7_flood 56 = .ok (.aload_n 0, 1) := by decide +kernel
theorem dX7_flood_57 : decode cX7_flood 57 = .ok (.sipush 1672, 3) := by decide +kernel
theorem dX7_flood_60 : decode cX7_flood 60 = .ok (.iload_n 1, 1) := by decide +kernel
theorem dX7_flood_61 : decode cX7_flood 61 = .ok (.iload_n 2, 1) := by decide +kernel
theorem dX7_flood_62 : decode cX7_flood 62 = .ok (.iload_n 3, 1) := by decide +kernel
theorem dX7_flood_63 : decode cX7_flood 63 = .ok (.invokevirtual 114, 3) := by decide +kernel
theorem dX7_flood_66 : decode cX7_flood 66 = .ok (.iload 4, 2) := by decide +kernel
theorem dX7_flood_68 : decode cX7_flood 68 = .ok (.ifCond .ne 14, 3) := by decide +kernel
theorem dX7_flood_71 : decode cX7_flood 71 = .ok (.aload_n 0, 1) := by decide +kernel
theorem dX7_flood_72 : decode cX7_flood 72 = .ok (.getfield 7, 3) := by decide +kernel
theorem dX7_flood_75 : decode cX7_flood 75 = .ok (.sipush 1675, 3) := by decide +kernel
theorem dX7_flood_78 : decode cX7_flood 78 = .ok (.iaload, 1) := by decide +kernel
theorem dX7_flood_79 : decode cX7_flood 79 = .ok (.goto 35, 3) := by decide +kernel
theorem dX7_flood_82 : decode cX7_flood 82 = .ok (.iload 4, 2) := by decide +kernel
theorem dX7_flood_84 : decode cX7_flood 84 = .ok (.iconst 1, 1) := by decide +kernel
theorem dX7_flood_85 : decode cX7_flood 85 = .ok (.if_icmp .ne 21, 3) := by decide +kernel
theorem dX7_flood_88 : decode cX7_flood 88 = .ok (.aload_n 0, 1) := by decide +kernel
theorem dX7_flood_89 : decode cX7_flood 89 = .ok (.getfield 7, 3) := by decide +kernel
theorem dX7_flood_92 : decode cX7_flood 92 = .ok (.sipush 1676, 3) := by decide +kernel
theorem dX7_flood_95 : decode cX7_flood 95 = .ok (.iaload, 1) := by decide +kernel
theorem dX7_flood_96 : decode cX7_flood 96 = .ok (.aload_n 0, 1) := by decide +kernel
theorem dX7_flood_97 : decode cX7_flood 97 = .ok (.getfield 7, 3) := by decide +kernel
theorem dX7_flood_100 : decode cX7_flood 100 = .ok (.iconst 4, 1) := by decide +kernel
theorem dX7_flood_101 : decode cX7_flood 101 = .ok (.iaload, 1) := by decide +kernel
theorem dX7_flood_102 : decode cX7_flood 102 = .ok (.isub, 1) := by decide +kernel
theorem dX7_flood_103 : decode cX7_flood 103 = .ok (.goto 11, 3) := by decide +kernel
theorem dX7_flood_106 : decode cX7_flood 106 = .ok (.aload_n 0, 1) := by decide +kernel
theorem dX7_flood_107 : decode cX7_flood 107 = .ok (.getfield 7, 3) := by decide +kernel
theorem dX7_flood_110 : decode cX7_flood 110 = .ok (.sipush 1674, 3) := by decide +kernel
theorem dX7_flood_113 : decode cX7_flood 113 = .ok (.iaload, 1) := by decide +kernel
theorem dX7_flood_114 : decode cX7_flood 114 = .ok (.ireturn, 1) := by decide +kernel
set_option maxRecDepth 20000 in
theorem ggX7_costOf_X7_seek : GoodIn wsX7_costOf wsX7_seek := goodIn_r _ [8, 9, 1, 3, 10, 2, 11, 12, 13, 7, 14, 15, 16, 17, 18, 19, 20, 21, 22, 23, 24, 25, 26, 27, 28, 29, 30, 31, 32, 33, 34, 35, 36, 37, 38, 39, 40, 41, 42, 43, 44, 45, 46, 47, 48, 49, 50, 51, 52, 53, 54, 55, 56, 57] (by decide +kernel) (by decide +kernel)
set_option maxRecDepth 20000 in
theorem gX7_costOf_X7_seek : GoodIn wsX7_costOf (wsV RX7 183 RX7 yX7_seek wsX7_seek) := goodIn_app (goodIn_of _ (by decide +kernel)) ggX7_costOf_X7_seek
theorem dX7_costOf_0 : decode cX7_costOf 0 = .ok (.aload_n 0, 1) := by decide +kernel
theorem dX7_costOf_1 : decode cX7_costOf 1 = .ok (.iload_n 1, 1) := by decide +kernel
theorem dX7_costOf_2 : decode cX7_costOf 2 = .ok (.invokevirtual 183, 3) := by decide +kernel
theorem dX7_costOf_5 : decode cX7_costOf 5 = .ok (.aload_n 0, 1) := by decide +kernel
theorem dX7_costOf_6 : decode cX7_costOf 6 = .ok (.getfield 166, 3) := by decide +kernel
theorem dX7_costOf_9 : decode cX7_costOf 9 = .ok (.aload_n 0, 1) := by decide +kernel
theorem dX7_costOf_10 : decode cX7_costOf 10 = .ok (.getfield 178, 3) := by decide +kernel
theorem dX7_costOf_13 : decode cX7_costOf 13 = .ok (.iadd, 1) := by decide +kernel
theorem dX7_costOf_14 : decode cX7_costOf 14 = .ok (.aload_n 0, 1) := by decide +kernel
theorem dX7_costOf_15 : decode cX7_costOf 15 = .ok (.getfield 169, 3) := by decide +kernel
theorem dX7_costOf_18 : decode cX7_costOf 18 = .ok (.iadd, 1) := by decide +kernel
theorem dX7_costOf_19 : decode cX7_costOf 19 = .ok (.ireturn, 1) := by decide +kernel
set_option maxRecDepth 20000 in
theorem ggX7_dearest_X7_in : GoodIn wsX7_dearest wsX7_in := goodIn_r _ [5] (by decide +kernel) (by decide +kernel)
set_option maxRecDepth 20000 in
theorem gX7_dearest_X7_in : GoodIn wsX7_dearest (va_wsS RX7 75 yX7_in wsX7_in) := goodIn_app (goodIn_of _ (by decide +kernel)) ggX7_dearest_X7_in
set_option maxRecDepth 20000 in
theorem ggX7_dearest_X7_costOf : GoodIn wsX7_dearest wsX7_costOf := goodIn_r _ [9, 10, 11, 12, 13, 14, 15, 4, 16, 1, 17, 18, 19, 20, 21, 22, 23, 24, 25, 26, 27, 28, 29, 30, 31, 32, 33, 34, 35, 36, 37, 38, 39, 40, 41, 42, 43, 44, 45, 46, 47, 48, 49, 50, 51, 52, 53, 54, 55, 56, 57, 58, 59, 60, 61, 62, 63, 64] (by decide +kernel) (by decide +kernel)
set_option maxRecDepth 20000 in
theorem gX7_dearest_X7_costOf : GoodIn wsX7_dearest (wsV RX7 199 RX7 yX7_costOf wsX7_costOf) := goodIn_app (goodIn_of _ (by decide +kernel)) ggX7_dearest_X7_costOf
theorem dX7_dearest_0 : decode cX7_dearest 0 = .ok (.iload_n 1, 1) := by decide +kernel
theorem dX7_dearest_1 : decode cX7_dearest 1 = .ok (.i2l, 1) := by decide +kernel
theorem dX7_dearest_2 : decode cX7_dearest 2 = .ok (.lconst 0, 1) := by decide +kernel
theorem dX7_dearest_3 : decode cX7_dearest 3 = .ok (.lconst 1, 1) := by decide +kernel
theorem dX7_dearest_4 : decode cX7_dearest 4 = .ok (.invokestatic 75, 3) := by decide +kernel
theorem dX7_dearest_7 : decode cX7_dearest 7 = .ok (.ifCond .ne 6, 3) := by decide +kernel
theorem dX7_dearest_10 : decode cX7_dearest 10 = .ok (.bipush (-3), 2) := by decide +kernel
theorem dX7_dearest_12 : decode cX7_dearest 12 = .ok (.ireturn, 1) := by decide +kernel
theorem dX7_dearest_13 : decode cX7_dearest 13 = .ok (.iconst (-1), 1) := by decide +kernel
theorem dX7_dearest_14 : decode cX7_dearest 14 = .ok (.istore_n 2, 1) := by decide +kernel
theorem dX7_dearest_15 : decode cX7_dearest 15 = .ok (.iconst (-1), 1) := by decide +kernel
theorem dX7_dearest_16 : decode cX7_dearest 16 = .ok (.istore_n 3, 1) := by decide +kernel
theorem dX7_dearest_17 : decode cX7_dearest 17 = .ok (.iconst 0, 1) := by decide +kernel
theorem dX7_dearest_18 : decode cX7_dearest 18 = .ok (.istore 4, 2) := by decide +kernel
theorem dX7_dearest_20 : decode cX7_dearest 20 = .ok (.iload 4, 2) := by decide +kernel
theorem dX7_dearest_22 : decode cX7_dearest 22 = .ok (.aload_n 0, 1) := by decide +kernel
theorem dX7_dearest_23 : decode cX7_dearest 23 = .ok (.getfield 7, 3) := by decide +kernel
theorem dX7_dearest_26 : decode cX7_dearest 26 = .ok (.iconst 2, 1) := by decide +kernel
theorem dX7_dearest_27 : decode cX7_dearest 27 = .ok (.iaload, 1) := by decide +kernel
theorem dX7_dearest_28 : decode cX7_dearest 28 = .ok (.if_icmp .ge 59, 3) := by decide +kernel
theorem dX7_dearest_31 : decode cX7_dearest 31 = .ok (.aload_n 0, 1) := by decide +kernel
theorem dX7_dearest_32 : decode cX7_dearest 32 = .ok (.aload_n 0, 1) := by decide +kernel
theorem dX7_dearest_33 : decode cX7_dearest 33 = .ok (.getfield 7, 3) := by decide +kernel
theorem dX7_dearest_36 : decode cX7_dearest 36 = .ok (.bipush 6, 2) := by decide +kernel
theorem dX7_dearest_38 : decode cX7_dearest 38 = .ok (.iload 4, 2) := by decide +kernel
theorem dX7_dearest_40 : decode cX7_dearest 40 = .ok (.iadd, 1) := by decide +kernel
theorem dX7_dearest_41 : decode cX7_dearest 41 = .ok (.iaload, 1) := by decide +kernel
theorem dX7_dearest_42 : decode cX7_dearest 42 = .ok (.invokevirtual 199, 3) := by decide +kernel
theorem dX7_dearest_45 : decode cX7_dearest 45 = .ok (.istore 5, 2) := by decide +kernel
theorem dX7_dearest_47 : decode cX7_dearest 47 = .ok (.iload 5, 2) := by decide +kernel
theorem dX7_dearest_49 : decode cX7_dearest 49 = .ok (.iload_n 2, 1) := by decide +kernel
theorem dX7_dearest_50 : decode cX7_dearest 50 = .ok (.if_icmp .le 16, 3) := by decide +kernel
theorem dX7_dearest_53 : decode cX7_dearest 53 = .ok (.aload_n 0, 1) := by decide +kernel
theorem dX7_dearest_54 : decode cX7_dearest 54 = .ok (.getfield 7, 3) := by decide +kernel
theorem dX7_dearest_57 : decode cX7_dearest 57 = .ok (.bipush 6, 2) := by decide +kernel
theorem dX7_dearest_59 : decode cX7_dearest 59 = .ok (.iload 4, 2) := by decide +kernel
theorem dX7_dearest_61 : decode cX7_dearest 61 = .ok (.iadd, 1) := by decide +kernel
theorem dX7_dearest_62 : decode cX7_dearest 62 = .ok (.iaload, 1) := by decide +kernel
theorem dX7_dearest_63 : decode cX7_dearest 63 = .ok (.goto 4, 3) := by decide +kernel
theorem dX7_dearest_66 : decode cX7_dearest 66 = .ok (.iload_n 3, 1) := by decide +kernel
theorem dX7_dearest_67 : decode cX7_dearest 67 = .ok (.istore_n 3, 1) := by decide +kernel
theorem dX7_dearest_68 : decode cX7_dearest 68 = .ok (.iload 5, 2) := by decide +kernel
theorem dX7_dearest_70 : decode cX7_dearest 70 = .ok (.iload_n 2, 1) := by decide +kernel
theorem dX7_dearest_71 : decode cX7_dearest 71 = .ok (.if_icmp .le 8, 3) := by decide +kernel
theorem dX7_dearest_74 : decode cX7_dearest 74 = .ok (.iload 5, 2) := by decide +kernel
theorem dX7_dearest_76 : decode cX7_dearest 76 = .ok (.goto 4, 3) := by decide +kernel
theorem dX7_dearest_79 : decode cX7_dearest 79 = .ok (.iload_n 2, 1) := by decide +kernel
theorem dX7_dearest_80 : decode cX7_dearest 80 = .ok (.istore_n 2, 1) := by decide +kernel
theorem dX7_dearest_81 : decode cX7_dearest 81 = .ok (.iinc 4 1, 3) := by decide +kernel
theorem dX7_dearest_84 : decode cX7_dearest 84 = .ok (.goto (-64), 3) := by decide +kernel
theorem dX7_dearest_87 : decode cX7_dearest 87 = .ok (.iload_n 1, 1) := by decide +kernel
theorem dX7_dearest_88 : decode cX7_dearest 88 = .ok (.ifCond .ne 7, 3) := by decide +kernel
theorem dX7_dearest_91 : decode cX7_dearest 91 = .ok (.iload_n 3, 1) := by decide +kernel
theorem dX7_dearest_92 : decode cX7_dearest 92 = .ok (.goto 4, 3) := by decide +kernel
theorem dX7_dearest_95 : decode cX7_dearest 95 = .ok (.iload_n 2, 1) := by decide +kernel
theorem dX7_dearest_96 : decode cX7_dearest 96 = .ok (.ireturn, 1) := by decide +kernel
set_option maxRecDepth 20000 in
theorem ggX7_mean_X7_in : GoodIn wsX7_mean wsX7_in := goodIn_r _ [5] (by decide +kernel) (by decide +kernel)
set_option maxRecDepth 20000 in
theorem gX7_mean_X7_in : GoodIn wsX7_mean (va_wsS RX7 75 yX7_in wsX7_in) := goodIn_app (goodIn_of _ (by decide +kernel)) ggX7_mean_X7_in
set_option maxRecDepth 20000 in
theorem ggX7_mean_X7_costOf : GoodIn wsX7_mean wsX7_costOf := goodIn_r _ [9, 10, 11, 12, 13, 14, 15, 4, 16, 1, 17, 18, 19, 20, 21, 22, 23, 24, 25, 26, 27, 28, 29, 30, 31, 32, 33, 34, 35, 36, 37, 38, 39, 40, 41, 42, 43, 44, 45, 46, 47, 48, 49, 50, 51, 52, 53, 54, 55, 56, 57, 58, 59, 60, 61, 62, 63, 64] (by decide +kernel) (by decide +kernel)
set_option maxRecDepth 20000 in
theorem gX7_mean_X7_costOf : GoodIn wsX7_mean (wsV RX7 199 RX7 yX7_costOf wsX7_costOf) := goodIn_app (goodIn_of _ (by decide +kernel)) ggX7_mean_X7_costOf
theorem dX7_mean_0 : decode cX7_mean 0 = .ok (.iload_n 1, 1) := by decide +kernel
theorem dX7_mean_1 : decode cX7_mean 1 = .ok (.i2l, 1) := by decide +kernel
theorem dX7_mean_2 : decode cX7_mean 2 = .ok (.lconst 0, 1) := by decide +kernel
theorem dX7_mean_3 : decode cX7_mean 3 = .ok (.lconst 1, 1) := by decide +kernel
theorem dX7_mean_4 : decode cX7_mean 4 = .ok (.invokestatic 75, 3) := by decide +kernel
theorem dX7_mean_7 : decode cX7_mean 7 = .ok (.ifCond .ne 6, 3) := by decide +kernel
theorem dX7_mean_10 : decode cX7_mean 10 = .ok (.bipush (-3), 2) := by decide +kernel
theorem dX7_mean_12 : decode cX7_mean 12 = .ok (.ireturn, 1) := by decide +kernel
theorem dX7_mean_13 : decode cX7_mean 13 = .ok (.aload_n 0, 1) := by decide +kernel
theorem dX7_mean_14 : decode cX7_mean 14 = .ok (.getfield 7, 3) := by decide +kernel
theorem dX7_mean_17 : decode cX7_mean 17 = .ok (.iconst 2, 1) := by decide +kernel
theorem dX7_mean_18 : decode cX7_mean 18 = .ok (.iaload, 1) := by decide +kernel
theorem dX7_mean_19 : decode cX7_mean 19 = .ok (.ifCond .ne 6, 3) := by decide +kernel
theorem dX7_mean_22 : decode cX7_mean 22 = .ok (.bipush (-4), 2) := by decide +kernel
theorem dX7_mean_24 : decode cX7_mean 24 = .ok (.ireturn, 1) := by decide +kernel
theorem dX7_mean_25 : decode cX7_mean 25 = .ok (.iconst 0, 1) := by decide +kernel
theorem dX7_mean_26 : decode cX7_mean 26 = .ok (.istore_n 2, 1) := by decide +kernel
theorem dX7_mean_27 : decode cX7_mean 27 = .ok (.iconst 0, 1) := by decide +kernel
theorem dX7_mean_28 : decode cX7_mean 28 = .ok (.istore_n 3, 1) := by decide +kernel
theorem dX7_mean_29 : decode cX7_mean 29 = .ok (.iload_n 3, 1) := by decide +kernel
theorem dX7_mean_30 : decode cX7_mean 30 = .ok (.aload_n 0, 1) := by decide +kernel
theorem dX7_mean_31 : decode cX7_mean 31 = .ok (.getfield 7, 3) := by decide +kernel
theorem dX7_mean_34 : decode cX7_mean 34 = .ok (.iconst 2, 1) := by decide +kernel
theorem dX7_mean_35 : decode cX7_mean 35 = .ok (.iaload, 1) := by decide +kernel
theorem dX7_mean_36 : decode cX7_mean 36 = .ok (.if_icmp .ge 25, 3) := by decide +kernel
theorem dX7_mean_39 : decode cX7_mean 39 = .ok (.iload_n 2, 1) := by decide +kernel
theorem dX7_mean_40 : decode cX7_mean 40 = .ok (.aload_n 0, 1) := by decide +kernel
theorem dX7_mean_41 : decode cX7_mean 41 = .ok (.aload_n 0, 1) := by decide +kernel
theorem dX7_mean_42 : decode cX7_mean 42 = .ok (.getfield 7, 3) := by decide +kernel
theorem dX7_mean_45 : decode cX7_mean 45 = .ok (.bipush 6, 2) := by decide +kernel
theorem dX7_mean_47 : decode cX7_mean 47 = .ok (.iload_n 3, 1) := by decide +kernel
theorem dX7_mean_48 : decode cX7_mean 48 = .ok (.iadd, 1) := by decide +kernel
theorem dX7_mean_49 : decode cX7_mean 49 = .ok (.iaload, 1) := by decide +kernel
theorem dX7_mean_50 : decode cX7_mean 50 = .ok (.invokevirtual 199, 3) := by decide +kernel
theorem dX7_mean_53 : decode cX7_mean 53 = .ok (.iadd, 1) := by decide +kernel
theorem dX7_mean_54 : decode cX7_mean 54 = .ok (.istore_n 2, 1) := by decide +kernel
theorem dX7_mean_55 : decode cX7_mean 55 = .ok (.iinc 3 1, 3) := by decide +kernel
theorem dX7_mean_58 : decode cX7_mean 58 = .ok (.goto (-29), 3) := by decide +kernel
theorem dX7_mean_61 : decode cX7_mean 61 = .ok (.iload_n 2, 1) := by decide +kernel
theorem dX7_mean_62 : decode cX7_mean 62 = .ok (.istore_n 3, 1) := by decide +kernel
theorem dX7_mean_63 : decode cX7_mean 63 = .ok (.aload_n 0, 1) := by decide +kernel
theorem dX7_mean_64 : decode cX7_mean 64 = .ok (.getfield 7, 3) := by decide +kernel
theorem dX7_mean_67 : decode cX7_mean 67 = .ok (.iconst 2, 1) := by decide +kernel
theorem dX7_mean_68 : decode cX7_mean 68 = .ok (.iaload, 1) := by decide +kernel
theorem dX7_mean_69 : decode cX7_mean 69 = .ok (.istore 4, 2) := by decide +kernel
theorem dX7_mean_71 : decode cX7_mean 71 = .ok (.iload 4, 2) := by decide +kernel
theorem dX7_mean_73 : decode cX7_mean 73 = .ok (.ifCond .eq 19, 3) := by decide +kernel
theorem dX7_mean_76 : decode cX7_mean 76 = .ok (.iload_n 3, 1) := by decide +kernel
theorem dX7_mean_77 : decode cX7_mean 77 = .ok (.iload 4, 2) := by decide +kernel
theorem dX7_mean_79 : decode cX7_mean 79 = .ok (.irem, 1) := by decide +kernel
theorem dX7_mean_80 : decode cX7_mean 80 = .ok (.istore 5, 2) := by decide +kernel
theorem dX7_mean_82 : decode cX7_mean 82 = .ok (.iload 4, 2) := by decide +kernel
theorem dX7_mean_84 : decode cX7_mean 84 = .ok (.istore_n 3, 1) := by decide +kernel
theorem dX7_mean_85 : decode cX7_mean 85 = .ok (.iload 5, 2) := by decide +kernel
theorem dX7_mean_87 : decode cX7_mean 87 = .ok (.istore 4, 2) := by decide +kernel
theorem dX7_mean_89 : decode cX7_mean 89 = .ok (.goto (-18), 3) := by decide +kernel
theorem dX7_mean_92 : decode cX7_mean 92 = .ok (.iload_n 1, 1) := by decide +kernel
theorem dX7_mean_93 : decode cX7_mean 93 = .ok (.ifCond .ne 9, 3) := by decide +kernel
theorem dX7_mean_96 : decode cX7_mean 96 = .ok (.iload_n 2, 1) := by decide +kernel
theorem dX7_mean_97 : decode cX7_mean 97 = .ok (.iload_n 3, 1) := by decide +kernel
theorem dX7_mean_98 : decode cX7_mean 98 = .ok (.idiv, 1) := by decide +kernel
theorem dX7_mean_99 : decode cX7_mean 99 = .ok (.goto 11, 3) := by decide +kernel
theorem dX7_mean_102 : decode cX7_mean 102 = .ok (.aload_n 0, 1) := by decide +kernel
theorem dX7_mean_103 : decode cX7_mean 103 = .ok (.getfield 7, 3) := by decide +kernel
theorem dX7_mean_106 : decode cX7_mean 106 = .ok (.iconst 2, 1) := by decide +kernel
theorem dX7_mean_107 : decode cX7_mean 107 = .ok (.iaload, 1) := by decide +kernel
theorem dX7_mean_108 : decode cX7_mean 108 = .ok (.iload_n 3, 1) := by decide +kernel
theorem dX7_mean_109 : decode cX7_mean 109 = .ok (.idiv, 1) := by decide +kernel
theorem dX7_mean_110 : decode cX7_mean 110 = .ok (.ireturn, 1) := by decide +kernel
set_option maxRecDepth 20000 in
theorem ggX7_greatestOf_X7_top : GoodIn wsX7_greatestOf wsX7_top := goodIn_r _ [6, 1, 15, 16, 17, 18, 19, 20, 21, 22, 23, 24, 25, 26, 27, 28, 29, 30, 31, 32, 33, 34, 35, 36, 37] (by decide +kernel) (by decide +kernel)
set_option maxRecDepth 20000 in
theorem gX7_greatestOf_X7_top : GoodIn wsX7_greatestOf (wsV RX7 151 RX7 yX7_top wsX7_top) := goodIn_app (goodIn_of _ (by decide +kernel)) ggX7_greatestOf_X7_top
set_option maxRecDepth 20000 in
theorem ggX7_greatestOf_X7_beginning : GoodIn wsX7_greatestOf wsX7_beginning := goodIn_r _ [10, 1, 15, 16, 17, 18, 19, 20, 21, 22, 23, 24, 25, 26, 27, 28, 29, 30, 31, 32, 33, 34, 35, 36, 37] (by decide +kernel) (by decide +kernel)
set_option maxRecDepth 20000 in
theorem gX7_greatestOf_X7_beginning : GoodIn wsX7_greatestOf (wsV RX7 163 RX7 yX7_beginning wsX7_beginning) := goodIn_app (goodIn_of _ (by decide +kernel)) ggX7_greatestOf_X7_beginning
set_option maxRecDepth 20000 in
theorem ggX7_greatestOf_X7_isBeginning : GoodIn wsX7_greatestOf wsX7_isBeginning := goodIn_r _ [14, 1, 7, 8, 9, 5, 10, 15, 16, 17, 18, 19, 20, 21, 22, 23, 24, 25, 26, 27, 28, 29, 30, 31, 32, 33, 34, 35, 36, 37] (by decide +kernel) (by decide +kernel)
set_option maxRecDepth 20000 in
theorem gX7_greatestOf_X7_isBeginning : GoodIn wsX7_greatestOf (wsV RX7 172 RX7 yX7_isBeginning wsX7_isBeginning) := goodIn_app (goodIn_of _ (by decide +kernel)) ggX7_greatestOf_X7_isBeginning
theorem dX7_greatestOf_0 : decode cX7_greatestOf 0 = .ok (.aload_n 0, 1) := by decide +kernel
theorem dX7_greatestOf_1 : decode cX7_greatestOf 1 = .ok (.getfield 7, 3) := by decide +kernel
theorem dX7_greatestOf_4 : decode cX7_greatestOf 4 = .ok (.iconst 0, 1) := by decide +kernel
theorem dX7_greatestOf_5 : decode cX7_greatestOf 5 = .ok (.iaload, 1) := by decide +kernel
theorem dX7_greatestOf_6 : decode cX7_greatestOf 6 = .ok (.iload_n 1, 1) := by decide +kernel
theorem dX7_greatestOf_7 : decode cX7_greatestOf 7 = .ok (.isub, 1) := by decide +kernel
theorem dX7_greatestOf_8 : decode cX7_greatestOf 8 = .ok (.istore_n 2, 1) := by decide +kernel
theorem dX7_greatestOf_9 : decode cX7_greatestOf 9 = .ok (.iload_n 2, 1) := by decide +kernel
theorem dX7_greatestOf_10 : decode cX7_greatestOf 10 = .ok (.ifCond .ne 8, 3) := by decide +kernel
theorem dX7_greatestOf_13 : decode cX7_greatestOf 13 = .ok (.aload_n 0, 1) := by decide +kernel
theorem dX7_greatestOf_14 : decode cX7_greatestOf 14 = .ok (.invokevirtual 151, 3) := by decide +kernel
theorem dX7_greatestOf_17 : decode cX7_greatestOf 17 = .ok (.ireturn, 1) := by decide +kernel
theorem dX7_greatestOf_18 : decode cX7_greatestOf 18 = .ok (.aload_n 0, 1) := by decide +kernel
theorem dX7_greatestOf_19 : decode cX7_greatestOf 19 = .ok (.getfield 7, 3) := by decide +kernel
theorem dX7_greatestOf_22 : decode cX7_greatestOf 22 = .ok (.iconst 3, 1) := by decide +kernel
theorem dX7_greatestOf_23 : decode cX7_greatestOf 23 = .ok (.iaload, 1) := by decide +kernel
theorem dX7_greatestOf_24 : decode cX7_greatestOf 24 = .ok (.iconst 1, 1) := by decide +kernel
theorem dX7_greatestOf_25 : decode cX7_greatestOf 25 = .ok (.isub, 1) := by decide +kernel
theorem dX7_greatestOf_26 : decode cX7_greatestOf 26 = .ok (.istore_n 3, 1) := by decide +kernel
theorem dX7_greatestOf_27 : decode cX7_greatestOf 27 = .ok (.iload_n 3, 1) := by decide +kernel
theorem dX7_greatestOf_28 : decode cX7_greatestOf 28 = .ok (.ifCond .lt 72, 3) := by decide +kernel
theorem dX7_greatestOf_31 : decode cX7_greatestOf 31 = .ok (.aload_n 0, 1) := by decide +kernel
theorem dX7_greatestOf_32 : decode cX7_greatestOf 32 = .ok (.aload_n 0, 1) := by decide +kernel
theorem dX7_greatestOf_33 : decode cX7_greatestOf 33 = .ok (.getfield 7, 3) := by decide +kernel
theorem dX7_greatestOf_36 : decode cX7_greatestOf 36 = .ok (.bipush 102, 2) := by decide +kernel
theorem dX7_greatestOf_38 : decode cX7_greatestOf 38 = .ok (.iload_n 3, 1) := by decide +kernel
theorem dX7_greatestOf_39 : decode cX7_greatestOf 39 = .ok (.iadd, 1) := by decide +kernel
theorem dX7_greatestOf_40 : decode cX7_greatestOf 40 = .ok (.iaload, 1) := by decide +kernel
theorem dX7_greatestOf_41 : decode cX7_greatestOf 41 = .ok (.iload_n 1, 1) := by decide +kernel
theorem dX7_greatestOf_42 : decode cX7_greatestOf 42 = .ok (.invokevirtual 163, 3) := by decide +kernel
theorem dX7_greatestOf_45 : decode cX7_greatestOf 45 = .ok (.istore 4, 2) := by decide +kernel
theorem dX7_greatestOf_47 : decode cX7_greatestOf 47 = .ok (.iconst 1, 1) := by decide +kernel
theorem dX7_greatestOf_48 : decode cX7_greatestOf 48 = .ok (.istore 5, 2) := by decide +kernel
theorem dX7_greatestOf_50 : decode cX7_greatestOf 50 = .ok (.iload 5, 2) := by decide +kernel
theorem dX7_greatestOf_52 : decode cX7_greatestOf 52 = .ok (.ifCond .lt 42, 3) := by decide +kernel
theorem dX7_greatestOf_55 : decode cX7_greatestOf 55 = .ok (.aload_n 0, 1) := by decide +kernel
theorem dX7_greatestOf_56 : decode cX7_greatestOf 56 = .ok (.iload_n 1, 1) := by decide +kernel
theorem dX7_greatestOf_57 : decode cX7_greatestOf 57 = .ok (.iconst 1, 1) := by decide +kernel
theorem dX7_greatestOf_58 : decode cX7_greatestOf 58 = .ok (.iadd, 1) := by decide +kernel
theorem dX7_greatestOf_59 : decode cX7_greatestOf 59 = .ok (.iconst 2, 1) := by decide +kernel
theorem dX7_greatestOf_60 : decode cX7_greatestOf 60 = .ok (.iload 4, 2) := by decide +kernel
theorem dX7_greatestOf_62 : decode cX7_greatestOf 62 = .ok (.imul, 1) := by decide +kernel
theorem dX7_greatestOf_63 : decode cX7_greatestOf 63 = .ok (.iload 5, 2) := by decide +kernel
theorem dX7_greatestOf_65 : decode cX7_greatestOf 65 = .ok (.iadd, 1) := by decide +kernel
theorem dX7_greatestOf_66 : decode cX7_greatestOf 66 = .ok (.invokevirtual 172, 3) := by decide +kernel
theorem dX7_greatestOf_69 : decode cX7_greatestOf 69 = .ok (.ifCond .ne 19, 3) := by decide +kernel
theorem dX7_greatestOf_72 : decode cX7_greatestOf 72 = .ok (.iconst 2, 1) := by decide +kernel
theorem dX7_greatestOf_73 : decode cX7_greatestOf 73 = .ok (.iload 4, 2) := by decide +kernel
theorem dX7_greatestOf_75 : decode cX7_greatestOf 75 = .ok (.imul, 1) := by decide +kernel
theorem dX7_greatestOf_76 : decode cX7_greatestOf 76 = .ok (.iload 5, 2) := by decide +kernel
theorem dX7_greatestOf_78 : decode cX7_greatestOf 78 = .ok (.iadd, 1) := by decide +kernel
theorem dX7_greatestOf_79 : decode cX7_greatestOf 79 = .ok (.iconst 1, 1) := by decide +kernel
theorem dX7_greatestOf_80 : decode cX7_greatestOf 80 = .ok (.iadd, 1) := by decide +kernel
theorem dX7_greatestOf_81 : decode cX7_greatestOf 81 = .ok (.iload_n 2, 1) := by decide +kernel
theorem dX7_greatestOf_82 : decode cX7_greatestOf 82 = .ok (.iconst 1, 1) := by decide +kernel
theorem dX7_greatestOf_83 : decode cX7_greatestOf 83 = .ok (.isub, 1) := by decide +kernel
theorem dX7_greatestOf_84 : decode cX7_greatestOf 84 = .ok (.ishl, 1) := by decide +kernel
theorem dX7_greatestOf_85 : decode cX7_greatestOf 85 = .ok (.iconst 1, 1) := by decide +kernel
theorem dX7_greatestOf_86 : decode cX7_greatestOf 86 = .ok (.isub, 1) := by decide +kernel
theorem dX7_greatestOf_87 : decode cX7_greatestOf 87 = .ok (.ireturn, 1) := by decide +kernel
theorem dX7_greatestOf_88 : decode cX7_greatestOf 88 = .ok (.iinc 5 (-1), 3) := by decide +kernel
theorem dX7_greatestOf_91 : decode cX7_greatestOf 91 = .ok (.goto (-41), 3) := by decide +kernel
theorem dX7_greatestOf_94 : decode cX7_greatestOf 94 = .ok (.iinc 3 (-1), 3) := by decide +kernel
theorem dX7_greatestOf_97 : decode cX7_greatestOf 97 = .ok (.goto (-70), 3) := by decide +kernel
theorem dX7_greatestOf_100 : decode cX7_greatestOf 100 = .ok (.iconst (-1), 1) := by decide +kernel
theorem dX7_greatestOf_101 : decode cX7_greatestOf 101 = .ok (.ireturn, 1) := by decide +kernel
set_option maxRecDepth 20000 in
theorem ggX7_spread_X7_isLevel : GoodIn wsX7_spread wsX7_isLevel := goodIn_r _ [6, 1, 7, 8, 5, 9, 30, 31, 32, 33, 34, 35, 36, 37, 38, 39, 40, 41, 42, 43, 44, 45, 46, 47, 48, 49, 50, 51, 52] (by decide +kernel) (by decide +kernel)
set_option maxRecDepth 20000 in
theorem gX7_spread_X7_isLevel : GoodIn wsX7_spread (wsV RX7 186 RX7 yX7_isLevel wsX7_isLevel) := goodIn_app (goodIn_of _ (by decide +kernel)) ggX7_spread_X7_isLevel
set_option maxRecDepth 20000 in
theorem ggX7_spread_X7_in : GoodIn wsX7_spread wsX7_in := goodIn_r _ [9] (by decide +kernel) (by decide +kernel)
set_option maxRecDepth 20000 in
theorem gX7_spread_X7_in : GoodIn wsX7_spread (va_wsS RX7 75 yX7_in wsX7_in) := goodIn_app (goodIn_of _ (by decide +kernel)) ggX7_spread_X7_in
set_option maxRecDepth 20000 in
theorem ggX7_spread_X7_levelOf : GoodIn wsX7_spread wsX7_levelOf := goodIn_r _ [13, 1, 14, 15, 16, 5, 17, 30, 31, 32, 33, 34, 35, 36, 37, 38, 39, 40, 41, 42, 43, 44, 45, 46, 47, 48, 49, 50, 51, 52] (by decide +kernel) (by decide +kernel)
set_option maxRecDepth 20000 in
theorem gX7_spread_X7_levelOf : GoodIn wsX7_spread (wsV RX7 189 RX7 yX7_levelOf wsX7_levelOf) := goodIn_app (goodIn_of _ (by decide +kernel)) ggX7_spread_X7_levelOf
set_option maxRecDepth 20000 in
theorem ggX7_spread_X7_greatestOf : GoodIn wsX7_spread wsX7_greatestOf := goodIn_r _ [21, 1, 22, 23, 24, 5, 25, 14, 15, 16, 17, 26, 27, 28, 29, 30, 31, 32, 33, 34, 35, 36, 37, 38, 39, 40, 41, 42, 43, 44, 45, 46, 47, 48, 49, 50, 51, 52] (by decide +kernel) (by decide +kernel)
set_option maxRecDepth 20000 in
theorem gX7_spread_X7_greatestOf : GoodIn wsX7_spread (wsV RX7 202 RX7 yX7_greatestOf wsX7_greatestOf) := goodIn_app (goodIn_of _ (by decide +kernel)) ggX7_spread_X7_greatestOf
theorem dX7_spread_0 : decode cX7_spread 0 = .ok (.aload_n 0, 1) := by decide +kernel
theorem dX7_spread_1 : decode cX7_spread 1 = .ok (.iload_n 1, 1) := by decide +kernel
theorem dX7_spread_2 : decode cX7_spread 2 = .ok (.invokevirtual 186, 3) := by decide +kernel
theorem dX7_spread_5 : decode cX7_spread 5 = .ok (.ifCond .ne 6, 3) := by decide +kernel
theorem dX7_spread_8 : decode cX7_spread 8 = .ok (.bipush (-2), 2) := by decide +kernel
theorem dX7_spread_10 : decode cX7_spread 10 = .ok (.ireturn, 1) := by decide +kernel
theorem dX7_spread_11 : decode cX7_spread 11 = .ok (.iload_n 2, 1) := by decide +kernel
theorem dX7_spread_12 : decode cX7_spread 12 = .ok (.i2l, 1) := by decide +kernel
theorem dX7_spread_13 : decode cX7_spread 13 = .ok (.lconst 0, 1) := by decide +kernel
theorem dX7_spread_14 : decode cX7_spread 14 = .ok (.lconst 1, 1) := by decide +kernel
theorem dX7_spread_15 : decode cX7_spread 15 = .ok (.invokestatic 75, 3) := by decide +kernel
theorem dX7_spread_18 : decode cX7_spread 18 = .ok (.ifCond .ne 6, 3) := by decide +kernel
theorem dX7_spread_21 : decode cX7_spread 21 = .ok (.bipush (-3), 2) := by decide +kernel
theorem dX7_spread_23 : decode cX7_spread 23 = .ok (.ireturn, 1) := by decide +kernel
theorem dX7_spread_24 : decode cX7_spread 24 = .ok (.aload_n 0, 1) := by decide +kernel
theorem dX7_spread_25 : decode cX7_spread 25 = .ok (.getfield 7, 3) := by decide +kernel
theorem dX7_spread_28 : decode cX7_spread 28 = .ok (.iconst 0, 1) := by decide +kernel
theorem dX7_spread_29 : decode cX7_spread 29 = .ok (.iaload, 1) := by decide +kernel
theorem dX7_spread_30 : decode cX7_spread 30 = .ok (.iload_n 1, 1) := by decide +kernel
theorem dX7_spread_31 : decode cX7_spread 31 = .ok (.isub, 1) := by decide +kernel
theorem dX7_spread_32 : decode cX7_spread 32 = .ok (.istore_n 3, 1) := by decide +kernel
theorem dX7_spread_33 : decode cX7_spread 33 = .ok (.aload_n 0, 1) := by decide +kernel
theorem dX7_spread_34 : decode cX7_spread 34 = .ok (.iload_n 1, 1) := by decide +kernel
theorem dX7_spread_35 : decode cX7_spread 35 = .ok (.invokevirtual 189, 3) := by decide +kernel
theorem dX7_spread_38 : decode cX7_spread 38 = .ok (.iload_n 3, 1) := by decide +kernel
theorem dX7_spread_39 : decode cX7_spread 39 = .ok (.ishl, 1) := by decide +kernel
theorem dX7_spread_40 : decode cX7_spread 40 = .ok (.iload_n 3, 1) := by decide +kernel
theorem dX7_spread_41 : decode cX7_spread 41 = .ok (.ifCond .ne 7, 3) := by decide +kernel
theorem dX7_spread_44 : decode cX7_spread 44 = .ok (.iconst 0, 1) := by decide +kernel
theorem dX7_spread_45 : decode cX7_spread 45 = .ok (.goto 14, 3) := by decide +kernel
theorem dX7_spread_48 : decode cX7_spread 48 = .ok (.aload_n 0, 1) := by decide +kernel
theorem dX7_spread_49 : decode cX7_spread 49 = .ok (.iload_n 1, 1) := by decide +kernel
theorem dX7_spread_50 : decode cX7_spread 50 = .ok (.iconst 1, 1) := by decide +kernel
theorem dX7_spread_51 : decode cX7_spread 51 = .ok (.iadd, 1) := by decide +kernel
theorem dX7_spread_52 : decode cX7_spread 52 = .ok (.invokevirtual 189, 3) := by decide +kernel
theorem dX7_spread_55 : decode cX7_spread 55 = .ok (.iload_n 3, 1) := by decide +kernel
theorem dX7_spread_56 : decode cX7_spread 56 = .ok (.iconst 1, 1) := by decide +kernel
theorem dX7_spread_57 : decode cX7_spread 57 = .ok (.isub, 1) := by decide +kernel
theorem dX7_spread_58 : decode cX7_spread 58 = .ok (.ishl, 1) := by decide +kernel
theorem dX7_spread_59 : decode cX7_spread 59 = .ok (.isub, 1) := by decide +kernel
theorem dX7_spread_60 : decode cX7_spread 60 = .ok (.istore 4, 2) := by decide +kernel
theorem dX7_spread_62 : decode cX7_spread 62 = .ok (.iload 4, 2) := by decide +kernel
theorem dX7_spread_64 : decode cX7_spread 64 = .ok (.ifCond .ne 7, 3) := by decide +kernel
theorem dX7_spread_67 : decode cX7_spread 67 = .ok (.iconst (-1), 1) := by decide +kernel
theorem dX7_spread_68 : decode cX7_spread 68 = .ok (.goto 17, 3) := by decide +kernel
theorem dX7_spread_71 : decode cX7_spread 71 = .ok (.iload_n 2, 1) := by decide +kernel
theorem dX7_spread_72 : decode cX7_spread 72 = .ok (.ifCond .ne 11, 3) := by decide +kernel
theorem dX7_spread_75 : decode cX7_spread 75 = .ok (.aload_n 0, 1) := by decide +kernel
theorem dX7_spread_76 : decode cX7_spread 76 = .ok (.iload_n 1, 1) := by decide +kernel
theorem dX7_spread_77 : decode cX7_spread 77 = .ok (.invokevirtual 202, 3) := by decide +kernel
theorem dX7_spread_80 : decode cX7_spread 80 = .ok (.goto 5, 3) := by decide +kernel
theorem dX7_spread_83 : decode cX7_spread 83 = .ok (.iload 4, 2) := by decide +kernel
theorem dX7_spread_85 : decode cX7_spread 85 = .ok (.ireturn, 1) := by decide +kernel
set_option maxRecDepth 20000 in
theorem ggX7_isRow_X7_in : GoodIn wsX7_isRow wsX7_in := goodIn_r _ [5] (by decide +kernel) (by decide +kernel)
set_option maxRecDepth 20000 in
theorem gX7_isRow_X7_in : GoodIn wsX7_isRow (va_wsS RX7 75 yX7_in wsX7_in) := goodIn_app (goodIn_of _ (by decide +kernel)) ggX7_isRow_X7_in
theorem dX7_isRow_0 : decode cX7_isRow 0 = .ok (.iload_n 0, 1) := by decide +kernel
theorem dX7_isRow_1 : decode cX7_isRow 1 = .ok (.i2l, 1) := by decide +kernel
theorem dX7_isRow_2 : decode cX7_isRow 2 = .ok (.lconst 0, 1) := by decide +kernel
theorem dX7_isRow_3 : decode cX7_isRow 3 = .ok (.ldc2_w 193, 3) := by decide +kernel
theorem dX7_isRow_6 : decode cX7_isRow 6 = .ok (.invokestatic 75, 3) := by decide +kernel
theorem dX7_isRow_9 : decode cX7_isRow 9 = .ok (.ireturn, 1) := by decide +kernel
set_option maxRecDepth 20000 in
theorem ggX7_row_X7_isRow : GoodIn wsX7_row wsX7_isRow := goodIn_r _ [6, 7, 8, 9, 5, 10] (by decide +kernel) (by decide +kernel)
set_option maxRecDepth 20000 in
theorem gX7_row_X7_isRow : GoodIn wsX7_row (va_wsS RX7 205 yX7_isRow wsX7_isRow) := goodIn_app (goodIn_of _ (by decide +kernel)) ggX7_row_X7_isRow
theorem dX7_row_0 : decode cX7_row 0 = .ok (.iload_n 1, 1) := by decide +kernel
theorem dX7_row_1 : decode cX7_row 1 = .ok (.invokestatic 205, 3) := by decide +kernel
theorem dX7_row_4 : decode cX7_row 4 = .ok (.ifCond .ne 6, 3) := by decide +kernel
theorem dX7_row_7 : decode cX7_row 7 = .ok (.bipush (-2), 2) := by decide +kernel
theorem dX7_row_9 : decode cX7_row 9 = .ok (.ireturn, 1) := by decide +kernel
theorem dX7_row_10 : decode cX7_row 10 = .ok (.iload_n 2, 1) := by decide +kernel
theorem dX7_row_11 : decode cX7_row 11 = .ok (.bipush 12, 2) := by decide +kernel
theorem dX7_row_13 : decode cX7_row 13 = .ok (.if_icmp .le 6, 3) := by decide +kernel
theorem dX7_row_16 : decode cX7_row 16 = .ok (.bipush (-3), 2) := by decide +kernel
theorem dX7_row_18 : decode cX7_row 18 = .ok (.ireturn, 1) := by decide +kernel
theorem dX7_row_19 : decode cX7_row 19 = .ok (.iload_n 2, 1) := by decide +kernel
theorem dX7_row_20 : decode cX7_row 20 = .ok (.ifCond .ge 6, 3) := by decide +kernel
theorem dX7_row_23 : decode cX7_row 23 = .ok (.bipush (-13), 2) := by decide +kernel
theorem dX7_row_25 : decode cX7_row 25 = .ok (.ireturn, 1) := by decide +kernel
theorem dX7_row_26 : decode cX7_row 26 = .ok (.aload_n 0, 1) := by decide +kernel
theorem dX7_row_27 : decode cX7_row 27 = .ok (.getfield 20, 3) := by decide +kernel
theorem dX7_row_30 : decode cX7_row 30 = .ok (.iload_n 1, 1) := by decide +kernel
theorem dX7_row_31 : decode cX7_row 31 = .ok (.iload_n 2, 1) := by decide +kernel
theorem dX7_row_32 : decode cX7_row 32 = .ok (.iastore, 1) := by decide +kernel
theorem dX7_row_33 : decode cX7_row 33 = .ok (.iconst 0, 1) := by decide +kernel
theorem dX7_row_34 : decode cX7_row 34 = .ok (.istore_n 3, 1) := by decide +kernel
theorem dX7_row_35 : decode cX7_row 35 = .ok (.iload_n 3, 1) := by decide +kernel
theorem dX7_row_36 : decode cX7_row 36 = .ok (.bipush 12, 2) := by decide +kernel
theorem dX7_row_38 : decode cX7_row 38 = .ok (.if_icmp .ge 21, 3) := by decide +kernel
theorem dX7_row_41 : decode cX7_row 41 = .ok (.aload_n 0, 1) := by decide +kernel
theorem dX7_row_42 : decode cX7_row 42 = .ok (.getfield 23, 3) := by decide +kernel
theorem dX7_row_45 : decode cX7_row 45 = .ok (.bipush 12, 2) := by decide +kernel
theorem dX7_row_47 : decode cX7_row 47 = .ok (.iload_n 1, 1) := by decide +kernel
theorem dX7_row_48 : decode cX7_row 48 = .ok (.imul, 1) := by decide +kernel
theorem dX7_row_49 : decode cX7_row 49 = .ok (.iload_n 3, 1) := by decide +kernel
theorem dX7_row_50 : decode cX7_row 50 = .ok (.iadd, 1) := by decide +kernel
theorem dX7_row_51 : decode cX7_row 51 = .ok (.lconst 0, 1) := by decide +kernel
theorem dX7_row_52 : decode cX7_row 52 = .ok (.lastore, 1) := by decide +kernel
theorem dX7_row_53 : decode cX7_row 53 = .ok (.iinc 3 1, 3) := by decide +kernel
theorem dX7_row_56 : decode cX7_row 56 = .ok (.goto (-21), 3) := by decide +kernel
theorem dX7_row_59 : decode cX7_row 59 = .ok (.iload_n 2, 1) := by decide +kernel
theorem dX7_row_60 : decode cX7_row 60 = .ok (.ireturn, 1) := by decide +kernel
set_option maxRecDepth 20000 in
theorem ggX7_noPlace_X7_isRow : GoodIn wsX7_noPlace wsX7_isRow := goodIn_r _ [5, 6, 7, 8, 4, 9] (by decide +kernel) (by decide +kernel)
set_option maxRecDepth 20000 in
theorem gX7_noPlace_X7_isRow : GoodIn wsX7_noPlace (va_wsS RX7 205 yX7_isRow wsX7_isRow) := goodIn_app (goodIn_of _ (by decide +kernel)) ggX7_noPlace_X7_isRow
set_option maxRecDepth 20000 in
theorem ggX7_noPlace_X7_in : GoodIn wsX7_noPlace wsX7_in := goodIn_r _ [9] (by decide +kernel) (by decide +kernel)
set_option maxRecDepth 20000 in
theorem gX7_noPlace_X7_in : GoodIn wsX7_noPlace (va_wsS RX7 75 yX7_in wsX7_in) := goodIn_app (goodIn_of _ (by decide +kernel)) ggX7_noPlace_X7_in
theorem dX7_noPlace_0 : decode cX7_noPlace 0 = .ok (.iload_n 1, 1) := by decide +kernel
theorem dX7_noPlace_1 : decode cX7_noPlace 1 = .ok (.invokestatic 205, 3) := by decide +kernel
theorem dX7_noPlace_4 : decode cX7_noPlace 4 = .ok (.ifCond .ne 8, 3) := by decide +kernel
theorem dX7_noPlace_7 : decode cX7_noPlace 7 = .ok (.bipush (-2), 2) := by decide +kernel
theorem dX7_noPlace_9 : decode cX7_noPlace 9 = .ok (.goto 41, 3) := by decide +kernel
theorem dX7_noPlace_12 : decode cX7_noPlace 12 = .ok (.aload_n 0, 1) := by decide +kernel
theorem dX7_noPlace_13 : decode cX7_noPlace 13 = .ok (.getfield 20, 3) := by decide +kernel
theorem dX7_noPlace_16 : decode cX7_noPlace 16 = .ok (.iload_n 1, 1) := by decide +kernel
theorem dX7_noPlace_17 : decode cX7_noPlace 17 = .ok (.iaload, 1) := by decide +kernel
theorem dX7_noPlace_18 : decode cX7_noPlace 18 = .ok (.ifCond .ge 8, 3) := by decide +kernel
theorem dX7_noPlace_21 : decode cX7_noPlace 21 = .ok (.bipush (-11), 2) := by decide +kernel
theorem dX7_noPlace_23 : decode cX7_noPlace 23 = .ok (.goto 27, 3) := by decide +kernel
theorem dX7_noPlace_26 : decode cX7_noPlace 26 = .ok (.iload_n 2, 1) := by decide +kernel
theorem dX7_noPlace_27 : decode cX7_noPlace 27 = .ok (.i2l, 1) := by decide +kernel
theorem dX7_noPlace_28 : decode cX7_noPlace 28 = .ok (.lconst 0, 1) := by decide +kernel
theorem dX7_noPlace_29 : decode cX7_noPlace 29 = .ok (.aload_n 0, 1) := by decide +kernel
theorem dX7_noPlace_30 : decode cX7_noPlace 30 = .ok (.getfield 20, 3) := by decide +kernel
theorem dX7_noPlace_33 : decode cX7_noPlace 33 = .ok (.iload_n 1, 1) := by decide +kernel
theorem dX7_noPlace_34 : decode cX7_noPlace 34 = .ok (.iaload, 1) := by decide +kernel
theorem dX7_noPlace_35 : decode cX7_noPlace 35 = .ok (.iconst 1, 1) := by decide +kernel
theorem dX7_noPlace_36 : decode cX7_noPlace 36 = .ok (.isub, 1) := by decide +kernel
theorem dX7_noPlace_37 : decode cX7_noPlace 37 = .ok (.i2l, 1) := by decide +kernel
theorem dX7_noPlace_38 : decode cX7_noPlace 38 = .ok (.invokestatic 75, 3) := by decide +kernel
theorem dX7_noPlace_41 : decode cX7_noPlace 41 = .ok (.ifCond .eq 7, 3) := by decide +kernel
theorem dX7_noPlace_44 : decode cX7_noPlace 44 = .ok (.iconst 0, 1) := by decide +kernel
theorem dX7_noPlace_45 : decode cX7_noPlace 45 = .ok (.goto 5, 3) := by decide +kernel
theorem dX7_noPlace_48 : decode cX7_noPlace 48 = .ok (.bipush (-12), 2) := by decide +kernel
theorem dX7_noPlace_50 : decode cX7_noPlace 50 = .ok (.ireturn, 1) := by decide +kernel
set_option maxRecDepth 20000 in
theorem ggX7_set_X7_noPlace : GoodIn wsX7_set wsX7_noPlace := goodIn_r _ [6, 7, 8, 9, 5, 10, 11, 12, 13, 14, 15, 16, 17, 18, 19, 20, 21, 22, 23, 24, 25, 26, 27, 28, 29, 30, 31, 32, 33, 34, 35, 36, 37] (by decide +kernel) (by decide +kernel)
set_option maxRecDepth 20000 in
theorem gX7_set_X7_noPlace : GoodIn wsX7_set (wsV RX7 208 RX7 yX7_noPlace wsX7_noPlace) := goodIn_app (goodIn_of _ (by decide +kernel)) ggX7_set_X7_noPlace
theorem dX7_set_0 : decode cX7_set 0 = .ok (.aload_n 0, 1) := by decide +kernel
theorem dX7_set_1 : decode cX7_set 1 = .ok (.iload_n 1, 1) := by decide +kernel
theorem dX7_set_2 : decode cX7_set 2 = .ok (.iload_n 2, 1) := by decide +kernel
theorem dX7_set_3 : decode cX7_set 3 = .ok (.invokevirtual 208, 3) := by decide +kernel
theorem dX7_set_6 : decode cX7_set 6 = .ok (.istore 4, 2) := by decide +kernel
theorem dX7_set_8 : decode cX7_set 8 = .ok (.iload 4, 2) := by decide +kernel
theorem dX7_set_10 : decode cX7_set 10 = .ok (.ifCond .ne 16, 3) := by decide +kernel
theorem dX7_set_13 : decode cX7_set 13 = .ok (.aload_n 0, 1) := by decide +kernel
theorem dX7_set_14 : decode cX7_set 14 = .ok (.getfield 23, 3) := by decide +kernel
theorem dX7_set_17 : decode cX7_set 17 = .ok (.bipush 12, 2) := by decide +kernel
theorem dX7_set_19 : decode cX7_set 19 = .ok (.iload_n 1, 1) := by decide +kernel
theorem dX7_set_20 : decode cX7_set 20 = .ok (.imul, 1) := by decide +kernel
theorem dX7_set_21 : decode cX7_set 21 = .ok (.iload_n 2, 1) := by decide +kernel
theorem dX7_set_22 : decode cX7_set 22 = .ok (.iadd, 1) := by decide +kernel
theorem dX7_set_23 : decode cX7_set 23 = .ok (.iload_n 3, 1) := by decide +kernel
theorem dX7_set_24 : decode cX7_set 24 = .ok (.i2l, 1) := by decide +kernel
theorem dX7_set_25 : decode cX7_set 25 = .ok (.lastore, 1) := by decide +kernel
theorem dX7_set_26 : decode cX7_set 26 = .ok (.iload 4, 2) := by decide +kernel
theorem dX7_set_28 : decode cX7_set 28 = .ok (.ifCond .ne 7, 3) := by decide +kernel
theorem dX7_set_31 : decode cX7_set 31 = .ok (.iconst 1, 1) := by decide +kernel
theorem dX7_set_32 : decode cX7_set 32 = .ok (.goto 5, 3) := by decide +kernel
theorem dX7_set_35 : decode cX7_set 35 = .ok (.iload 4, 2) := by decide +kernel
theorem dX7_set_37 : decode cX7_set 37 = .ok (.ireturn, 1) := by decide +kernel
theorem dX7_plus_0 : decode cX7_plus 0 = .ok (.lload_n 1, 1) := by decide +kernel
theorem dX7_plus_1 : decode cX7_plus 1 = .ok (.lload_n 3, 1) := by decide +kernel
theorem dX7_plus_2 : decode cX7_plus 2 = .ok (.ladd, 1) := by decide +kernel
theorem dX7_plus_3 : decode cX7_plus 3 = .ok (.lstore 5, 2) := by decide +kernel
theorem dX7_plus_5 : decode cX7_plus 5 = .ok (.aload_n 0, 1) := by decide +kernel
theorem dX7_plus_6 : decode cX7_plus 6 = .ok (.lload_n 1, 1) := by decide +kernel
theorem dX7_plus_7 : decode cX7_plus 7 = .ok (.lconst 0, 1) := by decide +kernel
theorem dX7_plus_8 : decode cX7_plus 8 = .ok (.lcmp, 1) := by decide +kernel
theorem dX7_plus_9 : decode cX7_plus 9 = .ok (.ifCond .ge 7, 3) := by decide +kernel
theorem dX7_plus_12 : decode cX7_plus 12 = .ok (.iconst 1, 1) := by decide +kernel
theorem dX7_plus_13 : decode cX7_plus 13 = .ok (.goto 4, 3) := by decide +kernel
theorem dX7_plus_16 : decode cX7_plus 16 = .ok (.iconst 0, 1) := by decide +kernel
theorem dX7_plus_17 : decode cX7_plus 17 = .ok (.lload_n 3, 1) := by decide +kernel
theorem dX7_plus_18 : decode cX7_plus 18 = .ok (.lconst 0, 1) := by decide +kernel
theorem dX7_plus_19 : decode cX7_plus 19 = .ok (.lcmp, 1) := by decide +kernel
theorem dX7_plus_20 : decode cX7_plus 20 = .ok (.ifCond .ge 7, 3) := by decide +kernel
theorem dX7_plus_23 : decode cX7_plus 23 = .ok (.iconst 1, 1) := by decide +kernel
theorem dX7_plus_24 : decode cX7_plus 24 = .ok (.goto 4, 3) := by decide +kernel
theorem dX7_plus_27 : decode cX7_plus 27 = .ok (.iconst 0, 1) := by decide +kernel
theorem dX7_plus_28 : decode cX7_plus 28 = .ok (.if_icmp .ne 33, 3) := by decide +kernel
theorem dX7_plus_31 : decode cX7_plus 31 = .ok (.lload 5, 2) := by decide +kernel
theorem dX7_plus_33 : decode cX7_plus 33 = .ok (.lconst 0, 1) := by decide +kernel
theorem dX7_plus_34 : decode cX7_plus 34 = .ok (.lcmp, 1) := by decide +kernel
theorem dX7_plus_35 : decode cX7_plus 35 = .ok (.ifCond .ge 7, 3) := by decide +kernel
theorem dX7_plus_38 : decode cX7_plus 38 = .ok (.iconst 1, 1) := by decide +kernel
theorem dX7_plus_39 : decode cX7_plus 39 = .ok (.goto 4, 3) := by decide +kernel
theorem dX7_plus_42 : decode cX7_plus 42 = .ok (.iconst 0, 1) := by decide +kernel
theorem dX7_plus_43 : decode cX7_plus 43 = .ok (.lload_n 1, 1) := by decide +kernel
theorem dX7_plus_44 : decode cX7_plus 44 = .ok (.lconst 0, 1) := by decide +kernel
theorem dX7_plus_45 : decode cX7_plus 45 = .ok (.lcmp, 1) := by decide +kernel
theorem dX7_plus_46 : decode cX7_plus 46 = .ok (.ifCond .ge 7, 3) := by decide +kernel
theorem dX7_plus_49 : decode cX7_plus 49 = .ok (.iconst 1, 1) := by decide +kernel
theorem dX7_plus_50 : decode cX7_plus 50 = .ok (.goto 4, 3) := by decide +kernel
theorem dX7_plus_53 : decode cX7_plus 53 = .ok (.iconst 0, 1) := by decide +kernel
theorem dX7_plus_54 : decode cX7_plus 54 = .ok (.if_icmp .eq 7, 3) := by decide +kernel
theorem dX7_plus_57 : decode cX7_plus 57 = .ok (.iconst 1, 1) := by decide +kernel
theorem dX7_plus_58 : decode cX7_plus 58 = .ok (.goto 4, 3) := by decide +kernel
theorem dX7_plus_61 : decode cX7_plus 61 = .ok (.iconst 0, 1) := by decide +kernel
theorem dX7_plus_62 : decode cX7_plus 62 = .ok (.putfield 211, 3) := by decide +kernel
theorem dX7_plus_65 : decode cX7_plus 65 = .ok (.lload 5, 2) := by decide +kernel
theorem dX7_plus_67 : decode cX7_plus 67 = .ok (.lreturn, 1) := by decide +kernel
theorem dX7_times_0 : decode cX7_times 0 = .ok (.lload_n 1, 1) := by decide +kernel
theorem dX7_times_1 : decode cX7_times 1 = .ok (.lload_n 3, 1) := by decide +kernel
theorem dX7_times_2 : decode cX7_times 2 = .ok (.lmul, 1) := by decide +kernel
theorem dX7_times_3 : decode cX7_times 3 = .ok (.lstore 5, 2) := by decide +kernel
theorem dX7_times_5 : decode cX7_times 5 = .ok (.aload_n 0, 1) := by decide +kernel
theorem dX7_times_6 : decode cX7_times 6 = .ok (.lload_n 3, 1) := by decide +kernel
theorem dX7_times_7 : decode cX7_times 7 = .ok (.lconst 0, 1) := by decide +kernel
theorem dX7_times_8 : decode cX7_times 8 = .ok (.lcmp, 1) := by decide +kernel
theorem dX7_times_9 : decode cX7_times 9 = .ok (.ifCond .eq 12, 3) := by decide +kernel
theorem dX7_times_12 : decode cX7_times 12 = .ok (.lload 5, 2) := by decide +kernel
theorem dX7_times_14 : decode cX7_times 14 = .ok (.lload_n 3, 1) := by decide +kernel
theorem dX7_times_15 : decode cX7_times 15 = .ok (.ldiv, 1) := by decide +kernel
theorem dX7_times_16 : decode cX7_times 16 = .ok (.lload_n 1, 1) := by decide +kernel
theorem dX7_times_17 : decode cX7_times 17 = .ok (.lcmp, 1) := by decide +kernel
theorem dX7_times_18 : decode cX7_times 18 = .ok (.ifCond .ne 22, 3) := by decide +kernel
theorem dX7_times_21 : decode cX7_times 21 = .ok (.lload_n 1, 1) := by decide +kernel
theorem dX7_times_22 : decode cX7_times 22 = .ok (.lconst 0, 1) := by decide +kernel
theorem dX7_times_23 : decode cX7_times 23 = .ok (.lcmp, 1) := by decide +kernel
theorem dX7_times_24 : decode cX7_times 24 = .ok (.ifCond .ge 20, 3) := by decide +kernel
theorem dX7_times_27 : decode cX7_times 27 = .ok (.lload_n 3, 1) := by decide +kernel
theorem dX7_times_28 : decode cX7_times 28 = .ok (.lconst 0, 1) := by decide +kernel
theorem dX7_times_29 : decode cX7_times 29 = .ok (.lcmp, 1) := by decide +kernel
theorem dX7_times_30 : decode cX7_times 30 = .ok (.ifCond .ge 14, 3) := by decide +kernel
theorem dX7_times_33 : decode cX7_times 33 = .ok (.lload 5, 2) := by decide +kernel
theorem dX7_times_35 : decode cX7_times 35 = .ok (.lconst 0, 1) := by decide +kernel
theorem dX7_times_36 : decode cX7_times 36 = .ok (.lcmp, 1) := by decide +kernel
theorem dX7_times_37 : decode cX7_times 37 = .ok (.ifCond .ge 7, 3) := by decide +kernel
theorem dX7_times_40 : decode cX7_times 40 = .ok (.iconst 1, 1) := by decide +kernel
theorem dX7_times_41 : decode cX7_times 41 = .ok (.goto 4, 3) := by decide +kernel
theorem dX7_times_44 : decode cX7_times 44 = .ok (.iconst 0, 1) := by decide +kernel
theorem dX7_times_45 : decode cX7_times 45 = .ok (.putfield 211, 3) := by decide +kernel
theorem dX7_times_48 : decode cX7_times 48 = .ok (.lload 5, 2) := by decide +kernel
theorem dX7_times_50 : decode cX7_times 50 = .ok (.lreturn, 1) := by decide +kernel
set_option maxRecDepth 20000 in
theorem ggX7_work_X7_isRow : GoodIn wsX7_work wsX7_isRow := goodIn_r _ [8, 1, 9, 10, 7, 11] (by decide +kernel) (by decide +kernel)
set_option maxRecDepth 20000 in
theorem gX7_work_X7_isRow : GoodIn wsX7_work (va_wsS RX7 205 yX7_isRow wsX7_isRow) := goodIn_app (goodIn_of _ (by decide +kernel)) ggX7_work_X7_isRow
set_option maxRecDepth 20000 in
theorem ggX7_work_X7_in : GoodIn wsX7_work wsX7_in := goodIn_r _ [11] (by decide +kernel) (by decide +kernel)
set_option maxRecDepth 20000 in
theorem gX7_work_X7_in : GoodIn wsX7_work (va_wsS RX7 75 yX7_in wsX7_in) := goodIn_app (goodIn_of _ (by decide +kernel)) ggX7_work_X7_in
set_option maxRecDepth 20000 in
theorem ggX7_work_X7_noPlace : GoodIn wsX7_work wsX7_noPlace := goodIn_r _ [15, 16, 5, 6, 7, 8, 1, 9, 10, 11, 25, 26, 27, 28, 29, 30, 31, 32, 33, 34, 35, 36, 37, 38, 39, 40, 41, 42, 43, 44, 45, 46, 47] (by decide +kernel) (by decide +kernel)
set_option maxRecDepth 20000 in
theorem gX7_work_X7_noPlace : GoodIn wsX7_work (wsV RX7 208 RX7 yX7_noPlace wsX7_noPlace) := goodIn_app (goodIn_of _ (by decide +kernel)) ggX7_work_X7_noPlace
set_option maxRecDepth 20000 in
theorem ggX7_work_X7_times : GoodIn wsX7_work wsX7_times := goodIn_r _ [20, 3, 25, 26, 27, 28, 29, 30, 31, 32, 33, 34, 35, 36, 37, 38, 39, 40, 41, 42, 43, 44, 45, 46, 47] (by decide +kernel) (by decide +kernel)
set_option maxRecDepth 20000 in
theorem gX7_work_X7_times : GoodIn wsX7_work (wsV RX7 214 RX7 yX7_times wsX7_times) := goodIn_app (goodIn_of _ (by decide +kernel)) ggX7_work_X7_times
set_option maxRecDepth 20000 in
theorem ggX7_work_X7_plus : GoodIn wsX7_work wsX7_plus := goodIn_r _ [24, 3, 25, 26, 27, 28, 29, 30, 31, 32, 33, 34, 35, 36, 37, 38, 39, 40, 41, 42, 43, 44, 45, 46, 47] (by decide +kernel) (by decide +kernel)
set_option maxRecDepth 20000 in
theorem gX7_work_X7_plus : GoodIn wsX7_work (wsV RX7 218 RX7 yX7_plus wsX7_plus) := goodIn_app (goodIn_of _ (by decide +kernel)) ggX7_work_X7_plus
theorem dX7_work_0 : decode cX7_work 0 = .ok (.iload_n 1, 1) := by decide +kernel
theorem dX7_work_1 : decode cX7_work 1 = .ok (.invokestatic 205, 3) := by decide +kernel
theorem dX7_work_4 : decode cX7_work 4 = .ok (.ifCond .ne 6, 3) := by decide +kernel
theorem dX7_work_7 : decode cX7_work 7 = .ok (.bipush (-2), 2) := by decide +kernel
theorem dX7_work_9 : decode cX7_work 9 = .ok (.ireturn, 1) := by decide +kernel
theorem dX7_work_10 : decode cX7_work 10 = .ok (.iload_n 3, 1) := by decide +kernel
theorem dX7_work_11 : decode cX7_work 11 = .ok (.i2l, 1) := by decide +kernel
theorem dX7_work_12 : decode cX7_work 12 = .ok (.lconst 0, 1) := by decide +kernel
theorem dX7_work_13 : decode cX7_work 13 = .ok (.ldc2_w 193, 3) := by decide +kernel
theorem dX7_work_16 : decode cX7_work 16 = .ok (.invokestatic 75, 3) := by decide +kernel
theorem dX7_work_19 : decode cX7_work 19 = .ok (.ifCond .ne 6, 3) := by decide +kernel
theorem dX7_work_22 : decode cX7_work 22 = .ok (.bipush (-3), 2) := by decide +kernel
theorem dX7_work_24 : decode cX7_work 24 = .ok (.ireturn, 1) := by decide +kernel
theorem dX7_work_25 : decode cX7_work 25 = .ok (.aload_n 0, 1) := by decide +kernel
theorem dX7_work_26 : decode cX7_work 26 = .ok (.iload_n 1, 1) := by decide +kernel
theorem dX7_work_27 : decode cX7_work 27 = .ok (.iload_n 2, 1) := by decide +kernel
theorem dX7_work_28 : decode cX7_work 28 = .ok (.invokevirtual 208, 3) := by decide +kernel
theorem dX7_work_31 : decode cX7_work 31 = .ok (.istore 5, 2) := by decide +kernel
theorem dX7_work_33 : decode cX7_work 33 = .ok (.iload 5, 2) := by decide +kernel
theorem dX7_work_35 : decode cX7_work 35 = .ok (.ifCond .eq 6, 3) := by decide +kernel
theorem dX7_work_38 : decode cX7_work 38 = .ok (.iload 5, 2) := by decide +kernel
theorem dX7_work_40 : decode cX7_work 40 = .ok (.ireturn, 1) := by decide +kernel
theorem dX7_work_41 : decode cX7_work 41 = .ok (.aload_n 0, 1) := by decide +kernel
theorem dX7_work_42 : decode cX7_work 42 = .ok (.getfield 23, 3) := by decide +kernel
theorem dX7_work_45 : decode cX7_work 45 = .ok (.bipush 12, 2) := by decide +kernel
theorem dX7_work_47 : decode cX7_work 47 = .ok (.iload_n 1, 1) := by decide +kernel
theorem dX7_work_48 : decode cX7_work 48 = .ok (.imul, 1) := by decide +kernel
theorem dX7_work_49 : decode cX7_work 49 = .ok (.iload_n 2, 1) := by decide +kernel
theorem dX7_work_50 : decode cX7_work 50 = .ok (.iadd, 1) := by decide +kernel
theorem dX7_work_51 : decode cX7_work 51 = .ok (.laload, 1) := by decide +kernel
theorem dX7_work_52 : decode cX7_work 52 = .ok (.lstore 6, 2) := by decide +kernel
theorem dX7_work_54 : decode cX7_work 54 = .ok (.iload_n 3, 1) := by decide +kernel
theorem dX7_work_55 : decode cX7_work 55 = .ok (.iconst 2, 1) := by decide +kernel
theorem dX7_work_56 : decode cX7_work 56 = .ok (.if_icmp .ne 15, 3) := by decide +kernel
theorem dX7_work_59 : decode cX7_work 59 = .ok (.aload_n 0, 1) := by decide +kernel
theorem dX7_work_60 : decode cX7_work 60 = .ok (.lload 6, 2) := by decide +kernel
theorem dX7_work_62 : decode cX7_work 62 = .ok (.iload 4, 2) := by decide +kernel
theorem dX7_work_64 : decode cX7_work 64 = .ok (.i2l, 1) := by decide +kernel
theorem dX7_work_65 : decode cX7_work 65 = .ok (.invokevirtual 214, 3) := by decide +kernel
theorem dX7_work_68 : decode cX7_work 68 = .ok (.goto 23, 3) := by decide +kernel
theorem dX7_work_71 : decode cX7_work 71 = .ok (.aload_n 0, 1) := by decide +kernel
theorem dX7_work_72 : decode cX7_work 72 = .ok (.lload 6, 2) := by decide +kernel
theorem dX7_work_74 : decode cX7_work 74 = .ok (.iload_n 3, 1) := by decide +kernel
theorem dX7_work_75 : decode cX7_work 75 = .ok (.ifCond .ne 9, 3) := by decide +kernel
theorem dX7_work_78 : decode cX7_work 78 = .ok (.iload 4, 2) := by decide +kernel
theorem dX7_work_80 : decode cX7_work 80 = .ok (.i2l, 1) := by decide +kernel
theorem dX7_work_81 : decode cX7_work 81 = .ok (.goto 7, 3) := by decide +kernel
theorem dX7_work_84 : decode cX7_work 84 = .ok (.iload 4, 2) := by decide +kernel
theorem dX7_work_86 : decode cX7_work 86 = .ok (.i2l, 1) := by decide +kernel
theorem dX7_work_87 : decode cX7_work 87 = .ok (.lneg, 1) := by decide +kernel
theorem dX7_work_88 : decode cX7_work 88 = .ok (.invokevirtual 218, 3) := by decide +kernel
theorem dX7_work_91 : decode cX7_work 91 = .ok (.lstore 8, 2) := by decide +kernel
theorem dX7_work_93 : decode cX7_work 93 = .ok (.aload_n 0, 1) := by decide +kernel
theorem dX7_work_94 : decode cX7_work 94 = .ok (.getfield 211, 3) := by decide +kernel
theorem dX7_work_97 : decode cX7_work 97 = .ok (.ifCond .eq 6, 3) := by decide +kernel
theorem dX7_work_100 : decode cX7_work 100 = .ok (.bipush (-14), 2) := by decide +kernel
theorem dX7_work_102 : decode cX7_work 102 = .ok (.ireturn, 1) := by decide +kernel
theorem dX7_work_103 : decode cX7_work 103 = .ok (.aload_n 0, 1) := by decide +kernel
theorem dX7_work_104 : decode cX7_work 104 = .ok (.getfield 23, 3) := by decide +kernel
theorem dX7_work_107 : decode cX7_work 107 = .ok (.bipush 12, 2) := by decide +kernel
theorem dX7_work_109 : decode cX7_work 109 = .ok (.iload_n 1, 1) := by decide +kernel
theorem dX7_work_110 : decode cX7_work 110 = .ok (.imul, 1) := by decide +kernel
theorem dX7_work_111 : decode cX7_work 111 = .ok (.iload_n 2, 1) := by decide +kernel
theorem dX7_work_112 : decode cX7_work 112 = .ok (.iadd, 1) := by decide +kernel
theorem dX7_work_113 : decode cX7_work 113 = .ok (.lload 8, 2) := by decide +kernel
theorem dX7_work_115 : decode cX7_work 115 = .ok (.lastore, 1) := by decide +kernel
theorem dX7_work_116 : decode cX7_work 116 = .ok (.aload_n 0, 1) := by decide +kernel
theorem dX7_work_117 : decode cX7_work 117 = .ok (.lload 8, 2) := by decide +kernel
theorem dX7_work_119 : decode cX7_work 119 = .ok (.putfield 221, 3) := by decide +kernel
theorem dX7_work_122 : decode cX7_work 122 = .ok (.iconst 1, 1) := by decide +kernel
theorem dX7_work_123 : decode cX7_work 123 = .ok (.ireturn, 1) := by decide +kernel
set_option maxRecDepth 20000 in
theorem ggX7_bits_X7_noPlace : GoodIn wsX7_bits wsX7_noPlace := goodIn_r _ [7, 8, 9, 10, 6, 11, 12, 13, 14, 15, 16, 17, 18, 19, 20, 21, 22, 23, 24, 25, 26, 27, 28, 29, 30, 31, 32, 33, 34, 35, 36, 37, 38] (by decide +kernel) (by decide +kernel)
set_option maxRecDepth 20000 in
theorem gX7_bits_X7_noPlace : GoodIn wsX7_bits (wsV RX7 208 RX7 yX7_noPlace wsX7_noPlace) := goodIn_app (goodIn_of _ (by decide +kernel)) ggX7_bits_X7_noPlace
theorem dX7_bits_0 : decode cX7_bits 0 = .ok (.aload_n 0, 1) := by decide +kernel
theorem dX7_bits_1 : decode cX7_bits 1 = .ok (.iload_n 1, 1) := by decide +kernel
theorem dX7_bits_2 : decode cX7_bits 2 = .ok (.iload_n 2, 1) := by decide +kernel
theorem dX7_bits_3 : decode cX7_bits 3 = .ok (.invokevirtual 208, 3) := by decide +kernel
theorem dX7_bits_6 : decode cX7_bits 6 = .ok (.istore_n 3, 1) := by decide +kernel
theorem dX7_bits_7 : decode cX7_bits 7 = .ok (.iload_n 3, 1) := by decide +kernel
theorem dX7_bits_8 : decode cX7_bits 8 = .ok (.ifCond .eq 5, 3) := by decide +kernel
theorem dX7_bits_11 : decode cX7_bits 11 = .ok (.iload_n 3, 1) := by decide +kernel
theorem dX7_bits_12 : decode cX7_bits 12 = .ok (.ireturn, 1) := by decide +kernel
theorem dX7_bits_13 : decode cX7_bits 13 = .ok (.aload_n 0, 1) := by decide +kernel
theorem dX7_bits_14 : decode cX7_bits 14 = .ok (.lconst 0, 1) := by decide +kernel
theorem dX7_bits_15 : decode cX7_bits 15 = .ok (.putfield 221, 3) := by decide +kernel
theorem dX7_bits_18 : decode cX7_bits 18 = .ok (.iconst 0, 1) := by decide +kernel
theorem dX7_bits_19 : decode cX7_bits 19 = .ok (.istore 4, 2) := by decide +kernel
theorem dX7_bits_21 : decode cX7_bits 21 = .ok (.iload 4, 2) := by decide +kernel
theorem dX7_bits_23 : decode cX7_bits 23 = .ok (.bipush 64, 2) := by decide +kernel
theorem dX7_bits_25 : decode cX7_bits 25 = .ok (.if_icmp .ge 34, 3) := by decide +kernel
theorem dX7_bits_28 : decode cX7_bits 28 = .ok (.aload_n 0, 1) := by decide +kernel
theorem dX7_bits_29 : decode cX7_bits 29 = .ok (.dup, 1) := by decide +kernel
theorem dX7_bits_30 : decode cX7_bits 30 = .ok (.getfield 221, 3) := by decide +kernel
theorem dX7_bits_33 : decode cX7_bits 33 = .ok (.aload_n 0, 1) := by decide +kernel
theorem dX7_bits_34 : decode cX7_bits 34 = .ok (.getfield 23, 3) := by decide +kernel
theorem dX7_bits_37 : decode cX7_bits 37 = .ok (.bipush 12, 2) := by decide +kernel
theorem dX7_bits_39 : decode cX7_bits 39 = .ok (.iload_n 1, 1) := by decide +kernel
theorem dX7_bits_40 : decode cX7_bits 40 = .ok (.imul, 1) := by decide +kernel
theorem dX7_bits_41 : decode cX7_bits 41 = .ok (.iload_n 2, 1) := by decide +kernel
theorem dX7_bits_42 : decode cX7_bits 42 = .ok (.iadd, 1) := by decide +kernel
theorem dX7_bits_43 : decode cX7_bits 43 = .ok (.laload, 1) := by decide +kernel
theorem dX7_bits_44 : decode cX7_bits 44 = .ok (.iload 4, 2) := by decide +kernel
theorem dX7_bits_46 : decode cX7_bits 46 = .ok (.lshr, 1) := by decide +kernel
theorem dX7_bits_47 : decode cX7_bits 47 = .ok (.lconst 1, 1) := by decide +kernel
theorem dX7_bits_48 : decode cX7_bits 48 = .ok (.land, 1) := by decide +kernel
theorem dX7_bits_49 : decode cX7_bits 49 = .ok (.ladd, 1) := by decide +kernel
theorem dX7_bits_50 : decode cX7_bits 50 = .ok (.putfield 221, 3) := by decide +kernel
theorem dX7_bits_53 : decode cX7_bits 53 = .ok (.iinc 4 1, 3) := by decide +kernel
theorem dX7_bits_56 : decode cX7_bits 56 = .ok (.goto (-35), 3) := by decide +kernel
theorem dX7_bits_59 : decode cX7_bits 59 = .ok (.iconst 1, 1) := by decide +kernel
theorem dX7_bits_60 : decode cX7_bits 60 = .ok (.ireturn, 1) := by decide +kernel
set_option maxRecDepth 20000 in
theorem ggX7_sum_X7_isRow : GoodIn wsX7_sum wsX7_isRow := goodIn_r _ [8, 9, 10, 11, 7, 12] (by decide +kernel) (by decide +kernel)
set_option maxRecDepth 20000 in
theorem gX7_sum_X7_isRow : GoodIn wsX7_sum (va_wsS RX7 205 yX7_isRow wsX7_isRow) := goodIn_app (goodIn_of _ (by decide +kernel)) ggX7_sum_X7_isRow
set_option maxRecDepth 20000 in
theorem ggX7_sum_X7_plus : GoodIn wsX7_sum wsX7_plus := goodIn_r _ [16, 3, 17, 18, 19, 20, 21, 22, 23, 24, 25, 26, 27, 28, 29, 30, 31, 32, 33, 34, 35, 36, 37, 38, 39] (by decide +kernel) (by decide +kernel)
set_option maxRecDepth 20000 in
theorem gX7_sum_X7_plus : GoodIn wsX7_sum (wsV RX7 218 RX7 yX7_plus wsX7_plus) := goodIn_app (goodIn_of _ (by decide +kernel)) ggX7_sum_X7_plus
theorem dX7_sum_0 : decode cX7_sum 0 = .ok (.iload_n 1, 1) := by decide +kernel
theorem dX7_sum_1 : decode cX7_sum 1 = .ok (.invokestatic 205, 3) := by decide +kernel
theorem dX7_sum_4 : decode cX7_sum 4 = .ok (.ifCond .ne 6, 3) := by decide +kernel
theorem dX7_sum_7 : decode cX7_sum 7 = .ok (.bipush (-2), 2) := by decide +kernel
theorem dX7_sum_9 : decode cX7_sum 9 = .ok (.ireturn, 1) := by decide +kernel
theorem dX7_sum_10 : decode cX7_sum 10 = .ok (.aload_n 0, 1) := by decide +kernel
theorem dX7_sum_11 : decode cX7_sum 11 = .ok (.getfield 20, 3) := by decide +kernel
theorem dX7_sum_14 : decode cX7_sum 14 = .ok (.iload_n 1, 1) := by decide +kernel
theorem dX7_sum_15 : decode cX7_sum 15 = .ok (.iaload, 1) := by decide +kernel
theorem dX7_sum_16 : decode cX7_sum 16 = .ok (.ifCond .ge 6, 3) := by decide +kernel
theorem dX7_sum_19 : decode cX7_sum 19 = .ok (.bipush (-11), 2) := by decide +kernel
theorem dX7_sum_21 : decode cX7_sum 21 = .ok (.ireturn, 1) := by decide +kernel
theorem dX7_sum_22 : decode cX7_sum 22 = .ok (.lconst 0, 1) := by decide +kernel
theorem dX7_sum_23 : decode cX7_sum 23 = .ok (.lstore_n 2, 1) := by decide +kernel
theorem dX7_sum_24 : decode cX7_sum 24 = .ok (.iconst 0, 1) := by decide +kernel
theorem dX7_sum_25 : decode cX7_sum 25 = .ok (.istore 4, 2) := by decide +kernel
theorem dX7_sum_27 : decode cX7_sum 27 = .ok (.iload 4, 2) := by decide +kernel
theorem dX7_sum_29 : decode cX7_sum 29 = .ok (.aload_n 0, 1) := by decide +kernel
theorem dX7_sum_30 : decode cX7_sum 30 = .ok (.getfield 20, 3) := by decide +kernel
theorem dX7_sum_33 : decode cX7_sum 33 = .ok (.iload_n 1, 1) := by decide +kernel
theorem dX7_sum_34 : decode cX7_sum 34 = .ok (.iaload, 1) := by decide +kernel
theorem dX7_sum_35 : decode cX7_sum 35 = .ok (.if_icmp .ge 37, 3) := by decide +kernel
theorem dX7_sum_38 : decode cX7_sum 38 = .ok (.aload_n 0, 1) := by decide +kernel
theorem dX7_sum_39 : decode cX7_sum 39 = .ok (.lload_n 2, 1) := by decide +kernel
theorem dX7_sum_40 : decode cX7_sum 40 = .ok (.aload_n 0, 1) := by decide +kernel
theorem dX7_sum_41 : decode cX7_sum 41 = .ok (.getfield 23, 3) := by decide +kernel
theorem dX7_sum_44 : decode cX7_sum 44 = .ok (.bipush 12, 2) := by decide +kernel
theorem dX7_sum_46 : decode cX7_sum 46 = .ok (.iload_n 1, 1) := by decide +kernel
theorem dX7_sum_47 : decode cX7_sum 47 = .ok (.imul, 1) := by decide +kernel
theorem dX7_sum_48 : decode cX7_sum 48 = .ok (.iload 4, 2) := by decide +kernel
theorem dX7_sum_50 : decode cX7_sum 50 = .ok (.iadd, 1) := by decide +kernel
theorem dX7_sum_51 : decode cX7_sum 51 = .ok (.laload, 1) := by decide +kernel
theorem dX7_sum_52 : decode cX7_sum 52 = .ok (.invokevirtual 218, 3) := by decide +kernel
theorem dX7_sum_55 : decode cX7_sum 55 = .ok (.lstore_n 2, 1) := by decide +kernel
theorem dX7_sum_56 : decode cX7_sum 56 = .ok (.aload_n 0, 1) := by decide +kernel
theorem dX7_sum_57 : decode cX7_sum 57 = .ok (.getfield 211, 3) := by decide +kernel
theorem dX7_sum_60 : decode cX7_sum 60 = .ok (.ifCond .eq 6, 3) := by decide +kernel
theorem dX7_sum_63 : decode cX7_sum 63 = .ok (.bipush (-14), 2) := by decide +kernel
theorem dX7_sum_65 : decode cX7_sum 65 = .ok (.ireturn, 1) := by decide +kernel
theorem dX7_sum_66 : decode cX7_sum 66 = .ok (.iinc 4 1, 3) := by decide +kernel
theorem dX7_sum_69 : decode cX7_sum 69 = .ok (.goto (-42), 3) := by decide +kernel
theorem dX7_sum_72 : decode cX7_sum 72 = .ok (.aload_n 0, 1) := by decide +kernel
theorem dX7_sum_73 : decode cX7_sum 73 = .ok (.lload_n 2, 1) := by decide +kernel
theorem dX7_sum_74 : decode cX7_sum 74 = .ok (.putfield 221, 3) := by decide +kernel
theorem dX7_sum_77 : decode cX7_sum 77 = .ok (.aload_n 0, 1) := by decide +kernel
theorem dX7_sum_78 : decode cX7_sum 78 = .ok (.getfield 20, 3) := by decide +kernel
theorem dX7_sum_81 : decode cX7_sum 81 = .ok (.iload_n 1, 1) := by decide +kernel
theorem dX7_sum_82 : decode cX7_sum 82 = .ok (.iaload, 1) := by decide +kernel
theorem dX7_sum_83 : decode cX7_sum 83 = .ok (.ireturn, 1) := by decide +kernel
set_option maxRecDepth 20000 in
theorem ggX7_load_X7_isRow : GoodIn wsX7_load wsX7_isRow := goodIn_r _ [7, 8, 9, 10, 6, 11] (by decide +kernel) (by decide +kernel)
set_option maxRecDepth 20000 in
theorem gX7_load_X7_isRow : GoodIn wsX7_load (va_wsS RX7 205 yX7_isRow wsX7_isRow) := goodIn_app (goodIn_of _ (by decide +kernel)) ggX7_load_X7_isRow
theorem dX7_load_0 : decode cX7_load 0 = .ok (.iload_n 1, 1) := by decide +kernel
theorem dX7_load_1 : decode cX7_load 1 = .ok (.invokestatic 205, 3) := by decide +kernel
theorem dX7_load_4 : decode cX7_load 4 = .ok (.ifCond .ne 6, 3) := by decide +kernel
theorem dX7_load_7 : decode cX7_load 7 = .ok (.bipush (-2), 2) := by decide +kernel
theorem dX7_load_9 : decode cX7_load 9 = .ok (.ireturn, 1) := by decide +kernel
theorem dX7_load_10 : decode cX7_load 10 = .ok (.iload_n 2, 1) := by decide +kernel
theorem dX7_load_11 : decode cX7_load 11 = .ok (.ifCond .ge 6, 3) := by decide +kernel
theorem dX7_load_14 : decode cX7_load 14 = .ok (.bipush (-3), 2) := by decide +kernel
theorem dX7_load_16 : decode cX7_load 16 = .ok (.ireturn, 1) := by decide +kernel
theorem dX7_load_17 : decode cX7_load 17 = .ok (.aload_n 0, 1) := by decide +kernel
theorem dX7_load_18 : decode cX7_load 18 = .ok (.getfield 20, 3) := by decide +kernel
theorem dX7_load_21 : decode cX7_load 21 = .ok (.iload_n 1, 1) := by decide +kernel
theorem dX7_load_22 : decode cX7_load 22 = .ok (.iaload, 1) := by decide +kernel
theorem dX7_load_23 : decode cX7_load 23 = .ok (.ifCond .ge 6, 3) := by decide +kernel
theorem dX7_load_26 : decode cX7_load 26 = .ok (.bipush (-11), 2) := by decide +kernel
theorem dX7_load_28 : decode cX7_load 28 = .ok (.ireturn, 1) := by decide +kernel
theorem dX7_load_29 : decode cX7_load 29 = .ok (.iconst 0, 1) := by decide +kernel
theorem dX7_load_30 : decode cX7_load 30 = .ok (.istore_n 3, 1) := by decide +kernel
theorem dX7_load_31 : decode cX7_load 31 = .ok (.iload_n 3, 1) := by decide +kernel
theorem dX7_load_32 : decode cX7_load 32 = .ok (.aload_n 0, 1) := by decide +kernel
theorem dX7_load_33 : decode cX7_load 33 = .ok (.getfield 20, 3) := by decide +kernel
theorem dX7_load_36 : decode cX7_load 36 = .ok (.iload_n 1, 1) := by decide +kernel
theorem dX7_load_37 : decode cX7_load 37 = .ok (.iaload, 1) := by decide +kernel
theorem dX7_load_38 : decode cX7_load 38 = .ok (.if_icmp .ge 48, 3) := by decide +kernel
theorem dX7_load_41 : decode cX7_load 41 = .ok (.iload_n 2, 1) := by decide +kernel
theorem dX7_load_42 : decode cX7_load 42 = .ok (.i2l, 1) := by decide +kernel
theorem dX7_load_43 : decode cX7_load 43 = .ok (.iload_n 3, 1) := by decide +kernel
theorem dX7_load_44 : decode cX7_load 44 = .ok (.i2l, 1) := by decide +kernel
theorem dX7_load_45 : decode cX7_load 45 = .ok (.ladd, 1) := by decide +kernel
theorem dX7_load_46 : decode cX7_load 46 = .ok (.aload_n 0, 1) := by decide +kernel
theorem dX7_load_47 : decode cX7_load 47 = .ok (.getfield 7, 3) := by decide +kernel
theorem dX7_load_50 : decode cX7_load 50 = .ok (.iconst 2, 1) := by decide +kernel
theorem dX7_load_51 : decode cX7_load 51 = .ok (.iaload, 1) := by decide +kernel
theorem dX7_load_52 : decode cX7_load 52 = .ok (.i2l, 1) := by decide +kernel
theorem dX7_load_53 : decode cX7_load 53 = .ok (.lcmp, 1) := by decide +kernel
theorem dX7_load_54 : decode cX7_load 54 = .ok (.ifCond .ge 32, 3) := by decide +kernel
theorem dX7_load_57 : decode cX7_load 57 = .ok (.aload_n 0, 1) := by decide +kernel
theorem dX7_load_58 : decode cX7_load 58 = .ok (.getfield 23, 3) := by decide +kernel
theorem dX7_load_61 : decode cX7_load 61 = .ok (.bipush 12, 2) := by decide +kernel
theorem dX7_load_63 : decode cX7_load 63 = .ok (.iload_n 1, 1) := by decide +kernel
theorem dX7_load_64 : decode cX7_load 64 = .ok (.imul, 1) := by decide +kernel
theorem dX7_load_65 : decode cX7_load 65 = .ok (.iload_n 3, 1) := by decide +kernel
theorem dX7_load_66 : decode cX7_load 66 = .ok (.iadd, 1) := by decide +kernel
theorem dX7_load_67 : decode cX7_load 67 = .ok (.aload_n 0, 1) := by decide +kernel
theorem dX7_load_68 : decode cX7_load 68 = .ok (.getfield 7, 3) := by decide +kernel
theorem dX7_load_71 : decode cX7_load 71 = .ok (.bipush 6, 2) := by decide +kernel
theorem dX7_load_73 : decode cX7_load 73 = .ok (.iload_n 2, 1) := by decide +kernel
theorem dX7_load_74 : decode cX7_load 74 = .ok (.iadd, 1) := by decide +kernel
theorem dX7_load_75 : decode cX7_load 75 = .ok (.iload_n 3, 1) := by decide +kernel
theorem dX7_load_76 : decode cX7_load 76 = .ok (.iadd, 1) := by decide +kernel
theorem dX7_load_77 : decode cX7_load 77 = .ok (.iaload, 1) := by decide +kernel
theorem dX7_load_78 : decode cX7_load 78 = .ok (.i2l, 1) := by decide +kernel
theorem dX7_load_79 : decode cX7_load 79 = .ok (.lastore, 1) := by decide +kernel
theorem dX7_load_80 : decode cX7_load 80 = .ok (.iinc 3 1, 3) := by decide +kernel
theorem dX7_load_83 : decode cX7_load 83 = .ok (.goto (-52), 3) := by decide +kernel
theorem dX7_load_86 : decode cX7_load 86 = .ok (.iload_n 3, 1) := by decide +kernel
theorem dX7_load_87 : decode cX7_load 87 = .ok (.ireturn, 1) := by decide +kernel
set_option maxRecDepth 20000 in
theorem ggX7_drop_X7_isRow : GoodIn wsX7_drop wsX7_isRow := goodIn_r _ [5, 6, 7, 8, 4, 9] (by decide +kernel) (by decide +kernel)
set_option maxRecDepth 20000 in
theorem gX7_drop_X7_isRow : GoodIn wsX7_drop (va_wsS RX7 205 yX7_isRow wsX7_isRow) := goodIn_app (goodIn_of _ (by decide +kernel)) ggX7_drop_X7_isRow
theorem dX7_drop_0 : decode cX7_drop 0 = .ok (.iload_n 1, 1) := by decide +kernel
theorem dX7_drop_1 : decode cX7_drop 1 = .ok (.invokestatic 205, 3) := by decide +kernel
theorem dX7_drop_4 : decode cX7_drop 4 = .ok (.ifCond .ne 6, 3) := by decide +kernel
theorem dX7_drop_7 : decode cX7_drop 7 = .ok (.bipush (-2), 2) := by decide +kernel
theorem dX7_drop_9 : decode cX7_drop 9 = .ok (.ireturn, 1) := by decide +kernel
theorem dX7_drop_10 : decode cX7_drop 10 = .ok (.aload_n 0, 1) := by decide +kernel
theorem dX7_drop_11 : decode cX7_drop 11 = .ok (.getfield 20, 3) := by decide +kernel
theorem dX7_drop_14 : decode cX7_drop 14 = .ok (.iload_n 1, 1) := by decide +kernel
theorem dX7_drop_15 : decode cX7_drop 15 = .ok (.iaload, 1) := by decide +kernel
theorem dX7_drop_16 : decode cX7_drop 16 = .ok (.istore_n 2, 1) := by decide +kernel
theorem dX7_drop_17 : decode cX7_drop 17 = .ok (.aload_n 0, 1) := by decide +kernel
theorem dX7_drop_18 : decode cX7_drop 18 = .ok (.getfield 20, 3) := by decide +kernel
theorem dX7_drop_21 : decode cX7_drop 21 = .ok (.iload_n 1, 1) := by decide +kernel
theorem dX7_drop_22 : decode cX7_drop 22 = .ok (.iconst (-1), 1) := by decide +kernel
theorem dX7_drop_23 : decode cX7_drop 23 = .ok (.iastore, 1) := by decide +kernel
theorem dX7_drop_24 : decode cX7_drop 24 = .ok (.iload_n 2, 1) := by decide +kernel
theorem dX7_drop_25 : decode cX7_drop 25 = .ok (.ifCond .ge 8, 3) := by decide +kernel
theorem dX7_drop_28 : decode cX7_drop 28 = .ok (.bipush (-11), 2) := by decide +kernel
theorem dX7_drop_30 : decode cX7_drop 30 = .ok (.goto 4, 3) := by decide +kernel
theorem dX7_drop_33 : decode cX7_drop 33 = .ok (.iload_n 2, 1) := by decide +kernel
theorem dX7_drop_34 : decode cX7_drop 34 = .ok (.ireturn, 1) := by decide +kernel
theorem dX7_asked_0 : decode cX7_asked 0 = .ok (.aload_n 0, 1) := by decide +kernel
theorem dX7_asked_1 : decode cX7_asked 1 = .ok (.getfield 221, 3) := by decide +kernel
theorem dX7_asked_4 : decode cX7_asked 4 = .ok (.lreturn, 1) := by decide +kernel
set_option maxRecDepth 20000 in
theorem ggX7_allBeginnings_X7_levelOf : GoodIn wsX7_allBeginnings wsX7_levelOf := goodIn_r _ [6, 1, 7, 8, 9, 5, 10, 11, 12, 13, 14, 15, 16, 17, 18, 19, 20, 21, 22, 23, 24, 25, 26, 27, 28, 29, 30, 31, 32, 33] (by decide +kernel) (by decide +kernel)
set_option maxRecDepth 20000 in
theorem gX7_allBeginnings_X7_levelOf : GoodIn wsX7_allBeginnings (wsV RX7 189 RX7 yX7_levelOf wsX7_levelOf) := goodIn_app (goodIn_of _ (by decide +kernel)) ggX7_allBeginnings_X7_levelOf
theorem dX7_allBeginnings_0 : decode cX7_allBeginnings 0 = .ok (.iconst 0, 1) := by decide +kernel
theorem dX7_allBeginnings_1 : decode cX7_allBeginnings 1 = .ok (.istore_n 1, 1) := by decide +kernel
theorem dX7_allBeginnings_2 : decode cX7_allBeginnings 2 = .ok (.iconst 0, 1) := by decide +kernel
theorem dX7_allBeginnings_3 : decode cX7_allBeginnings 3 = .ok (.istore_n 2, 1) := by decide +kernel
theorem dX7_allBeginnings_4 : decode cX7_allBeginnings 4 = .ok (.iload_n 2, 1) := by decide +kernel
theorem dX7_allBeginnings_5 : decode cX7_allBeginnings 5 = .ok (.aload_n 0, 1) := by decide +kernel
theorem dX7_allBeginnings_6 : decode cX7_allBeginnings 6 = .ok (.getfield 7, 3) := by decide +kernel
theorem dX7_allBeginnings_9 : decode cX7_allBeginnings 9 = .ok (.iconst 0, 1) := by decide +kernel
theorem dX7_allBeginnings_10 : decode cX7_allBeginnings 10 = .ok (.iaload, 1) := by decide +kernel
theorem dX7_allBeginnings_11 : decode cX7_allBeginnings 11 = .ok (.if_icmp .gt 17, 3) := by decide +kernel
theorem dX7_allBeginnings_14 : decode cX7_allBeginnings 14 = .ok (.iload_n 1, 1) := by decide +kernel
theorem dX7_allBeginnings_15 : decode cX7_allBeginnings 15 = .ok (.aload_n 0, 1) := by decide +kernel
theorem dX7_allBeginnings_16 : decode cX7_allBeginnings 16 = .ok (.iload_n 2, 1) := by decide +kernel
theorem dX7_allBeginnings_17 : decode cX7_allBeginnings 17 = .ok (.invokevirtual 189, 3) := by decide +kernel
theorem dX7_allBeginnings_20 : decode cX7_allBeginnings 20 = .ok (.iadd, 1) := by decide +kernel
theorem dX7_allBeginnings_21 : decode cX7_allBeginnings 21 = .ok (.istore_n 1, 1) := by decide +kernel
theorem dX7_allBeginnings_22 : decode cX7_allBeginnings 22 = .ok (.iinc 2 1, 3) := by decide +kernel
theorem dX7_allBeginnings_25 : decode cX7_allBeginnings 25 = .ok (.goto (-21), 3) := by decide +kernel
theorem dX7_allBeginnings_28 : decode cX7_allBeginnings 28 = .ok (.iload_n 1, 1) := by decide +kernel
theorem dX7_allBeginnings_29 : decode cX7_allBeginnings 29 = .ok (.ireturn, 1) := by decide +kernel
theorem dX7_allPlaces_0 : decode cX7_allPlaces 0 = .ok (.iconst 0, 1) := by decide +kernel
theorem dX7_allPlaces_1 : decode cX7_allPlaces 1 = .ok (.istore_n 1, 1) := by decide +kernel
theorem dX7_allPlaces_2 : decode cX7_allPlaces 2 = .ok (.iconst 0, 1) := by decide +kernel
theorem dX7_allPlaces_3 : decode cX7_allPlaces 3 = .ok (.istore_n 2, 1) := by decide +kernel
theorem dX7_allPlaces_4 : decode cX7_allPlaces 4 = .ok (.iload_n 2, 1) := by decide +kernel
theorem dX7_allPlaces_5 : decode cX7_allPlaces 5 = .ok (.iconst 3, 1) := by decide +kernel
theorem dX7_allPlaces_6 : decode cX7_allPlaces 6 = .ok (.if_icmp .ge 31, 3) := by decide +kernel
theorem dX7_allPlaces_9 : decode cX7_allPlaces 9 = .ok (.iload_n 1, 1) := by decide +kernel
theorem dX7_allPlaces_10 : decode cX7_allPlaces 10 = .ok (.aload_n 0, 1) := by decide +kernel
theorem dX7_allPlaces_11 : decode cX7_allPlaces 11 = .ok (.getfield 20, 3) := by decide +kernel
theorem dX7_allPlaces_14 : decode cX7_allPlaces 14 = .ok (.iload_n 2, 1) := by decide +kernel
theorem dX7_allPlaces_15 : decode cX7_allPlaces 15 = .ok (.iaload, 1) := by decide +kernel
theorem dX7_allPlaces_16 : decode cX7_allPlaces 16 = .ok (.ifCond .ge 7, 3) := by decide +kernel
theorem dX7_allPlaces_19 : decode cX7_allPlaces 19 = .ok (.iconst 0, 1) := by decide +kernel
theorem dX7_allPlaces_20 : decode cX7_allPlaces 20 = .ok (.goto 9, 3) := by decide +kernel
theorem dX7_allPlaces_23 : decode cX7_allPlaces 23 = .ok (.aload_n 0, 1) := by decide +kernel
theorem dX7_allPlaces_24 : decode cX7_allPlaces 24 = .ok (.getfield 20, 3) := by decide +kernel
theorem dX7_allPlaces_27 : decode cX7_allPlaces 27 = .ok (.iload_n 2, 1) := by decide +kernel
theorem dX7_allPlaces_28 : decode cX7_allPlaces 28 = .ok (.iaload, 1) := by decide +kernel
theorem dX7_allPlaces_29 : decode cX7_allPlaces 29 = .ok (.iadd, 1) := by decide +kernel
theorem dX7_allPlaces_30 : decode cX7_allPlaces 30 = .ok (.istore_n 1, 1) := by decide +kernel
theorem dX7_allPlaces_31 : decode cX7_allPlaces 31 = .ok (.iinc 2 1, 3) := by decide +kernel
theorem dX7_allPlaces_34 : decode cX7_allPlaces 34 = .ok (.goto (-30), 3) := by decide +kernel
theorem dX7_allPlaces_37 : decode cX7_allPlaces 37 = .ok (.iload_n 1, 1) := by decide +kernel
theorem dX7_allPlaces_38 : decode cX7_allPlaces 38 = .ok (.ireturn, 1) := by decide +kernel
set_option maxRecDepth 20000 in
theorem ggX7_count_X7_allBeginnings : GoodIn wsX7_count wsX7_allBeginnings := goodIn_r _ [8, 1, 9, 10, 11, 7, 12, 13, 14, 15, 16, 22, 23, 24, 25, 26, 27, 28, 29, 30, 31, 32, 33, 34, 35, 36, 37, 38, 39, 40, 41, 42, 43, 44] (by decide +kernel) (by decide +kernel)
set_option maxRecDepth 20000 in
theorem gX7_count_X7_allBeginnings : GoodIn wsX7_count (wsV RX7 225 RX7 yX7_allBeginnings wsX7_allBeginnings) := goodIn_app (goodIn_of _ (by decide +kernel)) ggX7_count_X7_allBeginnings
set_option maxRecDepth 20000 in
theorem ggX7_count_X7_allPlaces : GoodIn wsX7_count wsX7_allPlaces := goodIn_r _ [20, 21, 22, 23, 24, 25, 26, 27, 28, 29, 30, 31, 32, 33, 34, 35, 36, 37, 38, 39, 40, 41, 42, 43, 44] (by decide +kernel) (by decide +kernel)
set_option maxRecDepth 20000 in
theorem gX7_count_X7_allPlaces : GoodIn wsX7_count (wsV RX7 228 RX7 yX7_allPlaces wsX7_allPlaces) := goodIn_app (goodIn_of _ (by decide +kernel)) ggX7_count_X7_allPlaces
theorem dX7_count_0 : decode cX7_count 0 = .ok (.iload_n 1, 1) := by decide +kernel
theorem dX7_count_1 : decode cX7_count 1 = .ok (.tableswitch 96 0 9 #[55, 55, 55, 55, 62, 67, 74, 81, 86, 91], 55) := by decide +kernel
theorem dX7_count_56 : decode cX7_count 56 = .ok (.aload_n 0, 1) := by decide +kernel
theorem dX7_count_57 : decode cX7_count 57 = .ok (.getfield 7, 3) := by decide +kernel
theorem dX7_count_60 : decode cX7_count 60 = .ok (.iload_n 1, 1) := by decide +kernel
theorem dX7_count_61 : decode cX7_count 61 = .ok (.iaload, 1) := by decide +kernel
theorem dX7_count_62 : decode cX7_count 62 = .ok (.ireturn, 1) := by decide +kernel
theorem dX7_count_63 : decode cX7_count 63 = .ok (.aload_n 0, 1) := by decide +kernel
theorem dX7_count_64 : decode cX7_count 64 = .ok (.invokevirtual 225, 3) := by decide +kernel
theorem dX7_count_67 : decode cX7_count 67 = .ok (.ireturn, 1) := by decide +kernel
theorem dX7_count_68 : decode cX7_count 68 = .ok (.aload_n 0, 1) := by decide +kernel
theorem dX7_count_69 : decode cX7_count 69 = .ok (.getfield 7, 3) := by decide +kernel
theorem dX7_count_72 : decode cX7_count 72 = .ok (.iconst 4, 1) := by decide +kernel
theorem dX7_count_73 : decode cX7_count 73 = .ok (.iaload, 1) := by decide +kernel
theorem dX7_count_74 : decode cX7_count 74 = .ok (.ireturn, 1) := by decide +kernel
theorem dX7_count_75 : decode cX7_count 75 = .ok (.aload_n 0, 1) := by decide +kernel
theorem dX7_count_76 : decode cX7_count 76 = .ok (.getfield 7, 3) := by decide +kernel
theorem dX7_count_79 : decode cX7_count 79 = .ok (.iconst 5, 1) := by decide +kernel
theorem dX7_count_80 : decode cX7_count 80 = .ok (.iaload, 1) := by decide +kernel
theorem dX7_count_81 : decode cX7_count 81 = .ok (.ireturn, 1) := by decide +kernel
theorem dX7_count_82 : decode cX7_count 82 = .ok (.aload_n 0, 1) := by decide +kernel
theorem dX7_count_83 : decode cX7_count 83 = .ok (.invokevirtual 228, 3) := by decide +kernel
theorem dX7_count_86 : decode cX7_count 86 = .ok (.ireturn, 1) := by decide +kernel
theorem dX7_count_87 : decode cX7_count 87 = .ok (.aload_n 0, 1) := by decide +kernel
theorem dX7_count_88 : decode cX7_count 88 = .ok (.getfield 148, 3) := by decide +kernel
theorem dX7_count_91 : decode cX7_count 91 = .ok (.ireturn, 1) := by decide +kernel
theorem dX7_count_92 : decode cX7_count 92 = .ok (.aload_n 0, 1) := by decide +kernel
theorem dX7_count_93 : decode cX7_count 93 = .ok (.getfield 79, 3) := by decide +kernel
theorem dX7_count_96 : decode cX7_count 96 = .ok (.ireturn, 1) := by decide +kernel
theorem dX7_count_97 : decode cX7_count 97 = .ok (.bipush (-3), 2) := by decide +kernel
theorem dX7_count_99 : decode cX7_count 99 = .ok (.ireturn, 1) := by decide +kernel
