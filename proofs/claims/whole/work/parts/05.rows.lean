set_option maxRecDepth 20000 in
theorem ggX7_init_X7_plan : GoodIn wsX7_init wsX7_plan := goodIn_r _ [21, 5, 22, 23, 24, 25, 26, 27, 28, 29, 30, 31, 32, 33, 34, 35, 36, 37, 38, 39, 40, 41, 42, 43, 44] (by decide +kernel) (by decide +kernel)
set_option maxRecDepth 20000 in
theorem gX7_init_X7_plan : GoodIn wsX7_init (wsV RX7 42 RX7 yX7_plan wsX7_plan) := goodIn_app (goodIn_of _ (by decide +kernel)) ggX7_init_X7_plan
theorem dX7_init_0 : decode cX7_init 0 = .ok (.aload_n 0, 1) := by decide +kernel
theorem dX7_init_1 : decode cX7_init 1 = .ok (.invokespecial 1, 3) := by decide +kernel
theorem dX7_init_4 : decode cX7_init 4 = .ok (.aload_n 0, 1) := by decide +kernel
theorem dX7_init_5 : decode cX7_init 5 = .ok (.sipush 1824, 3) := by decide +kernel
theorem dX7_init_8 : decode cX7_init 8 = .ok (.newarray .int, 2) := by decide +kernel
theorem dX7_init_10 : decode cX7_init 10 = .ok (.putfield 7, 3) := by decide +kernel
theorem dX7_init_13 : decode cX7_init 13 = .ok (.aload_n 0, 1) := by decide +kernel
theorem dX7_init_14 : decode cX7_init 14 = .ok (.iconst 2, 1) := by decide +kernel
theorem dX7_init_15 : decode cX7_init 15 = .ok (.newarray .boolean, 2) := by decide +kernel
theorem dX7_init_17 : decode cX7_init 17 = .ok (.putfield 13, 3) := by decide +kernel
theorem dX7_init_20 : decode cX7_init 20 = .ok (.aload_n 0, 1) := by decide +kernel
theorem dX7_init_21 : decode cX7_init 21 = .ok (.sipush 200, 3) := by decide +kernel
theorem dX7_init_24 : decode cX7_init 24 = .ok (.newarray .int, 2) := by decide +kernel
theorem dX7_init_26 : decode cX7_init 26 = .ok (.putfield 17, 3) := by decide +kernel
theorem dX7_init_29 : decode cX7_init 29 = .ok (.aload_n 0, 1) := by decide +kernel
theorem dX7_init_30 : decode cX7_init 30 = .ok (.iconst 3, 1) := by decide +kernel
theorem dX7_init_31 : decode cX7_init 31 = .ok (.newarray .int, 2) := by decide +kernel
theorem dX7_init_33 : decode cX7_init 33 = .ok (.dup, 1) := by decide +kernel
theorem dX7_init_34 : decode cX7_init 34 = .ok (.iconst 0, 1) := by decide +kernel
theorem dX7_init_35 : decode cX7_init 35 = .ok (.iconst (-1), 1) := by decide +kernel
theorem dX7_init_36 : decode cX7_init 36 = .ok (.iastore, 1) := by decide +kernel
theorem dX7_init_37 : decode cX7_init 37 = .ok (.dup, 1) := by decide +kernel
theorem dX7_init_38 : decode cX7_init 38 = .ok (.iconst 1, 1) := by decide +kernel
theorem dX7_init_39 : decode cX7_init 39 = .ok (.iconst (-1), 1) := by decide +kernel
theorem dX7_init_40 : decode cX7_init 40 = .ok (.iastore, 1) := by decide +kernel
theorem dX7_init_41 : decode cX7_init 41 = .ok (.dup, 1) := by decide +kernel
theorem dX7_init_42 : decode cX7_init 42 = .ok (.iconst 2, 1) := by decide +kernel
theorem dX7_init_43 : decode cX7_init 43 = .ok (.iconst (-1), 1) := by decide +kernel
theorem dX7_init_44 : decode cX7_init 44 = .ok (.iastore, 1) := by decide +kernel
theorem dX7_init_45 : decode cX7_init 45 = .ok (.putfield 20, 3) := by decide +kernel
theorem dX7_init_48 : decode cX7_init 48 = .ok (.aload_n 0, 1) := by decide +kernel
theorem dX7_init_49 : decode cX7_init 49 = .ok (.bipush 36, 2) := by decide +kernel
theorem dX7_init_51 : decode cX7_init 51 = .ok (.newarray .long, 2) := by decide +kernel
theorem dX7_init_53 : decode cX7_init 53 = .ok (.putfield 23, 3) := by decide +kernel
theorem dX7_init_56 : decode cX7_init 56 = .ok (.aload_n 0, 1) := by decide +kernel
theorem dX7_init_57 : decode cX7_init 57 = .ok (.iconst 3, 1) := by decide +kernel
theorem dX7_init_58 : decode cX7_init 58 = .ok (.newarray .int, 2) := by decide +kernel
theorem dX7_init_60 : decode cX7_init 60 = .ok (.putfield 27, 3) := by decide +kernel
theorem dX7_init_63 : decode cX7_init 63 = .ok (.aload_n 0, 1) := by decide +kernel
theorem dX7_init_64 : decode cX7_init 64 = .ok (.iconst 4, 1) := by decide +kernel
theorem dX7_init_65 : decode cX7_init 65 = .ok (.newarray .int, 2) := by decide +kernel
theorem dX7_init_67 : decode cX7_init 67 = .ok (.dup, 1) := by decide +kernel
theorem dX7_init_68 : decode cX7_init 68 = .ok (.iconst 0, 1) := by decide +kernel
theorem dX7_init_69 : decode cX7_init 69 = .ok (.bipush 112, 2) := by decide +kernel
theorem dX7_init_71 : decode cX7_init 71 = .ok (.iastore, 1) := by decide +kernel
theorem dX7_init_72 : decode cX7_init 72 = .ok (.dup, 1) := by decide +kernel
theorem dX7_init_73 : decode cX7_init 73 = .ok (.iconst 1, 1) := by decide +kernel
theorem dX7_init_74 : decode cX7_init 74 = .ok (.bipush 108, 2) := by decide +kernel
theorem dX7_init_76 : decode cX7_init 76 = .ok (.iastore, 1) := by decide +kernel
theorem dX7_init_77 : decode cX7_init 77 = .ok (.dup, 1) := by decide +kernel
theorem dX7_init_78 : decode cX7_init 78 = .ok (.iconst 2, 1) := by decide +kernel
theorem dX7_init_79 : decode cX7_init 79 = .ok (.bipush 97, 2) := by decide +kernel
theorem dX7_init_81 : decode cX7_init 81 = .ok (.iastore, 1) := by decide +kernel
theorem dX7_init_82 : decode cX7_init 82 = .ok (.dup, 1) := by decide +kernel
theorem dX7_init_83 : decode cX7_init 83 = .ok (.iconst 3, 1) := by decide +kernel
theorem dX7_init_84 : decode cX7_init 84 = .ok (.bipush 110, 2) := by decide +kernel
theorem dX7_init_86 : decode cX7_init 86 = .ok (.iastore, 1) := by decide +kernel
theorem dX7_init_87 : decode cX7_init 87 = .ok (.putfield 30, 3) := by decide +kernel
theorem dX7_init_90 : decode cX7_init 90 = .ok (.aload_n 0, 1) := by decide +kernel
theorem dX7_init_91 : decode cX7_init 91 = .ok (.iconst 3, 1) := by decide +kernel
theorem dX7_init_92 : decode cX7_init 92 = .ok (.newarray .int, 2) := by decide +kernel
theorem dX7_init_94 : decode cX7_init 94 = .ok (.dup, 1) := by decide +kernel
theorem dX7_init_95 : decode cX7_init 95 = .ok (.iconst 0, 1) := by decide +kernel
theorem dX7_init_96 : decode cX7_init 96 = .ok (.bipush 97, 2) := by decide +kernel
theorem dX7_init_98 : decode cX7_init 98 = .ok (.iastore, 1) := by decide +kernel
theorem dX7_init_99 : decode cX7_init 99 = .ok (.dup, 1) := by decide +kernel
theorem dX7_init_100 : decode cX7_init 100 = .ok (.iconst 1, 1) := by decide +kernel
theorem dX7_init_101 : decode cX7_init 101 = .ok (.bipush 100, 2) := by decide +kernel
theorem dX7_init_103 : decode cX7_init 103 = .ok (.iastore, 1) := by decide +kernel
theorem dX7_init_104 : decode cX7_init 104 = .ok (.dup, 1) := by decide +kernel
theorem dX7_init_105 : decode cX7_init 105 = .ok (.iconst 2, 1) := by decide +kernel
theorem dX7_init_106 : decode cX7_init 106 = .ok (.bipush 100, 2) := by decide +kernel
theorem dX7_init_108 : decode cX7_init 108 = .ok (.iastore, 1) := by decide +kernel
theorem dX7_init_109 : decode cX7_init 109 = .ok (.putfield 33, 3) := by decide +kernel
theorem dX7_init_112 : decode cX7_init 112 = .ok (.aload_n 0, 1) := by decide +kernel
theorem dX7_init_113 : decode cX7_init 113 = .ok (.iconst 3, 1) := by decide +kernel
theorem dX7_init_114 : decode cX7_init 114 = .ok (.newarray .int, 2) := by decide +kernel
theorem dX7_init_116 : decode cX7_init 116 = .ok (.dup, 1) := by decide +kernel
theorem dX7_init_117 : decode cX7_init 117 = .ok (.iconst 0, 1) := by decide +kernel
theorem dX7_init_118 : decode cX7_init 118 = .ok (.bipush 100, 2) := by decide +kernel
theorem dX7_init_120 : decode cX7_init 120 = .ok (.iastore, 1) := by decide +kernel
theorem dX7_init_121 : decode cX7_init 121 = .ok (.dup, 1) := by decide +kernel
theorem dX7_init_122 : decode cX7_init 122 = .ok (.iconst 1, 1) := by decide +kernel
theorem dX7_init_123 : decode cX7_init 123 = .ok (.bipush 101, 2) := by decide +kernel
theorem dX7_init_125 : decode cX7_init 125 = .ok (.iastore, 1) := by decide +kernel
theorem dX7_init_126 : decode cX7_init 126 = .ok (.dup, 1) := by decide +kernel
theorem dX7_init_127 : decode cX7_init 127 = .ok (.iconst 2, 1) := by decide +kernel
theorem dX7_init_128 : decode cX7_init 128 = .ok (.bipush 108, 2) := by decide +kernel
theorem dX7_init_130 : decode cX7_init 130 = .ok (.iastore, 1) := by decide +kernel
theorem dX7_init_131 : decode cX7_init 131 = .ok (.putfield 36, 3) := by decide +kernel
theorem dX7_init_134 : decode cX7_init 134 = .ok (.aload_n 0, 1) := by decide +kernel
theorem dX7_init_135 : decode cX7_init 135 = .ok (.iconst 4, 1) := by decide +kernel
theorem dX7_init_136 : decode cX7_init 136 = .ok (.newarray .int, 2) := by decide +kernel
theorem dX7_init_138 : decode cX7_init 138 = .ok (.dup, 1) := by decide +kernel
theorem dX7_init_139 : decode cX7_init 139 = .ok (.iconst 0, 1) := by decide +kernel
theorem dX7_init_140 : decode cX7_init 140 = .ok (.bipush 102, 2) := by decide +kernel
theorem dX7_init_142 : decode cX7_init 142 = .ok (.iastore, 1) := by decide +kernel
theorem dX7_init_143 : decode cX7_init 143 = .ok (.dup, 1) := by decide +kernel
theorem dX7_init_144 : decode cX7_init 144 = .ok (.iconst 1, 1) := by decide +kernel
theorem dX7_init_145 : decode cX7_init 145 = .ok (.bipush 105, 2) := by decide +kernel
theorem dX7_init_147 : decode cX7_init 147 = .ok (.iastore, 1) := by decide +kernel
theorem dX7_init_148 : decode cX7_init 148 = .ok (.dup, 1) := by decide +kernel
theorem dX7_init_149 : decode cX7_init 149 = .ok (.iconst 2, 1) := by decide +kernel
theorem dX7_init_150 : decode cX7_init 150 = .ok (.bipush 108, 2) := by decide +kernel
theorem dX7_init_152 : decode cX7_init 152 = .ok (.iastore, 1) := by decide +kernel
theorem dX7_init_153 : decode cX7_init 153 = .ok (.dup, 1) := by decide +kernel
theorem dX7_init_154 : decode cX7_init 154 = .ok (.iconst 3, 1) := by decide +kernel
theorem dX7_init_155 : decode cX7_init 155 = .ok (.bipush 108, 2) := by decide +kernel
theorem dX7_init_157 : decode cX7_init 157 = .ok (.iastore, 1) := by decide +kernel
theorem dX7_init_158 : decode cX7_init 158 = .ok (.putfield 39, 3) := by decide +kernel
theorem dX7_init_161 : decode cX7_init 161 = .ok (.aload_n 0, 1) := by decide +kernel
theorem dX7_init_162 : decode cX7_init 162 = .ok (.iconst 0, 1) := by decide +kernel
theorem dX7_init_163 : decode cX7_init 163 = .ok (.bipush 8, 2) := by decide +kernel
theorem dX7_init_165 : decode cX7_init 165 = .ok (.iconst 2, 1) := by decide +kernel
theorem dX7_init_166 : decode cX7_init 166 = .ok (.invokevirtual 42, 3) := by decide +kernel
theorem dX7_init_169 : decode cX7_init 169 = .ok (.return_, 1) := by decide +kernel
theorem dX7_in_0 : decode cX7_in 0 = .ok (.lload_n 0, 1) := by decide +kernel
theorem dX7_in_1 : decode cX7_in 1 = .ok (.lload_n 2, 1) := by decide +kernel
theorem dX7_in_2 : decode cX7_in 2 = .ok (.lcmp, 1) := by decide +kernel
theorem dX7_in_3 : decode cX7_in 3 = .ok (.ifCond .lt 14, 3) := by decide +kernel
theorem dX7_in_6 : decode cX7_in 6 = .ok (.lload_n 0, 1) := by decide +kernel
theorem dX7_in_7 : decode cX7_in 7 = .ok (.lload 4, 2) := by decide +kernel
theorem dX7_in_9 : decode cX7_in 9 = .ok (.lcmp, 1) := by decide +kernel
theorem dX7_in_10 : decode cX7_in 10 = .ok (.ifCond .gt 7, 3) := by decide +kernel
theorem dX7_in_13 : decode cX7_in 13 = .ok (.iconst 1, 1) := by decide +kernel
theorem dX7_in_14 : decode cX7_in 14 = .ok (.goto 4, 3) := by decide +kernel
theorem dX7_in_17 : decode cX7_in 17 = .ok (.iconst 0, 1) := by decide +kernel
theorem dX7_in_18 : decode cX7_in 18 = .ok (.ireturn, 1) := by decide +kernel
theorem dX7_plan_0 : decode cX7_plan 0 = .ok (.iconst 0, 1) := by decide +kernel
theorem dX7_plan_1 : decode cX7_plan 1 = .ok (.istore 4, 2) := by decide +kernel
theorem dX7_plan_3 : decode cX7_plan 3 = .ok (.iload 4, 2) := by decide +kernel
theorem dX7_plan_5 : decode cX7_plan 5 = .ok (.sipush 152, 3) := by decide +kernel
theorem dX7_plan_8 : decode cX7_plan 8 = .ok (.if_icmp .ge 19, 3) := by decide +kernel
theorem dX7_plan_11 : decode cX7_plan 11 = .ok (.aload_n 0, 1) := by decide +kernel
theorem dX7_plan_12 : decode cX7_plan 12 = .ok (.getfield 7, 3) := by decide +kernel
theorem dX7_plan_15 : decode cX7_plan 15 = .ok (.iload_n 1, 1) := by decide +kernel
theorem dX7_plan_16 : decode cX7_plan 16 = .ok (.iload 4, 2) := by decide +kernel
theorem dX7_plan_18 : decode cX7_plan 18 = .ok (.iadd, 1) := by decide +kernel
theorem dX7_plan_19 : decode cX7_plan 19 = .ok (.iconst 0, 1) := by decide +kernel
theorem dX7_plan_20 : decode cX7_plan 20 = .ok (.iastore, 1) := by decide +kernel
theorem dX7_plan_21 : decode cX7_plan 21 = .ok (.iinc 4 1, 3) := by decide +kernel
theorem dX7_plan_24 : decode cX7_plan 24 = .ok (.goto (-21), 3) := by decide +kernel
theorem dX7_plan_27 : decode cX7_plan 27 = .ok (.aload_n 0, 1) := by decide +kernel
theorem dX7_plan_28 : decode cX7_plan 28 = .ok (.getfield 7, 3) := by decide +kernel
theorem dX7_plan_31 : decode cX7_plan 31 = .ok (.iload_n 1, 1) := by decide +kernel
theorem dX7_plan_32 : decode cX7_plan 32 = .ok (.iconst 0, 1) := by decide +kernel
theorem dX7_plan_33 : decode cX7_plan 33 = .ok (.iadd, 1) := by decide +kernel
theorem dX7_plan_34 : decode cX7_plan 34 = .ok (.iload_n 2, 1) := by decide +kernel
theorem dX7_plan_35 : decode cX7_plan 35 = .ok (.iastore, 1) := by decide +kernel
theorem dX7_plan_36 : decode cX7_plan 36 = .ok (.aload_n 0, 1) := by decide +kernel
theorem dX7_plan_37 : decode cX7_plan 37 = .ok (.getfield 7, 3) := by decide +kernel
theorem dX7_plan_40 : decode cX7_plan 40 = .ok (.iload_n 1, 1) := by decide +kernel
theorem dX7_plan_41 : decode cX7_plan 41 = .ok (.iconst 1, 1) := by decide +kernel
theorem dX7_plan_42 : decode cX7_plan 42 = .ok (.iadd, 1) := by decide +kernel
theorem dX7_plan_43 : decode cX7_plan 43 = .ok (.iload_n 3, 1) := by decide +kernel
theorem dX7_plan_44 : decode cX7_plan 44 = .ok (.iastore, 1) := by decide +kernel
theorem dX7_plan_45 : decode cX7_plan 45 = .ok (.aload_n 0, 1) := by decide +kernel
theorem dX7_plan_46 : decode cX7_plan 46 = .ok (.getfield 7, 3) := by decide +kernel
theorem dX7_plan_49 : decode cX7_plan 49 = .ok (.iload_n 1, 1) := by decide +kernel
theorem dX7_plan_50 : decode cX7_plan 50 = .ok (.iconst 3, 1) := by decide +kernel
theorem dX7_plan_51 : decode cX7_plan 51 = .ok (.iadd, 1) := by decide +kernel
theorem dX7_plan_52 : decode cX7_plan 52 = .ok (.iconst 1, 1) := by decide +kernel
theorem dX7_plan_53 : decode cX7_plan 53 = .ok (.iastore, 1) := by decide +kernel
theorem dX7_plan_54 : decode cX7_plan 54 = .ok (.aload_n 0, 1) := by decide +kernel
theorem dX7_plan_55 : decode cX7_plan 55 = .ok (.getfield 7, 3) := by decide +kernel
theorem dX7_plan_58 : decode cX7_plan 58 = .ok (.iload_n 1, 1) := by decide +kernel
theorem dX7_plan_59 : decode cX7_plan 59 = .ok (.bipush 102, 2) := by decide +kernel
theorem dX7_plan_61 : decode cX7_plan 61 = .ok (.iadd, 1) := by decide +kernel
theorem dX7_plan_62 : decode cX7_plan 62 = .ok (.iconst 1, 1) := by decide +kernel
theorem dX7_plan_63 : decode cX7_plan 63 = .ok (.iload_n 2, 1) := by decide +kernel
theorem dX7_plan_64 : decode cX7_plan 64 = .ok (.ishl, 1) := by decide +kernel
theorem dX7_plan_65 : decode cX7_plan 65 = .ok (.iconst 1, 1) := by decide +kernel
theorem dX7_plan_66 : decode cX7_plan 66 = .ok (.isub, 1) := by decide +kernel
theorem dX7_plan_67 : decode cX7_plan 67 = .ok (.iastore, 1) := by decide +kernel
theorem dX7_plan_68 : decode cX7_plan 68 = .ok (.return_, 1) := by decide +kernel
theorem dX7_top_0 : decode cX7_top 0 = .ok (.iconst 1, 1) := by decide +kernel
theorem dX7_top_1 : decode cX7_top 1 = .ok (.aload_n 0, 1) := by decide +kernel
theorem dX7_top_2 : decode cX7_top 2 = .ok (.getfield 7, 3) := by decide +kernel
theorem dX7_top_5 : decode cX7_top 5 = .ok (.iconst 0, 1) := by decide +kernel
theorem dX7_top_6 : decode cX7_top 6 = .ok (.iaload, 1) := by decide +kernel
theorem dX7_top_7 : decode cX7_top 7 = .ok (.ishl, 1) := by decide +kernel
theorem dX7_top_8 : decode cX7_top 8 = .ok (.iconst 1, 1) := by decide +kernel
theorem dX7_top_9 : decode cX7_top 9 = .ok (.isub, 1) := by decide +kernel
theorem dX7_top_10 : decode cX7_top 10 = .ok (.ireturn, 1) := by decide +kernel
theorem dX7_below_0 : decode cX7_below 0 = .ok (.iconst 0, 1) := by decide +kernel
theorem dX7_below_1 : decode cX7_below 1 = .ok (.istore_n 3, 1) := by decide +kernel
theorem dX7_below_2 : decode cX7_below 2 = .ok (.iload_n 3, 1) := by decide +kernel
theorem dX7_below_3 : decode cX7_below 3 = .ok (.aload_n 0, 1) := by decide +kernel
theorem dX7_below_4 : decode cX7_below 4 = .ok (.getfield 7, 3) := by decide +kernel
theorem dX7_below_7 : decode cX7_below 7 = .ok (.iload_n 1, 1) := by decide +kernel
theorem dX7_below_8 : decode cX7_below 8 = .ok (.iconst 2, 1) := by decide +kernel
theorem dX7_below_9 : decode cX7_below 9 = .ok (.iadd, 1) := by decide +kernel
theorem dX7_below_10 : decode cX7_below 10 = .ok (.iaload, 1) := by decide +kernel
theorem dX7_below_11 : decode cX7_below 11 = .ok (.if_icmp .ge 24, 3) := by decide +kernel
theorem dX7_below_14 : decode cX7_below 14 = .ok (.aload_n 0, 1) := by decide +kernel
theorem dX7_below_15 : decode cX7_below 15 = .ok (.getfield 7, 3) := by decide +kernel
theorem dX7_below_18 : decode cX7_below 18 = .ok (.iload_n 1, 1) := by decide +kernel
theorem dX7_below_19 : decode cX7_below 19 = .ok (.bipush 6, 2) := by decide +kernel
theorem dX7_below_21 : decode cX7_below 21 = .ok (.iadd, 1) := by decide +kernel
theorem dX7_below_22 : decode cX7_below 22 = .ok (.iload_n 3, 1) := by decide +kernel
theorem dX7_below_23 : decode cX7_below 23 = .ok (.iadd, 1) := by decide +kernel
theorem dX7_below_24 : decode cX7_below 24 = .ok (.iaload, 1) := by decide +kernel
theorem dX7_below_25 : decode cX7_below 25 = .ok (.iload_n 2, 1) := by decide +kernel
theorem dX7_below_26 : decode cX7_below 26 = .ok (.if_icmp .ge 9, 3) := by decide +kernel
theorem dX7_below_29 : decode cX7_below 29 = .ok (.iinc 3 1, 3) := by decide +kernel
theorem dX7_below_32 : decode cX7_below 32 = .ok (.goto (-30), 3) := by decide +kernel
theorem dX7_below_35 : decode cX7_below 35 = .ok (.iload_n 3, 1) := by decide +kernel
theorem dX7_below_36 : decode cX7_below 36 = .ok (.ireturn, 1) := by decide +kernel
set_option maxRecDepth 20000 in
theorem ggX7_isKey_X7_below : GoodIn wsX7_isKey wsX7_below := goodIn_r _ [6, 1, 7, 8, 9, 10, 11, 12, 13, 14, 15, 16, 17, 18, 19, 20, 21, 22, 23, 24, 25, 26, 27, 28, 29] (by decide +kernel) (by decide +kernel)
set_option maxRecDepth 20000 in
theorem gX7_isKey_X7_below : GoodIn wsX7_isKey (wsV RX7 46 RX7 yX7_below wsX7_below) := goodIn_app (goodIn_of _ (by decide +kernel)) ggX7_isKey_X7_below
theorem dX7_isKey_0 : decode cX7_isKey 0 = .ok (.aload_n 0, 1) := by decide +kernel
theorem dX7_isKey_1 : decode cX7_isKey 1 = .ok (.iload_n 1, 1) := by decide +kernel
theorem dX7_isKey_2 : decode cX7_isKey 2 = .ok (.iload_n 2, 1) := by decide +kernel
theorem dX7_isKey_3 : decode cX7_isKey 3 = .ok (.invokevirtual 46, 3) := by decide +kernel
theorem dX7_isKey_6 : decode cX7_isKey 6 = .ok (.istore_n 3, 1) := by decide +kernel
theorem dX7_isKey_7 : decode cX7_isKey 7 = .ok (.iload_n 3, 1) := by decide +kernel
theorem dX7_isKey_8 : decode cX7_isKey 8 = .ok (.aload_n 0, 1) := by decide +kernel
theorem dX7_isKey_9 : decode cX7_isKey 9 = .ok (.getfield 7, 3) := by decide +kernel
theorem dX7_isKey_12 : decode cX7_isKey 12 = .ok (.iload_n 1, 1) := by decide +kernel
theorem dX7_isKey_13 : decode cX7_isKey 13 = .ok (.iconst 2, 1) := by decide +kernel
theorem dX7_isKey_14 : decode cX7_isKey 14 = .ok (.iadd, 1) := by decide +kernel
theorem dX7_isKey_15 : decode cX7_isKey 15 = .ok (.iaload, 1) := by decide +kernel
theorem dX7_isKey_16 : decode cX7_isKey 16 = .ok (.if_icmp .ge 22, 3) := by decide +kernel
theorem dX7_isKey_19 : decode cX7_isKey 19 = .ok (.aload_n 0, 1) := by decide +kernel
theorem dX7_isKey_20 : decode cX7_isKey 20 = .ok (.getfield 7, 3) := by decide +kernel
theorem dX7_isKey_23 : decode cX7_isKey 23 = .ok (.iload_n 1, 1) := by decide +kernel
theorem dX7_isKey_24 : decode cX7_isKey 24 = .ok (.bipush 6, 2) := by decide +kernel
theorem dX7_isKey_26 : decode cX7_isKey 26 = .ok (.iadd, 1) := by decide +kernel
theorem dX7_isKey_27 : decode cX7_isKey 27 = .ok (.iload_n 3, 1) := by decide +kernel
theorem dX7_isKey_28 : decode cX7_isKey 28 = .ok (.iadd, 1) := by decide +kernel
theorem dX7_isKey_29 : decode cX7_isKey 29 = .ok (.iaload, 1) := by decide +kernel
theorem dX7_isKey_30 : decode cX7_isKey 30 = .ok (.iload_n 2, 1) := by decide +kernel
theorem dX7_isKey_31 : decode cX7_isKey 31 = .ok (.if_icmp .ne 7, 3) := by decide +kernel
theorem dX7_isKey_34 : decode cX7_isKey 34 = .ok (.iconst 1, 1) := by decide +kernel
theorem dX7_isKey_35 : decode cX7_isKey 35 = .ok (.goto 4, 3) := by decide +kernel
theorem dX7_isKey_38 : decode cX7_isKey 38 = .ok (.iconst 0, 1) := by decide +kernel
theorem dX7_isKey_39 : decode cX7_isKey 39 = .ok (.ireturn, 1) := by decide +kernel
theorem dX7_bucketOf_0 : decode cX7_bucketOf 0 = .ok (.iconst 0, 1) := by decide +kernel
theorem dX7_bucketOf_1 : decode cX7_bucketOf 1 = .ok (.istore_n 3, 1) := by decide +kernel
theorem dX7_bucketOf_2 : decode cX7_bucketOf 2 = .ok (.aload_n 0, 1) := by decide +kernel
theorem dX7_bucketOf_3 : decode cX7_bucketOf 3 = .ok (.getfield 7, 3) := by decide +kernel
theorem dX7_bucketOf_6 : decode cX7_bucketOf 6 = .ok (.iload_n 1, 1) := by decide +kernel
theorem dX7_bucketOf_7 : decode cX7_bucketOf 7 = .ok (.bipush 102, 2) := by decide +kernel
theorem dX7_bucketOf_9 : decode cX7_bucketOf 9 = .ok (.iadd, 1) := by decide +kernel
theorem dX7_bucketOf_10 : decode cX7_bucketOf 10 = .ok (.iload_n 3, 1) := by decide +kernel
theorem dX7_bucketOf_11 : decode cX7_bucketOf 11 = .ok (.iadd, 1) := by decide +kernel
theorem dX7_bucketOf_12 : decode cX7_bucketOf 12 = .ok (.iaload, 1) := by decide +kernel
theorem dX7_bucketOf_13 : decode cX7_bucketOf 13 = .ok (.iload_n 2, 1) := by decide +kernel
theorem dX7_bucketOf_14 : decode cX7_bucketOf 14 = .ok (.if_icmp .ge 9, 3) := by decide +kernel
theorem dX7_bucketOf_17 : decode cX7_bucketOf 17 = .ok (.iinc 3 1, 3) := by decide +kernel
theorem dX7_bucketOf_20 : decode cX7_bucketOf 20 = .ok (.goto (-18), 3) := by decide +kernel
theorem dX7_bucketOf_23 : decode cX7_bucketOf 23 = .ok (.iload_n 3, 1) := by decide +kernel
theorem dX7_bucketOf_24 : decode cX7_bucketOf 24 = .ok (.ireturn, 1) := by decide +kernel
set_option maxRecDepth 20000 in
theorem ggX7_aheadOf_X7_below : GoodIn wsX7_aheadOf wsX7_below := goodIn_r _ [6, 1, 7, 8, 9, 10, 11, 12, 13, 14, 15, 16, 17, 18, 19, 20, 21, 22, 23, 24, 25, 26, 27, 28, 29] (by decide +kernel) (by decide +kernel)
set_option maxRecDepth 20000 in
theorem gX7_aheadOf_X7_below : GoodIn wsX7_aheadOf (wsV RX7 46 RX7 yX7_below wsX7_below) := goodIn_app (goodIn_of _ (by decide +kernel)) ggX7_aheadOf_X7_below
theorem dX7_aheadOf_0 : decode cX7_aheadOf 0 = .ok (.iload_n 2, 1) := by decide +kernel
theorem dX7_aheadOf_1 : decode cX7_aheadOf 1 = .ok (.ifCond .ne 7, 3) := by decide +kernel
theorem dX7_aheadOf_4 : decode cX7_aheadOf 4 = .ok (.iconst 0, 1) := by decide +kernel
theorem dX7_aheadOf_5 : decode cX7_aheadOf 5 = .ok (.goto 23, 3) := by decide +kernel
theorem dX7_aheadOf_8 : decode cX7_aheadOf 8 = .ok (.aload_n 0, 1) := by decide +kernel
theorem dX7_aheadOf_9 : decode cX7_aheadOf 9 = .ok (.iload_n 1, 1) := by decide +kernel
theorem dX7_aheadOf_10 : decode cX7_aheadOf 10 = .ok (.aload_n 0, 1) := by decide +kernel
theorem dX7_aheadOf_11 : decode cX7_aheadOf 11 = .ok (.getfield 7, 3) := by decide +kernel
theorem dX7_aheadOf_14 : decode cX7_aheadOf 14 = .ok (.iload_n 1, 1) := by decide +kernel
theorem dX7_aheadOf_15 : decode cX7_aheadOf 15 = .ok (.bipush 102, 2) := by decide +kernel
theorem dX7_aheadOf_17 : decode cX7_aheadOf 17 = .ok (.iadd, 1) := by decide +kernel
theorem dX7_aheadOf_18 : decode cX7_aheadOf 18 = .ok (.iload_n 2, 1) := by decide +kernel
theorem dX7_aheadOf_19 : decode cX7_aheadOf 19 = .ok (.iadd, 1) := by decide +kernel
theorem dX7_aheadOf_20 : decode cX7_aheadOf 20 = .ok (.iconst 1, 1) := by decide +kernel
theorem dX7_aheadOf_21 : decode cX7_aheadOf 21 = .ok (.isub, 1) := by decide +kernel
theorem dX7_aheadOf_22 : decode cX7_aheadOf 22 = .ok (.iaload, 1) := by decide +kernel
theorem dX7_aheadOf_23 : decode cX7_aheadOf 23 = .ok (.iconst 1, 1) := by decide +kernel
theorem dX7_aheadOf_24 : decode cX7_aheadOf 24 = .ok (.iadd, 1) := by decide +kernel
theorem dX7_aheadOf_25 : decode cX7_aheadOf 25 = .ok (.invokevirtual 46, 3) := by decide +kernel
theorem dX7_aheadOf_28 : decode cX7_aheadOf 28 = .ok (.ireturn, 1) := by decide +kernel
set_option maxRecDepth 20000 in
theorem ggX7_keysIn_X7_below : GoodIn wsX7_keysIn wsX7_below := goodIn_r _ [6, 1, 11, 12, 13, 14, 15, 16, 17, 18, 19, 20, 21, 22, 23, 24, 25, 26, 27, 28, 29, 30, 31, 32, 33] (by decide +kernel) (by decide +kernel)
set_option maxRecDepth 20000 in
theorem gX7_keysIn_X7_below : GoodIn wsX7_keysIn (wsV RX7 46 RX7 yX7_below wsX7_below) := goodIn_app (goodIn_of _ (by decide +kernel)) ggX7_keysIn_X7_below
set_option maxRecDepth 20000 in
theorem ggX7_keysIn_X7_aheadOf : GoodIn wsX7_keysIn wsX7_aheadOf := goodIn_r _ [10, 1, 2, 3, 4, 5, 6, 11, 12, 13, 14, 15, 16, 17, 18, 19, 20, 21, 22, 23, 24, 25, 26, 27, 28, 29, 30, 31, 32, 33] (by decide +kernel) (by decide +kernel)
set_option maxRecDepth 20000 in
theorem gX7_keysIn_X7_aheadOf : GoodIn wsX7_keysIn (wsV RX7 50 RX7 yX7_aheadOf wsX7_aheadOf) := goodIn_app (goodIn_of _ (by decide +kernel)) ggX7_keysIn_X7_aheadOf
theorem dX7_keysIn_0 : decode cX7_keysIn 0 = .ok (.aload_n 0, 1) := by decide +kernel
theorem dX7_keysIn_1 : decode cX7_keysIn 1 = .ok (.iload_n 1, 1) := by decide +kernel
theorem dX7_keysIn_2 : decode cX7_keysIn 2 = .ok (.aload_n 0, 1) := by decide +kernel
theorem dX7_keysIn_3 : decode cX7_keysIn 3 = .ok (.getfield 7, 3) := by decide +kernel
theorem dX7_keysIn_6 : decode cX7_keysIn 6 = .ok (.iload_n 1, 1) := by decide +kernel
theorem dX7_keysIn_7 : decode cX7_keysIn 7 = .ok (.bipush 102, 2) := by decide +kernel
theorem dX7_keysIn_9 : decode cX7_keysIn 9 = .ok (.iadd, 1) := by decide +kernel
theorem dX7_keysIn_10 : decode cX7_keysIn 10 = .ok (.iload_n 2, 1) := by decide +kernel
theorem dX7_keysIn_11 : decode cX7_keysIn 11 = .ok (.iadd, 1) := by decide +kernel
theorem dX7_keysIn_12 : decode cX7_keysIn 12 = .ok (.iaload, 1) := by decide +kernel
theorem dX7_keysIn_13 : decode cX7_keysIn 13 = .ok (.iconst 1, 1) := by decide +kernel
theorem dX7_keysIn_14 : decode cX7_keysIn 14 = .ok (.iadd, 1) := by decide +kernel
theorem dX7_keysIn_15 : decode cX7_keysIn 15 = .ok (.invokevirtual 46, 3) := by decide +kernel
theorem dX7_keysIn_18 : decode cX7_keysIn 18 = .ok (.aload_n 0, 1) := by decide +kernel
theorem dX7_keysIn_19 : decode cX7_keysIn 19 = .ok (.iload_n 1, 1) := by decide +kernel
theorem dX7_keysIn_20 : decode cX7_keysIn 20 = .ok (.iload_n 2, 1) := by decide +kernel
theorem dX7_keysIn_21 : decode cX7_keysIn 21 = .ok (.invokevirtual 50, 3) := by decide +kernel
theorem dX7_keysIn_24 : decode cX7_keysIn 24 = .ok (.isub, 1) := by decide +kernel
theorem dX7_keysIn_25 : decode cX7_keysIn 25 = .ok (.ireturn, 1) := by decide +kernel
set_option maxRecDepth 20000 in
theorem ggX7_split_X7_aheadOf : GoodIn wsX7_split wsX7_aheadOf := goodIn_r _ [6, 1, 7, 8, 9, 5, 10, 15, 16, 17, 18, 19, 20, 21, 22, 23, 24, 25, 26, 27, 28, 29, 30, 31, 32, 33, 34, 35, 36, 37] (by decide +kernel) (by decide +kernel)
set_option maxRecDepth 20000 in
theorem gX7_split_X7_aheadOf : GoodIn wsX7_split (wsV RX7 50 RX7 yX7_aheadOf wsX7_aheadOf) := goodIn_app (goodIn_of _ (by decide +kernel)) ggX7_split_X7_aheadOf
set_option maxRecDepth 20000 in
theorem ggX7_split_X7_keysIn : GoodIn wsX7_split wsX7_keysIn := goodIn_r _ [14, 1, 7, 8, 9, 5, 10, 2, 3, 4, 6, 15, 16, 17, 18, 19, 20, 21, 22, 23, 24, 25, 26, 27, 28, 29, 30, 31, 32, 33, 34, 35, 36, 37] (by decide +kernel) (by decide +kernel)
set_option maxRecDepth 20000 in
theorem gX7_split_X7_keysIn : GoodIn wsX7_split (wsV RX7 53 RX7 yX7_keysIn wsX7_keysIn) := goodIn_app (goodIn_of _ (by decide +kernel)) ggX7_split_X7_keysIn
theorem dX7_split_0 : decode cX7_split 0 = .ok (.aload_n 0, 1) := by decide +kernel
theorem dX7_split_1 : decode cX7_split 1 = .ok (.getfield 7, 3) := by decide +kernel
theorem dX7_split_4 : decode cX7_split 4 = .ok (.iload_n 1, 1) := by decide +kernel
theorem dX7_split_5 : decode cX7_split 5 = .ok (.bipush 6, 2) := by decide +kernel
theorem dX7_split_7 : decode cX7_split 7 = .ok (.iadd, 1) := by decide +kernel
theorem dX7_split_8 : decode cX7_split 8 = .ok (.aload_n 0, 1) := by decide +kernel
theorem dX7_split_9 : decode cX7_split 9 = .ok (.iload_n 1, 1) := by decide +kernel
theorem dX7_split_10 : decode cX7_split 10 = .ok (.iload_n 2, 1) := by decide +kernel
theorem dX7_split_11 : decode cX7_split 11 = .ok (.invokevirtual 50, 3) := by decide +kernel
theorem dX7_split_14 : decode cX7_split 14 = .ok (.iadd, 1) := by decide +kernel
theorem dX7_split_15 : decode cX7_split 15 = .ok (.aload_n 0, 1) := by decide +kernel
theorem dX7_split_16 : decode cX7_split 16 = .ok (.iload_n 1, 1) := by decide +kernel
theorem dX7_split_17 : decode cX7_split 17 = .ok (.iload_n 2, 1) := by decide +kernel
theorem dX7_split_18 : decode cX7_split 18 = .ok (.invokevirtual 53, 3) := by decide +kernel
theorem dX7_split_21 : decode cX7_split 21 = .ok (.iconst 2, 1) := by decide +kernel
theorem dX7_split_22 : decode cX7_split 22 = .ok (.idiv, 1) := by decide +kernel
theorem dX7_split_23 : decode cX7_split 23 = .ok (.iadd, 1) := by decide +kernel
theorem dX7_split_24 : decode cX7_split 24 = .ok (.iconst 1, 1) := by decide +kernel
theorem dX7_split_25 : decode cX7_split 25 = .ok (.isub, 1) := by decide +kernel
theorem dX7_split_26 : decode cX7_split 26 = .ok (.iaload, 1) := by decide +kernel
theorem dX7_split_27 : decode cX7_split 27 = .ok (.istore_n 3, 1) := by decide +kernel
theorem dX7_split_28 : decode cX7_split 28 = .ok (.aload_n 0, 1) := by decide +kernel
theorem dX7_split_29 : decode cX7_split 29 = .ok (.getfield 7, 3) := by decide +kernel
theorem dX7_split_32 : decode cX7_split 32 = .ok (.iload_n 1, 1) := by decide +kernel
theorem dX7_split_33 : decode cX7_split 33 = .ok (.iconst 3, 1) := by decide +kernel
theorem dX7_split_34 : decode cX7_split 34 = .ok (.iadd, 1) := by decide +kernel
theorem dX7_split_35 : decode cX7_split 35 = .ok (.iaload, 1) := by decide +kernel
theorem dX7_split_36 : decode cX7_split 36 = .ok (.istore 4, 2) := by decide +kernel
theorem dX7_split_38 : decode cX7_split 38 = .ok (.iload 4, 2) := by decide +kernel
theorem dX7_split_40 : decode cX7_split 40 = .ok (.iload_n 2, 1) := by decide +kernel
theorem dX7_split_41 : decode cX7_split 41 = .ok (.if_icmp .le 35, 3) := by decide +kernel
theorem dX7_split_44 : decode cX7_split 44 = .ok (.aload_n 0, 1) := by decide +kernel
theorem dX7_split_45 : decode cX7_split 45 = .ok (.getfield 7, 3) := by decide +kernel
theorem dX7_split_48 : decode cX7_split 48 = .ok (.iload_n 1, 1) := by decide +kernel
theorem dX7_split_49 : decode cX7_split 49 = .ok (.bipush 102, 2) := by decide +kernel
theorem dX7_split_51 : decode cX7_split 51 = .ok (.iadd, 1) := by decide +kernel
theorem dX7_split_52 : decode cX7_split 52 = .ok (.iload 4, 2) := by decide +kernel
theorem dX7_split_54 : decode cX7_split 54 = .ok (.iadd, 1) := by decide +kernel
theorem dX7_split_55 : decode cX7_split 55 = .ok (.aload_n 0, 1) := by decide +kernel
theorem dX7_split_56 : decode cX7_split 56 = .ok (.getfield 7, 3) := by decide +kernel
theorem dX7_split_59 : decode cX7_split 59 = .ok (.iload_n 1, 1) := by decide +kernel
theorem dX7_split_60 : decode cX7_split 60 = .ok (.bipush 102, 2) := by decide +kernel
theorem dX7_split_62 : decode cX7_split 62 = .ok (.iadd, 1) := by decide +kernel
theorem dX7_split_63 : decode cX7_split 63 = .ok (.iload 4, 2) := by decide +kernel
theorem dX7_split_65 : decode cX7_split 65 = .ok (.iadd, 1) := by decide +kernel
theorem dX7_split_66 : decode cX7_split 66 = .ok (.iconst 1, 1) := by decide +kernel
theorem dX7_split_67 : decode cX7_split 67 = .ok (.isub, 1) := by decide +kernel
theorem dX7_split_68 : decode cX7_split 68 = .ok (.iaload, 1) := by decide +kernel
theorem dX7_split_69 : decode cX7_split 69 = .ok (.iastore, 1) := by decide +kernel
theorem dX7_split_70 : decode cX7_split 70 = .ok (.iinc 4 (-1), 3) := by decide +kernel
theorem dX7_split_73 : decode cX7_split 73 = .ok (.goto (-35), 3) := by decide +kernel
theorem dX7_split_76 : decode cX7_split 76 = .ok (.aload_n 0, 1) := by decide +kernel
theorem dX7_split_77 : decode cX7_split 77 = .ok (.getfield 7, 3) := by decide +kernel
theorem dX7_split_80 : decode cX7_split 80 = .ok (.iload_n 1, 1) := by decide +kernel
theorem dX7_split_81 : decode cX7_split 81 = .ok (.bipush 102, 2) := by decide +kernel
theorem dX7_split_83 : decode cX7_split 83 = .ok (.iadd, 1) := by decide +kernel
theorem dX7_split_84 : decode cX7_split 84 = .ok (.iload_n 2, 1) := by decide +kernel
theorem dX7_split_85 : decode cX7_split 85 = .ok (.iadd, 1) := by decide +kernel
theorem dX7_split_86 : decode cX7_split 86 = .ok (.iload_n 3, 1) := by decide +kernel
theorem dX7_split_87 : decode cX7_split 87 = .ok (.iastore, 1) := by decide +kernel
theorem dX7_split_88 : decode cX7_split 88 = .ok (.aload_n 0, 1) := by decide +kernel
theorem dX7_split_89 : decode cX7_split 89 = .ok (.getfield 7, 3) := by decide +kernel
theorem dX7_split_92 : decode cX7_split 92 = .ok (.iload_n 1, 1) := by decide +kernel
theorem dX7_split_93 : decode cX7_split 93 = .ok (.iconst 3, 1) := by decide +kernel
theorem dX7_split_94 : decode cX7_split 94 = .ok (.iadd, 1) := by decide +kernel
theorem dX7_split_95 : decode cX7_split 95 = .ok (.dup2, 1) := by decide +kernel
theorem dX7_split_96 : decode cX7_split 96 = .ok (.iaload, 1) := by decide +kernel
theorem dX7_split_97 : decode cX7_split 97 = .ok (.iconst 1, 1) := by decide +kernel
theorem dX7_split_98 : decode cX7_split 98 = .ok (.iadd, 1) := by decide +kernel
theorem dX7_split_99 : decode cX7_split 99 = .ok (.iastore, 1) := by decide +kernel
theorem dX7_split_100 : decode cX7_split 100 = .ok (.aload_n 0, 1) := by decide +kernel
theorem dX7_split_101 : decode cX7_split 101 = .ok (.getfield 7, 3) := by decide +kernel
theorem dX7_split_104 : decode cX7_split 104 = .ok (.iload_n 1, 1) := by decide +kernel
theorem dX7_split_105 : decode cX7_split 105 = .ok (.iconst 4, 1) := by decide +kernel
theorem dX7_split_106 : decode cX7_split 106 = .ok (.iadd, 1) := by decide +kernel
theorem dX7_split_107 : decode cX7_split 107 = .ok (.dup2, 1) := by decide +kernel
theorem dX7_split_108 : decode cX7_split 108 = .ok (.iaload, 1) := by decide +kernel
theorem dX7_split_109 : decode cX7_split 109 = .ok (.iconst 1, 1) := by decide +kernel
theorem dX7_split_110 : decode cX7_split 110 = .ok (.iadd, 1) := by decide +kernel
theorem dX7_split_111 : decode cX7_split 111 = .ok (.iastore, 1) := by decide +kernel
theorem dX7_split_112 : decode cX7_split 112 = .ok (.return_, 1) := by decide +kernel
set_option maxRecDepth 20000 in
theorem ggX7_putIn_X7_below : GoodIn wsX7_putIn wsX7_below := goodIn_r _ [6, 1, 23, 24, 25, 26, 27, 28, 29, 30, 31, 32, 33, 34, 35, 36, 37, 38, 39, 40, 41, 42, 43, 44, 45] (by decide +kernel) (by decide +kernel)
set_option maxRecDepth 20000 in
theorem gX7_putIn_X7_below : GoodIn wsX7_putIn (wsV RX7 46 RX7 yX7_below wsX7_below) := goodIn_app (goodIn_of _ (by decide +kernel)) ggX7_putIn_X7_below
set_option maxRecDepth 20000 in
theorem ggX7_putIn_X7_bucketOf : GoodIn wsX7_putIn wsX7_bucketOf := goodIn_r _ [10, 1, 23, 24, 25, 26, 27, 28, 29, 30, 31, 32, 33, 34, 35, 36, 37, 38, 39, 40, 41, 42, 43, 44, 45] (by decide +kernel) (by decide +kernel)
set_option maxRecDepth 20000 in
theorem gX7_putIn_X7_bucketOf : GoodIn wsX7_putIn (wsV RX7 56 RX7 yX7_bucketOf wsX7_bucketOf) := goodIn_app (goodIn_of _ (by decide +kernel)) ggX7_putIn_X7_bucketOf
set_option maxRecDepth 20000 in
theorem ggX7_putIn_X7_keysIn : GoodIn wsX7_putIn wsX7_keysIn := goodIn_r _ [14, 1, 2, 3, 4, 5, 6, 15, 16, 17, 18, 23, 24, 25, 26, 27, 28, 29, 30, 31, 32, 33, 34, 35, 36, 37, 38, 39, 40, 41, 42, 43, 44, 45] (by decide +kernel) (by decide +kernel)
set_option maxRecDepth 20000 in
theorem gX7_putIn_X7_keysIn : GoodIn wsX7_putIn (wsV RX7 53 RX7 yX7_keysIn wsX7_keysIn) := goodIn_app (goodIn_of _ (by decide +kernel)) ggX7_putIn_X7_keysIn
set_option maxRecDepth 20000 in
theorem ggX7_putIn_X7_split : GoodIn wsX7_putIn wsX7_split := goodIn_r _ [22, 1, 15, 16, 17, 5, 18, 2, 3, 4, 6, 11, 12, 13, 14, 23, 24, 25, 26, 27, 28, 29, 30, 31, 32, 33, 34, 35, 36, 37, 38, 39, 40, 41, 42, 43, 44, 45] (by decide +kernel) (by decide +kernel)
set_option maxRecDepth 20000 in
theorem gX7_putIn_X7_split : GoodIn wsX7_putIn (wsV RX7 59 RX7 yX7_split wsX7_split) := goodIn_app (goodIn_of _ (by decide +kernel)) ggX7_putIn_X7_split
theorem dX7_putIn_0 : decode cX7_putIn 0 = .ok (.aload_n 0, 1) := by decide +kernel
theorem dX7_putIn_1 : decode cX7_putIn 1 = .ok (.iload_n 1, 1) := by decide +kernel
theorem dX7_putIn_2 : decode cX7_putIn 2 = .ok (.iload_n 2, 1) := by decide +kernel
theorem dX7_putIn_3 : decode cX7_putIn 3 = .ok (.invokevirtual 46, 3) := by decide +kernel
theorem dX7_putIn_6 : decode cX7_putIn 6 = .ok (.istore_n 3, 1) := by decide +kernel
theorem dX7_putIn_7 : decode cX7_putIn 7 = .ok (.aload_n 0, 1) := by decide +kernel
theorem dX7_putIn_8 : decode cX7_putIn 8 = .ok (.getfield 7, 3) := by decide +kernel
theorem dX7_putIn_11 : decode cX7_putIn 11 = .ok (.iload_n 1, 1) := by decide +kernel
theorem dX7_putIn_12 : decode cX7_putIn 12 = .ok (.iconst 2, 1) := by decide +kernel
theorem dX7_putIn_13 : decode cX7_putIn 13 = .ok (.iadd, 1) := by decide +kernel
theorem dX7_putIn_14 : decode cX7_putIn 14 = .ok (.iaload, 1) := by decide +kernel
theorem dX7_putIn_15 : decode cX7_putIn 15 = .ok (.istore 4, 2) := by decide +kernel
theorem dX7_putIn_17 : decode cX7_putIn 17 = .ok (.iload 4, 2) := by decide +kernel
theorem dX7_putIn_19 : decode cX7_putIn 19 = .ok (.iload_n 3, 1) := by decide +kernel
theorem dX7_putIn_20 : decode cX7_putIn 20 = .ok (.if_icmp .le 35, 3) := by decide +kernel
theorem dX7_putIn_23 : decode cX7_putIn 23 = .ok (.aload_n 0, 1) := by decide +kernel
theorem dX7_putIn_24 : decode cX7_putIn 24 = .ok (.getfield 7, 3) := by decide +kernel
theorem dX7_putIn_27 : decode cX7_putIn 27 = .ok (.iload_n 1, 1) := by decide +kernel
theorem dX7_putIn_28 : decode cX7_putIn 28 = .ok (.bipush 6, 2) := by decide +kernel
theorem dX7_putIn_30 : decode cX7_putIn 30 = .ok (.iadd, 1) := by decide +kernel
theorem dX7_putIn_31 : decode cX7_putIn 31 = .ok (.iload 4, 2) := by decide +kernel
theorem dX7_putIn_33 : decode cX7_putIn 33 = .ok (.iadd, 1) := by decide +kernel
theorem dX7_putIn_34 : decode cX7_putIn 34 = .ok (.aload_n 0, 1) := by decide +kernel
theorem dX7_putIn_35 : decode cX7_putIn 35 = .ok (.getfield 7, 3) := by decide +kernel
theorem dX7_putIn_38 : decode cX7_putIn 38 = .ok (.iload_n 1, 1) := by decide +kernel
theorem dX7_putIn_39 : decode cX7_putIn 39 = .ok (.bipush 6, 2) := by decide +kernel
theorem dX7_putIn_41 : decode cX7_putIn 41 = .ok (.iadd, 1) := by decide +kernel
theorem dX7_putIn_42 : decode cX7_putIn 42 = .ok (.iload 4, 2) := by decide +kernel
theorem dX7_putIn_44 : decode cX7_putIn 44 = .ok (.iadd, 1) := by decide +kernel
theorem dX7_putIn_45 : decode cX7_putIn 45 = .ok (.iconst 1, 1) := by decide +kernel
theorem dX7_putIn_46 : decode cX7_putIn 46 = .ok (.isub, 1) := by decide +kernel
theorem dX7_putIn_47 : decode cX7_putIn 47 = .ok (.iaload, 1) := by decide +kernel
theorem dX7_putIn_48 : decode cX7_putIn 48 = .ok (.iastore, 1) := by decide +kernel
theorem dX7_putIn_49 : decode cX7_putIn 49 = .ok (.iinc 4 (-1), 3) := by decide +kernel
theorem dX7_putIn_52 : decode cX7_putIn 52 = .ok (.goto (-35), 3) := by decide +kernel
theorem dX7_putIn_55 : decode cX7_putIn 55 = .ok (.aload_n 0, 1) := by decide +kernel
theorem dX7_putIn_56 : decode cX7_putIn 56 = .ok (.getfield 7, 3) := by decide +kernel
theorem dX7_putIn_59 : decode cX7_putIn 59 = .ok (.iload_n 1, 1) := by decide +kernel
theorem dX7_putIn_60 : decode cX7_putIn 60 = .ok (.bipush 6, 2) := by decide +kernel
theorem dX7_putIn_62 : decode cX7_putIn 62 = .ok (.iadd, 1) := by decide +kernel
theorem dX7_putIn_63 : decode cX7_putIn 63 = .ok (.iload_n 3, 1) := by decide +kernel
theorem dX7_putIn_64 : decode cX7_putIn 64 = .ok (.iadd, 1) := by decide +kernel
theorem dX7_putIn_65 : decode cX7_putIn 65 = .ok (.iload_n 2, 1) := by decide +kernel
theorem dX7_putIn_66 : decode cX7_putIn 66 = .ok (.iastore, 1) := by decide +kernel
theorem dX7_putIn_67 : decode cX7_putIn 67 = .ok (.aload_n 0, 1) := by decide +kernel
theorem dX7_putIn_68 : decode cX7_putIn 68 = .ok (.getfield 7, 3) := by decide +kernel
theorem dX7_putIn_71 : decode cX7_putIn 71 = .ok (.iload_n 1, 1) := by decide +kernel
theorem dX7_putIn_72 : decode cX7_putIn 72 = .ok (.iconst 2, 1) := by decide +kernel
theorem dX7_putIn_73 : decode cX7_putIn 73 = .ok (.iadd, 1) := by decide +kernel
theorem dX7_putIn_74 : decode cX7_putIn 74 = .ok (.dup2, 1) := by decide +kernel
theorem dX7_putIn_75 : decode cX7_putIn 75 = .ok (.iaload, 1) := by decide +kernel
theorem dX7_putIn_76 : decode cX7_putIn 76 = .ok (.iconst 1, 1) := by decide +kernel
theorem dX7_putIn_77 : decode cX7_putIn 77 = .ok (.iadd, 1) := by decide +kernel
theorem dX7_putIn_78 : decode cX7_putIn 78 = .ok (.iastore, 1) := by decide +kernel
theorem dX7_putIn_79 : decode cX7_putIn 79 = .ok (.aload_n 0, 1) := by decide +kernel
theorem dX7_putIn_80 : decode cX7_putIn 80 = .ok (.iload_n 1, 1) := by decide +kernel
theorem dX7_putIn_81 : decode cX7_putIn 81 = .ok (.iload_n 2, 1) := by decide +kernel
theorem dX7_putIn_82 : decode cX7_putIn 82 = .ok (.invokevirtual 56, 3) := by decide +kernel
theorem dX7_putIn_85 : decode cX7_putIn 85 = .ok (.istore 4, 2) := by decide +kernel
theorem dX7_putIn_87 : decode cX7_putIn 87 = .ok (.aload_n 0, 1) := by decide +kernel
theorem dX7_putIn_88 : decode cX7_putIn 88 = .ok (.iload_n 1, 1) := by decide +kernel
theorem dX7_putIn_89 : decode cX7_putIn 89 = .ok (.iload 4, 2) := by decide +kernel
theorem dX7_putIn_91 : decode cX7_putIn 91 = .ok (.invokevirtual 53, 3) := by decide +kernel
theorem dX7_putIn_94 : decode cX7_putIn 94 = .ok (.iconst 4, 1) := by decide +kernel
theorem dX7_putIn_95 : decode cX7_putIn 95 = .ok (.aload_n 0, 1) := by decide +kernel
theorem dX7_putIn_96 : decode cX7_putIn 96 = .ok (.getfield 7, 3) := by decide +kernel
theorem dX7_putIn_99 : decode cX7_putIn 99 = .ok (.iload_n 1, 1) := by decide +kernel
theorem dX7_putIn_100 : decode cX7_putIn 100 = .ok (.iconst 1, 1) := by decide +kernel
theorem dX7_putIn_101 : decode cX7_putIn 101 = .ok (.iadd, 1) := by decide +kernel
theorem dX7_putIn_102 : decode cX7_putIn 102 = .ok (.iaload, 1) := by decide +kernel
theorem dX7_putIn_103 : decode cX7_putIn 103 = .ok (.imul, 1) := by decide +kernel
theorem dX7_putIn_104 : decode cX7_putIn 104 = .ok (.if_icmp .le 10, 3) := by decide +kernel
theorem dX7_putIn_107 : decode cX7_putIn 107 = .ok (.aload_n 0, 1) := by decide +kernel
theorem dX7_putIn_108 : decode cX7_putIn 108 = .ok (.iload_n 1, 1) := by decide +kernel
theorem dX7_putIn_109 : decode cX7_putIn 109 = .ok (.iload 4, 2) := by decide +kernel
theorem dX7_putIn_111 : decode cX7_putIn 111 = .ok (.invokevirtual 59, 3) := by decide +kernel
theorem dX7_putIn_114 : decode cX7_putIn 114 = .ok (.return_, 1) := by decide +kernel
set_option maxRecDepth 20000 in
theorem ggX7_takeOut_X7_bucketOf : GoodIn wsX7_takeOut wsX7_bucketOf := goodIn_r _ [6, 1, 23, 24, 25, 26, 27, 28, 29, 30, 31, 32, 33, 34, 35, 36, 37, 38, 39, 40, 41, 42, 43, 44, 45] (by decide +kernel) (by decide +kernel)
set_option maxRecDepth 20000 in
theorem gX7_takeOut_X7_bucketOf : GoodIn wsX7_takeOut (wsV RX7 56 RX7 yX7_bucketOf wsX7_bucketOf) := goodIn_app (goodIn_of _ (by decide +kernel)) ggX7_takeOut_X7_bucketOf
set_option maxRecDepth 20000 in
theorem ggX7_takeOut_X7_below : GoodIn wsX7_takeOut wsX7_below := goodIn_r _ [10, 1, 23, 24, 25, 26, 27, 28, 29, 30, 31, 32, 33, 34, 35, 36, 37, 38, 39, 40, 41, 42, 43, 44, 45] (by decide +kernel) (by decide +kernel)
set_option maxRecDepth 20000 in
theorem gX7_takeOut_X7_below : GoodIn wsX7_takeOut (wsV RX7 46 RX7 yX7_below wsX7_below) := goodIn_app (goodIn_of _ (by decide +kernel)) ggX7_takeOut_X7_below
set_option maxRecDepth 20000 in
theorem ggX7_takeOut_X7_keysIn : GoodIn wsX7_takeOut wsX7_keysIn := goodIn_r _ [14, 1, 7, 8, 9, 5, 10, 15, 16, 17, 18, 23, 24, 25, 26, 27, 28, 29, 30, 31, 32, 33, 34, 35, 36, 37, 38, 39, 40, 41, 42, 43, 44, 45] (by decide +kernel) (by decide +kernel)
set_option maxRecDepth 20000 in
theorem gX7_takeOut_X7_keysIn : GoodIn wsX7_takeOut (wsV RX7 53 RX7 yX7_keysIn wsX7_keysIn) := goodIn_app (goodIn_of _ (by decide +kernel)) ggX7_takeOut_X7_keysIn
set_option maxRecDepth 20000 in
theorem ggX7_takeOut_X7_split : GoodIn wsX7_takeOut wsX7_split := goodIn_r _ [22, 1, 15, 16, 17, 5, 18, 7, 8, 9, 10, 11, 12, 13, 14, 23, 24, 25, 26, 27, 28, 29, 30, 31, 32, 33, 34, 35, 36, 37, 38, 39, 40, 41, 42, 43, 44, 45] (by decide +kernel) (by decide +kernel)
set_option maxRecDepth 20000 in
theorem gX7_takeOut_X7_split : GoodIn wsX7_takeOut (wsV RX7 59 RX7 yX7_split wsX7_split) := goodIn_app (goodIn_of _ (by decide +kernel)) ggX7_takeOut_X7_split
theorem dX7_takeOut_0 : decode cX7_takeOut 0 = .ok (.aload_n 0, 1) := by decide +kernel
theorem dX7_takeOut_1 : decode cX7_takeOut 1 = .ok (.iload_n 1, 1) := by decide +kernel
theorem dX7_takeOut_2 : decode cX7_takeOut 2 = .ok (.iload_n 2, 1) := by decide +kernel
theorem dX7_takeOut_3 : decode cX7_takeOut 3 = .ok (.invokevirtual 56, 3) := by decide +kernel
theorem dX7_takeOut_6 : decode cX7_takeOut 6 = .ok (.istore_n 3, 1) := by decide +kernel
theorem dX7_takeOut_7 : decode cX7_takeOut 7 = .ok (.aload_n 0, 1) := by decide +kernel
theorem dX7_takeOut_8 : decode cX7_takeOut 8 = .ok (.getfield 7, 3) := by decide +kernel
theorem dX7_takeOut_11 : decode cX7_takeOut 11 = .ok (.iload_n 1, 1) := by decide +kernel
theorem dX7_takeOut_12 : decode cX7_takeOut 12 = .ok (.iconst 2, 1) := by decide +kernel
theorem dX7_takeOut_13 : decode cX7_takeOut 13 = .ok (.iadd, 1) := by decide +kernel
theorem dX7_takeOut_14 : decode cX7_takeOut 14 = .ok (.dup2, 1) := by decide +kernel
theorem dX7_takeOut_15 : decode cX7_takeOut 15 = .ok (.iaload, 1) := by decide +kernel
theorem dX7_takeOut_16 : decode cX7_takeOut 16 = .ok (.iconst 1, 1) := by decide +kernel
theorem dX7_takeOut_17 : decode cX7_takeOut 17 = .ok (.isub, 1) := by decide +kernel
theorem dX7_takeOut_18 : decode cX7_takeOut 18 = .ok (.iastore, 1) := by decide +kernel
theorem dX7_takeOut_19 : decode cX7_takeOut 19 = .ok (.aload_n 0, 1) := by decide +kernel
theorem dX7_takeOut_20 : decode cX7_takeOut 20 = .ok (.iload_n 1, 1) := by decide +kernel
theorem dX7_takeOut_21 : decode cX7_takeOut 21 = .ok (.iload_n 2, 1) := by decide +kernel
theorem dX7_takeOut_22 : decode cX7_takeOut 22 = .ok (.invokevirtual 46, 3) := by decide +kernel
theorem dX7_takeOut_25 : decode cX7_takeOut 25 = .ok (.istore 4, 2) := by decide +kernel
theorem dX7_takeOut_27 : decode cX7_takeOut 27 = .ok (.iload 4, 2) := by decide +kernel
theorem dX7_takeOut_29 : decode cX7_takeOut 29 = .ok (.aload_n 0, 1) := by decide +kernel
theorem dX7_takeOut_30 : decode cX7_takeOut 30 = .ok (.getfield 7, 3) := by decide +kernel
theorem dX7_takeOut_33 : decode cX7_takeOut 33 = .ok (.iload_n 1, 1) := by decide +kernel
theorem dX7_takeOut_34 : decode cX7_takeOut 34 = .ok (.iconst 2, 1) := by decide +kernel
theorem dX7_takeOut_35 : decode cX7_takeOut 35 = .ok (.iadd, 1) := by decide +kernel
theorem dX7_takeOut_36 : decode cX7_takeOut 36 = .ok (.iaload, 1) := by decide +kernel
theorem dX7_takeOut_37 : decode cX7_takeOut 37 = .ok (.if_icmp .ge 35, 3) := by decide +kernel
theorem dX7_takeOut_40 : decode cX7_takeOut 40 = .ok (.aload_n 0, 1) := by decide +kernel
theorem dX7_takeOut_41 : decode cX7_takeOut 41 = .ok (.getfield 7, 3) := by decide +kernel
theorem dX7_takeOut_44 : decode cX7_takeOut 44 = .ok (.iload_n 1, 1) := by decide +kernel
theorem dX7_takeOut_45 : decode cX7_takeOut 45 = .ok (.bipush 6, 2) := by decide +kernel
theorem dX7_takeOut_47 : decode cX7_takeOut 47 = .ok (.iadd, 1) := by decide +kernel
theorem dX7_takeOut_48 : decode cX7_takeOut 48 = .ok (.iload 4, 2) := by decide +kernel
theorem dX7_takeOut_50 : decode cX7_takeOut 50 = .ok (.iadd, 1) := by decide +kernel
theorem dX7_takeOut_51 : decode cX7_takeOut 51 = .ok (.aload_n 0, 1) := by decide +kernel
theorem dX7_takeOut_52 : decode cX7_takeOut 52 = .ok (.getfield 7, 3) := by decide +kernel
theorem dX7_takeOut_55 : decode cX7_takeOut 55 = .ok (.iload_n 1, 1) := by decide +kernel
theorem dX7_takeOut_56 : decode cX7_takeOut 56 = .ok (.bipush 6, 2) := by decide +kernel
theorem dX7_takeOut_58 : decode cX7_takeOut 58 = .ok (.iadd, 1) := by decide +kernel
theorem dX7_takeOut_59 : decode cX7_takeOut 59 = .ok (.iload 4, 2) := by decide +kernel
theorem dX7_takeOut_61 : decode cX7_takeOut 61 = .ok (.iadd, 1) := by decide +kernel
theorem dX7_takeOut_62 : decode cX7_takeOut 62 = .ok (.iconst 1, 1) := by decide +kernel
theorem dX7_takeOut_63 : decode cX7_takeOut 63 = .ok (.iadd, 1) := by decide +kernel
theorem dX7_takeOut_64 : decode cX7_takeOut 64 = .ok (.iaload, 1) := by decide +kernel
theorem dX7_takeOut_65 : decode cX7_takeOut 65 = .ok (.iastore, 1) := by decide +kernel
theorem dX7_takeOut_66 : decode cX7_takeOut 66 = .ok (.iinc 4 1, 3) := by decide +kernel
theorem dX7_takeOut_69 : decode cX7_takeOut 69 = .ok (.goto (-42), 3) := by decide +kernel
theorem dX7_takeOut_72 : decode cX7_takeOut 72 = .ok (.aload_n 0, 1) := by decide +kernel
theorem dX7_takeOut_73 : decode cX7_takeOut 73 = .ok (.iload_n 1, 1) := by decide +kernel
theorem dX7_takeOut_74 : decode cX7_takeOut 74 = .ok (.iload_n 3, 1) := by decide +kernel
theorem dX7_takeOut_75 : decode cX7_takeOut 75 = .ok (.invokevirtual 53, 3) := by decide +kernel
theorem dX7_takeOut_78 : decode cX7_takeOut 78 = .ok (.aload_n 0, 1) := by decide +kernel
theorem dX7_takeOut_79 : decode cX7_takeOut 79 = .ok (.getfield 7, 3) := by decide +kernel
theorem dX7_takeOut_82 : decode cX7_takeOut 82 = .ok (.iload_n 1, 1) := by decide +kernel
theorem dX7_takeOut_83 : decode cX7_takeOut 83 = .ok (.iconst 1, 1) := by decide +kernel
theorem dX7_takeOut_84 : decode cX7_takeOut 84 = .ok (.iadd, 1) := by decide +kernel
theorem dX7_takeOut_85 : decode cX7_takeOut 85 = .ok (.iaload, 1) := by decide +kernel
theorem dX7_takeOut_86 : decode cX7_takeOut 86 = .ok (.if_icmp .ge 138, 3) := by decide +kernel
theorem dX7_takeOut_89 : decode cX7_takeOut 89 = .ok (.aload_n 0, 1) := by decide +kernel
theorem dX7_takeOut_90 : decode cX7_takeOut 90 = .ok (.getfield 7, 3) := by decide +kernel
theorem dX7_takeOut_93 : decode cX7_takeOut 93 = .ok (.iload_n 1, 1) := by decide +kernel
theorem dX7_takeOut_94 : decode cX7_takeOut 94 = .ok (.iconst 3, 1) := by decide +kernel
theorem dX7_takeOut_95 : decode cX7_takeOut 95 = .ok (.iadd, 1) := by decide +kernel
theorem dX7_takeOut_96 : decode cX7_takeOut 96 = .ok (.iaload, 1) := by decide +kernel
theorem dX7_takeOut_97 : decode cX7_takeOut 97 = .ok (.iconst 1, 1) := by decide +kernel
theorem dX7_takeOut_98 : decode cX7_takeOut 98 = .ok (.if_icmp .le 126, 3) := by decide +kernel
theorem dX7_takeOut_101 : decode cX7_takeOut 101 = .ok (.iload_n 3, 1) := by decide +kernel
theorem dX7_takeOut_102 : decode cX7_takeOut 102 = .ok (.aload_n 0, 1) := by decide +kernel
theorem dX7_takeOut_103 : decode cX7_takeOut 103 = .ok (.getfield 7, 3) := by decide +kernel
theorem dX7_takeOut_106 : decode cX7_takeOut 106 = .ok (.iload_n 1, 1) := by decide +kernel
theorem dX7_takeOut_107 : decode cX7_takeOut 107 = .ok (.iconst 3, 1) := by decide +kernel
theorem dX7_takeOut_108 : decode cX7_takeOut 108 = .ok (.iadd, 1) := by decide +kernel
theorem dX7_takeOut_109 : decode cX7_takeOut 109 = .ok (.iaload, 1) := by decide +kernel
theorem dX7_takeOut_110 : decode cX7_takeOut 110 = .ok (.iconst 1, 1) := by decide +kernel
theorem dX7_takeOut_111 : decode cX7_takeOut 111 = .ok (.isub, 1) := by decide +kernel
theorem dX7_takeOut_112 : decode cX7_takeOut 112 = .ok (.if_icmp .ne 9, 3) := by decide +kernel
theorem dX7_takeOut_115 : decode cX7_takeOut 115 = .ok (.iload_n 3, 1) := by decide +kernel
theorem dX7_takeOut_116 : decode cX7_takeOut 116 = .ok (.iconst 1, 1) := by decide +kernel
theorem dX7_takeOut_117 : decode cX7_takeOut 117 = .ok (.isub, 1) := by decide +kernel
theorem dX7_takeOut_118 : decode cX7_takeOut 118 = .ok (.goto 4, 3) := by decide +kernel
theorem dX7_takeOut_121 : decode cX7_takeOut 121 = .ok (.iload_n 3, 1) := by decide +kernel
theorem dX7_takeOut_122 : decode cX7_takeOut 122 = .ok (.istore 4, 2) := by decide +kernel
theorem dX7_takeOut_124 : decode cX7_takeOut 124 = .ok (.aload_n 0, 1) := by decide +kernel
theorem dX7_takeOut_125 : decode cX7_takeOut 125 = .ok (.getfield 7, 3) := by decide +kernel
theorem dX7_takeOut_128 : decode cX7_takeOut 128 = .ok (.iload_n 1, 1) := by decide +kernel
theorem dX7_takeOut_129 : decode cX7_takeOut 129 = .ok (.iconst 3, 1) := by decide +kernel
theorem dX7_takeOut_130 : decode cX7_takeOut 130 = .ok (.iadd, 1) := by decide +kernel
theorem dX7_takeOut_131 : decode cX7_takeOut 131 = .ok (.dup2, 1) := by decide +kernel
theorem dX7_takeOut_132 : decode cX7_takeOut 132 = .ok (.iaload, 1) := by decide +kernel
theorem dX7_takeOut_133 : decode cX7_takeOut 133 = .ok (.iconst 1, 1) := by decide +kernel
theorem dX7_takeOut_134 : decode cX7_takeOut 134 = .ok (.isub, 1) := by decide +kernel
theorem dX7_takeOut_135 : decode cX7_takeOut 135 = .ok (.iastore, 1) := by decide +kernel
theorem dX7_takeOut_136 : decode cX7_takeOut 136 = .ok (.aload_n 0, 1) := by decide +kernel
theorem dX7_takeOut_137 : decode cX7_takeOut 137 = .ok (.getfield 7, 3) := by decide +kernel
theorem dX7_takeOut_140 : decode cX7_takeOut 140 = .ok (.iload_n 1, 1) := by decide +kernel
theorem dX7_takeOut_141 : decode cX7_takeOut 141 = .ok (.iconst 5, 1) := by decide +kernel
theorem dX7_takeOut_142 : decode cX7_takeOut 142 = .ok (.iadd, 1) := by decide +kernel
theorem dX7_takeOut_143 : decode cX7_takeOut 143 = .ok (.dup2, 1) := by decide +kernel
theorem dX7_takeOut_144 : decode cX7_takeOut 144 = .ok (.iaload, 1) := by decide +kernel
theorem dX7_takeOut_145 : decode cX7_takeOut 145 = .ok (.iconst 1, 1) := by decide +kernel
theorem dX7_takeOut_146 : decode cX7_takeOut 146 = .ok (.iadd, 1) := by decide +kernel
theorem dX7_takeOut_147 : decode cX7_takeOut 147 = .ok (.iastore, 1) := by decide +kernel
theorem dX7_takeOut_148 : decode cX7_takeOut 148 = .ok (.iload 4, 2) := by decide +kernel
theorem dX7_takeOut_150 : decode cX7_takeOut 150 = .ok (.istore 5, 2) := by decide +kernel
theorem dX7_takeOut_152 : decode cX7_takeOut 152 = .ok (.iload 5, 2) := by decide +kernel
theorem dX7_takeOut_154 : decode cX7_takeOut 154 = .ok (.aload_n 0, 1) := by decide +kernel
theorem dX7_takeOut_155 : decode cX7_takeOut 155 = .ok (.getfield 7, 3) := by decide +kernel
theorem dX7_takeOut_158 : decode cX7_takeOut 158 = .ok (.iload_n 1, 1) := by decide +kernel
theorem dX7_takeOut_159 : decode cX7_takeOut 159 = .ok (.iconst 3, 1) := by decide +kernel
theorem dX7_takeOut_160 : decode cX7_takeOut 160 = .ok (.iadd, 1) := by decide +kernel
theorem dX7_takeOut_161 : decode cX7_takeOut 161 = .ok (.iaload, 1) := by decide +kernel
theorem dX7_takeOut_162 : decode cX7_takeOut 162 = .ok (.if_icmp .ge 35, 3) := by decide +kernel
theorem dX7_takeOut_165 : decode cX7_takeOut 165 = .ok (.aload_n 0, 1) := by decide +kernel
theorem dX7_takeOut_166 : decode cX7_takeOut 166 = .ok (.getfield 7, 3) := by decide +kernel
theorem dX7_takeOut_169 : decode cX7_takeOut 169 = .ok (.iload_n 1, 1) := by decide +kernel
theorem dX7_takeOut_170 : decode cX7_takeOut 170 = .ok (.bipush 102, 2) := by decide +kernel
theorem dX7_takeOut_172 : decode cX7_takeOut 172 = .ok (.iadd, 1) := by decide +kernel
theorem dX7_takeOut_173 : decode cX7_takeOut 173 = .ok (.iload 5, 2) := by decide +kernel
theorem dX7_takeOut_175 : decode cX7_takeOut 175 = .ok (.iadd, 1) := by decide +kernel
theorem dX7_takeOut_176 : decode cX7_takeOut 176 = .ok (.aload_n 0, 1) := by decide +kernel
theorem dX7_takeOut_177 : decode cX7_takeOut 177 = .ok (.getfield 7, 3) := by decide +kernel
theorem dX7_takeOut_180 : decode cX7_takeOut 180 = .ok (.iload_n 1, 1) := by decide +kernel
theorem dX7_takeOut_181 : decode cX7_takeOut 181 = .ok (.bipush 102, 2) := by decide +kernel
theorem dX7_takeOut_183 : decode cX7_takeOut 183 = .ok (.iadd, 1) := by decide +kernel
theorem dX7_takeOut_184 : decode cX7_takeOut 184 = .ok (.iload 5, 2) := by decide +kernel
theorem dX7_takeOut_186 : decode cX7_takeOut 186 = .ok (.iadd, 1) := by decide +kernel
theorem dX7_takeOut_187 : decode cX7_takeOut 187 = .ok (.iconst 1, 1) := by decide +kernel
theorem dX7_takeOut_188 : decode cX7_takeOut 188 = .ok (.iadd, 1) := by decide +kernel
theorem dX7_takeOut_189 : decode cX7_takeOut 189 = .ok (.iaload, 1) := by decide +kernel
theorem dX7_takeOut_190 : decode cX7_takeOut 190 = .ok (.iastore, 1) := by decide +kernel
theorem dX7_takeOut_191 : decode cX7_takeOut 191 = .ok (.iinc 5 1, 3) := by decide +kernel
theorem dX7_takeOut_194 : decode cX7_takeOut 194 = .ok (.goto (-42), 3) := by decide +kernel
theorem dX7_takeOut_197 : decode cX7_takeOut 197 = .ok (.aload_n 0, 1) := by decide +kernel
theorem dX7_takeOut_198 : decode cX7_takeOut 198 = .ok (.iload_n 1, 1) := by decide +kernel
theorem dX7_takeOut_199 : decode cX7_takeOut 199 = .ok (.iload 4, 2) := by decide +kernel
theorem dX7_takeOut_201 : decode cX7_takeOut 201 = .ok (.invokevirtual 53, 3) := by decide +kernel
theorem dX7_takeOut_204 : decode cX7_takeOut 204 = .ok (.iconst 3, 1) := by decide +kernel
theorem dX7_takeOut_205 : decode cX7_takeOut 205 = .ok (.aload_n 0, 1) := by decide +kernel
theorem dX7_takeOut_206 : decode cX7_takeOut 206 = .ok (.getfield 7, 3) := by decide +kernel
theorem dX7_takeOut_209 : decode cX7_takeOut 209 = .ok (.iload_n 1, 1) := by decide +kernel
theorem dX7_takeOut_210 : decode cX7_takeOut 210 = .ok (.iconst 1, 1) := by decide +kernel
theorem dX7_takeOut_211 : decode cX7_takeOut 211 = .ok (.iadd, 1) := by decide +kernel
theorem dX7_takeOut_212 : decode cX7_takeOut 212 = .ok (.iaload, 1) := by decide +kernel
theorem dX7_takeOut_213 : decode cX7_takeOut 213 = .ok (.imul, 1) := by decide +kernel
theorem dX7_takeOut_214 : decode cX7_takeOut 214 = .ok (.if_icmp .le 10, 3) := by decide +kernel
theorem dX7_takeOut_217 : decode cX7_takeOut 217 = .ok (.aload_n 0, 1) := by decide +kernel
theorem dX7_takeOut_218 : decode cX7_takeOut 218 = .ok (.iload_n 1, 1) := by decide +kernel
theorem dX7_takeOut_219 : decode cX7_takeOut 219 = .ok (.iload 4, 2) := by decide +kernel
theorem dX7_takeOut_221 : decode cX7_takeOut 221 = .ok (.invokevirtual 59, 3) := by decide +kernel
theorem dX7_takeOut_224 : decode cX7_takeOut 224 = .ok (.return_, 1) := by decide +kernel
set_option maxRecDepth 20000 in
theorem ggX7_addAt_X7_isKey : GoodIn wsX7_addAt wsX7_isKey := goodIn_r _ [6, 1, 7, 8, 9, 5, 10, 31, 32, 33, 34, 35, 36, 37, 38, 39, 40, 41, 42, 43, 44, 45, 46, 47, 48, 49, 50, 51, 52, 53] (by decide +kernel) (by decide +kernel)
set_option maxRecDepth 20000 in
theorem gX7_addAt_X7_isKey : GoodIn wsX7_addAt (wsV RX7 63 RX7 yX7_isKey wsX7_isKey) := goodIn_app (goodIn_of _ (by decide +kernel)) ggX7_addAt_X7_isKey
set_option maxRecDepth 20000 in
theorem ggX7_addAt_X7_putIn : GoodIn wsX7_addAt wsX7_putIn := goodIn_r _ [14, 1, 7, 8, 9, 5, 10, 15, 16, 17, 18, 19, 20, 21, 22, 23, 24, 25, 26, 27, 28, 29, 30, 31, 32, 33, 34, 35, 36, 37, 38, 39, 40, 41, 42, 43, 44, 45, 46, 47, 48, 49, 50, 51, 52, 53] (by decide +kernel) (by decide +kernel)
set_option maxRecDepth 20000 in
theorem gX7_addAt_X7_putIn : GoodIn wsX7_addAt (wsV RX7 67 RX7 yX7_putIn wsX7_putIn) := goodIn_app (goodIn_of _ (by decide +kernel)) ggX7_addAt_X7_putIn
theorem dX7_addAt_0 : decode cX7_addAt 0 = .ok (.aload_n 0, 1) := by decide +kernel
theorem dX7_addAt_1 : decode cX7_addAt 1 = .ok (.getfield 7, 3) := by decide +kernel
theorem dX7_addAt_4 : decode cX7_addAt 4 = .ok (.iload_n 1, 1) := by decide +kernel
theorem dX7_addAt_5 : decode cX7_addAt 5 = .ok (.iconst 2, 1) := by decide +kernel
theorem dX7_addAt_6 : decode cX7_addAt 6 = .ok (.iadd, 1) := by decide +kernel
theorem dX7_addAt_7 : decode cX7_addAt 7 = .ok (.iaload, 1) := by decide +kernel
theorem dX7_addAt_8 : decode cX7_addAt 8 = .ok (.bipush 96, 2) := by decide +kernel
theorem dX7_addAt_10 : decode cX7_addAt 10 = .ok (.if_icmp .ge 18, 3) := by decide +kernel
theorem dX7_addAt_13 : decode cX7_addAt 13 = .ok (.aload_n 0, 1) := by decide +kernel
theorem dX7_addAt_14 : decode cX7_addAt 14 = .ok (.iload_n 1, 1) := by decide +kernel
theorem dX7_addAt_15 : decode cX7_addAt 15 = .ok (.iload_n 2, 1) := by decide +kernel
theorem dX7_addAt_16 : decode cX7_addAt 16 = .ok (.invokevirtual 63, 3) := by decide +kernel
theorem dX7_addAt_19 : decode cX7_addAt 19 = .ok (.ifCond .ne 9, 3) := by decide +kernel
theorem dX7_addAt_22 : decode cX7_addAt 22 = .ok (.aload_n 0, 1) := by decide +kernel
theorem dX7_addAt_23 : decode cX7_addAt 23 = .ok (.iload_n 1, 1) := by decide +kernel
theorem dX7_addAt_24 : decode cX7_addAt 24 = .ok (.iload_n 2, 1) := by decide +kernel
theorem dX7_addAt_25 : decode cX7_addAt 25 = .ok (.invokevirtual 67, 3) := by decide +kernel
theorem dX7_addAt_28 : decode cX7_addAt 28 = .ok (.return_, 1) := by decide +kernel
set_option maxRecDepth 20000 in
theorem ggX7_fill_X7_addAt : GoodIn wsX7_fill wsX7_addAt := goodIn_r _ [6, 1, 7, 8, 9, 5, 10, 11, 12, 13, 14, 15, 16, 17, 18, 19, 20, 21, 22, 23, 24, 25, 26, 27, 28, 29, 30, 31, 32, 33, 34, 35, 36, 37, 38, 39, 40, 41, 42, 43, 44, 45, 46, 47, 48, 49, 50, 51, 52, 53, 54, 55, 56, 57] (by decide +kernel) (by decide +kernel)
set_option maxRecDepth 20000 in
theorem gX7_fill_X7_addAt : GoodIn wsX7_fill (wsV RX7 70 RX7 yX7_addAt wsX7_addAt) := goodIn_app (goodIn_of _ (by decide +kernel)) ggX7_fill_X7_addAt
theorem dX7_fill_0 : decode cX7_fill 0 = .ok (.iconst 0, 1) := by decide +kernel
theorem dX7_fill_1 : decode cX7_fill 1 = .ok (.istore 5, 2) := by decide +kernel
theorem dX7_fill_3 : decode cX7_fill 3 = .ok (.iload 5, 2) := by decide +kernel
theorem dX7_fill_5 : decode cX7_fill 5 = .ok (.iload 4, 2) := by decide +kernel
theorem dX7_fill_7 : decode cX7_fill 7 = .ok (.if_icmp .ge 39, 3) := by decide +kernel
theorem dX7_fill_10 : decode cX7_fill 10 = .ok (.iload_n 2, 1) := by decide +kernel
theorem dX7_fill_11 : decode cX7_fill 11 = .ok (.iload 5, 2) := by decide +kernel
theorem dX7_fill_13 : decode cX7_fill 13 = .ok (.iload_n 3, 1) := by decide +kernel
theorem dX7_fill_14 : decode cX7_fill 14 = .ok (.imul, 1) := by decide +kernel
theorem dX7_fill_15 : decode cX7_fill 15 = .ok (.iadd, 1) := by decide +kernel
theorem dX7_fill_16 : decode cX7_fill 16 = .ok (.iconst 1, 1) := by decide +kernel
theorem dX7_fill_17 : decode cX7_fill 17 = .ok (.aload_n 0, 1) := by decide +kernel
theorem dX7_fill_18 : decode cX7_fill 18 = .ok (.getfield 7, 3) := by decide +kernel
theorem dX7_fill_21 : decode cX7_fill 21 = .ok (.iload_n 1, 1) := by decide +kernel
theorem dX7_fill_22 : decode cX7_fill 22 = .ok (.iconst 0, 1) := by decide +kernel
theorem dX7_fill_23 : decode cX7_fill 23 = .ok (.iadd, 1) := by decide +kernel
theorem dX7_fill_24 : decode cX7_fill 24 = .ok (.iaload, 1) := by decide +kernel
theorem dX7_fill_25 : decode cX7_fill 25 = .ok (.ishl, 1) := by decide +kernel
theorem dX7_fill_26 : decode cX7_fill 26 = .ok (.if_icmp .ge 14, 3) := by decide +kernel
theorem dX7_fill_29 : decode cX7_fill 29 = .ok (.aload_n 0, 1) := by decide +kernel
theorem dX7_fill_30 : decode cX7_fill 30 = .ok (.iload_n 1, 1) := by decide +kernel
theorem dX7_fill_31 : decode cX7_fill 31 = .ok (.iload_n 2, 1) := by decide +kernel
theorem dX7_fill_32 : decode cX7_fill 32 = .ok (.iload 5, 2) := by decide +kernel
theorem dX7_fill_34 : decode cX7_fill 34 = .ok (.iload_n 3, 1) := by decide +kernel
theorem dX7_fill_35 : decode cX7_fill 35 = .ok (.imul, 1) := by decide +kernel
theorem dX7_fill_36 : decode cX7_fill 36 = .ok (.iadd, 1) := by decide +kernel
theorem dX7_fill_37 : decode cX7_fill 37 = .ok (.invokevirtual 70, 3) := by decide +kernel
theorem dX7_fill_40 : decode cX7_fill 40 = .ok (.iinc 5 1, 3) := by decide +kernel
theorem dX7_fill_43 : decode cX7_fill 43 = .ok (.goto (-40), 3) := by decide +kernel
theorem dX7_fill_46 : decode cX7_fill 46 = .ok (.return_, 1) := by decide +kernel
theorem dX7_copyRow_0 : decode cX7_copyRow 0 = .ok (.iconst 0, 1) := by decide +kernel
theorem dX7_copyRow_1 : decode cX7_copyRow 1 = .ok (.istore_n 3, 1) := by decide +kernel
theorem dX7_copyRow_2 : decode cX7_copyRow 2 = .ok (.iload_n 3, 1) := by decide +kernel
theorem dX7_copyRow_3 : decode cX7_copyRow 3 = .ok (.sipush 152, 3) := by decide +kernel
theorem dX7_copyRow_6 : decode cX7_copyRow 6 = .ok (.if_icmp .ge 25, 3) := by decide +kernel
theorem dX7_copyRow_9 : decode cX7_copyRow 9 = .ok (.aload_n 0, 1) := by decide +kernel
theorem dX7_copyRow_10 : decode cX7_copyRow 10 = .ok (.getfield 7, 3) := by decide +kernel
theorem dX7_copyRow_13 : decode cX7_copyRow 13 = .ok (.iload_n 2, 1) := by decide +kernel
theorem dX7_copyRow_14 : decode cX7_copyRow 14 = .ok (.iload_n 3, 1) := by decide +kernel
theorem dX7_copyRow_15 : decode cX7_copyRow 15 = .ok (.iadd, 1) := by decide +kernel
theorem dX7_copyRow_16 : decode cX7_copyRow 16 = .ok (.aload_n 0, 1) := by decide +kernel
theorem dX7_copyRow_17 : decode cX7_copyRow 17 = .ok (.getfield 7, 3) := by decide +kernel
theorem dX7_copyRow_20 : decode cX7_copyRow 20 = .ok (.iload_n 1, 1) := by decide +kernel
theorem dX7_copyRow_21 : decode cX7_copyRow 21 = .ok (.iload_n 3, 1) := by decide +kernel
theorem dX7_copyRow_22 : decode cX7_copyRow 22 = .ok (.iadd, 1) := by decide +kernel
theorem dX7_copyRow_23 : decode cX7_copyRow 23 = .ok (.iaload, 1) := by decide +kernel
theorem dX7_copyRow_24 : decode cX7_copyRow 24 = .ok (.iastore, 1) := by decide +kernel
theorem dX7_copyRow_25 : decode cX7_copyRow 25 = .ok (.iinc 3 1, 3) := by decide +kernel
theorem dX7_copyRow_28 : decode cX7_copyRow 28 = .ok (.goto (-26), 3) := by decide +kernel
theorem dX7_copyRow_31 : decode cX7_copyRow 31 = .ok (.return_, 1) := by decide +kernel
set_option maxRecDepth 20000 in
theorem ggX7_write_X7_in : GoodIn wsX7_write wsX7_in := goodIn_r _ [7] (by decide +kernel) (by decide +kernel)
set_option maxRecDepth 20000 in
theorem gX7_write_X7_in : GoodIn wsX7_write (va_wsS RX7 75 yX7_in wsX7_in) := goodIn_app (goodIn_of _ (by decide +kernel)) ggX7_write_X7_in
theorem dX7_write_0 : decode cX7_write 0 = .ok (.iload_n 1, 1) := by decide +kernel
theorem dX7_write_1 : decode cX7_write 1 = .ok (.i2l, 1) := by decide +kernel
theorem dX7_write_2 : decode cX7_write 2 = .ok (.lconst 0, 1) := by decide +kernel
theorem dX7_write_3 : decode cX7_write 3 = .ok (.ldc2_w 73, 3) := by decide +kernel
theorem dX7_write_6 : decode cX7_write 6 = .ok (.invokestatic 75, 3) := by decide +kernel
theorem dX7_write_9 : decode cX7_write 9 = .ok (.ifCond .ne 6, 3) := by decide +kernel
theorem dX7_write_12 : decode cX7_write 12 = .ok (.bipush (-3), 2) := by decide +kernel
theorem dX7_write_14 : decode cX7_write 14 = .ok (.ireturn, 1) := by decide +kernel
theorem dX7_write_15 : decode cX7_write 15 = .ok (.aload_n 0, 1) := by decide +kernel
theorem dX7_write_16 : decode cX7_write 16 = .ok (.getfield 79, 3) := by decide +kernel
theorem dX7_write_19 : decode cX7_write 19 = .ok (.sipush 200, 3) := by decide +kernel
theorem dX7_write_22 : decode cX7_write 22 = .ok (.if_icmp .ne 6, 3) := by decide +kernel
theorem dX7_write_25 : decode cX7_write 25 = .ok (.bipush (-5), 2) := by decide +kernel
theorem dX7_write_27 : decode cX7_write 27 = .ok (.ireturn, 1) := by decide +kernel
theorem dX7_write_28 : decode cX7_write 28 = .ok (.aload_n 0, 1) := by decide +kernel
theorem dX7_write_29 : decode cX7_write 29 = .ok (.getfield 17, 3) := by decide +kernel
theorem dX7_write_32 : decode cX7_write 32 = .ok (.aload_n 0, 1) := by decide +kernel
theorem dX7_write_33 : decode cX7_write 33 = .ok (.getfield 79, 3) := by decide +kernel
theorem dX7_write_36 : decode cX7_write 36 = .ok (.iload_n 1, 1) := by decide +kernel
theorem dX7_write_37 : decode cX7_write 37 = .ok (.iastore, 1) := by decide +kernel
theorem dX7_write_38 : decode cX7_write 38 = .ok (.aload_n 0, 1) := by decide +kernel
theorem dX7_write_39 : decode cX7_write 39 = .ok (.dup, 1) := by decide +kernel
theorem dX7_write_40 : decode cX7_write 40 = .ok (.getfield 79, 3) := by decide +kernel
theorem dX7_write_43 : decode cX7_write 43 = .ok (.iconst 1, 1) := by decide +kernel
theorem dX7_write_44 : decode cX7_write 44 = .ok (.iadd, 1) := by decide +kernel
theorem dX7_write_45 : decode cX7_write 45 = .ok (.putfield 79, 3) := by decide +kernel
theorem dX7_write_48 : decode cX7_write 48 = .ok (.aload_n 0, 1) := by decide +kernel
theorem dX7_write_49 : decode cX7_write 49 = .ok (.getfield 79, 3) := by decide +kernel
theorem dX7_write_52 : decode cX7_write 52 = .ok (.ireturn, 1) := by decide +kernel
theorem dX7_erase_0 : decode cX7_erase 0 = .ok (.aload_n 0, 1) := by decide +kernel
theorem dX7_erase_1 : decode cX7_erase 1 = .ok (.getfield 79, 3) := by decide +kernel
theorem dX7_erase_4 : decode cX7_erase 4 = .ok (.istore_n 1, 1) := by decide +kernel
theorem dX7_erase_5 : decode cX7_erase 5 = .ok (.aload_n 0, 1) := by decide +kernel
theorem dX7_erase_6 : decode cX7_erase 6 = .ok (.iconst 0, 1) := by decide +kernel
theorem dX7_erase_7 : decode cX7_erase 7 = .ok (.putfield 79, 3) := by decide +kernel
theorem dX7_erase_10 : decode cX7_erase 10 = .ok (.iload_n 1, 1) := by decide +kernel
theorem dX7_erase_11 : decode cX7_erase 11 = .ok (.ireturn, 1) := by decide +kernel
set_option maxRecDepth 20000 in
theorem ggX7_isLetter_X7_in : GoodIn wsX7_isLetter wsX7_in := goodIn_r _ [6] (by decide +kernel) (by decide +kernel)
set_option maxRecDepth 20000 in
theorem gX7_isLetter_X7_in : GoodIn wsX7_isLetter (va_wsS RX7 75 yX7_in wsX7_in) := goodIn_app (goodIn_of _ (by decide +kernel)) ggX7_isLetter_X7_in
theorem dX7_isLetter_0 : decode cX7_isLetter 0 = .ok (.iload_n 0, 1) := by decide +kernel
theorem dX7_isLetter_1 : decode cX7_isLetter 1 = .ok (.i2l, 1) := by decide +kernel
theorem dX7_isLetter_2 : decode cX7_isLetter 2 = .ok (.ldc2_w 83, 3) := by decide +kernel
theorem dX7_isLetter_5 : decode cX7_isLetter 5 = .ok (.ldc2_w 85, 3) := by decide +kernel
theorem dX7_isLetter_8 : decode cX7_isLetter 8 = .ok (.invokestatic 75, 3) := by decide +kernel
theorem dX7_isLetter_11 : decode cX7_isLetter 11 = .ok (.ireturn, 1) := by decide +kernel
set_option maxRecDepth 20000 in
theorem ggX7_isDigit_X7_in : GoodIn wsX7_isDigit wsX7_in := goodIn_r _ [6] (by decide +kernel) (by decide +kernel)
set_option maxRecDepth 20000 in
theorem gX7_isDigit_X7_in : GoodIn wsX7_isDigit (va_wsS RX7 75 yX7_in wsX7_in) := goodIn_app (goodIn_of _ (by decide +kernel)) ggX7_isDigit_X7_in
theorem dX7_isDigit_0 : decode cX7_isDigit 0 = .ok (.iload_n 0, 1) := by decide +kernel
theorem dX7_isDigit_1 : decode cX7_isDigit 1 = .ok (.i2l, 1) := by decide +kernel
theorem dX7_isDigit_2 : decode cX7_isDigit 2 = .ok (.ldc2_w 87, 3) := by decide +kernel
theorem dX7_isDigit_5 : decode cX7_isDigit 5 = .ok (.ldc2_w 89, 3) := by decide +kernel
theorem dX7_isDigit_8 : decode cX7_isDigit 8 = .ok (.invokestatic 75, 3) := by decide +kernel
theorem dX7_isDigit_11 : decode cX7_isDigit 11 = .ok (.ireturn, 1) := by decide +kernel
set_option maxRecDepth 20000 in
theorem ggX7_nextToken_X7_isLetter : GoodIn wsX7_nextToken wsX7_isLetter := goodIn_r _ [8, 9, 10, 11, 12, 7, 13] (by decide +kernel) (by decide +kernel)
set_option maxRecDepth 20000 in
theorem gX7_nextToken_X7_isLetter : GoodIn wsX7_nextToken (va_wsS RX7 97 yX7_isLetter wsX7_isLetter) := goodIn_app (goodIn_of _ (by decide +kernel)) ggX7_nextToken_X7_isLetter
set_option maxRecDepth 20000 in
theorem ggX7_nextToken_X7_isDigit : GoodIn wsX7_nextToken wsX7_isDigit := goodIn_r _ [16, 17, 18, 11, 12, 7, 13] (by decide +kernel) (by decide +kernel)
set_option maxRecDepth 20000 in
theorem gX7_nextToken_X7_isDigit : GoodIn wsX7_nextToken (va_wsS RX7 101 yX7_isDigit wsX7_isDigit) := goodIn_app (goodIn_of _ (by decide +kernel)) ggX7_nextToken_X7_isDigit
theorem dX7_nextToken_0 : decode cX7_nextToken 0 = .ok (.aload_n 0, 1) := by decide +kernel
theorem dX7_nextToken_1 : decode cX7_nextToken 1 = .ok (.aload_n 0, 1) := by decide +kernel
theorem dX7_nextToken_2 : decode cX7_nextToken 2 = .ok (.getfield 91, 3) := by decide +kernel
theorem dX7_nextToken_5 : decode cX7_nextToken 5 = .ok (.putfield 94, 3) := by decide +kernel
theorem dX7_nextToken_8 : decode cX7_nextToken 8 = .ok (.aload_n 0, 1) := by decide +kernel
theorem dX7_nextToken_9 : decode cX7_nextToken 9 = .ok (.getfield 94, 3) := by decide +kernel
theorem dX7_nextToken_12 : decode cX7_nextToken 12 = .ok (.aload_n 0, 1) := by decide +kernel
theorem dX7_nextToken_13 : decode cX7_nextToken 13 = .ok (.getfield 79, 3) := by decide +kernel
theorem dX7_nextToken_16 : decode cX7_nextToken 16 = .ok (.if_icmp .ge 30, 3) := by decide +kernel
theorem dX7_nextToken_19 : decode cX7_nextToken 19 = .ok (.aload_n 0, 1) := by decide +kernel
theorem dX7_nextToken_20 : decode cX7_nextToken 20 = .ok (.getfield 17, 3) := by decide +kernel
theorem dX7_nextToken_23 : decode cX7_nextToken 23 = .ok (.aload_n 0, 1) := by decide +kernel
theorem dX7_nextToken_24 : decode cX7_nextToken 24 = .ok (.getfield 94, 3) := by decide +kernel
theorem dX7_nextToken_27 : decode cX7_nextToken 27 = .ok (.iaload, 1) := by decide +kernel
theorem dX7_nextToken_28 : decode cX7_nextToken 28 = .ok (.bipush 32, 2) := by decide +kernel
theorem dX7_nextToken_30 : decode cX7_nextToken 30 = .ok (.if_icmp .ne 16, 3) := by decide +kernel
theorem dX7_nextToken_33 : decode cX7_nextToken 33 = .ok (.aload_n 0, 1) := by decide +kernel
theorem dX7_nextToken_34 : decode cX7_nextToken 34 = .ok (.dup, 1) := by decide +kernel
theorem dX7_nextToken_35 : decode cX7_nextToken 35 = .ok (.getfield 94, 3) := by decide +kernel
theorem dX7_nextToken_38 : decode cX7_nextToken 38 = .ok (.iconst 1, 1) := by decide +kernel
theorem dX7_nextToken_39 : decode cX7_nextToken 39 = .ok (.iadd, 1) := by decide +kernel
theorem dX7_nextToken_40 : decode cX7_nextToken 40 = .ok (.putfield 94, 3) := by decide +kernel
theorem dX7_nextToken_43 : decode cX7_nextToken 43 = .ok (.goto (-35), 3) := by decide +kernel
theorem dX7_nextToken_46 : decode cX7_nextToken 46 = .ok (.aload_n 0, 1) := by decide +kernel
theorem dX7_nextToken_47 : decode cX7_nextToken 47 = .ok (.aload_n 0, 1) := by decide +kernel
theorem dX7_nextToken_48 : decode cX7_nextToken 48 = .ok (.getfield 94, 3) := by decide +kernel
theorem dX7_nextToken_51 : decode cX7_nextToken 51 = .ok (.aload_n 0, 1) := by decide +kernel
theorem dX7_nextToken_52 : decode cX7_nextToken 52 = .ok (.getfield 79, 3) := by decide +kernel
theorem dX7_nextToken_55 : decode cX7_nextToken 55 = .ok (.if_icmp .ge 12, 3) := by decide +kernel
theorem dX7_nextToken_58 : decode cX7_nextToken 58 = .ok (.aload_n 0, 1) := by decide +kernel
theorem dX7_nextToken_59 : decode cX7_nextToken 59 = .ok (.getfield 94, 3) := by decide +kernel
theorem dX7_nextToken_62 : decode cX7_nextToken 62 = .ok (.iconst 1, 1) := by decide +kernel
theorem dX7_nextToken_63 : decode cX7_nextToken 63 = .ok (.iadd, 1) := by decide +kernel
theorem dX7_nextToken_64 : decode cX7_nextToken 64 = .ok (.goto 7, 3) := by decide +kernel
theorem dX7_nextToken_67 : decode cX7_nextToken 67 = .ok (.aload_n 0, 1) := by decide +kernel
theorem dX7_nextToken_68 : decode cX7_nextToken 68 = .ok (.getfield 94, 3) := by decide +kernel
theorem dX7_nextToken_71 : decode cX7_nextToken 71 = .ok (.putfield 91, 3) := by decide +kernel
theorem dX7_nextToken_74 : decode cX7_nextToken 74 = .ok (.aload_n 0, 1) := by decide +kernel
theorem dX7_nextToken_75 : decode cX7_nextToken 75 = .ok (.getfield 94, 3) := by decide +kernel
theorem dX7_nextToken_78 : decode cX7_nextToken 78 = .ok (.aload_n 0, 1) := by decide +kernel
theorem dX7_nextToken_79 : decode cX7_nextToken 79 = .ok (.getfield 79, 3) := by decide +kernel
theorem dX7_nextToken_82 : decode cX7_nextToken 82 = .ok (.if_icmp .ge 57, 3) := by decide +kernel
theorem dX7_nextToken_85 : decode cX7_nextToken 85 = .ok (.aload_n 0, 1) := by decide +kernel
theorem dX7_nextToken_86 : decode cX7_nextToken 86 = .ok (.getfield 17, 3) := by decide +kernel
theorem dX7_nextToken_89 : decode cX7_nextToken 89 = .ok (.aload_n 0, 1) := by decide +kernel
theorem dX7_nextToken_90 : decode cX7_nextToken 90 = .ok (.getfield 94, 3) := by decide +kernel
theorem dX7_nextToken_93 : decode cX7_nextToken 93 = .ok (.iaload, 1) := by decide +kernel
theorem dX7_nextToken_94 : decode cX7_nextToken 94 = .ok (.invokestatic 97, 3) := by decide +kernel
theorem dX7_nextToken_97 : decode cX7_nextToken 97 = .ok (.ifCond .eq 42, 3) := by decide +kernel
theorem dX7_nextToken_100 : decode cX7_nextToken 100 = .ok (.aload_n 0, 1) := by decide +kernel
theorem dX7_nextToken_101 : decode cX7_nextToken 101 = .ok (.getfield 91, 3) := by decide +kernel
theorem dX7_nextToken_104 : decode cX7_nextToken 104 = .ok (.aload_n 0, 1) := by decide +kernel
theorem dX7_nextToken_105 : decode cX7_nextToken 105 = .ok (.getfield 79, 3) := by decide +kernel
theorem dX7_nextToken_108 : decode cX7_nextToken 108 = .ok (.if_icmp .ge 96, 3) := by decide +kernel
theorem dX7_nextToken_111 : decode cX7_nextToken 111 = .ok (.aload_n 0, 1) := by decide +kernel
theorem dX7_nextToken_112 : decode cX7_nextToken 112 = .ok (.getfield 17, 3) := by decide +kernel
theorem dX7_nextToken_115 : decode cX7_nextToken 115 = .ok (.aload_n 0, 1) := by decide +kernel
theorem dX7_nextToken_116 : decode cX7_nextToken 116 = .ok (.getfield 91, 3) := by decide +kernel
theorem dX7_nextToken_119 : decode cX7_nextToken 119 = .ok (.iaload, 1) := by decide +kernel
theorem dX7_nextToken_120 : decode cX7_nextToken 120 = .ok (.invokestatic 97, 3) := by decide +kernel
theorem dX7_nextToken_123 : decode cX7_nextToken 123 = .ok (.ifCond .eq 81, 3) := by decide +kernel
theorem dX7_nextToken_126 : decode cX7_nextToken 126 = .ok (.aload_n 0, 1) := by decide +kernel
theorem dX7_nextToken_127 : decode cX7_nextToken 127 = .ok (.dup, 1) := by decide +kernel
theorem dX7_nextToken_128 : decode cX7_nextToken 128 = .ok (.getfield 91, 3) := by decide +kernel
theorem dX7_nextToken_131 : decode cX7_nextToken 131 = .ok (.iconst 1, 1) := by decide +kernel
theorem dX7_nextToken_132 : decode cX7_nextToken 132 = .ok (.iadd, 1) := by decide +kernel
theorem dX7_nextToken_133 : decode cX7_nextToken 133 = .ok (.putfield 91, 3) := by decide +kernel
theorem dX7_nextToken_136 : decode cX7_nextToken 136 = .ok (.goto (-36), 3) := by decide +kernel
theorem dX7_nextToken_139 : decode cX7_nextToken 139 = .ok (.aload_n 0, 1) := by decide +kernel
theorem dX7_nextToken_140 : decode cX7_nextToken 140 = .ok (.getfield 94, 3) := by decide +kernel
theorem dX7_nextToken_143 : decode cX7_nextToken 143 = .ok (.aload_n 0, 1) := by decide +kernel
theorem dX7_nextToken_144 : decode cX7_nextToken 144 = .ok (.getfield 79, 3) := by decide +kernel
theorem dX7_nextToken_147 : decode cX7_nextToken 147 = .ok (.if_icmp .ge 57, 3) := by decide +kernel
theorem dX7_nextToken_150 : decode cX7_nextToken 150 = .ok (.aload_n 0, 1) := by decide +kernel
theorem dX7_nextToken_151 : decode cX7_nextToken 151 = .ok (.getfield 17, 3) := by decide +kernel
theorem dX7_nextToken_154 : decode cX7_nextToken 154 = .ok (.aload_n 0, 1) := by decide +kernel
theorem dX7_nextToken_155 : decode cX7_nextToken 155 = .ok (.getfield 94, 3) := by decide +kernel
theorem dX7_nextToken_158 : decode cX7_nextToken 158 = .ok (.iaload, 1) := by decide +kernel
theorem dX7_nextToken_159 : decode cX7_nextToken 159 = .ok (.invokestatic 101, 3) := by decide +kernel
theorem dX7_nextToken_162 : decode cX7_nextToken 162 = .ok (.ifCond .eq 42, 3) := by decide +kernel
theorem dX7_nextToken_165 : decode cX7_nextToken 165 = .ok (.aload_n 0, 1) := by decide +kernel
theorem dX7_nextToken_166 : decode cX7_nextToken 166 = .ok (.getfield 91, 3) := by decide +kernel
theorem dX7_nextToken_169 : decode cX7_nextToken 169 = .ok (.aload_n 0, 1) := by decide +kernel
theorem dX7_nextToken_170 : decode cX7_nextToken 170 = .ok (.getfield 79, 3) := by decide +kernel
theorem dX7_nextToken_173 : decode cX7_nextToken 173 = .ok (.if_icmp .ge 31, 3) := by decide +kernel
theorem dX7_nextToken_176 : decode cX7_nextToken 176 = .ok (.aload_n 0, 1) := by decide +kernel
theorem dX7_nextToken_177 : decode cX7_nextToken 177 = .ok (.getfield 17, 3) := by decide +kernel
theorem dX7_nextToken_180 : decode cX7_nextToken 180 = .ok (.aload_n 0, 1) := by decide +kernel
theorem dX7_nextToken_181 : decode cX7_nextToken 181 = .ok (.getfield 91, 3) := by decide +kernel
theorem dX7_nextToken_184 : decode cX7_nextToken 184 = .ok (.iaload, 1) := by decide +kernel
theorem dX7_nextToken_185 : decode cX7_nextToken 185 = .ok (.invokestatic 101, 3) := by decide +kernel
theorem dX7_nextToken_188 : decode cX7_nextToken 188 = .ok (.ifCond .eq 16, 3) := by decide +kernel
theorem dX7_nextToken_191 : decode cX7_nextToken 191 = .ok (.aload_n 0, 1) := by decide +kernel
theorem dX7_nextToken_192 : decode cX7_nextToken 192 = .ok (.dup, 1) := by decide +kernel
theorem dX7_nextToken_193 : decode cX7_nextToken 193 = .ok (.getfield 91, 3) := by decide +kernel
theorem dX7_nextToken_196 : decode cX7_nextToken 196 = .ok (.iconst 1, 1) := by decide +kernel
theorem dX7_nextToken_197 : decode cX7_nextToken 197 = .ok (.iadd, 1) := by decide +kernel
theorem dX7_nextToken_198 : decode cX7_nextToken 198 = .ok (.putfield 91, 3) := by decide +kernel
theorem dX7_nextToken_201 : decode cX7_nextToken 201 = .ok (.goto (-36), 3) := by decide +kernel
theorem dX7_nextToken_204 : decode cX7_nextToken 204 = .ok (.return_, 1) := by decide +kernel
theorem dX7_isWord_0 : decode cX7_isWord 0 = .ok (.aload_n 0, 1) := by decide +kernel
theorem dX7_isWord_1 : decode cX7_isWord 1 = .ok (.getfield 91, 3) := by decide +kernel
theorem dX7_isWord_4 : decode cX7_isWord 4 = .ok (.aload_n 0, 1) := by decide +kernel
theorem dX7_isWord_5 : decode cX7_isWord 5 = .ok (.getfield 94, 3) := by decide +kernel
theorem dX7_isWord_8 : decode cX7_isWord 8 = .ok (.isub, 1) := by decide +kernel
theorem dX7_isWord_9 : decode cX7_isWord 9 = .ok (.aload_n 1, 1) := by decide +kernel
theorem dX7_isWord_10 : decode cX7_isWord 10 = .ok (.arraylength, 1) := by decide +kernel
theorem dX7_isWord_11 : decode cX7_isWord 11 = .ok (.if_icmp .ne 7, 3) := by decide +kernel
theorem dX7_isWord_14 : decode cX7_isWord 14 = .ok (.iconst 1, 1) := by decide +kernel
theorem dX7_isWord_15 : decode cX7_isWord 15 = .ok (.goto 4, 3) := by decide +kernel
theorem dX7_isWord_18 : decode cX7_isWord 18 = .ok (.iconst 0, 1) := by decide +kernel
theorem dX7_isWord_19 : decode cX7_isWord 19 = .ok (.istore_n 2, 1) := by decide +kernel
theorem dX7_isWord_20 : decode cX7_isWord 20 = .ok (.iconst 0, 1) := by decide +kernel
theorem dX7_isWord_21 : decode cX7_isWord 21 = .ok (.istore_n 3, 1) := by decide +kernel
theorem dX7_isWord_22 : decode cX7_isWord 22 = .ok (.iload_n 3, 1) := by decide +kernel
theorem dX7_isWord_23 : decode cX7_isWord 23 = .ok (.aload_n 1, 1) := by decide +kernel
theorem dX7_isWord_24 : decode cX7_isWord 24 = .ok (.arraylength, 1) := by decide +kernel
theorem dX7_isWord_25 : decode cX7_isWord 25 = .ok (.if_icmp .ge 36, 3) := by decide +kernel
theorem dX7_isWord_28 : decode cX7_isWord 28 = .ok (.iload_n 2, 1) := by decide +kernel
theorem dX7_isWord_29 : decode cX7_isWord 29 = .ok (.ifCond .eq 32, 3) := by decide +kernel
theorem dX7_isWord_32 : decode cX7_isWord 32 = .ok (.aload_n 0, 1) := by decide +kernel
theorem dX7_isWord_33 : decode cX7_isWord 33 = .ok (.getfield 17, 3) := by decide +kernel
theorem dX7_isWord_36 : decode cX7_isWord 36 = .ok (.aload_n 0, 1) := by decide +kernel
theorem dX7_isWord_37 : decode cX7_isWord 37 = .ok (.getfield 94, 3) := by decide +kernel
theorem dX7_isWord_40 : decode cX7_isWord 40 = .ok (.iload_n 3, 1) := by decide +kernel
theorem dX7_isWord_41 : decode cX7_isWord 41 = .ok (.iadd, 1) := by decide +kernel
theorem dX7_isWord_42 : decode cX7_isWord 42 = .ok (.iaload, 1) := by decide +kernel
theorem dX7_isWord_43 : decode cX7_isWord 43 = .ok (.aload_n 1, 1) := by decide +kernel
theorem dX7_isWord_44 : decode cX7_isWord 44 = .ok (.iload_n 3, 1) := by decide +kernel
theorem dX7_isWord_45 : decode cX7_isWord 45 = .ok (.iaload, 1) := by decide +kernel
theorem dX7_isWord_46 : decode cX7_isWord 46 = .ok (.if_icmp .ne 7, 3) := by decide +kernel
theorem dX7_isWord_49 : decode cX7_isWord 49 = .ok (.iconst 1, 1) := by decide +kernel
theorem dX7_isWord_50 : decode cX7_isWord 50 = .ok (.goto 4, 3) := by decide +kernel
theorem dX7_isWord_53 : decode cX7_isWord 53 = .ok (.iconst 0, 1) := by decide +kernel
theorem dX7_isWord_54 : decode cX7_isWord 54 = .ok (.istore_n 2, 1) := by decide +kernel
theorem dX7_isWord_55 : decode cX7_isWord 55 = .ok (.iinc 3 1, 3) := by decide +kernel
theorem dX7_isWord_58 : decode cX7_isWord 58 = .ok (.goto (-36), 3) := by decide +kernel
theorem dX7_isWord_61 : decode cX7_isWord 61 = .ok (.iload_n 2, 1) := by decide +kernel
theorem dX7_isWord_62 : decode cX7_isWord 62 = .ok (.ireturn, 1) := by decide +kernel
set_option maxRecDepth 20000 in
theorem ggX7_number_X7_isDigit : GoodIn wsX7_number wsX7_isDigit := goodIn_r _ [9, 10, 11, 12, 13, 8, 14] (by decide +kernel) (by decide +kernel)
set_option maxRecDepth 20000 in
theorem gX7_number_X7_isDigit : GoodIn wsX7_number (va_wsS RX7 101 yX7_isDigit wsX7_isDigit) := goodIn_app (goodIn_of _ (by decide +kernel)) ggX7_number_X7_isDigit
set_option maxRecDepth 20000 in
theorem ggX7_number_X7_in : GoodIn wsX7_number wsX7_in := goodIn_r _ [14] (by decide +kernel) (by decide +kernel)
set_option maxRecDepth 20000 in
theorem gX7_number_X7_in : GoodIn wsX7_number (va_wsS RX7 75 yX7_in wsX7_in) := goodIn_app (goodIn_of _ (by decide +kernel)) ggX7_number_X7_in
set_option maxRecDepth 20000 in
theorem ggX7_number_X7_nextToken : GoodIn wsX7_number wsX7_nextToken := goodIn_r _ [18, 4, 1, 2, 3, 19, 20, 8, 21, 22, 23, 12, 13, 14, 6, 7, 9, 10, 11, 24, 25, 26, 27, 28, 29, 30, 31, 32, 33, 34, 35, 36, 37, 38, 39, 40, 41, 42, 43, 44, 45, 46] (by decide +kernel) (by decide +kernel)
set_option maxRecDepth 20000 in
theorem gX7_number_X7_nextToken : GoodIn wsX7_number (wsV RX7 104 RX7 yX7_nextToken wsX7_nextToken) := goodIn_app (goodIn_of _ (by decide +kernel)) ggX7_number_X7_nextToken
theorem dX7_number_0 : decode cX7_number 0 = .ok (.aload_n 0, 1) := by decide +kernel
theorem dX7_number_1 : decode cX7_number 1 = .ok (.getfield 94, 3) := by decide +kernel
theorem dX7_number_4 : decode cX7_number 4 = .ok (.aload_n 0, 1) := by decide +kernel
theorem dX7_number_5 : decode cX7_number 5 = .ok (.getfield 79, 3) := by decide +kernel
theorem dX7_number_8 : decode cX7_number 8 = .ok (.if_icmp .eq 31, 3) := by decide +kernel
theorem dX7_number_11 : decode cX7_number 11 = .ok (.aload_n 0, 1) := by decide +kernel
theorem dX7_number_12 : decode cX7_number 12 = .ok (.getfield 17, 3) := by decide +kernel
theorem dX7_number_15 : decode cX7_number 15 = .ok (.aload_n 0, 1) := by decide +kernel
theorem dX7_number_16 : decode cX7_number 16 = .ok (.getfield 94, 3) := by decide +kernel
theorem dX7_number_19 : decode cX7_number 19 = .ok (.iaload, 1) := by decide +kernel
theorem dX7_number_20 : decode cX7_number 20 = .ok (.invokestatic 101, 3) := by decide +kernel
theorem dX7_number_23 : decode cX7_number 23 = .ok (.ifCond .eq 16, 3) := by decide +kernel
theorem dX7_number_26 : decode cX7_number 26 = .ok (.aload_n 0, 1) := by decide +kernel
theorem dX7_number_27 : decode cX7_number 27 = .ok (.getfield 91, 3) := by decide +kernel
theorem dX7_number_30 : decode cX7_number 30 = .ok (.aload_n 0, 1) := by decide +kernel
theorem dX7_number_31 : decode cX7_number 31 = .ok (.getfield 94, 3) := by decide +kernel
theorem dX7_number_34 : decode cX7_number 34 = .ok (.isub, 1) := by decide +kernel
theorem dX7_number_35 : decode cX7_number 35 = .ok (.iconst 5, 1) := by decide +kernel
theorem dX7_number_36 : decode cX7_number 36 = .ok (.if_icmp .le 5, 3) := by decide +kernel
theorem dX7_number_39 : decode cX7_number 39 = .ok (.iconst 0, 1) := by decide +kernel
theorem dX7_number_40 : decode cX7_number 40 = .ok (.ireturn, 1) := by decide +kernel
theorem dX7_number_41 : decode cX7_number 41 = .ok (.iconst 0, 1) := by decide +kernel
theorem dX7_number_42 : decode cX7_number 42 = .ok (.istore 4, 2) := by decide +kernel
theorem dX7_number_44 : decode cX7_number 44 = .ok (.aload_n 0, 1) := by decide +kernel
theorem dX7_number_45 : decode cX7_number 45 = .ok (.getfield 94, 3) := by decide +kernel
theorem dX7_number_48 : decode cX7_number 48 = .ok (.istore 5, 2) := by decide +kernel
theorem dX7_number_50 : decode cX7_number 50 = .ok (.iload 5, 2) := by decide +kernel
theorem dX7_number_52 : decode cX7_number 52 = .ok (.aload_n 0, 1) := by decide +kernel
theorem dX7_number_53 : decode cX7_number 53 = .ok (.getfield 91, 3) := by decide +kernel
theorem dX7_number_56 : decode cX7_number 56 = .ok (.if_icmp .ge 27, 3) := by decide +kernel
theorem dX7_number_59 : decode cX7_number 59 = .ok (.bipush 10, 2) := by decide +kernel
theorem dX7_number_61 : decode cX7_number 61 = .ok (.iload 4, 2) := by decide +kernel
theorem dX7_number_63 : decode cX7_number 63 = .ok (.imul, 1) := by decide +kernel
theorem dX7_number_64 : decode cX7_number 64 = .ok (.aload_n 0, 1) := by decide +kernel
theorem dX7_number_65 : decode cX7_number 65 = .ok (.getfield 17, 3) := by decide +kernel
theorem dX7_number_68 : decode cX7_number 68 = .ok (.iload 5, 2) := by decide +kernel
theorem dX7_number_70 : decode cX7_number 70 = .ok (.iaload, 1) := by decide +kernel
theorem dX7_number_71 : decode cX7_number 71 = .ok (.iadd, 1) := by decide +kernel
theorem dX7_number_72 : decode cX7_number 72 = .ok (.bipush 48, 2) := by decide +kernel
theorem dX7_number_74 : decode cX7_number 74 = .ok (.isub, 1) := by decide +kernel
theorem dX7_number_75 : decode cX7_number 75 = .ok (.istore 4, 2) := by decide +kernel
theorem dX7_number_77 : decode cX7_number 77 = .ok (.iinc 5 1, 3) := by decide +kernel
theorem dX7_number_80 : decode cX7_number 80 = .ok (.goto (-30), 3) := by decide +kernel
theorem dX7_number_83 : decode cX7_number 83 = .ok (.iload 4, 2) := by decide +kernel
theorem dX7_number_85 : decode cX7_number 85 = .ok (.i2l, 1) := by decide +kernel
theorem dX7_number_86 : decode cX7_number 86 = .ok (.iload_n 2, 1) := by decide +kernel
theorem dX7_number_87 : decode cX7_number 87 = .ok (.i2l, 1) := by decide +kernel
theorem dX7_number_88 : decode cX7_number 88 = .ok (.iload_n 3, 1) := by decide +kernel
theorem dX7_number_89 : decode cX7_number 89 = .ok (.i2l, 1) := by decide +kernel
theorem dX7_number_90 : decode cX7_number 90 = .ok (.invokestatic 75, 3) := by decide +kernel
theorem dX7_number_93 : decode cX7_number 93 = .ok (.istore 5, 2) := by decide +kernel
theorem dX7_number_95 : decode cX7_number 95 = .ok (.iload 5, 2) := by decide +kernel
theorem dX7_number_97 : decode cX7_number 97 = .ok (.ifCond .eq 15, 3) := by decide +kernel
theorem dX7_number_100 : decode cX7_number 100 = .ok (.aload_n 0, 1) := by decide +kernel
theorem dX7_number_101 : decode cX7_number 101 = .ok (.getfield 27, 3) := by decide +kernel
theorem dX7_number_104 : decode cX7_number 104 = .ok (.iload_n 1, 1) := by decide +kernel
theorem dX7_number_105 : decode cX7_number 105 = .ok (.iload 4, 2) := by decide +kernel
theorem dX7_number_107 : decode cX7_number 107 = .ok (.iastore, 1) := by decide +kernel
theorem dX7_number_108 : decode cX7_number 108 = .ok (.aload_n 0, 1) := by decide +kernel
theorem dX7_number_109 : decode cX7_number 109 = .ok (.invokevirtual 104, 3) := by decide +kernel
theorem dX7_number_112 : decode cX7_number 112 = .ok (.iload 5, 2) := by decide +kernel
theorem dX7_number_114 : decode cX7_number 114 = .ok (.ireturn, 1) := by decide +kernel
set_option maxRecDepth 20000 in
theorem ggX7_wordHere_X7_isWord : GoodIn wsX7_wordHere wsX7_isWord := goodIn_r _ [9, 10, 11, 12, 13, 14, 15, 16, 17, 18, 19, 20, 21, 22, 23, 24, 25, 26, 27, 28, 29, 30, 31, 32, 33, 34, 35] (by decide +kernel) (by decide +kernel)
set_option maxRecDepth 20000 in
theorem gX7_wordHere_X7_isWord : GoodIn wsX7_wordHere (wsV RX7 107 RX7 yX7_isWord wsX7_isWord) := goodIn_app (goodIn_of _ (by decide +kernel)) ggX7_wordHere_X7_isWord
theorem dX7_wordHere_0 : decode cX7_wordHere 0 = .ok (.aload_n 0, 1) := by decide +kernel
theorem dX7_wordHere_1 : decode cX7_wordHere 1 = .ok (.aload_n 0, 1) := by decide +kernel
theorem dX7_wordHere_2 : decode cX7_wordHere 2 = .ok (.getfield 30, 3) := by decide +kernel
theorem dX7_wordHere_5 : decode cX7_wordHere 5 = .ok (.invokevirtual 107, 3) := by decide +kernel
theorem dX7_wordHere_8 : decode cX7_wordHere 8 = .ok (.ifCond .eq 7, 3) := by decide +kernel
theorem dX7_wordHere_11 : decode cX7_wordHere 11 = .ok (.iconst 0, 1) := by decide +kernel
theorem dX7_wordHere_12 : decode cX7_wordHere 12 = .ok (.goto 49, 3) := by decide +kernel
theorem dX7_wordHere_15 : decode cX7_wordHere 15 = .ok (.aload_n 0, 1) := by decide +kernel
theorem dX7_wordHere_16 : decode cX7_wordHere 16 = .ok (.aload_n 0, 1) := by decide +kernel
theorem dX7_wordHere_17 : decode cX7_wordHere 17 = .ok (.getfield 33, 3) := by decide +kernel
theorem dX7_wordHere_20 : decode cX7_wordHere 20 = .ok (.invokevirtual 107, 3) := by decide +kernel
theorem dX7_wordHere_23 : decode cX7_wordHere 23 = .ok (.ifCond .eq 7, 3) := by decide +kernel
theorem dX7_wordHere_26 : decode cX7_wordHere 26 = .ok (.iconst 1, 1) := by decide +kernel
theorem dX7_wordHere_27 : decode cX7_wordHere 27 = .ok (.goto 34, 3) := by decide +kernel
theorem dX7_wordHere_30 : decode cX7_wordHere 30 = .ok (.aload_n 0, 1) := by decide +kernel
theorem dX7_wordHere_31 : decode cX7_wordHere 31 = .ok (.aload_n 0, 1) := by decide +kernel
theorem dX7_wordHere_32 : decode cX7_wordHere 32 = .ok (.getfield 36, 3) := by decide +kernel
theorem dX7_wordHere_35 : decode cX7_wordHere 35 = .ok (.invokevirtual 107, 3) := by decide +kernel
theorem dX7_wordHere_38 : decode cX7_wordHere 38 = .ok (.ifCond .eq 7, 3) := by decide +kernel
theorem dX7_wordHere_41 : decode cX7_wordHere 41 = .ok (.iconst 2, 1) := by decide +kernel
theorem dX7_wordHere_42 : decode cX7_wordHere 42 = .ok (.goto 19, 3) := by decide +kernel
theorem dX7_wordHere_45 : decode cX7_wordHere 45 = .ok (.aload_n 0, 1) := by decide +kernel
theorem dX7_wordHere_46 : decode cX7_wordHere 46 = .ok (.aload_n 0, 1) := by decide +kernel
theorem dX7_wordHere_47 : decode cX7_wordHere 47 = .ok (.getfield 39, 3) := by decide +kernel
theorem dX7_wordHere_50 : decode cX7_wordHere 50 = .ok (.invokevirtual 107, 3) := by decide +kernel
theorem dX7_wordHere_53 : decode cX7_wordHere 53 = .ok (.ifCond .eq 7, 3) := by decide +kernel
theorem dX7_wordHere_56 : decode cX7_wordHere 56 = .ok (.iconst 3, 1) := by decide +kernel
theorem dX7_wordHere_57 : decode cX7_wordHere 57 = .ok (.goto 4, 3) := by decide +kernel
theorem dX7_wordHere_60 : decode cX7_wordHere 60 = .ok (.iconst (-1), 1) := by decide +kernel
theorem dX7_wordHere_61 : decode cX7_wordHere 61 = .ok (.ireturn, 1) := by decide +kernel
set_option maxRecDepth 20000 in
theorem ggX7_does_X7_plan : GoodIn wsX7_does wsX7_plan := goodIn_r _ [6, 7, 48, 49, 50, 51, 52, 53, 54, 55, 56, 57, 58, 59, 60, 61, 62, 63, 64, 65, 66, 67, 68, 69, 70] (by decide +kernel) (by decide +kernel)
set_option maxRecDepth 20000 in
theorem gX7_does_X7_plan : GoodIn wsX7_does (wsV RX7 42 RX7 yX7_plan wsX7_plan) := goodIn_app (goodIn_of _ (by decide +kernel)) ggX7_does_X7_plan
set_option maxRecDepth 20000 in
theorem ggX7_does_X7_addAt : GoodIn wsX7_does wsX7_addAt := goodIn_r _ [11, 7, 12, 13, 14, 5, 15, 16, 17, 18, 19, 20, 21, 22, 23, 24, 25, 26, 27, 28, 29, 30, 31, 32, 33, 34, 35, 36, 37, 38, 39, 48, 49, 50, 51, 52, 53, 54, 55, 56, 57, 58, 59, 60, 61, 62, 63, 64, 65, 66, 67, 68, 69, 70] (by decide +kernel) (by decide +kernel)
set_option maxRecDepth 20000 in
theorem gX7_does_X7_addAt : GoodIn wsX7_does (wsV RX7 70 RX7 yX7_addAt wsX7_addAt) := goodIn_app (goodIn_of _ (by decide +kernel)) ggX7_does_X7_addAt
set_option maxRecDepth 20000 in
theorem ggX7_does_X7_isKey : GoodIn wsX7_does wsX7_isKey := goodIn_r _ [15, 7, 16, 17, 18, 5, 19, 48, 49, 50, 51, 52, 53, 54, 55, 56, 57, 58, 59, 60, 61, 62, 63, 64, 65, 66, 67, 68, 69, 70] (by decide +kernel) (by decide +kernel)
set_option maxRecDepth 20000 in
theorem gX7_does_X7_isKey : GoodIn wsX7_does (wsV RX7 63 RX7 yX7_isKey wsX7_isKey) := goodIn_app (goodIn_of _ (by decide +kernel)) ggX7_does_X7_isKey
set_option maxRecDepth 20000 in
theorem ggX7_does_X7_takeOut : GoodIn wsX7_does wsX7_takeOut := goodIn_r _ [43, 7, 24, 25, 26, 5, 27, 16, 17, 18, 19, 28, 29, 30, 31, 32, 33, 34, 35, 36, 37, 38, 39, 48, 49, 50, 51, 52, 53, 54, 55, 56, 57, 58, 59, 60, 61, 62, 63, 64, 65, 66, 67, 68, 69, 70] (by decide +kernel) (by decide +kernel)
set_option maxRecDepth 20000 in
theorem gX7_does_X7_takeOut : GoodIn wsX7_does (wsV RX7 111 RX7 yX7_takeOut wsX7_takeOut) := goodIn_app (goodIn_of _ (by decide +kernel)) ggX7_does_X7_takeOut
set_option maxRecDepth 20000 in
theorem ggX7_does_X7_fill : GoodIn wsX7_does wsX7_fill := goodIn_r _ [47, 7, 8, 9, 10, 5, 11, 12, 13, 14, 15, 16, 17, 18, 19, 20, 21, 22, 23, 24, 25, 26, 27, 28, 29, 30, 31, 32, 33, 34, 35, 36, 37, 38, 39, 48, 49, 50, 51, 52, 53, 54, 55, 56, 57, 58, 59, 60, 61, 62, 63, 64, 65, 66, 67, 68, 69, 70] (by decide +kernel) (by decide +kernel)
set_option maxRecDepth 20000 in
theorem gX7_does_X7_fill : GoodIn wsX7_does (wsV RX7 114 RX7 yX7_fill wsX7_fill) := goodIn_app (goodIn_of _ (by decide +kernel)) ggX7_does_X7_fill
theorem dX7_does_0 : decode cX7_does 0 = .ok (.iload_n 1, 1) := by decide +kernel
theorem dX7_does_1 : decode cX7_does 1 = .ok (.tableswitch 89 0 2 #[27, 47, 61], 27) := by decide +kernel
theorem dX7_does_28 : decode cX7_does 28 = .ok (.aload_n 0, 1) := by decide +kernel
theorem dX7_does_29 : decode cX7_does 29 = .ok (.iconst 0, 1) := by decide +kernel
theorem dX7_does_30 : decode cX7_does 30 = .ok (.aload_n 0, 1) := by decide +kernel
theorem dX7_does_31 : decode cX7_does 31 = .ok (.getfield 27, 3) := by decide +kernel
theorem dX7_does_34 : decode cX7_does 34 = .ok (.iconst 0, 1) := by decide +kernel
theorem dX7_does_35 : decode cX7_does 35 = .ok (.iaload, 1) := by decide +kernel
theorem dX7_does_36 : decode cX7_does 36 = .ok (.aload_n 0, 1) := by decide +kernel
theorem dX7_does_37 : decode cX7_does 37 = .ok (.getfield 27, 3) := by decide +kernel
theorem dX7_does_40 : decode cX7_does 40 = .ok (.iconst 1, 1) := by decide +kernel
theorem dX7_does_41 : decode cX7_does 41 = .ok (.iaload, 1) := by decide +kernel
theorem dX7_does_42 : decode cX7_does 42 = .ok (.invokevirtual 42, 3) := by decide +kernel
theorem dX7_does_45 : decode cX7_does 45 = .ok (.goto 68, 3) := by decide +kernel
theorem dX7_does_48 : decode cX7_does 48 = .ok (.aload_n 0, 1) := by decide +kernel
theorem dX7_does_49 : decode cX7_does 49 = .ok (.iconst 0, 1) := by decide +kernel
theorem dX7_does_50 : decode cX7_does 50 = .ok (.aload_n 0, 1) := by decide +kernel
theorem dX7_does_51 : decode cX7_does 51 = .ok (.getfield 27, 3) := by decide +kernel
theorem dX7_does_54 : decode cX7_does 54 = .ok (.iconst 0, 1) := by decide +kernel
theorem dX7_does_55 : decode cX7_does 55 = .ok (.iaload, 1) := by decide +kernel
theorem dX7_does_56 : decode cX7_does 56 = .ok (.invokevirtual 70, 3) := by decide +kernel
theorem dX7_does_59 : decode cX7_does 59 = .ok (.goto 54, 3) := by decide +kernel
theorem dX7_does_62 : decode cX7_does 62 = .ok (.aload_n 0, 1) := by decide +kernel
theorem dX7_does_63 : decode cX7_does 63 = .ok (.iconst 0, 1) := by decide +kernel
theorem dX7_does_64 : decode cX7_does 64 = .ok (.aload_n 0, 1) := by decide +kernel
theorem dX7_does_65 : decode cX7_does 65 = .ok (.getfield 27, 3) := by decide +kernel
theorem dX7_does_68 : decode cX7_does 68 = .ok (.iconst 0, 1) := by decide +kernel
theorem dX7_does_69 : decode cX7_does 69 = .ok (.iaload, 1) := by decide +kernel
theorem dX7_does_70 : decode cX7_does 70 = .ok (.invokevirtual 63, 3) := by decide +kernel
theorem dX7_does_73 : decode cX7_does 73 = .ok (.ifCond .eq 40, 3) := by decide +kernel
theorem dX7_does_76 : decode cX7_does 76 = .ok (.aload_n 0, 1) := by decide +kernel
theorem dX7_does_77 : decode cX7_does 77 = .ok (.iconst 0, 1) := by decide +kernel
theorem dX7_does_78 : decode cX7_does 78 = .ok (.aload_n 0, 1) := by decide +kernel
theorem dX7_does_79 : decode cX7_does 79 = .ok (.getfield 27, 3) := by decide +kernel
theorem dX7_does_82 : decode cX7_does 82 = .ok (.iconst 0, 1) := by decide +kernel
theorem dX7_does_83 : decode cX7_does 83 = .ok (.iaload, 1) := by decide +kernel
theorem dX7_does_84 : decode cX7_does 84 = .ok (.invokevirtual 111, 3) := by decide +kernel
theorem dX7_does_87 : decode cX7_does 87 = .ok (.goto 26, 3) := by decide +kernel
theorem dX7_does_90 : decode cX7_does 90 = .ok (.aload_n 0, 1) := by decide +kernel
theorem dX7_does_91 : decode cX7_does 91 = .ok (.iconst 0, 1) := by decide +kernel
theorem dX7_does_92 : decode cX7_does 92 = .ok (.aload_n 0, 1) := by decide +kernel
theorem dX7_does_93 : decode cX7_does 93 = .ok (.getfield 27, 3) := by decide +kernel
theorem dX7_does_96 : decode cX7_does 96 = .ok (.iconst 0, 1) := by decide +kernel
theorem dX7_does_97 : decode cX7_does 97 = .ok (.iaload, 1) := by decide +kernel
theorem dX7_does_98 : decode cX7_does 98 = .ok (.aload_n 0, 1) := by decide +kernel
theorem dX7_does_99 : decode cX7_does 99 = .ok (.getfield 27, 3) := by decide +kernel
theorem dX7_does_102 : decode cX7_does 102 = .ok (.iconst 1, 1) := by decide +kernel
theorem dX7_does_103 : decode cX7_does 103 = .ok (.iaload, 1) := by decide +kernel
theorem dX7_does_104 : decode cX7_does 104 = .ok (.aload_n 0, 1) := by decide +kernel
theorem dX7_does_105 : decode cX7_does 105 = .ok (.getfield 27, 3) := by decide +kernel
theorem dX7_does_108 : decode cX7_does 108 = .ok (.iconst 2, 1) := by decide +kernel
theorem dX7_does_109 : decode cX7_does 109 = .ok (.iaload, 1) := by decide +kernel
theorem dX7_does_110 : decode cX7_does 110 = .ok (.invokevirtual 114, 3) := by decide +kernel
theorem dX7_does_113 : decode cX7_does 113 = .ok (.return_, 1) := by decide +kernel
set_option maxRecDepth 20000 in
theorem ggX7_readsClause_X7_wordHere : GoodIn wsX7_readsClause wsX7_wordHere := goodIn_r _ [8, 9, 10, 11, 12, 13, 14, 15, 7, 16, 17, 18, 19, 91, 92, 93, 94, 95, 96, 97, 98, 99, 100, 101, 102, 103, 104, 105, 106, 107, 108, 109, 110, 111, 112, 113] (by decide +kernel) (by decide +kernel)
set_option maxRecDepth 20000 in
theorem gX7_readsClause_X7_wordHere : GoodIn wsX7_readsClause (wsV RX7 118 RX7 yX7_wordHere wsX7_wordHere) := goodIn_app (goodIn_of _ (by decide +kernel)) ggX7_readsClause_X7_wordHere
set_option maxRecDepth 20000 in
theorem ggX7_readsClause_X7_nextToken : GoodIn wsX7_readsClause wsX7_nextToken := goodIn_r _ [23, 17, 18, 24, 19, 25, 26, 7, 27, 28, 29, 30, 31, 32, 33, 34, 35, 36, 37, 91, 92, 93, 94, 95, 96, 97, 98, 99, 100, 101, 102, 103, 104, 105, 106, 107, 108, 109, 110, 111, 112, 113] (by decide +kernel) (by decide +kernel)
set_option maxRecDepth 20000 in
theorem gX7_readsClause_X7_nextToken : GoodIn wsX7_readsClause (wsV RX7 104 RX7 yX7_nextToken wsX7_nextToken) := goodIn_app (goodIn_of _ (by decide +kernel)) ggX7_readsClause_X7_nextToken
set_option maxRecDepth 20000 in
theorem ggX7_readsClause_X7_number : GoodIn wsX7_readsClause wsX7_number := goodIn_r _ [41, 18, 24, 19, 17, 2, 33, 34, 7, 35, 36, 37, 30, 31, 32, 20, 21, 22, 23, 25, 26, 27, 28, 29, 91, 92, 93, 94, 95, 96, 97, 98, 99, 100, 101, 102, 103, 104, 105, 106, 107, 108, 109, 110, 111, 112, 113] (by decide +kernel) (by decide +kernel)
set_option maxRecDepth 20000 in
theorem gX7_readsClause_X7_number : GoodIn wsX7_readsClause (wsV RX7 122 RX7 yX7_number wsX7_number) := goodIn_app (goodIn_of _ (by decide +kernel)) ggX7_readsClause_X7_number
set_option maxRecDepth 20000 in
theorem ggX7_readsClause_X7_does : GoodIn wsX7_readsClause wsX7_does := goodIn_r _ [45, 2, 46, 47, 48, 7, 49, 50, 51, 52, 53, 54, 55, 56, 57, 58, 59, 60, 61, 62, 63, 64, 65, 66, 67, 68, 69, 70, 71, 72, 73, 74, 75, 76, 77, 78, 79, 80, 81, 82, 83, 84, 85, 86, 87, 88, 89, 90, 91, 92, 93, 94, 95, 96, 97, 98, 99, 100, 101, 102, 103, 104, 105, 106, 107, 108, 109, 110, 111, 112, 113] (by decide +kernel) (by decide +kernel)
set_option maxRecDepth 20000 in
theorem gX7_readsClause_X7_does : GoodIn wsX7_readsClause (wsV RX7 133 RX7 yX7_does wsX7_does) := goodIn_app (goodIn_of _ (by decide +kernel)) ggX7_readsClause_X7_does
theorem dX7_readsClause_0 : decode cX7_readsClause 0 = .ok (.aload_n 0, 1) := by decide +kernel
theorem dX7_readsClause_1 : decode cX7_readsClause 1 = .ok (.invokevirtual 118, 3) := by decide +kernel
theorem dX7_readsClause_4 : decode cX7_readsClause 4 = .ok (.istore_n 1, 1) := by decide +kernel
theorem dX7_readsClause_5 : decode cX7_readsClause 5 = .ok (.iload_n 1, 1) := by decide +kernel
theorem dX7_readsClause_6 : decode cX7_readsClause 6 = .ok (.iconst (-1), 1) := by decide +kernel
theorem dX7_readsClause_7 : decode cX7_readsClause 7 = .ok (.if_icmp .ne 5, 3) := by decide +kernel
theorem dX7_readsClause_10 : decode cX7_readsClause 10 = .ok (.iconst 0, 1) := by decide +kernel
theorem dX7_readsClause_11 : decode cX7_readsClause 11 = .ok (.ireturn, 1) := by decide +kernel
theorem dX7_readsClause_12 : decode cX7_readsClause 12 = .ok (.aload_n 0, 1) := by decide +kernel
theorem dX7_readsClause_13 : decode cX7_readsClause 13 = .ok (.invokevirtual 104, 3) := by decide +kernel
theorem dX7_readsClause_16 : decode cX7_readsClause 16 = .ok (.iload_n 1, 1) := by decide +kernel
theorem dX7_readsClause_17 : decode cX7_readsClause 17 = .ok (.ifCond .ne 32, 3) := by decide +kernel
theorem dX7_readsClause_20 : decode cX7_readsClause 20 = .ok (.aload_n 0, 1) := by decide +kernel
theorem dX7_readsClause_21 : decode cX7_readsClause 21 = .ok (.iconst 0, 1) := by decide +kernel
theorem dX7_readsClause_22 : decode cX7_readsClause 22 = .ok (.iconst 4, 1) := by decide +kernel
theorem dX7_readsClause_23 : decode cX7_readsClause 23 = .ok (.bipush 16, 2) := by decide +kernel
theorem dX7_readsClause_25 : decode cX7_readsClause 25 = .ok (.invokevirtual 122, 3) := by decide +kernel
theorem dX7_readsClause_28 : decode cX7_readsClause 28 = .ok (.ifCond .eq 17, 3) := by decide +kernel
theorem dX7_readsClause_31 : decode cX7_readsClause 31 = .ok (.aload_n 0, 1) := by decide +kernel
theorem dX7_readsClause_32 : decode cX7_readsClause 32 = .ok (.iconst 1, 1) := by decide +kernel
theorem dX7_readsClause_33 : decode cX7_readsClause 33 = .ok (.iconst 2, 1) := by decide +kernel
theorem dX7_readsClause_34 : decode cX7_readsClause 34 = .ok (.iconst 5, 1) := by decide +kernel
theorem dX7_readsClause_35 : decode cX7_readsClause 35 = .ok (.invokevirtual 122, 3) := by decide +kernel
theorem dX7_readsClause_38 : decode cX7_readsClause 38 = .ok (.ifCond .eq 7, 3) := by decide +kernel
theorem dX7_readsClause_41 : decode cX7_readsClause 41 = .ok (.iconst 1, 1) := by decide +kernel
theorem dX7_readsClause_42 : decode cX7_readsClause 42 = .ok (.goto 57, 3) := by decide +kernel
theorem dX7_readsClause_45 : decode cX7_readsClause 45 = .ok (.iconst 0, 1) := by decide +kernel
theorem dX7_readsClause_46 : decode cX7_readsClause 46 = .ok (.goto 53, 3) := by decide +kernel
theorem dX7_readsClause_49 : decode cX7_readsClause 49 = .ok (.aload_n 0, 1) := by decide +kernel
theorem dX7_readsClause_50 : decode cX7_readsClause 50 = .ok (.iconst 0, 1) := by decide +kernel
theorem dX7_readsClause_51 : decode cX7_readsClause 51 = .ok (.iconst 0, 1) := by decide +kernel
theorem dX7_readsClause_52 : decode cX7_readsClause 52 = .ok (.iconst 1, 1) := by decide +kernel
theorem dX7_readsClause_53 : decode cX7_readsClause 53 = .ok (.aload_n 0, 1) := by decide +kernel
theorem dX7_readsClause_54 : decode cX7_readsClause 54 = .ok (.getfield 126, 3) := by decide +kernel
theorem dX7_readsClause_57 : decode cX7_readsClause 57 = .ok (.ishl, 1) := by decide +kernel
theorem dX7_readsClause_58 : decode cX7_readsClause 58 = .ok (.iconst 1, 1) := by decide +kernel
theorem dX7_readsClause_59 : decode cX7_readsClause 59 = .ok (.isub, 1) := by decide +kernel
theorem dX7_readsClause_60 : decode cX7_readsClause 60 = .ok (.invokevirtual 122, 3) := by decide +kernel
theorem dX7_readsClause_63 : decode cX7_readsClause 63 = .ok (.ifCond .eq 35, 3) := by decide +kernel
theorem dX7_readsClause_66 : decode cX7_readsClause 66 = .ok (.iload_n 1, 1) := by decide +kernel
theorem dX7_readsClause_67 : decode cX7_readsClause 67 = .ok (.iconst 3, 1) := by decide +kernel
theorem dX7_readsClause_68 : decode cX7_readsClause 68 = .ok (.if_icmp .ne 26, 3) := by decide +kernel
theorem dX7_readsClause_71 : decode cX7_readsClause 71 = .ok (.aload_n 0, 1) := by decide +kernel
theorem dX7_readsClause_72 : decode cX7_readsClause 72 = .ok (.iconst 1, 1) := by decide +kernel
theorem dX7_readsClause_73 : decode cX7_readsClause 73 = .ok (.iconst 1, 1) := by decide +kernel
theorem dX7_readsClause_74 : decode cX7_readsClause 74 = .ok (.sipush 999, 3) := by decide +kernel
theorem dX7_readsClause_77 : decode cX7_readsClause 77 = .ok (.invokevirtual 122, 3) := by decide +kernel
theorem dX7_readsClause_80 : decode cX7_readsClause 80 = .ok (.ifCond .eq 18, 3) := by decide +kernel
theorem dX7_readsClause_83 : decode cX7_readsClause 83 = .ok (.aload_n 0, 1) := by decide +kernel
theorem dX7_readsClause_84 : decode cX7_readsClause 84 = .ok (.iconst 2, 1) := by decide +kernel
theorem dX7_readsClause_85 : decode cX7_readsClause 85 = .ok (.iconst 1, 1) := by decide +kernel
theorem dX7_readsClause_86 : decode cX7_readsClause 86 = .ok (.bipush 96, 2) := by decide +kernel
theorem dX7_readsClause_88 : decode cX7_readsClause 88 = .ok (.invokevirtual 122, 3) := by decide +kernel
theorem dX7_readsClause_91 : decode cX7_readsClause 91 = .ok (.ifCond .eq 7, 3) := by decide +kernel
theorem dX7_readsClause_94 : decode cX7_readsClause 94 = .ok (.iconst 1, 1) := by decide +kernel
theorem dX7_readsClause_95 : decode cX7_readsClause 95 = .ok (.goto 4, 3) := by decide +kernel
theorem dX7_readsClause_98 : decode cX7_readsClause 98 = .ok (.iconst 0, 1) := by decide +kernel
theorem dX7_readsClause_99 : decode cX7_readsClause 99 = .ok (.istore_n 2, 1) := by decide +kernel
theorem dX7_readsClause_100 : decode cX7_readsClause 100 = .ok (.iload_n 2, 1) := by decide +kernel
theorem dX7_readsClause_101 : decode cX7_readsClause 101 = .ok (.ifCond .eq 36, 3) := by decide +kernel
theorem dX7_readsClause_104 : decode cX7_readsClause 104 = .ok (.aload_n 0, 1) := by decide +kernel
theorem dX7_readsClause_105 : decode cX7_readsClause 105 = .ok (.iload_n 1, 1) := by decide +kernel
theorem dX7_readsClause_106 : decode cX7_readsClause 106 = .ok (.ifCond .ne 12, 3) := by decide +kernel
theorem dX7_readsClause_109 : decode cX7_readsClause 109 = .ok (.aload_n 0, 1) := by decide +kernel
theorem dX7_readsClause_110 : decode cX7_readsClause 110 = .ok (.getfield 27, 3) := by decide +kernel
theorem dX7_readsClause_113 : decode cX7_readsClause 113 = .ok (.iconst 0, 1) := by decide +kernel
theorem dX7_readsClause_114 : decode cX7_readsClause 114 = .ok (.iaload, 1) := by decide +kernel
theorem dX7_readsClause_115 : decode cX7_readsClause 115 = .ok (.goto 7, 3) := by decide +kernel
theorem dX7_readsClause_118 : decode cX7_readsClause 118 = .ok (.aload_n 0, 1) := by decide +kernel
theorem dX7_readsClause_119 : decode cX7_readsClause 119 = .ok (.getfield 126, 3) := by decide +kernel
theorem dX7_readsClause_122 : decode cX7_readsClause 122 = .ok (.putfield 126, 3) := by decide +kernel
theorem dX7_readsClause_125 : decode cX7_readsClause 125 = .ok (.aload_n 0, 1) := by decide +kernel
theorem dX7_readsClause_126 : decode cX7_readsClause 126 = .ok (.getfield 129, 3) := by decide +kernel
theorem dX7_readsClause_129 : decode cX7_readsClause 129 = .ok (.ifCond .eq 8, 3) := by decide +kernel
theorem dX7_readsClause_132 : decode cX7_readsClause 132 = .ok (.aload_n 0, 1) := by decide +kernel
theorem dX7_readsClause_133 : decode cX7_readsClause 133 = .ok (.iload_n 1, 1) := by decide +kernel
theorem dX7_readsClause_134 : decode cX7_readsClause 134 = .ok (.invokevirtual 133, 3) := by decide +kernel
theorem dX7_readsClause_137 : decode cX7_readsClause 137 = .ok (.iload_n 2, 1) := by decide +kernel
theorem dX7_readsClause_138 : decode cX7_readsClause 138 = .ok (.ireturn, 1) := by decide +kernel
set_option maxRecDepth 20000 in
theorem ggX7_reads_X7_nextToken : GoodIn wsX7_reads wsX7_nextToken := goodIn_r _ [13, 2, 6, 7, 8, 14, 15, 12, 16, 17, 18, 19, 20, 21, 22, 23, 24, 25, 26, 96, 97, 98, 99, 100, 101, 102, 103, 104, 105, 106, 107, 108, 109, 110, 111, 112, 113, 114, 115, 116, 117, 118] (by decide +kernel) (by decide +kernel)
set_option maxRecDepth 20000 in
theorem gX7_reads_X7_nextToken : GoodIn wsX7_reads (wsV RX7 104 RX7 yX7_nextToken wsX7_nextToken) := goodIn_app (goodIn_of _ (by decide +kernel)) ggX7_reads_X7_nextToken
set_option maxRecDepth 20000 in
theorem ggX7_reads_X7_readsClause : GoodIn wsX7_reads wsX7_readsClause := goodIn_r _ [30, 5, 31, 1, 32, 33, 34, 12, 35, 36, 37, 38, 39, 40, 41, 42, 43, 2, 6, 8, 9, 10, 11, 13, 7, 14, 15, 16, 17, 18, 19, 20, 21, 22, 23, 24, 25, 26, 44, 45, 46, 47, 48, 49, 50, 51, 52, 53, 54, 55, 4, 56, 57, 58, 59, 60, 61, 62, 63, 64, 65, 66, 67, 68, 69, 70, 71, 72, 73, 74, 75, 76, 77, 78, 79, 80, 81, 82, 83, 84, 85, 86, 87, 88, 89, 90, 91, 92, 93, 94, 95, 96, 97, 98, 99, 100, 101, 102, 103, 104, 105, 106, 107, 108, 109, 110, 111, 112, 113, 114, 115, 116, 117, 118] (by decide +kernel) (by decide +kernel)
set_option maxRecDepth 20000 in
theorem gX7_reads_X7_readsClause : GoodIn wsX7_reads (wsV RX7 140 RX7 yX7_readsClause wsX7_readsClause) := goodIn_app (goodIn_of _ (by decide +kernel)) ggX7_reads_X7_readsClause
theorem dX7_reads_0 : decode cX7_reads 0 = .ok (.aload_n 0, 1) := by decide +kernel
theorem dX7_reads_1 : decode cX7_reads 1 = .ok (.iload_n 1, 1) := by decide +kernel
theorem dX7_reads_2 : decode cX7_reads 2 = .ok (.putfield 129, 3) := by decide +kernel
theorem dX7_reads_5 : decode cX7_reads 5 = .ok (.aload_n 0, 1) := by decide +kernel
theorem dX7_reads_6 : decode cX7_reads 6 = .ok (.iconst 0, 1) := by decide +kernel
theorem dX7_reads_7 : decode cX7_reads 7 = .ok (.putfield 91, 3) := by decide +kernel
theorem dX7_reads_10 : decode cX7_reads 10 = .ok (.aload_n 0, 1) := by decide +kernel
theorem dX7_reads_11 : decode cX7_reads 11 = .ok (.iconst 1, 1) := by decide +kernel
theorem dX7_reads_12 : decode cX7_reads 12 = .ok (.putfield 137, 3) := by decide +kernel
theorem dX7_reads_15 : decode cX7_reads 15 = .ok (.aload_n 0, 1) := by decide +kernel
theorem dX7_reads_16 : decode cX7_reads 16 = .ok (.aload_n 0, 1) := by decide +kernel
theorem dX7_reads_17 : decode cX7_reads 17 = .ok (.getfield 7, 3) := by decide +kernel
theorem dX7_reads_20 : decode cX7_reads 20 = .ok (.iconst 0, 1) := by decide +kernel
theorem dX7_reads_21 : decode cX7_reads 21 = .ok (.iaload, 1) := by decide +kernel
theorem dX7_reads_22 : decode cX7_reads 22 = .ok (.putfield 126, 3) := by decide +kernel
theorem dX7_reads_25 : decode cX7_reads 25 = .ok (.aload_n 0, 1) := by decide +kernel
theorem dX7_reads_26 : decode cX7_reads 26 = .ok (.invokevirtual 104, 3) := by decide +kernel
theorem dX7_reads_29 : decode cX7_reads 29 = .ok (.aload_n 0, 1) := by decide +kernel
theorem dX7_reads_30 : decode cX7_reads 30 = .ok (.invokevirtual 140, 3) := by decide +kernel
theorem dX7_reads_33 : decode cX7_reads 33 = .ok (.istore_n 2, 1) := by decide +kernel
theorem dX7_reads_34 : decode cX7_reads 34 = .ok (.iload_n 2, 1) := by decide +kernel
theorem dX7_reads_35 : decode cX7_reads 35 = .ok (.ifCond .eq 69, 3) := by decide +kernel
theorem dX7_reads_38 : decode cX7_reads 38 = .ok (.aload_n 0, 1) := by decide +kernel
theorem dX7_reads_39 : decode cX7_reads 39 = .ok (.getfield 94, 3) := by decide +kernel
theorem dX7_reads_42 : decode cX7_reads 42 = .ok (.aload_n 0, 1) := by decide +kernel
theorem dX7_reads_43 : decode cX7_reads 43 = .ok (.getfield 79, 3) := by decide +kernel
theorem dX7_reads_46 : decode cX7_reads 46 = .ok (.if_icmp .ge 58, 3) := by decide +kernel
theorem dX7_reads_49 : decode cX7_reads 49 = .ok (.aload_n 0, 1) := by decide +kernel
theorem dX7_reads_50 : decode cX7_reads 50 = .ok (.getfield 137, 3) := by decide +kernel
theorem dX7_reads_53 : decode cX7_reads 53 = .ok (.bipush 24, 2) := by decide +kernel
theorem dX7_reads_55 : decode cX7_reads 55 = .ok (.if_icmp .ge 21, 3) := by decide +kernel
theorem dX7_reads_58 : decode cX7_reads 58 = .ok (.aload_n 0, 1) := by decide +kernel
theorem dX7_reads_59 : decode cX7_reads 59 = .ok (.getfield 17, 3) := by decide +kernel
theorem dX7_reads_62 : decode cX7_reads 62 = .ok (.aload_n 0, 1) := by decide +kernel
theorem dX7_reads_63 : decode cX7_reads 63 = .ok (.getfield 94, 3) := by decide +kernel
theorem dX7_reads_66 : decode cX7_reads 66 = .ok (.iaload, 1) := by decide +kernel
theorem dX7_reads_67 : decode cX7_reads 67 = .ok (.bipush 59, 2) := by decide +kernel
theorem dX7_reads_69 : decode cX7_reads 69 = .ok (.if_icmp .ne 7, 3) := by decide +kernel
theorem dX7_reads_72 : decode cX7_reads 72 = .ok (.iconst 1, 1) := by decide +kernel
theorem dX7_reads_73 : decode cX7_reads 73 = .ok (.goto 4, 3) := by decide +kernel
theorem dX7_reads_76 : decode cX7_reads 76 = .ok (.iconst 0, 1) := by decide +kernel
theorem dX7_reads_77 : decode cX7_reads 77 = .ok (.istore_n 2, 1) := by decide +kernel
theorem dX7_reads_78 : decode cX7_reads 78 = .ok (.iload_n 2, 1) := by decide +kernel
theorem dX7_reads_79 : decode cX7_reads 79 = .ok (.ifCond .eq (-45), 3) := by decide +kernel
theorem dX7_reads_82 : decode cX7_reads 82 = .ok (.aload_n 0, 1) := by decide +kernel
theorem dX7_reads_83 : decode cX7_reads 83 = .ok (.invokevirtual 104, 3) := by decide +kernel
theorem dX7_reads_86 : decode cX7_reads 86 = .ok (.aload_n 0, 1) := by decide +kernel
theorem dX7_reads_87 : decode cX7_reads 87 = .ok (.invokevirtual 140, 3) := by decide +kernel
theorem dX7_reads_90 : decode cX7_reads 90 = .ok (.istore_n 2, 1) := by decide +kernel
theorem dX7_reads_91 : decode cX7_reads 91 = .ok (.aload_n 0, 1) := by decide +kernel
theorem dX7_reads_92 : decode cX7_reads 92 = .ok (.dup, 1) := by decide +kernel
theorem dX7_reads_93 : decode cX7_reads 93 = .ok (.getfield 137, 3) := by decide +kernel
theorem dX7_reads_96 : decode cX7_reads 96 = .ok (.iconst 1, 1) := by decide +kernel
theorem dX7_reads_97 : decode cX7_reads 97 = .ok (.iadd, 1) := by decide +kernel
theorem dX7_reads_98 : decode cX7_reads 98 = .ok (.putfield 137, 3) := by decide +kernel
theorem dX7_reads_101 : decode cX7_reads 101 = .ok (.goto (-67), 3) := by decide +kernel
theorem dX7_reads_104 : decode cX7_reads 104 = .ok (.iload_n 2, 1) := by decide +kernel
theorem dX7_reads_105 : decode cX7_reads 105 = .ok (.ireturn, 1) := by decide +kernel
set_option maxRecDepth 20000 in
theorem ggX7_fault_X7_reads : GoodIn wsX7_fault wsX7_reads := goodIn_r _ [6, 7, 8, 9, 10, 11, 1, 12, 13, 14, 15, 16, 5, 17, 18, 19, 20, 21, 22, 23, 24, 25, 26, 27, 28, 29, 30, 31, 32, 33, 34, 35, 36, 37, 38, 39, 40, 41, 42, 43, 44, 45, 46, 47, 48, 49, 50, 51, 52, 53, 54, 55, 56, 57, 58, 59, 60, 61, 62, 63, 64, 65, 66, 67, 68, 69, 70, 71, 72, 73, 74, 75, 76, 77, 78, 79, 80, 81, 82, 83, 84, 85, 86, 87, 88, 89, 90, 91, 92, 93, 94, 95, 96, 97, 98, 99, 100, 101, 102, 103, 104, 105, 106, 107, 108, 109, 110, 111, 112, 113, 114, 115, 116, 117, 118, 119, 120, 121, 122] (by decide +kernel) (by decide +kernel)
set_option maxRecDepth 20000 in
theorem gX7_fault_X7_reads : GoodIn wsX7_fault (wsV RX7 144 RX7 yX7_reads wsX7_reads) := goodIn_app (goodIn_of _ (by decide +kernel)) ggX7_fault_X7_reads
theorem dX7_fault_0 : decode cX7_fault 0 = .ok (.aload_n 0, 1) := by decide +kernel
theorem dX7_fault_1 : decode cX7_fault 1 = .ok (.iconst 0, 1) := by decide +kernel
theorem dX7_fault_2 : decode cX7_fault 2 = .ok (.invokevirtual 144, 3) := by decide +kernel
theorem dX7_fault_5 : decode cX7_fault 5 = .ok (.ifCond .eq 7, 3) := by decide +kernel
theorem dX7_fault_8 : decode cX7_fault 8 = .ok (.iconst (-1), 1) := by decide +kernel
theorem dX7_fault_9 : decode cX7_fault 9 = .ok (.goto 7, 3) := by decide +kernel
theorem dX7_fault_12 : decode cX7_fault 12 = .ok (.aload_n 0, 1) := by decide +kernel
theorem dX7_fault_13 : decode cX7_fault 13 = .ok (.getfield 94, 3) := by decide +kernel
theorem dX7_fault_16 : decode cX7_fault 16 = .ok (.ireturn, 1) := by decide +kernel
set_option maxRecDepth 20000 in
theorem ggX7_read_X7_reads : GoodIn wsX7_read wsX7_reads := goodIn_r _ [9, 10, 11, 4, 12, 13, 14, 1, 15, 16, 17, 18, 8, 19, 20, 21, 22, 23, 24, 25, 26, 27, 28, 29, 30, 31, 32, 33, 34, 35, 36, 37, 38, 39, 40, 41, 42, 43, 44, 45, 46, 47, 48, 49, 50, 51, 52, 53, 54, 55, 56, 57, 58, 59, 60, 61, 62, 63, 64, 65, 66, 67, 68, 69, 70, 71, 72, 73, 74, 75, 76, 77, 78, 79, 80, 81, 82, 83, 84, 85, 86, 87, 88, 89, 90, 91, 92, 93, 94, 95, 96, 97, 98, 99, 100, 101, 102, 103, 104, 105, 106, 107, 108, 109, 110, 111, 112, 113, 114, 115, 116, 117, 118, 119, 120, 121, 122, 123, 124] (by decide +kernel) (by decide +kernel)
set_option maxRecDepth 20000 in
theorem gX7_read_X7_reads : GoodIn wsX7_read (wsV RX7 144 RX7 yX7_reads wsX7_reads) := goodIn_app (goodIn_of _ (by decide +kernel)) ggX7_read_X7_reads
theorem dX7_read_0 : decode cX7_read 0 = .ok (.aload_n 0, 1) := by decide +kernel
theorem dX7_read_1 : decode cX7_read 1 = .ok (.iconst 0, 1) := by decide +kernel
theorem dX7_read_2 : decode cX7_read 2 = .ok (.invokevirtual 144, 3) := by decide +kernel
theorem dX7_read_5 : decode cX7_read 5 = .ok (.ifCond .ne 6, 3) := by decide +kernel
theorem dX7_read_8 : decode cX7_read 8 = .ok (.bipush (-4), 2) := by decide +kernel
theorem dX7_read_10 : decode cX7_read 10 = .ok (.ireturn, 1) := by decide +kernel
theorem dX7_read_11 : decode cX7_read 11 = .ok (.aload_n 0, 1) := by decide +kernel
theorem dX7_read_12 : decode cX7_read 12 = .ok (.iconst 1, 1) := by decide +kernel
theorem dX7_read_13 : decode cX7_read 13 = .ok (.invokevirtual 144, 3) := by decide +kernel
theorem dX7_read_16 : decode cX7_read 16 = .ok (.pop, 1) := by decide +kernel
theorem dX7_read_17 : decode cX7_read 17 = .ok (.aload_n 0, 1) := by decide +kernel
theorem dX7_read_18 : decode cX7_read 18 = .ok (.iconst 0, 1) := by decide +kernel
theorem dX7_read_19 : decode cX7_read 19 = .ok (.putfield 79, 3) := by decide +kernel
theorem dX7_read_22 : decode cX7_read 22 = .ok (.aload_n 0, 1) := by decide +kernel
theorem dX7_read_23 : decode cX7_read 23 = .ok (.iconst 0, 1) := by decide +kernel
theorem dX7_read_24 : decode cX7_read 24 = .ok (.putfield 148, 3) := by decide +kernel
theorem dX7_read_27 : decode cX7_read 27 = .ok (.aload_n 0, 1) := by decide +kernel
theorem dX7_read_28 : decode cX7_read 28 = .ok (.getfield 13, 3) := by decide +kernel
theorem dX7_read_31 : decode cX7_read 31 = .ok (.iconst 0, 1) := by decide +kernel
theorem dX7_read_32 : decode cX7_read 32 = .ok (.iconst 0, 1) := by decide +kernel
theorem dX7_read_33 : decode cX7_read 33 = .ok (.bastore, 1) := by decide +kernel
theorem dX7_read_34 : decode cX7_read 34 = .ok (.aload_n 0, 1) := by decide +kernel
theorem dX7_read_35 : decode cX7_read 35 = .ok (.getfield 13, 3) := by decide +kernel
theorem dX7_read_38 : decode cX7_read 38 = .ok (.iconst 1, 1) := by decide +kernel
theorem dX7_read_39 : decode cX7_read 39 = .ok (.iconst 0, 1) := by decide +kernel
theorem dX7_read_40 : decode cX7_read 40 = .ok (.bastore, 1) := by decide +kernel
theorem dX7_read_41 : decode cX7_read 41 = .ok (.aload_n 0, 1) := by decide +kernel
theorem dX7_read_42 : decode cX7_read 42 = .ok (.getfield 137, 3) := by decide +kernel
theorem dX7_read_45 : decode cX7_read 45 = .ok (.ireturn, 1) := by decide +kernel
set_option maxRecDepth 20000 in
theorem ggX7_isNumber_X7_top : GoodIn wsX7_isNumber wsX7_top := goodIn_r _ [5, 6, 10, 11, 12, 13, 14, 15, 16, 17, 18, 19, 20, 21, 22, 23, 24, 25, 26, 27, 28, 29, 30, 31, 32] (by decide +kernel) (by decide +kernel)
set_option maxRecDepth 20000 in
theorem gX7_isNumber_X7_top : GoodIn wsX7_isNumber (wsV RX7 151 RX7 yX7_top wsX7_top) := goodIn_app (goodIn_of _ (by decide +kernel)) ggX7_isNumber_X7_top
set_option maxRecDepth 20000 in
theorem ggX7_isNumber_X7_in : GoodIn wsX7_isNumber wsX7_in := goodIn_r _ [9] (by decide +kernel) (by decide +kernel)
set_option maxRecDepth 20000 in
theorem gX7_isNumber_X7_in : GoodIn wsX7_isNumber (va_wsS RX7 75 yX7_in wsX7_in) := goodIn_app (goodIn_of _ (by decide +kernel)) ggX7_isNumber_X7_in
theorem dX7_isNumber_0 : decode cX7_isNumber 0 = .ok (.iload_n 1, 1) := by decide +kernel
theorem dX7_isNumber_1 : decode cX7_isNumber 1 = .ok (.i2l, 1) := by decide +kernel
theorem dX7_isNumber_2 : decode cX7_isNumber 2 = .ok (.lconst 0, 1) := by decide +kernel
theorem dX7_isNumber_3 : decode cX7_isNumber 3 = .ok (.aload_n 0, 1) := by decide +kernel
theorem dX7_isNumber_4 : decode cX7_isNumber 4 = .ok (.invokevirtual 151, 3) := by decide +kernel
theorem dX7_isNumber_7 : decode cX7_isNumber 7 = .ok (.i2l, 1) := by decide +kernel
theorem dX7_isNumber_8 : decode cX7_isNumber 8 = .ok (.invokestatic 75, 3) := by decide +kernel
theorem dX7_isNumber_11 : decode cX7_isNumber 11 = .ok (.ireturn, 1) := by decide +kernel
set_option maxRecDepth 20000 in
theorem ggX7_keepPast_X7_copyRow : GoodIn wsX7_keepPast wsX7_copyRow := goodIn_r _ [7, 2, 8, 9, 10, 11, 12, 13, 14, 15, 16, 17, 18, 19, 20, 21, 22, 23, 24, 25, 26, 27, 28, 29, 30] (by decide +kernel) (by decide +kernel)
set_option maxRecDepth 20000 in
theorem gX7_keepPast_X7_copyRow : GoodIn wsX7_keepPast (wsV RX7 154 RX7 yX7_copyRow wsX7_copyRow) := goodIn_app (goodIn_of _ (by decide +kernel)) ggX7_keepPast_X7_copyRow
theorem dX7_keepPast_0 : decode cX7_keepPast 0 = .ok (.iconst 0, 1) := by decide +kernel
theorem dX7_keepPast_1 : decode cX7_keepPast 1 = .ok (.istore_n 1, 1) := by decide +kernel
theorem dX7_keepPast_2 : decode cX7_keepPast 2 = .ok (.iload_n 1, 1) := by decide +kernel
theorem dX7_keepPast_3 : decode cX7_keepPast 3 = .ok (.sipush 1064, 3) := by decide +kernel
theorem dX7_keepPast_6 : decode cX7_keepPast 6 = .ok (.if_icmp .ge 38, 3) := by decide +kernel
theorem dX7_keepPast_9 : decode cX7_keepPast 9 = .ok (.aload_n 0, 1) := by decide +kernel
theorem dX7_keepPast_10 : decode cX7_keepPast 10 = .ok (.getfield 148, 3) := by decide +kernel
theorem dX7_keepPast_13 : decode cX7_keepPast 13 = .ok (.bipush 8, 2) := by decide +kernel
theorem dX7_keepPast_15 : decode cX7_keepPast 15 = .ok (.if_icmp .ne 29, 3) := by decide +kernel
theorem dX7_keepPast_18 : decode cX7_keepPast 18 = .ok (.aload_n 0, 1) := by decide +kernel
theorem dX7_keepPast_19 : decode cX7_keepPast 19 = .ok (.getfield 7, 3) := by decide +kernel
theorem dX7_keepPast_22 : decode cX7_keepPast 22 = .ok (.sipush 152, 3) := by decide +kernel
theorem dX7_keepPast_25 : decode cX7_keepPast 25 = .ok (.iload_n 1, 1) := by decide +kernel
theorem dX7_keepPast_26 : decode cX7_keepPast 26 = .ok (.iadd, 1) := by decide +kernel
theorem dX7_keepPast_27 : decode cX7_keepPast 27 = .ok (.aload_n 0, 1) := by decide +kernel
theorem dX7_keepPast_28 : decode cX7_keepPast 28 = .ok (.getfield 7, 3) := by decide +kernel
theorem dX7_keepPast_31 : decode cX7_keepPast 31 = .ok (.sipush 304, 3) := by decide +kernel
theorem dX7_keepPast_34 : decode cX7_keepPast 34 = .ok (.iload_n 1, 1) := by decide +kernel
theorem dX7_keepPast_35 : decode cX7_keepPast 35 = .ok (.iadd, 1) := by decide +kernel
theorem dX7_keepPast_36 : decode cX7_keepPast 36 = .ok (.iaload, 1) := by decide +kernel
theorem dX7_keepPast_37 : decode cX7_keepPast 37 = .ok (.iastore, 1) := by decide +kernel
theorem dX7_keepPast_38 : decode cX7_keepPast 38 = .ok (.iinc 1 1, 3) := by decide +kernel
theorem dX7_keepPast_41 : decode cX7_keepPast 41 = .ok (.goto (-39), 3) := by decide +kernel
theorem dX7_keepPast_44 : decode cX7_keepPast 44 = .ok (.aload_n 0, 1) := by decide +kernel
theorem dX7_keepPast_45 : decode cX7_keepPast 45 = .ok (.dup, 1) := by decide +kernel
theorem dX7_keepPast_46 : decode cX7_keepPast 46 = .ok (.getfield 148, 3) := by decide +kernel
theorem dX7_keepPast_49 : decode cX7_keepPast 49 = .ok (.aload_n 0, 1) := by decide +kernel
theorem dX7_keepPast_50 : decode cX7_keepPast 50 = .ok (.getfield 148, 3) := by decide +kernel
theorem dX7_keepPast_53 : decode cX7_keepPast 53 = .ok (.bipush 8, 2) := by decide +kernel
theorem dX7_keepPast_55 : decode cX7_keepPast 55 = .ok (.if_icmp .ne 7, 3) := by decide +kernel
theorem dX7_keepPast_58 : decode cX7_keepPast 58 = .ok (.iconst 1, 1) := by decide +kernel
theorem dX7_keepPast_59 : decode cX7_keepPast 59 = .ok (.goto 4, 3) := by decide +kernel
theorem dX7_keepPast_62 : decode cX7_keepPast 62 = .ok (.iconst 0, 1) := by decide +kernel
theorem dX7_keepPast_63 : decode cX7_keepPast 63 = .ok (.isub, 1) := by decide +kernel
theorem dX7_keepPast_64 : decode cX7_keepPast 64 = .ok (.putfield 148, 3) := by decide +kernel
theorem dX7_keepPast_67 : decode cX7_keepPast 67 = .ok (.aload_n 0, 1) := by decide +kernel
theorem dX7_keepPast_68 : decode cX7_keepPast 68 = .ok (.iconst 0, 1) := by decide +kernel
theorem dX7_keepPast_69 : decode cX7_keepPast 69 = .ok (.sipush 152, 3) := by decide +kernel
theorem dX7_keepPast_72 : decode cX7_keepPast 72 = .ok (.sipush 152, 3) := by decide +kernel
theorem dX7_keepPast_75 : decode cX7_keepPast 75 = .ok (.aload_n 0, 1) := by decide +kernel
theorem dX7_keepPast_76 : decode cX7_keepPast 76 = .ok (.getfield 148, 3) := by decide +kernel
theorem dX7_keepPast_79 : decode cX7_keepPast 79 = .ok (.imul, 1) := by decide +kernel
theorem dX7_keepPast_80 : decode cX7_keepPast 80 = .ok (.iadd, 1) := by decide +kernel
theorem dX7_keepPast_81 : decode cX7_keepPast 81 = .ok (.invokevirtual 154, 3) := by decide +kernel
theorem dX7_keepPast_84 : decode cX7_keepPast 84 = .ok (.aload_n 0, 1) := by decide +kernel
theorem dX7_keepPast_85 : decode cX7_keepPast 85 = .ok (.dup, 1) := by decide +kernel
theorem dX7_keepPast_86 : decode cX7_keepPast 86 = .ok (.getfield 148, 3) := by decide +kernel
theorem dX7_keepPast_89 : decode cX7_keepPast 89 = .ok (.iconst 1, 1) := by decide +kernel
theorem dX7_keepPast_90 : decode cX7_keepPast 90 = .ok (.iadd, 1) := by decide +kernel
theorem dX7_keepPast_91 : decode cX7_keepPast 91 = .ok (.putfield 148, 3) := by decide +kernel
theorem dX7_keepPast_94 : decode cX7_keepPast 94 = .ok (.return_, 1) := by decide +kernel
set_option maxRecDepth 20000 in
theorem ggX7_add_X7_isNumber : GoodIn wsX7_add wsX7_isNumber := goodIn_r _ [6, 7, 8, 9, 5, 10, 1, 11, 12, 13, 51, 52, 53, 54, 55, 56, 57, 58, 59, 60, 61, 62, 63, 64, 65, 66, 67, 68, 69, 70, 71, 72, 73] (by decide +kernel) (by decide +kernel)
set_option maxRecDepth 20000 in
theorem gX7_add_X7_isNumber : GoodIn wsX7_add (wsV RX7 157 RX7 yX7_isNumber wsX7_isNumber) := goodIn_app (goodIn_of _ (by decide +kernel)) ggX7_add_X7_isNumber
set_option maxRecDepth 20000 in
theorem ggX7_add_X7_isKey : GoodIn wsX7_add wsX7_isKey := goodIn_r _ [17, 1, 18, 19, 20, 5, 21, 51, 52, 53, 54, 55, 56, 57, 58, 59, 60, 61, 62, 63, 64, 65, 66, 67, 68, 69, 70, 71, 72, 73] (by decide +kernel) (by decide +kernel)
set_option maxRecDepth 20000 in
theorem gX7_add_X7_isKey : GoodIn wsX7_add (wsV RX7 63 RX7 yX7_isKey wsX7_isKey) := goodIn_app (goodIn_of _ (by decide +kernel)) ggX7_add_X7_isKey
set_option maxRecDepth 20000 in
theorem ggX7_add_X7_keepPast : GoodIn wsX7_add wsX7_keepPast := goodIn_r _ [25, 26, 1, 27, 28, 29, 5, 30, 51, 52, 53, 54, 55, 56, 57, 58, 59, 60, 61, 62, 63, 64, 65, 66, 67, 68, 69, 70, 71, 72, 73] (by decide +kernel) (by decide +kernel)
set_option maxRecDepth 20000 in
theorem gX7_add_X7_keepPast : GoodIn wsX7_add (wsV RX7 160 RX7 yX7_keepPast wsX7_keepPast) := goodIn_app (goodIn_of _ (by decide +kernel)) ggX7_add_X7_keepPast
set_option maxRecDepth 20000 in
theorem ggX7_add_X7_putIn : GoodIn wsX7_add wsX7_putIn := goodIn_r _ [34, 1, 18, 19, 20, 5, 21, 35, 36, 37, 38, 39, 40, 41, 42, 43, 44, 45, 46, 47, 48, 49, 50, 51, 52, 53, 54, 55, 56, 57, 58, 59, 60, 61, 62, 63, 64, 65, 66, 67, 68, 69, 70, 71, 72, 73] (by decide +kernel) (by decide +kernel)
set_option maxRecDepth 20000 in
theorem gX7_add_X7_putIn : GoodIn wsX7_add (wsV RX7 67 RX7 yX7_putIn wsX7_putIn) := goodIn_app (goodIn_of _ (by decide +kernel)) ggX7_add_X7_putIn
theorem dX7_add_0 : decode cX7_add 0 = .ok (.aload_n 0, 1) := by decide +kernel
theorem dX7_add_1 : decode cX7_add 1 = .ok (.iload_n 1, 1) := by decide +kernel
theorem dX7_add_2 : decode cX7_add 2 = .ok (.invokevirtual 157, 3) := by decide +kernel
theorem dX7_add_5 : decode cX7_add 5 = .ok (.ifCond .ne 6, 3) := by decide +kernel
theorem dX7_add_8 : decode cX7_add 8 = .ok (.bipush (-3), 2) := by decide +kernel
theorem dX7_add_10 : decode cX7_add 10 = .ok (.ireturn, 1) := by decide +kernel
theorem dX7_add_11 : decode cX7_add 11 = .ok (.aload_n 0, 1) := by decide +kernel
theorem dX7_add_12 : decode cX7_add 12 = .ok (.iconst 0, 1) := by decide +kernel
theorem dX7_add_13 : decode cX7_add 13 = .ok (.iload_n 1, 1) := by decide +kernel
theorem dX7_add_14 : decode cX7_add 14 = .ok (.invokevirtual 63, 3) := by decide +kernel
theorem dX7_add_17 : decode cX7_add 17 = .ok (.ifCond .eq 6, 3) := by decide +kernel
theorem dX7_add_20 : decode cX7_add 20 = .ok (.bipush (-4), 2) := by decide +kernel
theorem dX7_add_22 : decode cX7_add 22 = .ok (.ireturn, 1) := by decide +kernel
theorem dX7_add_23 : decode cX7_add 23 = .ok (.aload_n 0, 1) := by decide +kernel
theorem dX7_add_24 : decode cX7_add 24 = .ok (.getfield 7, 3) := by decide +kernel
theorem dX7_add_27 : decode cX7_add 27 = .ok (.iconst 2, 1) := by decide +kernel
theorem dX7_add_28 : decode cX7_add 28 = .ok (.iaload, 1) := by decide +kernel
theorem dX7_add_29 : decode cX7_add 29 = .ok (.bipush 96, 2) := by decide +kernel
theorem dX7_add_31 : decode cX7_add 31 = .ok (.if_icmp .ne 6, 3) := by decide +kernel
theorem dX7_add_34 : decode cX7_add 34 = .ok (.bipush (-5), 2) := by decide +kernel
theorem dX7_add_36 : decode cX7_add 36 = .ok (.ireturn, 1) := by decide +kernel
theorem dX7_add_37 : decode cX7_add 37 = .ok (.aload_n 0, 1) := by decide +kernel
theorem dX7_add_38 : decode cX7_add 38 = .ok (.invokevirtual 160, 3) := by decide +kernel
theorem dX7_add_41 : decode cX7_add 41 = .ok (.aload_n 0, 1) := by decide +kernel
theorem dX7_add_42 : decode cX7_add 42 = .ok (.iconst 0, 1) := by decide +kernel
theorem dX7_add_43 : decode cX7_add 43 = .ok (.iload_n 1, 1) := by decide +kernel
theorem dX7_add_44 : decode cX7_add 44 = .ok (.invokevirtual 67, 3) := by decide +kernel
theorem dX7_add_47 : decode cX7_add 47 = .ok (.aload_n 0, 1) := by decide +kernel
theorem dX7_add_48 : decode cX7_add 48 = .ok (.getfield 7, 3) := by decide +kernel
theorem dX7_add_51 : decode cX7_add 51 = .ok (.iconst 2, 1) := by decide +kernel
theorem dX7_add_52 : decode cX7_add 52 = .ok (.iaload, 1) := by decide +kernel
theorem dX7_add_53 : decode cX7_add 53 = .ok (.ireturn, 1) := by decide +kernel
set_option maxRecDepth 20000 in
theorem ggX7_remove_X7_isNumber : GoodIn wsX7_remove wsX7_isNumber := goodIn_r _ [6, 7, 8, 9, 5, 10, 1, 11, 12, 13, 51, 52, 53, 54, 55, 56, 57, 58, 59, 60, 61, 62, 63, 64, 65, 66, 67, 68, 69, 70, 71, 72, 73] (by decide +kernel) (by decide +kernel)
set_option maxRecDepth 20000 in
theorem gX7_remove_X7_isNumber : GoodIn wsX7_remove (wsV RX7 157 RX7 yX7_isNumber wsX7_isNumber) := goodIn_app (goodIn_of _ (by decide +kernel)) ggX7_remove_X7_isNumber
set_option maxRecDepth 20000 in
theorem ggX7_remove_X7_isKey : GoodIn wsX7_remove wsX7_isKey := goodIn_r _ [17, 1, 18, 19, 20, 5, 21, 51, 52, 53, 54, 55, 56, 57, 58, 59, 60, 61, 62, 63, 64, 65, 66, 67, 68, 69, 70, 71, 72, 73] (by decide +kernel) (by decide +kernel)
set_option maxRecDepth 20000 in
theorem gX7_remove_X7_isKey : GoodIn wsX7_remove (wsV RX7 63 RX7 yX7_isKey wsX7_isKey) := goodIn_app (goodIn_of _ (by decide +kernel)) ggX7_remove_X7_isKey
set_option maxRecDepth 20000 in
theorem ggX7_remove_X7_keepPast : GoodIn wsX7_remove wsX7_keepPast := goodIn_r _ [25, 26, 1, 27, 28, 29, 5, 30, 51, 52, 53, 54, 55, 56, 57, 58, 59, 60, 61, 62, 63, 64, 65, 66, 67, 68, 69, 70, 71, 72, 73] (by decide +kernel) (by decide +kernel)
set_option maxRecDepth 20000 in
theorem gX7_remove_X7_keepPast : GoodIn wsX7_remove (wsV RX7 160 RX7 yX7_keepPast wsX7_keepPast) := goodIn_app (goodIn_of _ (by decide +kernel)) ggX7_remove_X7_keepPast
set_option maxRecDepth 20000 in
theorem ggX7_remove_X7_takeOut : GoodIn wsX7_remove wsX7_takeOut := goodIn_r _ [34, 1, 35, 36, 37, 5, 38, 18, 19, 20, 21, 39, 40, 41, 42, 43, 44, 45, 46, 47, 48, 49, 50, 51, 52, 53, 54, 55, 56, 57, 58, 59, 60, 61, 62, 63, 64, 65, 66, 67, 68, 69, 70, 71, 72, 73] (by decide +kernel) (by decide +kernel)
set_option maxRecDepth 20000 in
theorem gX7_remove_X7_takeOut : GoodIn wsX7_remove (wsV RX7 111 RX7 yX7_takeOut wsX7_takeOut) := goodIn_app (goodIn_of _ (by decide +kernel)) ggX7_remove_X7_takeOut
theorem dX7_remove_0 : decode cX7_remove 0 = .ok (.aload_n 0, 1) := by decide +kernel
theorem dX7_remove_1 : decode cX7_remove 1 = .ok (.iload_n 1, 1) := by decide +kernel
theorem dX7_remove_2 : decode cX7_remove 2 = .ok (.invokevirtual 157, 3) := by decide +kernel
theorem dX7_remove_5 : decode cX7_remove 5 = .ok (.ifCond .ne 6, 3) := by decide +kernel
theorem dX7_remove_8 : decode cX7_remove 8 = .ok (.bipush (-3), 2) := by decide +kernel
theorem dX7_remove_10 : decode cX7_remove 10 = .ok (.ireturn, 1) := by decide +kernel
theorem dX7_remove_11 : decode cX7_remove 11 = .ok (.aload_n 0, 1) := by decide +kernel
theorem dX7_remove_12 : decode cX7_remove 12 = .ok (.iconst 0, 1) := by decide +kernel
theorem dX7_remove_13 : decode cX7_remove 13 = .ok (.iload_n 1, 1) := by decide +kernel
theorem dX7_remove_14 : decode cX7_remove 14 = .ok (.invokevirtual 63, 3) := by decide +kernel
theorem dX7_remove_17 : decode cX7_remove 17 = .ok (.ifCond .ne 6, 3) := by decide +kernel
theorem dX7_remove_20 : decode cX7_remove 20 = .ok (.bipush (-4), 2) := by decide +kernel
theorem dX7_remove_22 : decode cX7_remove 22 = .ok (.ireturn, 1) := by decide +kernel
theorem dX7_remove_23 : decode cX7_remove 23 = .ok (.aload_n 0, 1) := by decide +kernel
theorem dX7_remove_24 : decode cX7_remove 24 = .ok (.invokevirtual 160, 3) := by decide +kernel
theorem dX7_remove_27 : decode cX7_remove 27 = .ok (.aload_n 0, 1) := by decide +kernel
theorem dX7_remove_28 : decode cX7_remove 28 = .ok (.iconst 0, 1) := by decide +kernel
theorem dX7_remove_29 : decode cX7_remove 29 = .ok (.iload_n 1, 1) := by decide +kernel
theorem dX7_remove_30 : decode cX7_remove 30 = .ok (.invokevirtual 111, 3) := by decide +kernel
theorem dX7_remove_33 : decode cX7_remove 33 = .ok (.aload_n 0, 1) := by decide +kernel
theorem dX7_remove_34 : decode cX7_remove 34 = .ok (.getfield 7, 3) := by decide +kernel
theorem dX7_remove_37 : decode cX7_remove 37 = .ok (.iconst 2, 1) := by decide +kernel
theorem dX7_remove_38 : decode cX7_remove 38 = .ok (.iaload, 1) := by decide +kernel
theorem dX7_remove_39 : decode cX7_remove 39 = .ok (.ireturn, 1) := by decide +kernel
set_option maxRecDepth 20000 in
theorem ggX7_undo_X7_copyRow : GoodIn wsX7_undo wsX7_copyRow := goodIn_r _ [6, 7, 8, 9, 10, 11, 12, 13, 14, 15, 16, 17, 18, 19, 20, 21, 22, 23, 24, 25, 26, 27, 28, 29, 30] (by decide +kernel) (by decide +kernel)
set_option maxRecDepth 20000 in
theorem gX7_undo_X7_copyRow : GoodIn wsX7_undo (wsV RX7 154 RX7 yX7_copyRow wsX7_copyRow) := goodIn_app (goodIn_of _ (by decide +kernel)) ggX7_undo_X7_copyRow
theorem dX7_undo_0 : decode cX7_undo 0 = .ok (.aload_n 0, 1) := by decide +kernel
theorem dX7_undo_1 : decode cX7_undo 1 = .ok (.getfield 148, 3) := by decide +kernel
theorem dX7_undo_4 : decode cX7_undo 4 = .ok (.ifCond .ne 6, 3) := by decide +kernel
theorem dX7_undo_7 : decode cX7_undo 7 = .ok (.bipush (-4), 2) := by decide +kernel
theorem dX7_undo_9 : decode cX7_undo 9 = .ok (.ireturn, 1) := by decide +kernel
theorem dX7_undo_10 : decode cX7_undo 10 = .ok (.aload_n 0, 1) := by decide +kernel
theorem dX7_undo_11 : decode cX7_undo 11 = .ok (.dup, 1) := by decide +kernel
theorem dX7_undo_12 : decode cX7_undo 12 = .ok (.getfield 148, 3) := by decide +kernel
theorem dX7_undo_15 : decode cX7_undo 15 = .ok (.iconst 1, 1) := by decide +kernel
theorem dX7_undo_16 : decode cX7_undo 16 = .ok (.isub, 1) := by decide +kernel
theorem dX7_undo_17 : decode cX7_undo 17 = .ok (.putfield 148, 3) := by decide +kernel
theorem dX7_undo_20 : decode cX7_undo 20 = .ok (.aload_n 0, 1) := by decide +kernel
theorem dX7_undo_21 : decode cX7_undo 21 = .ok (.sipush 152, 3) := by decide +kernel
theorem dX7_undo_24 : decode cX7_undo 24 = .ok (.sipush 152, 3) := by decide +kernel
theorem dX7_undo_27 : decode cX7_undo 27 = .ok (.aload_n 0, 1) := by decide +kernel
theorem dX7_undo_28 : decode cX7_undo 28 = .ok (.getfield 148, 3) := by decide +kernel
theorem dX7_undo_31 : decode cX7_undo 31 = .ok (.imul, 1) := by decide +kernel
theorem dX7_undo_32 : decode cX7_undo 32 = .ok (.iadd, 1) := by decide +kernel
theorem dX7_undo_33 : decode cX7_undo 33 = .ok (.iconst 0, 1) := by decide +kernel
theorem dX7_undo_34 : decode cX7_undo 34 = .ok (.invokevirtual 154, 3) := by decide +kernel
theorem dX7_undo_37 : decode cX7_undo 37 = .ok (.aload_n 0, 1) := by decide +kernel
theorem dX7_undo_38 : decode cX7_undo 38 = .ok (.getfield 148, 3) := by decide +kernel
theorem dX7_undo_41 : decode cX7_undo 41 = .ok (.ireturn, 1) := by decide +kernel
set_option maxRecDepth 20000 in
theorem ggX7_keep_X7_in : GoodIn wsX7_keep wsX7_in := goodIn_r _ [6] (by decide +kernel) (by decide +kernel)
set_option maxRecDepth 20000 in
theorem gX7_keep_X7_in : GoodIn wsX7_keep (va_wsS RX7 75 yX7_in wsX7_in) := goodIn_app (goodIn_of _ (by decide +kernel)) ggX7_keep_X7_in
set_option maxRecDepth 20000 in
theorem ggX7_keep_X7_copyRow : GoodIn wsX7_keep wsX7_copyRow := goodIn_r _ [10, 2, 11, 12, 13, 14, 15, 16, 17, 18, 19, 20, 21, 22, 23, 24, 25, 26, 27, 28, 29, 30, 31, 32, 33] (by decide +kernel) (by decide +kernel)
set_option maxRecDepth 20000 in
theorem gX7_keep_X7_copyRow : GoodIn wsX7_keep (wsV RX7 154 RX7 yX7_copyRow wsX7_copyRow) := goodIn_app (goodIn_of _ (by decide +kernel)) ggX7_keep_X7_copyRow
theorem dX7_keep_0 : decode cX7_keep 0 = .ok (.iload_n 1, 1) := by decide +kernel
theorem dX7_keep_1 : decode cX7_keep 1 = .ok (.i2l, 1) := by decide +kernel
theorem dX7_keep_2 : decode cX7_keep 2 = .ok (.lconst 0, 1) := by decide +kernel
theorem dX7_keep_3 : decode cX7_keep 3 = .ok (.lconst 1, 1) := by decide +kernel
theorem dX7_keep_4 : decode cX7_keep 4 = .ok (.invokestatic 75, 3) := by decide +kernel
theorem dX7_keep_7 : decode cX7_keep 7 = .ok (.ifCond .ne 6, 3) := by decide +kernel
theorem dX7_keep_10 : decode cX7_keep 10 = .ok (.bipush (-2), 2) := by decide +kernel
theorem dX7_keep_12 : decode cX7_keep 12 = .ok (.ireturn, 1) := by decide +kernel
theorem dX7_keep_13 : decode cX7_keep 13 = .ok (.aload_n 0, 1) := by decide +kernel
theorem dX7_keep_14 : decode cX7_keep 14 = .ok (.iconst 0, 1) := by decide +kernel
theorem dX7_keep_15 : decode cX7_keep 15 = .ok (.sipush 1368, 3) := by decide +kernel
theorem dX7_keep_18 : decode cX7_keep 18 = .ok (.sipush 152, 3) := by decide +kernel
theorem dX7_keep_21 : decode cX7_keep 21 = .ok (.iload_n 1, 1) := by decide +kernel
theorem dX7_keep_22 : decode cX7_keep 22 = .ok (.imul, 1) := by decide +kernel
theorem dX7_keep_23 : decode cX7_keep 23 = .ok (.iadd, 1) := by decide +kernel
theorem dX7_keep_24 : decode cX7_keep 24 = .ok (.invokevirtual 154, 3) := by decide +kernel
theorem dX7_keep_27 : decode cX7_keep 27 = .ok (.aload_n 0, 1) := by decide +kernel
theorem dX7_keep_28 : decode cX7_keep 28 = .ok (.getfield 13, 3) := by decide +kernel
theorem dX7_keep_31 : decode cX7_keep 31 = .ok (.iload_n 1, 1) := by decide +kernel
theorem dX7_keep_32 : decode cX7_keep 32 = .ok (.iconst 1, 1) := by decide +kernel
theorem dX7_keep_33 : decode cX7_keep 33 = .ok (.bastore, 1) := by decide +kernel
theorem dX7_keep_34 : decode cX7_keep 34 = .ok (.aload_n 0, 1) := by decide +kernel
theorem dX7_keep_35 : decode cX7_keep 35 = .ok (.getfield 7, 3) := by decide +kernel
theorem dX7_keep_38 : decode cX7_keep 38 = .ok (.iconst 2, 1) := by decide +kernel
theorem dX7_keep_39 : decode cX7_keep 39 = .ok (.iaload, 1) := by decide +kernel
theorem dX7_keep_40 : decode cX7_keep 40 = .ok (.ireturn, 1) := by decide +kernel
set_option maxRecDepth 20000 in
theorem ggX7_back_X7_in : GoodIn wsX7_back wsX7_in := goodIn_r _ [7] (by decide +kernel) (by decide +kernel)
set_option maxRecDepth 20000 in
theorem gX7_back_X7_in : GoodIn wsX7_back (va_wsS RX7 75 yX7_in wsX7_in) := goodIn_app (goodIn_of _ (by decide +kernel)) ggX7_back_X7_in
set_option maxRecDepth 20000 in
theorem ggX7_back_X7_copyRow : GoodIn wsX7_back wsX7_copyRow := goodIn_r _ [11, 3, 12, 13, 14, 15, 16, 17, 18, 19, 20, 21, 22, 23, 24, 25, 26, 27, 28, 29, 30, 31, 32, 33, 34] (by decide +kernel) (by decide +kernel)
set_option maxRecDepth 20000 in
theorem gX7_back_X7_copyRow : GoodIn wsX7_back (wsV RX7 154 RX7 yX7_copyRow wsX7_copyRow) := goodIn_app (goodIn_of _ (by decide +kernel)) ggX7_back_X7_copyRow
theorem dX7_back_0 : decode cX7_back 0 = .ok (.iload_n 1, 1) := by decide +kernel
theorem dX7_back_1 : decode cX7_back 1 = .ok (.i2l, 1) := by decide +kernel
theorem dX7_back_2 : decode cX7_back 2 = .ok (.lconst 0, 1) := by decide +kernel
theorem dX7_back_3 : decode cX7_back 3 = .ok (.lconst 1, 1) := by decide +kernel
theorem dX7_back_4 : decode cX7_back 4 = .ok (.invokestatic 75, 3) := by decide +kernel
theorem dX7_back_7 : decode cX7_back 7 = .ok (.ifCond .ne 6, 3) := by decide +kernel
theorem dX7_back_10 : decode cX7_back 10 = .ok (.bipush (-2), 2) := by decide +kernel
theorem dX7_back_12 : decode cX7_back 12 = .ok (.ireturn, 1) := by decide +kernel
theorem dX7_back_13 : decode cX7_back 13 = .ok (.aload_n 0, 1) := by decide +kernel
theorem dX7_back_14 : decode cX7_back 14 = .ok (.getfield 13, 3) := by decide +kernel
theorem dX7_back_17 : decode cX7_back 17 = .ok (.iload_n 1, 1) := by decide +kernel
theorem dX7_back_18 : decode cX7_back 18 = .ok (.baload, 1) := by decide +kernel
theorem dX7_back_19 : decode cX7_back 19 = .ok (.ifCond .ne 6, 3) := by decide +kernel
theorem dX7_back_22 : decode cX7_back 22 = .ok (.bipush (-4), 2) := by decide +kernel
theorem dX7_back_24 : decode cX7_back 24 = .ok (.ireturn, 1) := by decide +kernel
theorem dX7_back_25 : decode cX7_back 25 = .ok (.aload_n 0, 1) := by decide +kernel
theorem dX7_back_26 : decode cX7_back 26 = .ok (.sipush 1368, 3) := by decide +kernel
theorem dX7_back_29 : decode cX7_back 29 = .ok (.sipush 152, 3) := by decide +kernel
theorem dX7_back_32 : decode cX7_back 32 = .ok (.iload_n 1, 1) := by decide +kernel
theorem dX7_back_33 : decode cX7_back 33 = .ok (.imul, 1) := by decide +kernel
theorem dX7_back_34 : decode cX7_back 34 = .ok (.iadd, 1) := by decide +kernel
theorem dX7_back_35 : decode cX7_back 35 = .ok (.iconst 0, 1) := by decide +kernel
theorem dX7_back_36 : decode cX7_back 36 = .ok (.invokevirtual 154, 3) := by decide +kernel
theorem dX7_back_39 : decode cX7_back 39 = .ok (.aload_n 0, 1) := by decide +kernel
theorem dX7_back_40 : decode cX7_back 40 = .ok (.iconst 0, 1) := by decide +kernel
theorem dX7_back_41 : decode cX7_back 41 = .ok (.putfield 148, 3) := by decide +kernel
theorem dX7_back_44 : decode cX7_back 44 = .ok (.aload_n 0, 1) := by decide +kernel
theorem dX7_back_45 : decode cX7_back 45 = .ok (.getfield 7, 3) := by decide +kernel
theorem dX7_back_48 : decode cX7_back 48 = .ok (.iconst 2, 1) := by decide +kernel
theorem dX7_back_49 : decode cX7_back 49 = .ok (.iaload, 1) := by decide +kernel
theorem dX7_back_50 : decode cX7_back 50 = .ok (.ireturn, 1) := by decide +kernel
set_option maxRecDepth 20000 in
theorem ggX7_has_X7_isNumber : GoodIn wsX7_has wsX7_isNumber := goodIn_r _ [5, 6, 7, 8, 4, 9, 10, 11, 12, 13, 22, 23, 24, 25, 26, 27, 28, 29, 30, 31, 32, 33, 34, 35, 36, 37, 38, 39, 40, 41, 42, 43, 44] (by decide +kernel) (by decide +kernel)
set_option maxRecDepth 20000 in
theorem gX7_has_X7_isNumber : GoodIn wsX7_has (wsV RX7 157 RX7 yX7_isNumber wsX7_isNumber) := goodIn_app (goodIn_of _ (by decide +kernel)) ggX7_has_X7_isNumber
set_option maxRecDepth 20000 in
theorem ggX7_has_X7_isKey : GoodIn wsX7_has wsX7_isKey := goodIn_r _ [17, 10, 18, 19, 20, 4, 21, 22, 23, 24, 25, 26, 27, 28, 29, 30, 31, 32, 33, 34, 35, 36, 37, 38, 39, 40, 41, 42, 43, 44] (by decide +kernel) (by decide +kernel)
set_option maxRecDepth 20000 in
theorem gX7_has_X7_isKey : GoodIn wsX7_has (wsV RX7 63 RX7 yX7_isKey wsX7_isKey) := goodIn_app (goodIn_of _ (by decide +kernel)) ggX7_has_X7_isKey
theorem dX7_has_0 : decode cX7_has 0 = .ok (.aload_n 0, 1) := by decide +kernel
theorem dX7_has_1 : decode cX7_has 1 = .ok (.iload_n 1, 1) := by decide +kernel
theorem dX7_has_2 : decode cX7_has 2 = .ok (.invokevirtual 157, 3) := by decide +kernel
theorem dX7_has_5 : decode cX7_has 5 = .ok (.ifCond .ne 8, 3) := by decide +kernel
theorem dX7_has_8 : decode cX7_has 8 = .ok (.bipush (-3), 2) := by decide +kernel
theorem dX7_has_10 : decode cX7_has 10 = .ok (.goto 17, 3) := by decide +kernel
theorem dX7_has_13 : decode cX7_has 13 = .ok (.aload_n 0, 1) := by decide +kernel
theorem dX7_has_14 : decode cX7_has 14 = .ok (.iconst 0, 1) := by decide +kernel
theorem dX7_has_15 : decode cX7_has 15 = .ok (.iload_n 1, 1) := by decide +kernel
theorem dX7_has_16 : decode cX7_has 16 = .ok (.invokevirtual 63, 3) := by decide +kernel
theorem dX7_has_19 : decode cX7_has 19 = .ok (.ifCond .eq 7, 3) := by decide +kernel
theorem dX7_has_22 : decode cX7_has 22 = .ok (.iconst 1, 1) := by decide +kernel
theorem dX7_has_23 : decode cX7_has 23 = .ok (.goto 4, 3) := by decide +kernel
theorem dX7_has_26 : decode cX7_has 26 = .ok (.iconst 0, 1) := by decide +kernel
theorem dX7_has_27 : decode cX7_has 27 = .ok (.ireturn, 1) := by decide +kernel
set_option maxRecDepth 20000 in
theorem ggX7_near_X7_isNumber : GoodIn wsX7_near wsX7_isNumber := goodIn_r _ [6, 7, 8, 9, 5, 10, 1, 11, 12, 13, 18, 19, 20, 21, 22, 23, 24, 25, 26, 27, 28, 29, 30, 31, 32, 33, 34, 35, 36, 37, 38, 39, 40] (by decide +kernel) (by decide +kernel)
set_option maxRecDepth 20000 in
theorem gX7_near_X7_isNumber : GoodIn wsX7_near (wsV RX7 157 RX7 yX7_isNumber wsX7_isNumber) := goodIn_app (goodIn_of _ (by decide +kernel)) ggX7_near_X7_isNumber
set_option maxRecDepth 20000 in
theorem ggX7_near_X7_in : GoodIn wsX7_near wsX7_in := goodIn_r _ [13] (by decide +kernel) (by decide +kernel)
set_option maxRecDepth 20000 in
theorem gX7_near_X7_in : GoodIn wsX7_near (va_wsS RX7 75 yX7_in wsX7_in) := goodIn_app (goodIn_of _ (by decide +kernel)) ggX7_near_X7_in
set_option maxRecDepth 20000 in
theorem ggX7_near_X7_below : GoodIn wsX7_near wsX7_below := goodIn_r _ [17, 1, 18, 19, 20, 21, 22, 23, 24, 25, 26, 27, 28, 29, 30, 31, 32, 33, 34, 35, 36, 37, 38, 39, 40] (by decide +kernel) (by decide +kernel)
set_option maxRecDepth 20000 in
theorem gX7_near_X7_below : GoodIn wsX7_near (wsV RX7 46 RX7 yX7_below wsX7_below) := goodIn_app (goodIn_of _ (by decide +kernel)) ggX7_near_X7_below
theorem dX7_near_0 : decode cX7_near 0 = .ok (.aload_n 0, 1) := by decide +kernel
theorem dX7_near_1 : decode cX7_near 1 = .ok (.iload_n 1, 1) := by decide +kernel
theorem dX7_near_2 : decode cX7_near 2 = .ok (.invokevirtual 157, 3) := by decide +kernel
theorem dX7_near_5 : decode cX7_near 5 = .ok (.ifCond .eq 13, 3) := by decide +kernel
theorem dX7_near_8 : decode cX7_near 8 = .ok (.iload_n 2, 1) := by decide +kernel
theorem dX7_near_9 : decode cX7_near 9 = .ok (.i2l, 1) := by decide +kernel
theorem dX7_near_10 : decode cX7_near 10 = .ok (.lconst 0, 1) := by decide +kernel
theorem dX7_near_11 : decode cX7_near 11 = .ok (.lconst 1, 1) := by decide +kernel
theorem dX7_near_12 : decode cX7_near 12 = .ok (.invokestatic 75, 3) := by decide +kernel
theorem dX7_near_15 : decode cX7_near 15 = .ok (.ifCond .ne 6, 3) := by decide +kernel
theorem dX7_near_18 : decode cX7_near 18 = .ok (.bipush (-3), 2) := by decide +kernel
theorem dX7_near_20 : decode cX7_near 20 = .ok (.ireturn, 1) := by decide +kernel
theorem dX7_near_21 : decode cX7_near 21 = .ok (.iload_n 2, 1) := by decide +kernel
theorem dX7_near_22 : decode cX7_near 22 = .ok (.ifCond .ne 16, 3) := by decide +kernel
theorem dX7_near_25 : decode cX7_near 25 = .ok (.aload_n 0, 1) := by decide +kernel
theorem dX7_near_26 : decode cX7_near 26 = .ok (.iconst 0, 1) := by decide +kernel
theorem dX7_near_27 : decode cX7_near 27 = .ok (.iload_n 1, 1) := by decide +kernel
theorem dX7_near_28 : decode cX7_near 28 = .ok (.iconst 1, 1) := by decide +kernel
theorem dX7_near_29 : decode cX7_near 29 = .ok (.iadd, 1) := by decide +kernel
theorem dX7_near_30 : decode cX7_near 30 = .ok (.invokevirtual 46, 3) := by decide +kernel
theorem dX7_near_33 : decode cX7_near 33 = .ok (.iconst 1, 1) := by decide +kernel
theorem dX7_near_34 : decode cX7_near 34 = .ok (.isub, 1) := by decide +kernel
theorem dX7_near_35 : decode cX7_near 35 = .ok (.goto 9, 3) := by decide +kernel
theorem dX7_near_38 : decode cX7_near 38 = .ok (.aload_n 0, 1) := by decide +kernel
theorem dX7_near_39 : decode cX7_near 39 = .ok (.iconst 0, 1) := by decide +kernel
theorem dX7_near_40 : decode cX7_near 40 = .ok (.iload_n 1, 1) := by decide +kernel
theorem dX7_near_41 : decode cX7_near 41 = .ok (.invokevirtual 46, 3) := by decide +kernel
theorem dX7_near_44 : decode cX7_near 44 = .ok (.istore_n 3, 1) := by decide +kernel
theorem dX7_near_45 : decode cX7_near 45 = .ok (.iload_n 3, 1) := by decide +kernel
theorem dX7_near_46 : decode cX7_near 46 = .ok (.i2l, 1) := by decide +kernel
