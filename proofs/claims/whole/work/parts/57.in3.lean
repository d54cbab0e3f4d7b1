set_option maxRecDepth 20000 in
theorem wsL_in_r27 : GoodIn lw_tbl wsL_law_r27 := goodIn_p wsL_law_r27 [587, 591, 1007, 1011, 1015, 595] (by decide +kernel) (by decide +kernel)
set_option maxRecDepth 20000 in
theorem wsL_in_r28 : GoodIn lw_tbl wsL_law_r28 := goodIn_p wsL_law_r28 [599, 1019, 604, 1023, 609] (by decide +kernel) (by decide +kernel)
set_option maxRecDepth 20000 in
theorem wsL_in_r29 : GoodIn lw_tbl wsL_law_r29 := goodIn_p wsL_law_r29 [614, 1027, 619, 1032, 624] (by decide +kernel) (by decide +kernel)
set_option maxRecDepth 20000 in
theorem wsL_in_r30 : GoodIn lw_tbl wsL_law_r30 := goodIn_p wsL_law_r30 [628, 1038, 1042, 632, 635, 1046] (by decide +kernel) (by decide +kernel)
set_option maxRecDepth 20000 in
theorem wsL_in_r31 : GoodIn lw_tbl wsL_law_r31 := goodIn_p wsL_law_r31 [639, 643, 648, 1050, 1054] (by decide +kernel) (by decide +kernel)
set_option maxRecDepth 20000 in
theorem wsL_in_r32 : GoodIn lw_tbl wsL_law_r32 := goodIn_p wsL_law_r32 [653, 657, 661, 666, 670, 674] (by decide +kernel) (by decide +kernel)
set_option maxRecDepth 20000 in
theorem wsL_in_r33 : GoodIn lw_tbl wsL_law_r33 := goodIn_p wsL_law_r33 [678, 682, 1058, 1061, 686, 1065] (by decide +kernel) (by decide +kernel)
set_option maxRecDepth 20000 in
theorem wsL_in_r34 : GoodIn lw_tbl wsL_law_r34 := goodIn_p wsL_law_r34 [1069, 692, 696, 699, 702, 1073] (by decide +kernel) (by decide +kernel)
set_option maxRecDepth 20000 in
theorem wsL_in_r35 : GoodIn lw_tbl wsL_law_r35 := goodIn_p wsL_law_r35 [1077, 1081, 708, 711, 1085] (by decide +kernel) (by decide +kernel)
set_option maxRecDepth 20000 in
theorem wsL_in_r36 : GoodIn lw_tbl wsL_law_r36 := goodIn_p wsL_law_r36 [718, 1089, 724, 727, 1093] (by decide +kernel) (by decide +kernel)
set_option maxRecDepth 20000 in
theorem wsL_in_r37 : GoodIn lw_tbl wsL_law_r37 := goodIn_p wsL_law_r37 [731, 735, 1097, 739, 1101, 743] (by decide +kernel) (by decide +kernel)
set_option maxRecDepth 20000 in
theorem wsL_in_r38 : GoodIn lw_tbl wsL_law_r38 := goodIn_p wsL_law_r38 [747, 751, 1105, 1109, 1113] (by decide +kernel) (by decide +kernel)
