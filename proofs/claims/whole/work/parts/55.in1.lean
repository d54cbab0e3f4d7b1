set_option maxRecDepth 20000 in
theorem wsL_in_r1 : GoodIn lw_tbl wsL_law_r1 := goodIn_p wsL_law_r1 [69, 72] (by decide +kernel) (by decide +kernel)
set_option maxRecDepth 20000 in
theorem wsL_in_r2 : GoodIn lw_tbl wsL_law_r2 := goodIn_p wsL_law_r2 [77] (by decide +kernel) (by decide +kernel)
set_option maxRecDepth 20000 in
theorem wsL_in_r3 : GoodIn lw_tbl wsL_law_r3 := goodIn_p wsL_law_r3 [82, 86, 124, 144] (by decide +kernel) (by decide +kernel)
set_option maxRecDepth 20000 in
theorem wsL_in_r4 : GoodIn lw_tbl wsL_law_r4 := goodIn_p wsL_law_r4 [160, 187, 223, 757] (by decide +kernel) (by decide +kernel)
set_option maxRecDepth 20000 in
theorem wsL_in_r5 : GoodIn lw_tbl wsL_law_r5 := goodIn_p wsL_law_r5 [762, 261, 265] (by decide +kernel) (by decide +kernel)
set_option maxRecDepth 20000 in
theorem wsL_in_r6 : GoodIn lw_tbl wsL_law_r6 := goodIn_p wsL_law_r6 [836, 840, 269, 273, 844, 277] (by decide +kernel) (by decide +kernel)
set_option maxRecDepth 20000 in
theorem wsL_in_r7 : GoodIn lw_tbl wsL_law_r7 := goodIn_p wsL_law_r7 [281, 285, 289, 293, 297] (by decide +kernel) (by decide +kernel)
set_option maxRecDepth 20000 in
theorem wsL_in_r8 : GoodIn lw_tbl wsL_law_r8 := goodIn_p wsL_law_r8 [300, 304, 309, 313, 317] (by decide +kernel) (by decide +kernel)
set_option maxRecDepth 20000 in
theorem wsL_in_r9 : GoodIn lw_tbl wsL_law_r9 := goodIn_p wsL_law_r9 [323, 327, 330, 333, 338, 341] (by decide +kernel) (by decide +kernel)
set_option maxRecDepth 20000 in
theorem wsL_in_r10 : GoodIn lw_tbl wsL_law_r10 := goodIn_p wsL_law_r10 [344, 347, 351, 364, 368, 848] (by decide +kernel) (by decide +kernel)
set_option maxRecDepth 20000 in
theorem wsL_in_r11 : GoodIn lw_tbl wsL_law_r11 := goodIn_p wsL_law_r11 [852, 856, 859, 864] (by decide +kernel) (by decide +kernel)
set_option maxRecDepth 20000 in
theorem wsL_in_r12 : GoodIn lw_tbl wsL_law_r12 := goodIn_p wsL_law_r12 [870, 874, 878, 882, 886, 890] (by decide +kernel) (by decide +kernel)
set_option maxRecDepth 20000 in
theorem wsL_in_r13 : GoodIn lw_tbl wsL_law_r13 := goodIn_p wsL_law_r13 [894, 898, 902, 906, 910, 914] (by decide +kernel) (by decide +kernel)
