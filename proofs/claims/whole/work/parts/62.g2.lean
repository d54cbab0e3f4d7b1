set_option maxRecDepth 20000 in
theorem ggL_law_X6_keep : GoodIn wsL_law wsX6_keep := goodIn_r _ [480, 24, 15, 481, 482, 483, 23, 484, 71, 73, 485, 486, 487, 488, 489, 490, 425, 426, 14, 427, 43, 44, 49, 50, 51, 52, 53, 54, 428, 2, 429, 430, 417, 418, 419, 431, 432, 433, 434, 906, 907, 908, 909, 910, 911, 912, 913, 937, 938, 939, 940, 941, 942, 943, 944, 948, 949] (by decide +kernel) (by decide +kernel)
set_option maxRecDepth 20000 in
theorem gL_law_X6_keep : GoodIn wsL_law (wsV RL 43 RX6 yX6_keep wsX6_keep) := goodIn_app (goodIn_of _ (by decide +kernel)) ggL_law_X6_keep
set_option maxRecDepth 20000 in
theorem ggL_law_X7_keep : GoodIn wsL_law wsX7_keep := goodIn_r _ [494, 96, 95, 124, 125, 5, 126, 452, 453, 454, 455, 914, 915, 916, 917, 918, 919, 920, 921, 922, 923, 924, 925, 926, 927, 928, 929, 930, 931, 932, 933, 934, 935, 936] (by decide +kernel) (by decide +kernel)
set_option maxRecDepth 20000 in
theorem gL_law_X7_keep : GoodIn wsL_law (wsV RL 46 RX7 yX7_keep wsX7_keep) := goodIn_app (goodIn_of _ (by decide +kernel)) ggL_law_X7_keep
set_option maxRecDepth 20000 in
theorem ggL_law_X6_back : GoodIn wsL_law wsX6_back := goodIn_r _ [498, 24, 15, 20, 481, 482, 483, 23, 484, 71, 73, 499, 500, 501, 502, 489, 503, 504, 505, 506, 507, 490, 425, 426, 14, 427, 43, 44, 49, 50, 51, 52, 53, 54, 428, 2, 429, 430, 417, 418, 419, 431, 432, 433, 434, 391, 392, 393, 19, 394, 395, 906, 907, 908, 909, 910, 911, 912, 913, 937, 938, 939, 940, 941, 942, 943, 944, 948, 949, 945, 946, 947] (by decide +kernel) (by decide +kernel)
set_option maxRecDepth 20000 in
theorem gL_law_X6_back : GoodIn wsL_law (wsV RL 47 RX6 yX6_back wsX6_back) := goodIn_app (goodIn_of _ (by decide +kernel)) ggL_law_X6_back
set_option maxRecDepth 20000 in
theorem ggL_law_X7_back : GoodIn wsL_law wsX7_back := goodIn_r _ [511, 96, 404, 95, 124, 125, 5, 126, 452, 453, 454, 455, 914, 915, 916, 917, 918, 919, 920, 921, 922, 923, 924, 925, 926, 927, 928, 929, 930, 931, 932, 933, 934, 935, 936] (by decide +kernel) (by decide +kernel)
set_option maxRecDepth 20000 in
theorem gL_law_X7_back : GoodIn wsL_law (wsV RL 50 RX7 yX7_back wsX7_back) := goodIn_app (goodIn_of _ (by decide +kernel)) ggL_law_X7_back
set_option maxRecDepth 20000 in
theorem ggL_law_X6_has : GoodIn wsL_law wsX6_has := goodIn_r _ [515, 15, 409, 387, 388, 14, 389, 55, 56, 57, 58, 49, 410, 337, 338, 339, 340, 341, 342, 343, 43, 51, 344, 2, 345, 346, 347, 348, 349, 906, 907, 908, 909, 910, 911, 912, 913, 937, 938, 939, 940, 941, 942, 943, 944] (by decide +kernel) (by decide +kernel)
set_option maxRecDepth 20000 in
theorem gL_law_X6_has : GoodIn wsL_law (wsV RL 51 RX6 yX6_has wsX6_has) := goodIn_app (goodIn_of _ (by decide +kernel)) ggL_law_X6_has
set_option maxRecDepth 20000 in
theorem ggL_law_X7_has : GoodIn wsL_law wsX7_has := goodIn_r _ [519, 440, 441, 442, 5, 443, 444, 445, 446, 447, 95, 124, 125, 126, 287, 288, 289, 290, 291, 292, 293, 294, 914, 915, 916, 917, 918, 919, 920, 921, 922, 923, 924, 925, 926, 927, 928, 929, 930, 931, 932, 933, 934, 935, 936] (by decide +kernel) (by decide +kernel)
set_option maxRecDepth 20000 in
theorem gL_law_X7_has : GoodIn wsL_law (wsV RL 54 RX7 yX7_has wsX7_has) := goodIn_app (goodIn_of _ (by decide +kernel)) ggL_law_X7_has
set_option maxRecDepth 20000 in
theorem ggL_law_X6_near : GoodIn wsL_law wsX6_near := goodIn_r _ [523, 15, 409, 387, 388, 14, 389, 55, 56, 57, 58, 49, 524, 341, 342, 343, 43, 51, 344, 2, 345, 525, 347, 348, 349, 906, 907, 908, 909, 910, 911, 912, 913, 937, 938, 939, 940, 941, 942, 943, 944] (by decide +kernel) (by decide +kernel)
set_option maxRecDepth 20000 in
theorem gL_law_X6_near : GoodIn wsL_law (wsV RL 55 RX6 yX6_near wsX6_near) := goodIn_app (goodIn_of _ (by decide +kernel)) ggL_law_X6_near
set_option maxRecDepth 20000 in
theorem ggL_law_X7_near : GoodIn wsL_law wsX7_near := goodIn_r _ [529, 95, 440, 441, 442, 5, 443, 444, 445, 446, 447, 124, 125, 126, 291, 292, 293, 294, 914, 915, 916, 917, 918, 919, 920, 921, 922, 923, 924, 925, 926, 927, 928, 929, 930, 931, 932, 933, 934, 935, 936] (by decide +kernel) (by decide +kernel)
set_option maxRecDepth 20000 in
theorem gL_law_X7_near : GoodIn wsL_law (wsV RL 59 RX7 yX7_near wsX7_near) := goodIn_app (goodIn_of _ (by decide +kernel)) ggL_law_X7_near
set_option maxRecDepth 20000 in
theorem ggL_law_X6_rank : GoodIn wsL_law wsX6_rank := goodIn_r _ [533, 15, 409, 387, 388, 14, 389, 55, 56, 57, 58, 49, 524, 341, 342, 343, 43, 51, 344, 2, 345, 906, 907, 908, 909, 910, 911, 912, 913, 937, 938, 939, 940, 941, 942, 943, 944] (by decide +kernel) (by decide +kernel)
set_option maxRecDepth 20000 in
theorem gL_law_X6_rank : GoodIn wsL_law (wsV RL 60 RX6 yX6_rank wsX6_rank) := goodIn_app (goodIn_of _ (by decide +kernel)) ggL_law_X6_rank
set_option maxRecDepth 20000 in
theorem ggL_law_X7_rank : GoodIn wsL_law wsX7_rank := goodIn_r _ [537, 440, 441, 442, 5, 443, 444, 445, 446, 447, 95, 124, 125, 126, 291, 292, 293, 294, 914, 915, 916, 917, 918, 919, 920, 921, 922, 923, 924, 925, 926, 927, 928, 929, 930, 931, 932, 933, 934, 935, 936] (by decide +kernel) (by decide +kernel)
set_option maxRecDepth 20000 in
theorem gL_law_X7_rank : GoodIn wsL_law (wsV RL 63 RX7 yX7_rank wsX7_rank) := goodIn_app (goodIn_of _ (by decide +kernel)) ggL_law_X7_rank
set_option maxRecDepth 20000 in
theorem ggL_law_X6_ranked : GoodIn wsL_law wsX6_ranked := goodIn_r _ [541, 15, 525, 347, 348, 14, 349, 51, 43, 906, 907, 908, 909, 910, 911, 912, 913, 937, 938, 939, 940, 941, 942, 943, 944] (by decide +kernel) (by decide +kernel)
set_option maxRecDepth 20000 in
theorem gL_law_X6_ranked : GoodIn wsL_law (wsV RL 64 RX6 yX6_ranked wsX6_ranked) := goodIn_app (goodIn_of _ (by decide +kernel)) ggL_law_X6_ranked
set_option maxRecDepth 20000 in
theorem ggL_law_X7_ranked : GoodIn wsL_law wsX7_ranked := goodIn_r _ [545, 95, 124, 125, 5, 126, 914, 915, 916, 917, 918, 919, 920, 921, 922, 923, 924, 925, 926, 927, 928, 929, 930, 931, 932, 933, 934, 935, 936] (by decide +kernel) (by decide +kernel)
set_option maxRecDepth 20000 in
theorem gL_law_X7_ranked : GoodIn wsL_law (wsV RL 67 RX7 yX7_ranked wsX7_ranked) := goodIn_app (goodIn_of _ (by decide +kernel)) ggL_law_X7_ranked
set_option maxRecDepth 20000 in
theorem ggL_law_X6_search : GoodIn wsL_law wsX6_search := goodIn_r _ [549, 15, 28, 409, 387, 388, 14, 389, 55, 56, 57, 58, 49, 550, 551, 552, 27, 553, 554, 555, 556, 557, 558, 559, 560, 561, 562, 563, 564, 565, 566, 567, 568, 569, 570, 571, 572, 573, 44, 52, 344, 2, 345, 364, 365, 366, 367, 574, 575, 353, 354, 355, 576, 577, 578, 579, 580, 581, 582, 583, 584, 360, 361, 362, 363, 43, 51, 585, 357, 358, 359, 586, 347, 348, 349, 906, 907, 908, 909, 910, 911, 912, 913, 950, 951, 952, 953, 954, 937, 938, 939, 940, 941, 942, 943, 944] (by decide +kernel) (by decide +kernel)
set_option maxRecDepth 20000 in
theorem gL_law_X6_search : GoodIn wsL_law (wsV RL 68 RX6 yX6_search wsX6_search) := goodIn_app (goodIn_of _ (by decide +kernel)) ggL_law_X6_search
set_option maxRecDepth 20000 in
theorem ggL_law_X7_search : GoodIn wsL_law wsX7_search := goodIn_r _ [590, 591, 592, 593, 594, 595, 440, 441, 442, 5, 443, 444, 445, 446, 447, 95, 124, 125, 126, 596, 597, 598, 599, 600, 601, 602, 603, 604, 605, 606, 607, 299, 300, 301, 302, 307, 308, 309, 310, 291, 292, 293, 294, 303, 304, 305, 306, 914, 915, 916, 917, 918, 919, 920, 921, 922, 923, 924, 925, 926, 927, 928, 929, 930, 931, 932, 933, 934, 935, 936] (by decide +kernel) (by decide +kernel)
set_option maxRecDepth 20000 in
theorem gL_law_X7_search : GoodIn wsL_law (wsV RL 71 RX7 yX7_search wsX7_search) := goodIn_app (goodIn_of _ (by decide +kernel)) ggL_law_X7_search
set_option maxRecDepth 20000 in
theorem ggL_law_X6_bucket : GoodIn wsL_law wsX6_bucket := goodIn_r _ [611, 15, 612, 357, 358, 14, 359, 360, 361, 362, 363, 43, 51, 364, 365, 366, 367, 52, 44, 344, 2, 345, 613, 614, 582, 583, 584, 525, 347, 348, 349, 615, 906, 907, 908, 909, 910, 911, 912, 913, 937, 938, 939, 940, 941, 942, 943, 944] (by decide +kernel) (by decide +kernel)
set_option maxRecDepth 20000 in
theorem gL_law_X6_bucket : GoodIn wsL_law (wsV RL 72 RX6 yX6_bucket wsX6_bucket) := goodIn_app (goodIn_of _ (by decide +kernel)) ggL_law_X6_bucket
set_option maxRecDepth 20000 in
theorem ggL_law_X7_bucket : GoodIn wsL_law wsX7_bucket := goodIn_r _ [619, 95, 124, 125, 5, 126, 307, 308, 309, 310, 291, 292, 293, 294, 303, 304, 305, 306, 914, 915, 916, 917, 918, 919, 920, 921, 922, 923, 924, 925, 926, 927, 928, 929, 930, 931, 932, 933, 934, 935, 936] (by decide +kernel) (by decide +kernel)
set_option maxRecDepth 20000 in
theorem gL_law_X7_bucket : GoodIn wsL_law (wsV RL 75 RX7 yX7_bucket wsX7_bucket) := goodIn_app (goodIn_of _ (by decide +kernel)) ggL_law_X7_bucket
set_option maxRecDepth 20000 in
theorem ggL_law_X6_level : GoodIn wsL_law wsX6_level := goodIn_r _ [623, 15, 624, 625, 626, 14, 627, 49, 628, 629, 630, 631, 52, 364, 365, 366, 367, 44, 574, 563, 564, 565, 906, 907, 908, 909, 910, 911, 912, 913, 937, 938, 939, 940, 941, 942, 943, 944] (by decide +kernel) (by decide +kernel)
set_option maxRecDepth 20000 in
theorem gL_law_X6_level : GoodIn wsL_law (wsV RL 76 RX6 yX6_level wsX6_level) := goodIn_app (goodIn_of _ (by decide +kernel)) ggL_law_X6_level
