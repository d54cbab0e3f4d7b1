set_option maxRecDepth 20000 in
theorem ggL_law_X7_level : GoodIn wsL_law wsX7_level := goodIn_r _ [635, 636, 637, 638, 5, 639, 95, 124, 125, 126, 640, 641, 642, 643, 600, 601, 602, 603, 914, 915, 916, 917, 918, 919, 920, 921, 922, 923, 924, 925, 926, 927, 928, 929, 930, 931, 932, 933, 934, 935, 936] (by decide +kernel) (by decide +kernel)
set_option maxRecDepth 20000 in
theorem gL_law_X7_level : GoodIn wsL_law (wsV RL 79 RX7 yX7_level wsX7_level) := goodIn_app (goodIn_of _ (by decide +kernel)) ggL_law_X7_level
set_option maxRecDepth 20000 in
theorem ggL_law_X6_marks : GoodIn wsL_law wsX6_marks := goodIn_r _ [647, 15, 624, 625, 626, 14, 627, 49, 648, 649, 650, 651, 44, 52, 344, 2, 345, 652, 571, 572, 573, 906, 907, 908, 909, 910, 911, 912, 913, 937, 938, 939, 940, 941, 942, 943, 944] (by decide +kernel) (by decide +kernel)
set_option maxRecDepth 20000 in
theorem gL_law_X6_marks : GoodIn wsL_law (wsV RL 80 RX6 yX6_marks wsX6_marks) := goodIn_app (goodIn_of _ (by decide +kernel)) ggL_law_X6_marks
set_option maxRecDepth 20000 in
theorem ggL_law_X7_marks : GoodIn wsL_law wsX7_marks := goodIn_r _ [656, 95, 636, 637, 638, 5, 639, 124, 125, 126, 600, 601, 602, 603, 914, 915, 916, 917, 918, 919, 920, 921, 922, 923, 924, 925, 926, 927, 928, 929, 930, 931, 932, 933, 934, 935, 936] (by decide +kernel) (by decide +kernel)
set_option maxRecDepth 20000 in
theorem gL_law_X7_marks : GoodIn wsL_law (wsV RL 83 RX7 yX7_marks wsX7_marks) := goodIn_app (goodIn_of _ (by decide +kernel)) ggL_law_X7_marks
set_option maxRecDepth 20000 in
theorem ggL_law_X6_under : GoodIn wsL_law wsX6_under := goodIn_r _ [660, 15, 624, 625, 626, 14, 627, 49, 661, 567, 568, 569, 570, 571, 572, 573, 44, 52, 344, 2, 345, 364, 365, 366, 367, 574, 563, 564, 565, 652, 613, 648, 649, 650, 651, 906, 907, 908, 909, 910, 911, 912, 913, 937, 938, 939, 940, 941, 942, 943, 944] (by decide +kernel) (by decide +kernel)
set_option maxRecDepth 20000 in
theorem gL_law_X6_under : GoodIn wsL_law (wsV RL 84 RX6 yX6_under wsX6_under) := goodIn_app (goodIn_of _ (by decide +kernel)) ggL_law_X6_under
set_option maxRecDepth 20000 in
theorem ggL_law_X7_under : GoodIn wsL_law wsX7_under := goodIn_r _ [665, 95, 636, 637, 638, 5, 639, 124, 125, 126, 600, 601, 602, 603, 914, 915, 916, 917, 918, 919, 920, 921, 922, 923, 924, 925, 926, 927, 928, 929, 930, 931, 932, 933, 934, 935, 936] (by decide +kernel) (by decide +kernel)
set_option maxRecDepth 20000 in
theorem gL_law_X7_under : GoodIn wsL_law (wsV RL 88 RX7 yX7_under wsX7_under) := goodIn_app (goodIn_of _ (by decide +kernel)) ggL_law_X7_under
set_option maxRecDepth 20000 in
theorem ggL_law_X6_sweep : GoodIn wsL_law wsX6_sweep := goodIn_r _ [669, 15, 16, 409, 387, 388, 14, 389, 55, 56, 57, 58, 49, 670, 425, 426, 427, 43, 44, 50, 51, 52, 53, 54, 428, 2, 429, 430, 417, 418, 419, 431, 432, 433, 434, 671, 672, 673, 674, 340, 341, 342, 343, 344, 345, 346, 347, 348, 349, 675, 373, 374, 375, 336, 337, 338, 339, 376, 377, 352, 353, 354, 355, 356, 357, 358, 359, 360, 361, 362, 363, 364, 365, 366, 367, 378, 379, 380, 381, 368, 369, 370, 371, 350, 351, 906, 907, 908, 909, 910, 911, 912, 913, 937, 938, 939, 940, 941, 942, 943, 944] (by decide +kernel) (by decide +kernel)
set_option maxRecDepth 20000 in
theorem gL_law_X6_sweep : GoodIn wsL_law (wsV RL 89 RX6 yX6_sweep wsX6_sweep) := goodIn_app (goodIn_of _ (by decide +kernel)) ggL_law_X6_sweep
set_option maxRecDepth 20000 in
theorem ggL_law_X7_sweep : GoodIn wsL_law wsX7_sweep := goodIn_r _ [679, 680, 95, 440, 441, 442, 5, 443, 444, 445, 446, 447, 124, 125, 126, 452, 453, 454, 455, 291, 292, 293, 294, 315, 316, 317, 318, 299, 300, 301, 302, 303, 304, 305, 306, 307, 308, 309, 310, 311, 312, 313, 314, 914, 915, 916, 917, 918, 919, 920, 921, 922, 923, 924, 925, 926, 927, 928, 929, 930, 931, 932, 933, 934, 935, 936] (by decide +kernel) (by decide +kernel)
set_option maxRecDepth 20000 in
theorem gL_law_X7_sweep : GoodIn wsL_law (wsV RL 92 RX7 yX7_sweep wsX7_sweep) := goodIn_app (goodIn_of _ (by decide +kernel)) ggL_law_X7_sweep
set_option maxRecDepth 20000 in
theorem ggL_law_X6_flood : GoodIn wsL_law wsX6_flood := goodIn_r _ [684, 15, 16, 409, 387, 388, 14, 389, 55, 56, 57, 58, 49, 670, 425, 426, 427, 43, 44, 50, 51, 52, 53, 54, 428, 2, 429, 430, 417, 418, 419, 431, 432, 433, 434, 685, 383, 384, 385, 386, 390, 333, 334, 335, 336, 337, 338, 339, 340, 341, 342, 343, 344, 345, 346, 347, 348, 349, 350, 351, 352, 353, 354, 355, 356, 357, 358, 359, 360, 361, 362, 363, 364, 365, 366, 367, 368, 369, 370, 371, 906, 907, 908, 909, 910, 911, 912, 913, 937, 938, 939, 940, 941, 942, 943, 944] (by decide +kernel) (by decide +kernel)
set_option maxRecDepth 20000 in
theorem gL_law_X6_flood : GoodIn wsL_law (wsV RL 93 RX6 yX6_flood wsX6_flood) := goodIn_app (goodIn_of _ (by decide +kernel)) ggL_law_X6_flood
set_option maxRecDepth 20000 in
theorem ggL_law_X7_flood : GoodIn wsL_law wsX7_flood := goodIn_r _ [689, 690, 691, 680, 95, 440, 441, 442, 5, 443, 444, 445, 446, 447, 124, 125, 126, 452, 453, 454, 455, 319, 320, 321, 322, 283, 284, 285, 286, 287, 288, 289, 290, 291, 292, 293, 294, 295, 296, 297, 298, 299, 300, 301, 302, 303, 304, 305, 306, 307, 308, 309, 310, 311, 312, 313, 314, 914, 915, 916, 917, 918, 919, 920, 921, 922, 923, 924, 925, 926, 927, 928, 929, 930, 931, 932, 933, 934, 935, 936] (by decide +kernel) (by decide +kernel)
set_option maxRecDepth 20000 in
theorem gL_law_X7_flood : GoodIn wsL_law (wsV RL 97 RX7 yX7_flood wsX7_flood) := goodIn_app (goodIn_of _ (by decide +kernel)) ggL_law_X7_flood
set_option maxRecDepth 20000 in
theorem ggL_law_X6_dearest : GoodIn wsL_law wsX6_dearest := goodIn_r _ [695, 15, 525, 347, 348, 14, 349, 51, 43, 696, 697, 698, 2, 699, 28, 550, 551, 552, 27, 553, 554, 555, 556, 557, 558, 559, 560, 561, 562, 563, 564, 565, 49, 566, 567, 568, 569, 570, 571, 572, 573, 44, 52, 344, 345, 364, 365, 366, 367, 574, 575, 353, 354, 355, 576, 577, 578, 579, 580, 581, 582, 583, 584, 360, 361, 362, 363, 585, 357, 358, 359, 586, 906, 907, 908, 909, 910, 911, 912, 913, 937, 938, 939, 940, 941, 942, 943, 944, 950, 951, 952, 953, 954] (by decide +kernel) (by decide +kernel)
set_option maxRecDepth 20000 in
theorem gL_law_X6_dearest : GoodIn wsL_law (wsV RL 98 RX6 yX6_dearest wsX6_dearest) := goodIn_app (goodIn_of _ (by decide +kernel)) ggL_law_X6_dearest
set_option maxRecDepth 20000 in
theorem ggL_law_X7_dearest : GoodIn wsL_law wsX7_dearest := goodIn_r _ [703, 95, 124, 125, 5, 126, 704, 705, 706, 707, 592, 593, 594, 596, 597, 598, 599, 595, 600, 601, 602, 603, 604, 605, 606, 607, 299, 300, 301, 302, 307, 308, 309, 310, 291, 292, 293, 294, 303, 304, 305, 306, 914, 915, 916, 917, 918, 919, 920, 921, 922, 923, 924, 925, 926, 927, 928, 929, 930, 931, 932, 933, 934, 935, 936] (by decide +kernel) (by decide +kernel)
set_option maxRecDepth 20000 in
theorem gL_law_X7_dearest : GoodIn wsL_law (wsV RL 101 RX7 yX7_dearest wsX7_dearest) := goodIn_app (goodIn_of _ (by decide +kernel)) ggL_law_X7_dearest
set_option maxRecDepth 20000 in
theorem ggL_law_X6_mean : GoodIn wsL_law wsX6_mean := goodIn_r _ [711, 15, 525, 347, 348, 14, 349, 51, 43, 696, 697, 698, 2, 699, 28, 550, 551, 552, 27, 553, 554, 555, 556, 557, 558, 559, 560, 561, 562, 563, 564, 565, 49, 566, 567, 568, 569, 570, 571, 572, 573, 44, 52, 344, 345, 364, 365, 366, 367, 574, 575, 353, 354, 355, 576, 577, 578, 579, 580, 581, 582, 583, 584, 360, 361, 362, 363, 585, 357, 358, 359, 586, 712, 713, 714, 906, 907, 908, 909, 910, 911, 912, 913, 937, 938, 939, 940, 941, 942, 943, 944, 950, 951, 952, 953, 954] (by decide +kernel) (by decide +kernel)
set_option maxRecDepth 20000 in
theorem gL_law_X6_mean : GoodIn wsL_law (wsV RL 102 RX6 yX6_mean wsX6_mean) := goodIn_app (goodIn_of _ (by decide +kernel)) ggL_law_X6_mean
set_option maxRecDepth 20000 in
theorem ggL_law_X7_mean : GoodIn wsL_law wsX7_mean := goodIn_r _ [718, 95, 124, 125, 5, 126, 704, 705, 706, 707, 592, 593, 594, 596, 597, 598, 599, 595, 600, 601, 602, 603, 604, 605, 606, 607, 299, 300, 301, 302, 307, 308, 309, 310, 291, 292, 293, 294, 303, 304, 305, 306, 914, 915, 916, 917, 918, 919, 920, 921, 922, 923, 924, 925, 926, 927, 928, 929, 930, 931, 932, 933, 934, 935, 936] (by decide +kernel) (by decide +kernel)
set_option maxRecDepth 20000 in
theorem gL_law_X7_mean : GoodIn wsL_law (wsV RL 105 RX7 yX7_mean wsX7_mean) := goodIn_app (goodIn_of _ (by decide +kernel)) ggL_law_X7_mean
set_option maxRecDepth 20000 in
theorem ggL_law_X6_spread : GoodIn wsL_law wsX6_spread := goodIn_r _ [722, 15, 624, 625, 626, 14, 627, 49, 723, 724, 725, 726, 727, 629, 630, 631, 52, 364, 365, 366, 367, 44, 574, 563, 564, 565, 728, 729, 730, 731, 732, 567, 568, 569, 570, 571, 572, 573, 344, 2, 345, 906, 907, 908, 909, 910, 911, 912, 913, 937, 938, 939, 940, 941, 942, 943, 944] (by decide +kernel) (by decide +kernel)
set_option maxRecDepth 20000 in
theorem gL_law_X6_spread : GoodIn wsL_law (wsV RL 106 RX6 yX6_spread wsX6_spread) := goodIn_app (goodIn_of _ (by decide +kernel)) ggL_law_X6_spread
set_option maxRecDepth 20000 in
theorem ggL_law_X7_spread : GoodIn wsL_law wsX7_spread := goodIn_r _ [736, 95, 636, 637, 638, 5, 639, 124, 125, 126, 640, 641, 642, 643, 600, 601, 602, 603, 737, 738, 739, 740, 444, 445, 446, 447, 604, 605, 606, 607, 914, 915, 916, 917, 918, 919, 920, 921, 922, 923, 924, 925, 926, 927, 928, 929, 930, 931, 932, 933, 934, 935, 936] (by decide +kernel) (by decide +kernel)
set_option maxRecDepth 20000 in
theorem gL_law_X7_spread : GoodIn wsL_law (wsV RL 109 RX7 yX7_spread wsX7_spread) := goodIn_app (goodIn_of _ (by decide +kernel)) ggL_law_X7_spread
set_option maxRecDepth 20000 in
theorem ggL_law_X6_row : GoodIn wsL_law wsX6_row := goodIn_r _ [744, 36, 745, 746, 747, 35, 748, 90, 749, 750, 751, 752, 753, 754, 755, 756, 757, 89, 758, 759, 760, 761, 762, 763, 764, 765, 766, 767, 768, 769, 770, 771, 772, 773, 906, 907, 908, 909, 910, 911, 912, 913, 964, 965] (by decide +kernel) (by decide +kernel)
set_option maxRecDepth 20000 in
theorem gL_law_X6_row : GoodIn wsL_law (wsV RL 110 RX6 yX6_row wsX6_row) := goodIn_app (goodIn_of _ (by decide +kernel)) ggL_law_X6_row
