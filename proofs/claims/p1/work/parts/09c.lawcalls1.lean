set_option maxRecDepth 20000 in
theorem gL_law_X5_open : GoodIn wsL_law (wsV RL 27 RX5 yX5_open wsX5_open) := goodIn_app (goodIn_of _ (by decide +kernel)) ggL_law_X5_open
set_option maxRecDepth 20000 in
theorem ggL_law_X4_want : GoodIn wsL_law wsX4_want := goodIn_r _ [208, 17, 209, 210, 211, 212, 213, 214, 215, 216, 2, 217, 218, 219, 220, 221, 222, 60, 15, 76, 77, 78, 14, 79, 65, 223, 224, 225, 28, 226, 49, 50, 227, 228, 229, 48, 230, 231, 54, 232, 233, 234, 235, 55, 612, 613, 614, 615, 616, 617, 618, 619, 620, 621, 664, 665, 666, 667, 668, 669, 670, 671, 672, 673, 674, 675, 676, 677, 678, 655, 656, 657] (by decide +kernel) (by decide +kernel)
set_option maxRecDepth 20000 in
theorem gL_law_X4_want : GoodIn wsL_law (wsV RL 28 RX4 yX4_want wsX4_want) := goodIn_app (goodIn_of _ (by decide +kernel)) ggL_law_X4_want
set_option maxRecDepth 20000 in
theorem ggL_law_X5_want : GoodIn wsL_law wsX5_want := goodIn_r _ [239, 141, 146, 148, 240, 241, 242, 5, 243, 172, 142, 182, 183, 184, 185, 171, 244, 245, 246, 247, 149, 248, 249, 250, 251, 252, 253, 254, 255, 150, 622, 623, 624, 625, 626, 627, 628, 629, 630, 631, 632, 633, 634, 635, 636, 637, 638, 639, 640, 641, 642, 643, 644, 645, 646, 647, 648, 649, 650, 651, 652, 653, 654] (by decide +kernel) (by decide +kernel)
set_option maxRecDepth 20000 in
theorem gL_law_X5_want : GoodIn wsL_law (wsV RL 31 RX5 yX5_want wsX5_want) := goodIn_app (goodIn_of _ (by decide +kernel)) ggL_law_X5_want
set_option maxRecDepth 20000 in
theorem ggL_law_X4_begin : GoodIn wsL_law wsX4_begin := goodIn_r _ [259, 17, 95, 96, 209, 210, 260, 261, 213, 262, 97, 214, 215, 216, 2, 217, 218, 219, 220, 221, 222, 60, 15, 76, 77, 78, 14, 79, 65, 263, 264, 265, 28, 266, 49, 107, 267, 268, 269, 270, 50, 113, 227, 228, 229, 48, 230, 231, 54, 271, 272, 273, 274, 55, 275, 276, 277, 278, 108, 279, 280, 281, 282, 283, 284, 285, 286, 287, 288, 289, 290, 291, 292, 293, 294, 295, 296, 124, 211, 212, 612, 613, 614, 615, 616, 617, 618, 619, 620, 621, 664, 665, 666, 667, 668, 669, 670, 671, 672, 673, 674, 675, 676, 677, 678, 655, 656, 657] (by decide +kernel) (by decide +kernel)
set_option maxRecDepth 20000 in
theorem gL_law_X4_begin : GoodIn wsL_law (wsV RL 32 RX4 yX4_begin wsX4_begin) := goodIn_app (goodIn_of _ (by decide +kernel)) ggL_law_X4_begin
set_option maxRecDepth 20000 in
theorem ggL_law_X5_begin : GoodIn wsL_law wsX5_begin := goodIn_r _ [300, 139, 141, 148, 149, 147, 143, 196, 171, 146, 240, 241, 242, 5, 243, 172, 142, 182, 183, 184, 185, 301, 302, 303, 304, 194, 195, 150, 244, 245, 246, 247, 248, 249, 250, 251, 305, 306, 307, 308, 622, 623, 624, 625, 626, 627, 628, 629, 630, 631, 632, 633, 634, 635, 636, 637, 638, 639, 640, 641, 642, 643, 644, 645, 646, 647, 648, 649, 650, 651, 652, 653, 654] (by decide +kernel) (by decide +kernel)
set_option maxRecDepth 20000 in
theorem gL_law_X5_begin : GoodIn wsL_law (wsV RL 35 RX5 yX5_begin wsX5_begin) := goodIn_app (goodIn_of _ (by decide +kernel)) ggL_law_X5_begin
set_option maxRecDepth 20000 in
theorem ggL_law_X4_end : GoodIn wsL_law wsX4_end := goodIn_r _ [312, 17, 209, 313, 219, 220, 221, 2, 222, 60, 15, 76, 77, 78, 14, 79, 65, 314, 315, 316, 28, 317, 111, 114, 612, 613, 614, 615, 616, 617, 618, 619, 620, 621, 664, 665, 666, 667, 668, 669, 670, 671, 672, 673, 674, 675, 655, 656, 657] (by decide +kernel) (by decide +kernel)
set_option maxRecDepth 20000 in
theorem gL_law_X4_end : GoodIn wsL_law (wsV RL 36 RX4 yX4_end wsX4_end) := goodIn_app (goodIn_of _ (by decide +kernel)) ggL_law_X4_end
set_option maxRecDepth 20000 in
theorem ggL_law_X5_end : GoodIn wsL_law wsX5_end := goodIn_r _ [321, 172, 141, 145, 182, 183, 184, 5, 185, 171, 322, 323, 324, 325, 622, 623, 624, 625, 626, 627, 628, 629, 630, 631, 632, 633, 634, 635, 636, 637, 638, 639, 640, 641, 642, 643, 644, 645, 646, 647, 648, 649, 650, 651, 652, 653, 654] (by decide +kernel) (by decide +kernel)
set_option maxRecDepth 20000 in
theorem gL_law_X5_end : GoodIn wsL_law (wsV RL 39 RX5 yX5_end wsX5_end) := goodIn_app (goodIn_of _ (by decide +kernel)) ggL_law_X5_end
set_option maxRecDepth 20000 in
theorem ggL_law_X4_step : GoodIn wsL_law wsX4_step := goodIn_r _ [329, 17, 210, 213, 330, 95, 331, 214, 215, 216, 2, 217, 218, 219, 220, 221, 222, 60, 15, 76, 77, 78, 14, 79, 65, 332, 333, 334, 335, 96, 209, 260, 336, 263, 264, 265, 28, 266, 49, 107, 267, 268, 269, 270, 50, 113, 227, 228, 229, 48, 230, 231, 54, 271, 272, 273, 274, 55, 275, 276, 277, 278, 108, 337, 338, 339, 340, 123, 262, 279, 280, 281, 282, 283, 284, 285, 286, 287, 288, 289, 290, 291, 292, 341, 342, 343, 344, 21, 25, 345, 346, 347, 20, 348, 349, 38, 39, 350, 351, 352, 353, 37, 40, 41, 354, 355, 356, 357, 22, 358, 359, 360, 361, 362, 363, 364, 365, 366, 367, 368, 369, 370, 371, 372, 373, 374, 375, 612, 613, 614, 615, 616, 617, 618, 619, 620, 621, 664, 665, 666, 667, 668, 669, 670, 671, 672, 673, 674, 675, 676, 677, 678, 655, 656, 657, 658, 659, 660, 661, 662, 663] (by decide +kernel) (by decide +kernel)
set_option maxRecDepth 20000 in
theorem gL_law_X4_step : GoodIn wsL_law (wsV RL 40 RX4 yX4_step wsX4_step) := goodIn_app (goodIn_of _ (by decide +kernel)) ggL_law_X4_step
