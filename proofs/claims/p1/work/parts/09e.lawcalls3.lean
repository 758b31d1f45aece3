set_option maxRecDepth 20000 in
theorem gL_law_X4_resend : GoodIn wsL_law (wsV RL 56 RX4 yX4_resend wsX4_resend) := goodIn_app (goodIn_of _ (by decide +kernel)) ggL_law_X4_resend
set_option maxRecDepth 20000 in
theorem ggL_law_X5_resend : GoodIn wsL_law wsX5_resend := goodIn_r _ [473, 171, 198, 240, 241, 242, 5, 243, 172, 142, 182, 183, 184, 185, 388, 389, 390, 391, 154, 155, 156, 384, 385, 386, 387, 197, 153, 392, 393, 394, 395, 157, 158, 159, 160, 622, 623, 624, 625, 626, 627, 628, 629, 630, 631, 632, 633, 634, 635, 636, 637, 638, 639, 640, 641, 642, 643, 644, 645, 646, 647, 648, 649, 650, 651, 652, 653, 654] (by decide +kernel) (by decide +kernel)
set_option maxRecDepth 20000 in
theorem gL_law_X5_resend : GoodIn wsL_law (wsV RL 59 RX5 yX5_resend wsX5_resend) := goodIn_app (goodIn_of _ (by decide +kernel)) ggL_law_X5_resend
set_option maxRecDepth 20000 in
theorem ggL_law_X4_crash : GoodIn wsL_law wsX4_crash := goodIn_r _ [477, 17, 209, 218, 214, 215, 216, 2, 217, 219, 220, 221, 222, 60, 15, 76, 77, 78, 14, 79, 65, 314, 315, 316, 28, 317, 111, 114, 612, 613, 614, 615, 616, 617, 618, 619, 620, 621, 664, 665, 666, 667, 668, 669, 670, 671, 672, 673, 674, 675, 655, 656, 657] (by decide +kernel) (by decide +kernel)
set_option maxRecDepth 20000 in
theorem gL_law_X4_crash : GoodIn wsL_law (wsV RL 60 RX4 yX4_crash wsX4_crash) := goodIn_app (goodIn_of _ (by decide +kernel)) ggL_law_X4_crash
set_option maxRecDepth 20000 in
theorem ggL_law_X5_crash : GoodIn wsL_law wsX5_crash := goodIn_r _ [481, 142, 240, 241, 242, 5, 243, 172, 182, 183, 184, 185, 171, 322, 323, 324, 325, 145, 141, 622, 623, 624, 625, 626, 627, 628, 629, 630, 631, 632, 633, 634, 635, 636, 637, 638, 639, 640, 641, 642, 643, 644, 645, 646, 647, 648, 649, 650, 651, 652, 653, 654] (by decide +kernel) (by decide +kernel)
set_option maxRecDepth 20000 in
theorem gL_law_X5_crash : GoodIn wsL_law (wsV RL 63 RX5 yX5_crash wsX5_crash) := goodIn_app (goodIn_of _ (by decide +kernel)) ggL_law_X5_crash
set_option maxRecDepth 20000 in
theorem ggL_law_X4_restart : GoodIn wsL_law wsX4_restart := goodIn_r _ [485, 17, 218, 219, 220, 221, 2, 222, 60, 15, 76, 77, 78, 14, 79, 65, 612, 613, 614, 615, 616, 617, 618, 619, 620, 621, 664, 665, 666, 667, 668, 669, 670, 671, 672, 673, 674, 675, 655, 656, 657] (by decide +kernel) (by decide +kernel)
set_option maxRecDepth 20000 in
theorem gL_law_X4_restart : GoodIn wsL_law (wsV RL 64 RX4 yX4_restart wsX4_restart) := goodIn_app (goodIn_of _ (by decide +kernel)) ggL_law_X4_restart
set_option maxRecDepth 20000 in
theorem ggL_law_X5_restart : GoodIn wsL_law wsX5_restart := goodIn_r _ [489, 172, 142, 182, 183, 184, 5, 185, 171, 622, 623, 624, 625, 626, 627, 628, 629, 630, 631, 632, 633, 634, 635, 636, 637, 638, 639, 640, 641, 642, 643, 644, 645, 646, 647, 648, 649, 650, 651, 652, 653, 654] (by decide +kernel) (by decide +kernel)
set_option maxRecDepth 20000 in
theorem gL_law_X5_restart : GoodIn wsL_law (wsV RL 67 RX5 yX5_restart wsX5_restart) := goodIn_app (goodIn_of _ (by decide +kernel)) ggL_law_X5_restart
set_option maxRecDepth 20000 in
theorem ggL_law_X4_cut : GoodIn wsL_law wsX4_cut := goodIn_r _ [493, 15, 21, 22, 17, 210, 219, 220, 221, 2, 222, 60, 76, 77, 78, 14, 79, 65, 129, 130, 131, 132, 32, 84, 85, 494, 495, 496, 20, 497, 498, 346, 347, 348, 349, 38, 39, 499, 228, 229, 48, 230, 231, 54, 500, 501, 502, 503, 66, 504, 505, 506, 28, 507, 108, 612, 613, 614, 615, 616, 617, 618, 619, 620, 621, 664, 665, 666, 667, 668, 669, 670, 671, 672, 673, 674, 675, 655, 656, 657, 658, 659, 660, 661, 662, 663, 676, 677, 678] (by decide +kernel) (by decide +kernel)
set_option maxRecDepth 20000 in
theorem gL_law_X4_cut : GoodIn wsL_law (wsV RL 68 RX4 yX4_cut wsX4_cut) := goodIn_app (goodIn_of _ (by decide +kernel)) ggL_law_X4_cut
set_option maxRecDepth 20000 in
theorem ggL_law_X5_cut : GoodIn wsL_law wsX5_cut := goodIn_r _ [511, 172, 138, 198, 157, 139, 182, 183, 184, 5, 185, 171, 384, 385, 386, 387, 197, 153, 244, 245, 246, 247, 148, 149, 248, 249, 250, 251, 186, 187, 188, 189, 173, 622, 623, 624, 625, 626, 627, 628, 629, 630, 631, 632, 633, 634, 635, 636, 637, 638, 639, 640, 641, 642, 643, 644, 645, 646, 647, 648, 649, 650, 651, 652, 653, 654] (by decide +kernel) (by decide +kernel)
set_option maxRecDepth 20000 in
theorem gL_law_X5_cut : GoodIn wsL_law (wsV RL 71 RX5 yX5_cut wsX5_cut) := goodIn_app (goodIn_of _ (by decide +kernel)) ggL_law_X5_cut
