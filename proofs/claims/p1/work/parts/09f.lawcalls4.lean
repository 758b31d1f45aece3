set_option maxRecDepth 20000 in
theorem ggL_law_X4_join : GoodIn wsL_law wsX4_join := goodIn_r _ [515, 15, 219, 220, 221, 2, 222, 60, 76, 77, 78, 14, 79, 65, 80, 81, 82, 83, 32, 84, 85, 516, 517, 518, 519, 21, 98, 409, 408, 411, 26, 410, 520, 521, 522, 523, 124, 17, 275, 276, 277, 28, 278, 108, 50, 86, 524, 525, 526, 527, 25, 528, 529, 530, 531, 330, 123, 372, 373, 374, 375, 532, 533, 534, 535, 87, 88, 89, 90, 66, 612, 613, 614, 615, 616, 617, 618, 619, 620, 621, 655, 656, 657, 658, 659, 660, 661, 662, 663, 664, 665, 666, 667, 668, 669, 670, 671, 672, 673, 674, 675] (by decide +kernel) (by decide +kernel)
set_option maxRecDepth 20000 in
theorem gL_law_X4_join : GoodIn wsL_law (wsV RL 72 RX4 yX4_join wsX4_join) := goodIn_app (goodIn_of _ (by decide +kernel)) ggL_law_X4_join
set_option maxRecDepth 20000 in
theorem ggL_law_X5_join : GoodIn wsL_law wsX5_join := goodIn_r _ [539, 172, 161, 162, 139, 140, 151, 152, 178, 179, 180, 5, 181, 171, 138, 182, 183, 184, 185, 540, 541, 542, 543, 197, 154, 156, 153, 186, 187, 188, 189, 173, 622, 623, 624, 625, 626, 627, 628, 629, 630, 631, 632, 633, 634, 635, 636, 637, 638, 639, 640, 641, 642, 643, 644, 645, 646, 647, 648, 649, 650, 651, 652, 653, 654] (by decide +kernel) (by decide +kernel)
set_option maxRecDepth 20000 in
theorem gL_law_X5_join : GoodIn wsL_law (wsV RL 75 RX5 yX5_join wsX5_join) := goodIn_app (goodIn_of _ (by decide +kernel)) ggL_law_X5_join
set_option maxRecDepth 20000 in
theorem ggL_law_X4_holder : GoodIn wsL_law wsX4_holder := goodIn_r _ [547, 60, 520, 521, 522, 2, 523, 15, 124, 17, 275, 276, 277, 28, 278, 108, 50, 612, 613, 614, 615, 616, 617, 618, 619, 620, 621, 655, 656, 657, 664, 665, 666, 667, 668, 669, 670, 671, 672, 673, 674, 675] (by decide +kernel) (by decide +kernel)
set_option maxRecDepth 20000 in
theorem gL_law_X4_holder : GoodIn wsL_law (wsV RL 76 RX4 yX4_holder wsX4_holder) := goodIn_app (goodIn_of _ (by decide +kernel)) ggL_law_X4_holder
set_option maxRecDepth 20000 in
theorem ggL_law_X5_holder : GoodIn wsL_law wsX5_holder := goodIn_r _ [551, 172, 171, 139, 622, 623, 624, 625, 626, 627, 628, 629, 630, 631, 632, 633, 634, 635, 636, 637, 638, 639, 640, 641, 642, 643, 644, 645, 646, 647, 648, 649, 650, 651, 652, 653, 654] (by decide +kernel) (by decide +kernel)
set_option maxRecDepth 20000 in
theorem gL_law_X5_holder : GoodIn wsL_law (wsV RL 80 RX5 yX5_holder wsX5_holder) := goodIn_app (goodIn_of _ (by decide +kernel)) ggL_law_X5_holder
set_option maxRecDepth 20000 in
theorem ggL_law_X4_pointer : GoodIn wsL_law wsX4_pointer := goodIn_r _ [555, 17, 123, 219, 220, 221, 2, 222, 60, 15, 76, 77, 78, 14, 79, 65, 612, 613, 614, 615, 616, 617, 618, 619, 620, 621, 664, 665, 666, 667, 668, 669, 670, 671, 672, 673, 674, 675, 655, 656, 657] (by decide +kernel) (by decide +kernel)
set_option maxRecDepth 20000 in
theorem gL_law_X4_pointer : GoodIn wsL_law (wsV RL 81 RX4 yX4_pointer wsX4_pointer) := goodIn_app (goodIn_of _ (by decide +kernel)) ggL_law_X4_pointer
set_option maxRecDepth 20000 in
theorem ggL_law_X5_pointer : GoodIn wsL_law wsX5_pointer := goodIn_r _ [559, 172, 139, 182, 183, 184, 5, 185, 171, 622, 623, 624, 625, 626, 627, 628, 629, 630, 631, 632, 633, 634, 635, 636, 637, 638, 639, 640, 641, 642, 643, 644, 645, 646, 647, 648, 649, 650, 651, 652, 653, 654] (by decide +kernel) (by decide +kernel)
set_option maxRecDepth 20000 in
theorem gL_law_X5_pointer : GoodIn wsL_law (wsV RL 84 RX5 yX5_pointer wsX5_pointer) := goodIn_app (goodIn_of _ (by decide +kernel)) ggL_law_X5_pointer
set_option maxRecDepth 20000 in
theorem ggL_law_X4_queue : GoodIn wsL_law wsX4_queue := goodIn_r _ [563, 17, 210, 213, 564, 260, 219, 220, 221, 2, 222, 60, 15, 76, 77, 78, 14, 79, 65, 612, 613, 614, 615, 616, 617, 618, 619, 620, 621, 664, 665, 666, 667, 668, 669, 670, 671, 672, 673, 674, 675, 676, 677, 678, 655, 656, 657] (by decide +kernel) (by decide +kernel)
set_option maxRecDepth 20000 in
theorem gL_law_X4_queue : GoodIn wsL_law (wsV RL 85 RX4 yX4_queue wsX4_queue) := goodIn_app (goodIn_of _ (by decide +kernel)) ggL_law_X4_queue
set_option maxRecDepth 20000 in
theorem ggL_law_X5_queue : GoodIn wsL_law wsX5_queue := goodIn_r _ [568, 172, 148, 150, 149, 182, 183, 184, 5, 185, 171, 248, 249, 250, 251, 622, 623, 624, 625, 626, 627, 628, 629, 630, 631, 632, 633, 634, 635, 636, 637, 638, 639, 640, 641, 642, 643, 644, 645, 646, 647, 648, 649, 650, 651, 652, 653, 654] (by decide +kernel) (by decide +kernel)
