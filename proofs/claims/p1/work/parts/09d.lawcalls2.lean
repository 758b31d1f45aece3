set_option maxRecDepth 20000 in
theorem ggL_law_X5_step : GoodIn wsL_law wsX5_step := goodIn_r _ [379, 148, 139, 149, 141, 143, 140, 194, 144, 240, 241, 242, 5, 243, 172, 142, 182, 183, 184, 185, 171, 301, 302, 303, 304, 195, 150, 244, 245, 246, 247, 248, 249, 250, 251, 305, 306, 307, 308, 380, 381, 382, 383, 153, 197, 154, 155, 156, 151, 384, 385, 386, 387, 388, 389, 390, 391, 392, 393, 394, 395, 198, 157, 158, 159, 160, 396, 397, 398, 399, 400, 401, 402, 403, 622, 623, 624, 625, 626, 627, 628, 629, 630, 631, 632, 633, 634, 635, 636, 637, 638, 639, 640, 641, 642, 643, 644, 645, 646, 647, 648, 649, 650, 651, 652, 653, 654] (by decide +kernel) (by decide +kernel)
set_option maxRecDepth 20000 in
theorem gL_law_X5_step : GoodIn wsL_law (wsV RL 43 RX5 yX5_step wsX5_step) := goodIn_app (goodIn_of _ (by decide +kernel)) ggL_law_X5_step
set_option maxRecDepth 20000 in
theorem ggL_law_X4_deliver : GoodIn wsL_law wsX4_deliver := goodIn_r _ [407, 22, 408, 409, 410, 411, 412, 17, 218, 26, 413, 414, 415, 2, 416, 60, 98, 417, 418, 419, 20, 420, 37, 349, 38, 39, 40, 41, 287, 288, 289, 290, 291, 292, 421, 422, 423, 424, 21, 345, 346, 347, 348, 354, 355, 356, 357, 358, 359, 360, 361, 362, 351, 352, 353, 425, 426, 427, 428, 210, 123, 330, 429, 430, 431, 48, 432, 55, 433, 434, 285, 435, 436, 228, 229, 230, 231, 54, 437, 233, 234, 235, 350, 612, 613, 614, 615, 616, 617, 618, 619, 620, 621, 658, 659, 660, 661, 662, 663, 664, 665, 666, 667, 668, 669, 670, 671, 672, 673, 674, 675, 676, 677, 678] (by decide +kernel) (by decide +kernel)
set_option maxRecDepth 20000 in
theorem gL_law_X4_deliver : GoodIn wsL_law (wsV RL 44 RX4 yX4_deliver wsX4_deliver) := goodIn_app (goodIn_of _ (by decide +kernel)) ggL_law_X4_deliver
set_option maxRecDepth 20000 in
theorem ggL_law_X5_deliver : GoodIn wsL_law wsX5_deliver := goodIn_r _ [441, 172, 198, 157, 158, 159, 160, 142, 156, 152, 139, 140, 442, 443, 444, 5, 445, 384, 385, 386, 387, 197, 153, 446, 447, 448, 449, 154, 155, 388, 389, 390, 391, 392, 393, 394, 395, 252, 253, 254, 255, 148, 149, 150, 244, 245, 246, 247, 248, 249, 250, 251, 622, 623, 624, 625, 626, 627, 628, 629, 630, 631, 632, 633, 634, 635, 636, 637, 638, 639, 640, 641, 642, 643, 644, 645, 646, 647, 648, 649, 650, 651, 652, 653, 654] (by decide +kernel) (by decide +kernel)
set_option maxRecDepth 20000 in
theorem gL_law_X5_deliver : GoodIn wsL_law (wsV RL 47 RX5 yX5_deliver wsX5_deliver) := goodIn_app (goodIn_of _ (by decide +kernel)) ggL_law_X5_deliver
set_option maxRecDepth 20000 in
theorem ggL_law_X4_lose : GoodIn wsL_law wsX4_lose := goodIn_r _ [453, 22, 98, 413, 414, 415, 2, 416, 60, 417, 418, 419, 20, 420, 37, 349, 38, 39, 40, 41, 287, 288, 289, 290, 291, 292, 612, 613, 614, 615, 616, 617, 618, 619, 620, 621, 658, 659, 660, 661, 662, 663] (by decide +kernel) (by decide +kernel)
set_option maxRecDepth 20000 in
theorem gL_law_X4_lose : GoodIn wsL_law (wsV RL 48 RX4 yX4_lose wsX4_lose) := goodIn_app (goodIn_of _ (by decide +kernel)) ggL_law_X4_lose
set_option maxRecDepth 20000 in
theorem ggL_law_X5_lose : GoodIn wsL_law wsX5_lose := goodIn_r _ [457, 172, 198, 442, 443, 444, 5, 445, 157, 158, 159, 160, 622, 623, 624, 625, 626, 627, 628, 629, 630, 631, 632, 633, 634, 635, 636, 637, 638, 639, 640, 641, 642, 643, 644, 645, 646, 647, 648, 649, 650, 651, 652, 653, 654] (by decide +kernel) (by decide +kernel)
set_option maxRecDepth 20000 in
theorem gL_law_X5_lose : GoodIn wsL_law (wsV RL 51 RX5 yX5_lose wsX5_lose) := goodIn_app (goodIn_of _ (by decide +kernel)) ggL_law_X5_lose
set_option maxRecDepth 20000 in
theorem ggL_law_X4_twin : GoodIn wsL_law wsX4_twin := goodIn_r _ [461, 22, 98, 413, 414, 415, 2, 416, 60, 358, 359, 360, 20, 361, 37, 38, 39, 40, 41, 362, 351, 352, 353, 349, 612, 613, 614, 615, 616, 617, 618, 619, 620, 621, 658, 659, 660, 661, 662, 663] (by decide +kernel) (by decide +kernel)
set_option maxRecDepth 20000 in
theorem gL_law_X4_twin : GoodIn wsL_law (wsV RL 52 RX4 yX4_twin wsX4_twin) := goodIn_app (goodIn_of _ (by decide +kernel)) ggL_law_X4_twin
set_option maxRecDepth 20000 in
theorem ggL_law_X5_twin : GoodIn wsL_law wsX5_twin := goodIn_r _ [465, 172, 198, 157, 158, 159, 160, 392, 393, 394, 5, 395, 622, 623, 624, 625, 626, 627, 628, 629, 630, 631, 632, 633, 634, 635, 636, 637, 638, 639, 640, 641, 642, 643, 644, 645, 646, 647, 648, 649, 650, 651, 652, 653, 654] (by decide +kernel) (by decide +kernel)
set_option maxRecDepth 20000 in
theorem gL_law_X5_twin : GoodIn wsL_law (wsV RL 55 RX5 yX5_twin wsX5_twin) := goodIn_app (goodIn_of _ (by decide +kernel)) ggL_law_X5_twin
set_option maxRecDepth 20000 in
theorem ggL_law_X4_resend : GoodIn wsL_law wsX4_resend := goodIn_r _ [469, 15, 124, 22, 98, 214, 215, 216, 2, 217, 17, 218, 219, 220, 221, 222, 60, 76, 77, 78, 14, 79, 65, 354, 355, 356, 357, 21, 345, 346, 347, 20, 348, 349, 38, 39, 358, 359, 360, 361, 37, 40, 41, 362, 351, 352, 353, 612, 613, 614, 615, 616, 617, 618, 619, 620, 621, 655, 656, 657, 658, 659, 660, 661, 662, 663, 664, 665, 666, 667, 668, 669, 670, 671, 672, 673, 674, 675] (by decide +kernel) (by decide +kernel)
