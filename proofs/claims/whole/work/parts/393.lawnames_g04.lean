set_option maxRecDepth 100000 in
theorem ggL_law_X6_shl : GoodIn wsL_law wsX6_shl := goodIn_r _ [413, 100, 414, 106, 102, 130, 131, 132, 5, 133, 105, 415, 416, 417, 418, 182, 183, 184, 185, 99, 177, 178, 179, 180, 181, 139, 140, 141, 142, 186, 187, 188, 189, 143, 144, 145, 146, 147, 148, 149, 150, 635, 636, 637, 638, 639, 640, 641, 642, 643] rfl (by decide +kernel)
set_option maxRecDepth 100000 in
theorem gL_law_X6_shl : GoodIn wsL_law (wsV RL 60 RX6 yX6_shl wsX6_shl) := goodIn_app (goodIn_of _ (by decide +kernel)) ggL_law_X6_shl
set_option maxRecDepth 100000 in
theorem ggL_law_X5_shr : GoodIn wsL_law wsX5_shr := goodIn_r _ [422, 22, 19, 111, 112, 113, 2, 114, 423, 424, 425, 21, 426, 57, 427, 45, 46, 47, 56, 58, 428, 378, 379, 380, 232, 122, 123, 124, 125, 429, 430, 431, 432, 433, 434, 435, 436, 163, 164, 165, 166, 167, 17, 168, 169, 170, 171, 159, 160, 161, 162, 626, 627, 628, 629, 630, 631, 632, 633, 634, 644, 645, 646] rfl (by decide +kernel)
set_option maxRecDepth 100000 in
theorem gL_law_X5_shr : GoodIn wsL_law (wsV RL 61 RX5 yX5_shr wsX5_shr) := goodIn_app (goodIn_of _ (by decide +kernel)) ggL_law_X5_shr
set_option maxRecDepth 100000 in
theorem ggL_law_X6_shr : GoodIn wsL_law wsX6_shr := goodIn_r _ [440, 100, 414, 181, 102, 130, 131, 132, 5, 133, 105, 182, 183, 184, 185, 99, 390, 391, 392, 393, 139, 140, 141, 142, 186, 187, 188, 189, 134, 135, 136, 137, 138, 190, 191, 192, 193, 147, 148, 149, 150, 143, 144, 145, 146, 106, 635, 636, 637, 638, 639, 640, 641, 642, 643] rfl (by decide +kernel)
set_option maxRecDepth 100000 in
theorem gL_law_X6_shr : GoodIn wsL_law (wsV RL 64 RX6 yX6_shr wsX6_shr) := goodIn_app (goodIn_of _ (by decide +kernel)) ggL_law_X6_shr
set_option maxRecDepth 100000 in
theorem ggL_law_X5_gcd : GoodIn wsL_law wsX5_gcd := goodIn_r _ [444, 23, 19, 24, 445, 32, 328, 218, 111, 112, 113, 2, 114, 168, 169, 170, 21, 171, 56, 57, 159, 160, 161, 162, 58, 269, 270, 271, 272, 329, 330, 331, 31, 332, 77, 78, 333, 334, 335, 116, 117, 118, 119, 120, 46, 121, 122, 123, 124, 125, 336, 234, 235, 236, 232, 337, 338, 339, 340, 341, 342, 343, 344, 345, 346, 347, 348, 349, 350, 351, 352, 79, 80, 353, 354, 355, 356, 357, 358, 359, 360, 361, 362, 363, 364, 365, 366, 367, 368, 369, 370, 371, 372, 373, 374, 375, 376, 377, 378, 379, 380, 626, 627, 628, 629, 630, 631, 632, 633, 634, 653, 654, 655, 656, 644, 645, 646] rfl (by decide +kernel)
set_option maxRecDepth 100000 in
theorem gL_law_X5_gcd : GoodIn wsL_law (wsV RL 65 RX5 yX5_gcd wsX5_gcd) := goodIn_app (goodIn_of _ (by decide +kernel)) ggL_law_X5_gcd
set_option maxRecDepth 100000 in
theorem ggL_law_X6_gcd : GoodIn wsL_law wsX6_gcd := goodIn_r _ [449, 100, 102, 130, 131, 132, 5, 133, 105, 147, 148, 149, 150, 99, 385, 386, 387, 388, 389, 138, 181, 249, 250, 251, 252, 182, 183, 184, 185, 177, 178, 179, 180, 139, 140, 141, 142, 186, 187, 188, 189, 390, 391, 392, 393, 143, 144, 145, 146, 106, 635, 636, 637, 638, 639, 640, 641, 642, 643] rfl (by decide +kernel)
set_option maxRecDepth 100000 in
theorem gL_law_X6_gcd : GoodIn wsL_law (wsV RL 68 RX6 yX6_gcd wsX6_gcd) := goodIn_app (goodIn_of _ (by decide +kernel)) ggL_law_X6_gcd
