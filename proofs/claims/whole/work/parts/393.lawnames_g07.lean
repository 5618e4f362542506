set_option maxRecDepth 100000 in
theorem ggL_law_X5_limb : GoodIn wsL_law wsX5_limb := goodIn_r _ [531, 19, 167, 532, 111, 112, 113, 2, 114, 626, 627, 628, 629, 630, 631, 632, 633, 634, 644, 645, 646] rfl (by decide +kernel)
set_option maxRecDepth 100000 in
theorem gL_law_X5_limb : GoodIn wsL_law (wsV RL 89 RX5 yX5_limb wsX5_limb) := goodIn_app (goodIn_of _ (by decide +kernel)) ggL_law_X5_limb
set_option maxRecDepth 100000 in
theorem ggL_law_X6_limb : GoodIn wsL_law wsX6_limb := goodIn_r _ [536, 130, 131, 132, 5, 133, 105, 182, 183, 184, 185, 100, 99, 635, 636, 637, 638, 639, 640, 641, 642, 643] rfl (by decide +kernel)
set_option maxRecDepth 100000 in
theorem gL_law_X6_limb : GoodIn wsL_law (wsV RL 92 RX6 yX6_limb wsX6_limb) := goodIn_app (goodIn_of _ (by decide +kernel)) ggL_law_X6_limb
set_option maxRecDepth 100000 in
theorem ggL_law_X5_write : GoodIn wsL_law wsX5_write := goodIn_r _ [540, 36, 19, 22, 111, 112, 113, 2, 114, 541, 542, 543, 35, 544, 87, 88, 545, 546, 547, 169, 170, 21, 171, 56, 57, 159, 160, 161, 162, 58, 548, 549, 550, 551, 232, 122, 123, 124, 125, 552, 270, 271, 272, 553, 554, 555, 556, 557, 558, 559, 560, 561, 562, 563, 564, 626, 627, 628, 629, 630, 631, 632, 633, 634, 657, 658, 644, 645, 646] rfl (by decide +kernel)
set_option maxRecDepth 100000 in
theorem gL_law_X5_write : GoodIn wsL_law (wsV RL 93 RX5 yX5_write wsX5_write) := goodIn_app (goodIn_of _ (by decide +kernel)) ggL_law_X5_write
set_option maxRecDepth 100000 in
theorem ggL_law_X6_write : GoodIn wsL_law wsX6_write := goodIn_r _ [568, 100, 103, 102, 569, 130, 131, 132, 5, 133, 105, 147, 148, 149, 150, 99, 182, 183, 184, 185, 139, 140, 141, 142, 186, 187, 188, 189, 635, 636, 637, 638, 639, 640, 641, 642, 643] rfl (by decide +kernel)
set_option maxRecDepth 100000 in
theorem gL_law_X6_write : GoodIn wsL_law (wsV RL 96 RX6 yX6_write wsX6_write) := goodIn_app (goodIn_of _ (by decide +kernel)) ggL_law_X6_write
set_option maxRecDepth 100000 in
theorem ggL_law_X5_written : GoodIn wsL_law wsX5_written := goodIn_r _ [573, 36, 561, 562, 563, 35, 564, 87, 88, 574, 575, 576, 577, 626, 627, 628, 629, 630, 631, 632, 633, 634, 657, 658] rfl (by decide +kernel)
set_option maxRecDepth 100000 in
theorem gL_law_X5_written : GoodIn wsL_law (wsV RL 97 RX5 yX5_written wsX5_written) := goodIn_app (goodIn_of _ (by decide +kernel)) ggL_law_X5_written
