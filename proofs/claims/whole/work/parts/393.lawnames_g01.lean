set_option maxRecDepth 100000 in
theorem ggL_law_X5_push : GoodIn wsL_law wsX5_push := goodIn_r _ [154, 22, 19, 111, 112, 113, 2, 114, 155, 156, 157, 21, 158, 56, 57, 159, 160, 161, 162, 58, 122, 123, 124, 125, 163, 164, 165, 166, 167, 17, 168, 169, 170, 171, 626, 627, 628, 629, 630, 631, 632, 633, 634, 644, 645, 646] rfl (by decide +kernel)
set_option maxRecDepth 100000 in
theorem gL_law_X5_push : GoodIn wsL_law (wsV RL 26 RX5 yX5_push wsX5_push) := goodIn_app (goodIn_of _ (by decide +kernel)) ggL_law_X5_push
set_option maxRecDepth 100000 in
theorem ggL_law_X6_push : GoodIn wsL_law wsX6_push := goodIn_r _ [175, 176, 102, 100, 130, 131, 132, 5, 133, 105, 134, 135, 136, 137, 138, 139, 140, 141, 142, 99, 177, 178, 179, 180, 181, 182, 183, 184, 185, 186, 187, 188, 189, 190, 191, 192, 193, 143, 144, 145, 146, 106, 147, 148, 149, 150, 635, 636, 637, 638, 639, 640, 641, 642, 643] rfl (by decide +kernel)
set_option maxRecDepth 100000 in
theorem gL_law_X6_push : GoodIn wsL_law (wsV RL 29 RX6 yX6_push wsX6_push) := goodIn_app (goodIn_of _ (by decide +kernel)) ggL_law_X6_push
set_option maxRecDepth 100000 in
theorem ggL_law_X5_copy : GoodIn wsL_law wsX5_copy := goodIn_r _ [197, 19, 111, 112, 113, 2, 114, 168, 169, 170, 21, 171, 56, 57, 159, 160, 161, 162, 58, 626, 627, 628, 629, 630, 631, 632, 633, 634, 644, 645, 646] rfl (by decide +kernel)
set_option maxRecDepth 100000 in
theorem gL_law_X5_copy : GoodIn wsL_law (wsV RL 30 RX5 yX5_copy wsX5_copy) := goodIn_app (goodIn_of _ (by decide +kernel)) ggL_law_X5_copy
set_option maxRecDepth 100000 in
theorem ggL_law_X6_copy : GoodIn wsL_law wsX6_copy := goodIn_r _ [201, 130, 131, 132, 5, 133, 105, 147, 148, 149, 150, 100, 99, 102, 143, 144, 145, 146, 106, 635, 636, 637, 638, 639, 640, 641, 642, 643] rfl (by decide +kernel)
set_option maxRecDepth 100000 in
theorem gL_law_X6_copy : GoodIn wsL_law (wsV RL 33 RX6 yX6_copy wsX6_copy) := goodIn_app (goodIn_of _ (by decide +kernel)) ggL_law_X6_copy
set_option maxRecDepth 100000 in
theorem ggL_law_X5_neg : GoodIn wsL_law wsX5_neg := goodIn_r _ [205, 19, 111, 112, 113, 2, 114, 206, 207, 208, 21, 209, 58, 57, 626, 627, 628, 629, 630, 631, 632, 633, 634, 644, 645, 646] rfl (by decide +kernel)
set_option maxRecDepth 100000 in
theorem gL_law_X5_neg : GoodIn wsL_law (wsV RL 34 RX5 yX5_neg wsX5_neg) := goodIn_app (goodIn_of _ (by decide +kernel)) ggL_law_X5_neg
