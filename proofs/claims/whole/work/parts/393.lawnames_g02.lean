set_option maxRecDepth 100000 in
theorem ggL_law_X6_neg : GoodIn wsL_law wsX6_neg := goodIn_r _ [213, 102, 100, 130, 131, 132, 5, 133, 105, 635, 636, 637, 638, 639, 640, 641, 642, 643] rfl (by decide +kernel)
set_option maxRecDepth 100000 in
theorem gL_law_X6_neg : GoodIn wsL_law (wsV RL 38 RX6 yX6_neg wsX6_neg) := goodIn_app (goodIn_of _ (by decide +kernel)) ggL_law_X6_neg
set_option maxRecDepth 100000 in
theorem ggL_law_X5_add : GoodIn wsL_law wsX5_add := goodIn_r _ [217, 22, 19, 218, 111, 112, 113, 2, 114, 219, 220, 221, 21, 222, 58, 57, 223, 49, 46, 50, 224, 225, 226, 227, 56, 228, 229, 230, 231, 232, 122, 123, 124, 125, 233, 234, 235, 236, 237, 238, 239, 240, 163, 164, 165, 166, 167, 17, 168, 169, 170, 171, 159, 160, 161, 162, 626, 627, 628, 629, 630, 631, 632, 633, 634, 644, 645, 646] rfl (by decide +kernel)
set_option maxRecDepth 100000 in
theorem gL_law_X5_add : GoodIn wsL_law (wsV RL 39 RX5 yX5_add wsX5_add) := goodIn_app (goodIn_of _ (by decide +kernel)) ggL_law_X5_add
set_option maxRecDepth 100000 in
theorem ggL_law_X6_add : GoodIn wsL_law wsX6_add := goodIn_r _ [244, 130, 131, 132, 5, 133, 105, 245, 246, 247, 248, 102, 100, 190, 191, 192, 193, 181, 182, 183, 184, 185, 99, 139, 140, 141, 142, 186, 187, 188, 189, 249, 250, 251, 252, 253, 254, 255, 256, 143, 144, 145, 146, 106, 147, 148, 149, 150, 635, 636, 637, 638, 639, 640, 641, 642, 643] rfl (by decide +kernel)
set_option maxRecDepth 100000 in
theorem gL_law_X6_add : GoodIn wsL_law (wsV RL 43 RX6 yX6_add wsX6_add) := goodIn_app (goodIn_of _ (by decide +kernel)) ggL_law_X6_add
set_option maxRecDepth 100000 in
theorem ggL_law_X5_sub : GoodIn wsL_law wsX5_sub := goodIn_r _ [260, 22, 19, 218, 111, 112, 113, 2, 114, 219, 220, 221, 21, 222, 58, 57, 223, 49, 46, 50, 224, 225, 226, 227, 56, 228, 229, 230, 231, 232, 122, 123, 124, 125, 233, 234, 235, 236, 237, 238, 239, 240, 163, 164, 165, 166, 167, 17, 168, 169, 170, 171, 159, 160, 161, 162, 626, 627, 628, 629, 630, 631, 632, 633, 634, 644, 645, 646] rfl (by decide +kernel)
set_option maxRecDepth 100000 in
theorem gL_law_X5_sub : GoodIn wsL_law (wsV RL 44 RX5 yX5_sub wsX5_sub) := goodIn_app (goodIn_of _ (by decide +kernel)) ggL_law_X5_sub
set_option maxRecDepth 100000 in
theorem ggL_law_X6_sub : GoodIn wsL_law wsX6_sub := goodIn_r _ [264, 130, 131, 132, 5, 133, 105, 245, 246, 247, 248, 102, 100, 190, 191, 192, 193, 181, 182, 183, 184, 185, 99, 139, 140, 141, 142, 186, 187, 188, 189, 249, 250, 251, 252, 253, 254, 255, 256, 143, 144, 145, 146, 106, 147, 148, 149, 150, 635, 636, 637, 638, 639, 640, 641, 642, 643] rfl (by decide +kernel)
set_option maxRecDepth 100000 in
theorem gL_law_X6_sub : GoodIn wsL_law (wsV RL 47 RX6 yX6_sub wsX6_sub) := goodIn_app (goodIn_of _ (by decide +kernel)) ggL_law_X6_sub
