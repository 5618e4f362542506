set_option maxRecDepth 100000 in
theorem ggL_law_X6_cmp : GoodIn wsL_law wsX6_cmp := goodIn_r _ [507, 102, 130, 131, 132, 5, 133, 105, 249, 250, 251, 252, 100, 182, 183, 184, 185, 99, 635, 636, 637, 638, 639, 640, 641, 642, 643] rfl (by decide +kernel)
set_option maxRecDepth 100000 in
theorem gL_law_X6_cmp : GoodIn wsL_law (wsV RL 80 RX6 yX6_cmp wsX6_cmp) := goodIn_app (goodIn_of _ (by decide +kernel)) ggL_law_X6_cmp
set_option maxRecDepth 100000 in
theorem ggL_law_X5_sign : GoodIn wsL_law wsX5_sign := goodIn_r _ [511, 19, 111, 112, 113, 2, 114, 512, 513, 514, 21, 515, 57, 58, 626, 627, 628, 629, 630, 631, 632, 633, 634, 644, 645, 646] rfl (by decide +kernel)
set_option maxRecDepth 100000 in
theorem gL_law_X5_sign : GoodIn wsL_law (wsV RL 81 RX5 yX5_sign wsX5_sign) := goodIn_app (goodIn_of _ (by decide +kernel)) ggL_law_X5_sign
set_option maxRecDepth 100000 in
theorem ggL_law_X6_sign : GoodIn wsL_law wsX6_sign := goodIn_r _ [519, 102, 100, 130, 131, 132, 5, 133, 105, 635, 636, 637, 638, 639, 640, 641, 642, 643] rfl (by decide +kernel)
set_option maxRecDepth 100000 in
theorem gL_law_X6_sign : GoodIn wsL_law (wsV RL 84 RX6 yX6_sign wsX6_sign) := goodIn_app (goodIn_of _ (by decide +kernel)) ggL_law_X6_sign
set_option maxRecDepth 100000 in
theorem ggL_law_X5_length : GoodIn wsL_law wsX5_length := goodIn_r _ [523, 19, 167, 111, 112, 113, 2, 114, 399, 400, 401, 21, 402, 57, 56, 403, 354, 355, 356, 357, 626, 627, 628, 629, 630, 631, 632, 633, 634, 644, 645, 646] rfl (by decide +kernel)
set_option maxRecDepth 100000 in
theorem gL_law_X5_length : GoodIn wsL_law (wsV RL 85 RX5 yX5_length wsX5_length) := goodIn_app (goodIn_of _ (by decide +kernel)) ggL_law_X5_length
set_option maxRecDepth 100000 in
theorem ggL_law_X6_length : GoodIn wsL_law wsX6_length := goodIn_r _ [527, 100, 130, 131, 132, 5, 133, 105, 415, 416, 417, 418, 182, 183, 184, 185, 99, 635, 636, 637, 638, 639, 640, 641, 642, 643] rfl (by decide +kernel)
set_option maxRecDepth 100000 in
theorem gL_law_X6_length : GoodIn wsL_law (wsV RL 88 RX6 yX6_length wsX6_length) := goodIn_app (goodIn_of _ (by decide +kernel)) ggL_law_X6_length
