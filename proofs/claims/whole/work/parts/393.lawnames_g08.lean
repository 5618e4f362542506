set_option maxRecDepth 100000 in
theorem ggL_law_X6_written : GoodIn wsL_law wsX6_written := goodIn_r _ [581, 569, 103, 635, 636, 637, 638, 639, 640, 641, 642, 643] rfl (by decide +kernel)
set_option maxRecDepth 100000 in
theorem gL_law_X6_written : GoodIn wsL_law (wsV RL 100 RX6 yX6_written wsX6_written) := goodIn_app (goodIn_of _ (by decide +kernel)) ggL_law_X6_written
set_option maxRecDepth 100000 in
theorem ggL_law_X5_type : GoodIn wsL_law wsX5_type := goodIn_r _ [585, 40, 586, 587, 588, 589, 39, 590, 94, 591, 592, 593, 594, 93, 626, 627, 628, 629, 630, 631, 632, 633, 634, 659, 660] rfl (by decide +kernel)
set_option maxRecDepth 100000 in
theorem gL_law_X5_type : GoodIn wsL_law (wsV RL 103 RX5 yX5_type wsX5_type) := goodIn_app (goodIn_of _ (by decide +kernel)) ggL_law_X5_type
set_option maxRecDepth 100000 in
theorem ggL_law_X6_type : GoodIn wsL_law wsX6_type := goodIn_r _ [598, 599, 104, 635, 636, 637, 638, 639, 640, 641, 642, 643] rfl (by decide +kernel)
set_option maxRecDepth 100000 in
theorem gL_law_X6_type : GoodIn wsL_law (wsV RL 107 RX6 yX6_type wsX6_type) := goodIn_app (goodIn_of _ (by decide +kernel)) ggL_law_X6_type
set_option maxRecDepth 100000 in
theorem ggL_law_X5_read : GoodIn wsL_law wsX5_read := goodIn_r _ [603, 40, 22, 17, 586, 111, 112, 113, 2, 114, 19, 604, 605, 606, 39, 607, 94, 93, 608, 609, 610, 611, 612, 613, 614, 615, 616, 617, 618, 116, 117, 21, 118, 56, 119, 120, 46, 121, 122, 123, 124, 125, 57, 58, 619, 434, 435, 436, 232, 620, 270, 271, 272, 163, 164, 165, 166, 167, 168, 169, 170, 171, 159, 160, 161, 162, 626, 627, 628, 629, 630, 631, 632, 633, 634, 659, 660, 644, 645, 646] rfl (by decide +kernel)
set_option maxRecDepth 100000 in
theorem gL_law_X5_read : GoodIn wsL_law (wsV RL 108 RX5 yX5_read wsX5_read) := goodIn_app (goodIn_of _ (by decide +kernel)) ggL_law_X5_read
set_option maxRecDepth 100000 in
theorem ggL_law_X6_read : GoodIn wsL_law wsX6_read := goodIn_r _ [624, 599, 104, 100, 102, 625, 130, 131, 132, 5, 133, 105, 134, 135, 136, 137, 138, 139, 140, 141, 142, 99, 319, 320, 321, 322, 182, 183, 184, 185, 186, 187, 188, 189, 190, 191, 192, 193, 181, 143, 144, 145, 146, 106, 147, 148, 149, 150, 635, 636, 637, 638, 639, 640, 641, 642, 643] rfl (by decide +kernel)
set_option maxRecDepth 100000 in
theorem gL_law_X6_read : GoodIn wsL_law (wsV RL 111 RX6 yX6_read wsX6_read) := goodIn_app (goodIn_of _ (by decide +kernel)) ggL_law_X6_read
