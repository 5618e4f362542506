set_option maxRecDepth 100000 in
theorem ggL_law_X5_mul : GoodIn wsL_law wsX5_mul := goodIn_r _ [268, 19, 167, 17, 28, 22, 111, 112, 113, 2, 114, 269, 270, 271, 21, 272, 57, 273, 274, 275, 27, 276, 277, 278, 68, 64, 279, 160, 161, 162, 65, 66, 67, 280, 281, 282, 283, 284, 63, 285, 286, 287, 288, 289, 290, 291, 292, 293, 294, 295, 296, 297, 298, 299, 300, 301, 45, 46, 47, 302, 303, 304, 305, 306, 307, 308, 309, 310, 311, 312, 313, 314, 123, 124, 125, 56, 58, 163, 164, 165, 166, 168, 169, 170, 171, 159, 626, 627, 628, 629, 630, 631, 632, 633, 634, 644, 645, 646, 647, 648, 649, 650, 651, 652] rfl (by decide +kernel)
set_option maxRecDepth 100000 in
theorem gL_law_X5_mul : GoodIn wsL_law (wsV RL 48 RX5 yX5_mul wsX5_mul) := goodIn_app (goodIn_of _ (by decide +kernel)) ggL_law_X5_mul
set_option maxRecDepth 100000 in
theorem ggL_law_X6_mul : GoodIn wsL_law wsX6_mul := goodIn_r _ [318, 102, 100, 130, 131, 132, 5, 133, 105, 319, 320, 321, 322, 99, 138, 139, 140, 141, 142, 182, 183, 184, 185, 186, 187, 188, 189, 143, 144, 145, 146, 106, 147, 148, 149, 150, 635, 636, 637, 638, 639, 640, 641, 642, 643] rfl (by decide +kernel)
set_option maxRecDepth 100000 in
theorem gL_law_X6_mul : GoodIn wsL_law (wsV RL 51 RX6 yX6_mul wsX6_mul) := goodIn_app (goodIn_of _ (by decide +kernel)) ggL_law_X6_mul
set_option maxRecDepth 100000 in
theorem ggL_law_X5_divMod : GoodIn wsL_law wsX5_divMod := goodIn_r _ [326, 19, 32, 327, 328, 111, 112, 113, 2, 114, 269, 270, 271, 21, 272, 57, 329, 330, 331, 31, 332, 77, 78, 333, 334, 335, 116, 117, 118, 56, 119, 120, 46, 121, 122, 123, 124, 125, 58, 336, 234, 235, 236, 232, 337, 169, 170, 171, 159, 160, 161, 162, 338, 339, 340, 341, 342, 343, 344, 345, 346, 347, 348, 349, 350, 351, 352, 79, 80, 353, 354, 355, 356, 357, 358, 359, 360, 361, 362, 363, 364, 365, 366, 367, 368, 369, 370, 371, 372, 373, 374, 375, 376, 377, 378, 379, 380, 168, 626, 627, 628, 629, 630, 631, 632, 633, 634, 653, 654, 655, 656, 644, 645, 646] rfl (by decide +kernel)
set_option maxRecDepth 100000 in
theorem gL_law_X5_divMod : GoodIn wsL_law (wsV RL 52 RX5 yX5_divMod wsX5_divMod) := goodIn_app (goodIn_of _ (by decide +kernel)) ggL_law_X5_divMod
set_option maxRecDepth 100000 in
theorem ggL_law_X6_divMod : GoodIn wsL_law wsX6_divMod := goodIn_r _ [384, 100, 102, 130, 131, 132, 5, 133, 105, 385, 386, 387, 388, 389, 99, 138, 181, 249, 250, 251, 252, 182, 183, 184, 185, 147, 148, 149, 150, 177, 178, 179, 180, 139, 140, 141, 142, 186, 187, 188, 189, 390, 391, 392, 393, 635, 636, 637, 638, 639, 640, 641, 642, 643] rfl (by decide +kernel)
set_option maxRecDepth 100000 in
theorem gL_law_X6_divMod : GoodIn wsL_law (wsV RL 56 RX6 yX6_divMod wsX6_divMod) := goodIn_app (goodIn_of _ (by decide +kernel)) ggL_law_X6_divMod
set_option maxRecDepth 100000 in
theorem ggL_law_X5_shl : GoodIn wsL_law wsX5_shl := goodIn_r _ [397, 19, 17, 398, 22, 111, 112, 113, 2, 114, 269, 270, 271, 21, 272, 57, 115, 116, 117, 118, 56, 119, 120, 46, 121, 122, 123, 124, 125, 58, 399, 400, 401, 402, 403, 354, 355, 356, 357, 404, 405, 406, 407, 408, 294, 295, 296, 297, 298, 299, 409, 359, 360, 232, 163, 164, 165, 166, 167, 168, 169, 170, 171, 159, 160, 161, 162, 626, 627, 628, 629, 630, 631, 632, 633, 634, 644, 645, 646] rfl (by decide +kernel)
set_option maxRecDepth 100000 in
theorem gL_law_X5_shl : GoodIn wsL_law (wsV RL 57 RX5 yX5_shl wsX5_shl) := goodIn_app (goodIn_of _ (by decide +kernel)) ggL_law_X5_shl
