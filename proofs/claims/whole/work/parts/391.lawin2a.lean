set_option maxRecDepth 20000 in
theorem wsL_in10_0 : ∀ w ∈ ([Cond.selects RX5 yX5_add yX5_add, Cond.code yX5_add cX5_add 4 (some .int), Cond.fieldLink RX5 88 "IntFile$Whole" "below" "Z", Cond.methodLink RX5 92 yX4_becomeSum, Cond.instanceMethod yX4_becomeSum] : List Cond), w ∈ lw_tbl := by decide +kernel
set_option maxRecDepth 20000 in
theorem wsL_in10_1 : ∀ w ∈ ([Cond.selects RX4 yX4_becomeSum yX4_becomeSum, Cond.code yX4_becomeSum cX4_becomeSum 4 none, Cond.methodLink RX4 59 Lib.Math.max.name, Cond.methodLink RX4 55 yX4_addSizes, Cond.instanceMethod yX4_addSizes] : List Cond), w ∈ lw_tbl := by decide +kernel
set_option maxRecDepth 20000 in
theorem wsL_in10_2 : ∀ w ∈ ([Cond.selects RX4 yX4_addSizes yX4_addSizes, Cond.code yX4_addSizes cX4_addSizes 9 none, Cond.methodLink RX4 66 yX4_limbOrZero, Cond.instanceMethod yX4_limbOrZero, Cond.selects RX4 yX4_limbOrZero yX4_limbOrZero] : List Cond), w ∈ lw_tbl := by decide +kernel
set_option maxRecDepth 20000 in
theorem wsL_in10_3 : ∀ w ∈ ([Cond.code yX4_limbOrZero cX4_limbOrZero 2 (some .long), Cond.constantLong RX4 31 (4294967295), Cond.methodLink RX4 27 yX4_compareSize, Cond.instanceMethod yX4_compareSize, Cond.selects RX4 yX4_compareSize yX4_compareSize] : List Cond), w ∈ lw_tbl := by decide +kernel
set_option maxRecDepth 20000 in
theorem wsL_in10_4 : ∀ w ∈ ([Cond.code yX4_compareSize cX4_compareSize 3 (some .int), Cond.methodLink RX4 63 yX4_subtractSizes, Cond.instanceMethod yX4_subtractSizes, Cond.selects RX4 yX4_subtractSizes yX4_subtractSizes] : List Cond), w ∈ lw_tbl := by decide +kernel
theorem wsL_in10 : ∀ w ∈ wsL_law_r10, w ∈ lw_tbl := by
  have h := (wsL_app wsL_in10_0 (wsL_app wsL_in10_1 (wsL_app wsL_in10_2 (wsL_app wsL_in10_3 wsL_in10_4))))
  exact h
set_option maxRecDepth 20000 in
theorem wsL_in11_0 : ∀ w ∈ ([Cond.code yX4_subtractSizes cX4_subtractSizes 8 none, Cond.methodLink RL 43 yX6_add, Cond.instanceMethod yX6_add, Cond.selects RX6 yX6_add yX6_add, Cond.code yX6_add cX6_add 4 (some .int)] : List Cond), w ∈ lw_tbl := by decide +kernel
set_option maxRecDepth 20000 in
theorem wsL_in11_1 : ∀ w ∈ ([Cond.methodLink RX6 80 yX6_sum, Cond.instanceMethod yX6_sum, Cond.selects RX6 yX6_sum yX6_sum, Cond.code yX6_sum cX6_sum 5 none, Cond.methodLink RX6 48 yX6_order] : List Cond), w ∈ lw_tbl := by decide +kernel
set_option maxRecDepth 20000 in
theorem wsL_in11_2 : ∀ w ∈ ([Cond.instanceMethod yX6_order, Cond.selects RX6 yX6_order yX6_order, Cond.code yX6_order cX6_order 4 (some .int), Cond.methodLink RX6 77 yX6_minus, Cond.instanceMethod yX6_minus] : List Cond), w ∈ lw_tbl := by decide +kernel
set_option maxRecDepth 20000 in
theorem wsL_in11_3 : ∀ w ∈ ([Cond.selects RX6 yX6_minus yX6_minus, Cond.code yX6_minus cX6_minus 8 none, Cond.methodLink RL 44 yX5_sub, Cond.instanceMethod yX5_sub, Cond.selects RX5 yX5_sub yX5_sub] : List Cond), w ∈ lw_tbl := by decide +kernel
set_option maxRecDepth 20000 in
theorem wsL_in11_4 : ∀ w ∈ ([Cond.code yX5_sub cX5_sub 4 (some .int), Cond.methodLink RL 47 yX6_sub, Cond.instanceMethod yX6_sub, Cond.selects RX6 yX6_sub yX6_sub] : List Cond), w ∈ lw_tbl := by decide +kernel
theorem wsL_in11 : ∀ w ∈ wsL_law_r11, w ∈ lw_tbl := by
  have h := (wsL_app wsL_in11_0 (wsL_app wsL_in11_1 (wsL_app wsL_in11_2 (wsL_app wsL_in11_3 wsL_in11_4))))
  exact h
set_option maxRecDepth 20000 in
theorem wsL_in12_0 : ∀ w ∈ ([Cond.code yX6_sub cX6_sub 4 (some .int), Cond.methodLink RL 48 yX5_mul, Cond.instanceMethod yX5_mul, Cond.selects RX5 yX5_mul yX5_mul, Cond.code yX5_mul cX5_mul 4 (some .int)] : List Cond), w ∈ lw_tbl := by decide +kernel
set_option maxRecDepth 20000 in
theorem wsL_in12_1 : ∀ w ∈ ([Cond.methodLink RX5 96 yX4_isZero, Cond.instanceMethod yX4_isZero, Cond.selects RX4 yX4_isZero yX4_isZero, Cond.code yX4_isZero cX4_isZero 1 (some .boolean), Cond.methodLink RX5 103 yX1_product] : List Cond), w ∈ lw_tbl := by decide +kernel
set_option maxRecDepth 20000 in
theorem wsL_in12_2 : ∀ w ∈ ([Cond.instanceMethod yX1_product, Cond.selects RX1 yX1_product yX1_product, Cond.code yX1_product cX1_product 7 none, Cond.fieldLink RX1 33 "IntFile$Whole" "count" "I", Cond.fieldLink RX1 38 "IntFile$Whole" "limbs" "[I"] : List Cond), w ∈ lw_tbl := by decide +kernel
set_option maxRecDepth 20000 in
theorem wsL_in12_3 : ∀ w ∈ ([Cond.methodLink RX1 41 arraycopyName, Cond.fieldLink RX1 51 "IntFile$Whole" "below" "Z", Cond.methodLink RX1 47 yX1_multiply, Cond.instanceMethod yX1_multiply, Cond.selects RX1 yX1_multiply yX1_multiply] : List Cond), w ∈ lw_tbl := by decide +kernel
set_option maxRecDepth 20000 in
theorem wsL_in12_4 : ∀ w ∈ ([Cond.code yX1_multiply cX1_multiply 9 none, Cond.methodLink RX1 59 yX1_multiplyByThree, Cond.instanceMethod yX1_multiplyByThree, Cond.selects RX1 yX1_multiplyByThree yX1_multiplyByThree] : List Cond), w ∈ lw_tbl := by decide +kernel
theorem wsL_in12 : ∀ w ∈ wsL_law_r12, w ∈ lw_tbl := by
  have h := (wsL_app wsL_in12_0 (wsL_app wsL_in12_1 (wsL_app wsL_in12_2 (wsL_app wsL_in12_3 wsL_in12_4))))
  exact h
