set_option maxRecDepth 20000 in
theorem wsL_in13_0 : ∀ w ∈ ([Cond.methodLink RX1 62 yX1_multiplyLong, Cond.instanceMethod yX1_multiplyLong, Cond.selects RX1 yX1_multiplyLong yX1_multiplyLong, Cond.code yX1_multiplyLong cX1_multiplyLong 14 none, Cond.constantLong RX1 72 (4294967295)] : List Cond), w ∈ lw_tbl := by decide +kernel
set_option maxRecDepth 20000 in
theorem wsL_in13_1 : ∀ w ∈ ([Cond.methodLink RX1 66 yJ7_fill_fda19, Cond.static yJ7_fill_fda19, Cond.initialized RJ7, Cond.code yJ7_fill_fda19 cJ7_fill_fda19 5 none, Cond.methodLink RJ7 13 yJ7_rangeCheck_23922] : List Cond), w ∈ lw_tbl := by decide +kernel
set_option maxRecDepth 20000 in
theorem wsL_in13_2 : ∀ w ∈ ([Cond.static yJ7_rangeCheck_23922, Cond.code yJ7_rangeCheck_23922 cJ7_rangeCheck_23922 3 none, Cond.code yX1_multiplyByThree cX1_multiplyByThree 15 none, Cond.methodLink RX1 81 Lib.Math.min.name, Cond.methodLink RX1 74 yX1_sumHalves] : List Cond), w ∈ lw_tbl := by decide +kernel
set_option maxRecDepth 20000 in
theorem wsL_in13_3 : ∀ w ∈ ([Cond.instanceMethod yX1_sumHalves, Cond.selects RX1 yX1_sumHalves yX1_sumHalves, Cond.code yX1_sumHalves cX1_sumHalves 5 none, Cond.methodLink RX1 87 yX1_addAt, Cond.instanceMethod yX1_addAt] : List Cond), w ∈ lw_tbl := by decide +kernel
set_option maxRecDepth 20000 in
theorem wsL_in13_4 : ∀ w ∈ ([Cond.selects RX1 yX1_addAt yX1_addAt, Cond.code yX1_addAt cX1_addAt 10 none, Cond.methodLink RX1 78 yX1_subtractAt, Cond.instanceMethod yX1_subtractAt] : List Cond), w ∈ lw_tbl := by decide +kernel
theorem wsL_in13 : ∀ w ∈ wsL_law_r13, w ∈ lw_tbl := by
  have h := (wsL_app wsL_in13_0 (wsL_app wsL_in13_1 (wsL_app wsL_in13_2 (wsL_app wsL_in13_3 wsL_in13_4))))
  exact h
set_option maxRecDepth 20000 in
theorem wsL_in14_0 : ∀ w ∈ ([Cond.selects RX1 yX1_subtractAt yX1_subtractAt, Cond.code yX1_subtractAt cX1_subtractAt 10 none, Cond.methodLink RX1 55 yX4_settle, Cond.methodLink RL 51 yX6_mul, Cond.instanceMethod yX6_mul] : List Cond), w ∈ lw_tbl := by decide +kernel
set_option maxRecDepth 20000 in
theorem wsL_in14_1 : ∀ w ∈ ([Cond.selects RX6 yX6_mul yX6_mul, Cond.code yX6_mul cX6_mul 4 (some .int), Cond.methodLink RX6 84 yX6_times, Cond.instanceMethod yX6_times, Cond.selects RX6 yX6_times yX6_times] : List Cond), w ∈ lw_tbl := by decide +kernel
set_option maxRecDepth 20000 in
theorem wsL_in14_2 : ∀ w ∈ ([Cond.code yX6_times cX6_times 13 none, Cond.methodLink RL 52 yX5_divMod, Cond.instanceMethod yX5_divMod, Cond.selects RX5 yX5_divMod yX5_divMod, Cond.code yX5_divMod cX5_divMod 5 (some .int)] : List Cond), w ∈ lw_tbl := by decide +kernel
set_option maxRecDepth 20000 in
theorem wsL_in14_3 : ∀ w ∈ ([Cond.fieldLink RX5 111 "IntFile$Division" "quotient" "LIntFile$Whole;", Cond.fieldLink RX5 114 "IntFile$Division" "rest" "LIntFile$Whole;", Cond.methodLink RX5 107 yX0_divide, Cond.instanceMethod yX0_divide, Cond.selects RX0 yX0_divide yX0_divide] : List Cond), w ∈ lw_tbl := by decide +kernel
set_option maxRecDepth 20000 in
theorem wsL_in14_4 : ∀ w ∈ ([Cond.code yX0_divide cX0_divide 3 none, Cond.fieldLink RX0 43 "IntFile$Whole" "count" "I", Cond.methodLink RX0 28 yX4_isZero, Cond.methodLink RX0 32 yX4_becomeInt] : List Cond), w ∈ lw_tbl := by decide +kernel
theorem wsL_in14 : ∀ w ∈ wsL_law_r14, w ∈ lw_tbl := by
  have h := (wsL_app wsL_in14_0 (wsL_app wsL_in14_1 (wsL_app wsL_in14_2 (wsL_app wsL_in14_3 wsL_in14_4))))
  exact h
set_option maxRecDepth 20000 in
theorem wsL_in15_0 : ∀ w ∈ ([Cond.methodLink RX0 35 yX4_compareSize, Cond.methodLink RX0 39 yX4_become, Cond.methodLink RX0 47 yX0_divideByLimb, Cond.instanceMethod yX0_divideByLimb, Cond.selects RX0 yX0_divideByLimb yX0_divideByLimb] : List Cond), w ∈ lw_tbl := by decide +kernel
set_option maxRecDepth 20000 in
theorem wsL_in15_1 : ∀ w ∈ ([Cond.code yX0_divideByLimb cX0_divideByLimb 12 none, Cond.fieldLink RX0 54 "IntFile$Whole" "limbs" "[I", Cond.constantLong RX0 57 (4294967295), Cond.fieldLink RX0 63 "IntFile$Whole" "below" "Z", Cond.methodLink RX0 59 yX0_divideUnsigned] : List Cond), w ∈ lw_tbl := by decide +kernel
set_option maxRecDepth 20000 in
theorem wsL_in15_2 : ∀ w ∈ ([Cond.static yX0_divideUnsigned, Cond.code yX0_divideUnsigned cX0_divideUnsigned 6 (some .long), Cond.methodLink RX0 67 yX4_settle, Cond.methodLink RX0 51 yX0_divideLong, Cond.instanceMethod yX0_divideLong] : List Cond), w ∈ lw_tbl := by decide +kernel
set_option maxRecDepth 20000 in
theorem wsL_in15_3 : ∀ w ∈ ([Cond.selects RX0 yX0_divideLong yX0_divideLong, Cond.code yX0_divideLong cX0_divideLong 7 none, Cond.methodLink RX0 71 yJ6_numberOfLeadingZeros_0f7a4, Cond.static yJ6_numberOfLeadingZeros_0f7a4, Cond.initialized RJ6] : List Cond), w ∈ lw_tbl := by decide +kernel
set_option maxRecDepth 20000 in
theorem wsL_in15_4 : ∀ w ∈ ([Cond.code yJ6_numberOfLeadingZeros_0f7a4 cJ6_numberOfLeadingZeros_0f7a4 2 (some .int), Cond.constant RJ6 264 (65536), Cond.methodLink RX0 77 yX4_shiftUp, Cond.static yX4_shiftUp] : List Cond), w ∈ lw_tbl := by decide +kernel
theorem wsL_in15 : ∀ w ∈ wsL_law_r15, w ∈ lw_tbl := by
  have h := (wsL_app wsL_in15_0 (wsL_app wsL_in15_1 (wsL_app wsL_in15_2 (wsL_app wsL_in15_3 wsL_in15_4))))
  exact h
