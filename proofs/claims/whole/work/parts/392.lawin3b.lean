set_option maxRecDepth 20000 in
theorem wsL_in22_0 : ∀ w ∈ ([Cond.methodLink RL 80 yX6_cmp, Cond.instanceMethod yX6_cmp, Cond.selects RX6 yX6_cmp yX6_cmp, Cond.code yX6_cmp cX6_cmp 3 (some .int), Cond.methodLink RL 81 yX5_sign] : List Cond), w ∈ lw_tbl := by decide +kernel
set_option maxRecDepth 20000 in
theorem wsL_in22_1 : ∀ w ∈ ([Cond.instanceMethod yX5_sign, Cond.selects RX5 yX5_sign yX5_sign, Cond.code yX5_sign cX5_sign 2 (some .int), Cond.methodLink RX5 149 yX4_side, Cond.instanceMethod yX4_side] : List Cond), w ∈ lw_tbl := by decide +kernel
set_option maxRecDepth 20000 in
theorem wsL_in22_2 : ∀ w ∈ ([Cond.selects RX4 yX4_side yX4_side, Cond.code yX4_side cX4_side 1 (some .int), Cond.methodLink RL 84 yX6_sign, Cond.instanceMethod yX6_sign, Cond.selects RX6 yX6_sign yX6_sign] : List Cond), w ∈ lw_tbl := by decide +kernel
set_option maxRecDepth 20000 in
theorem wsL_in22_3 : ∀ w ∈ ([Cond.code yX6_sign cX6_sign 2 (some .int), Cond.methodLink RL 85 yX5_length, Cond.instanceMethod yX5_length, Cond.selects RX5 yX5_length yX5_length, Cond.code yX5_length cX5_length 3 (some .int)] : List Cond), w ∈ lw_tbl := by decide +kernel
set_option maxRecDepth 20000 in
theorem wsL_in22_4 : ∀ w ∈ ([Cond.methodLink RL 88 yX6_length, Cond.instanceMethod yX6_length, Cond.selects RX6 yX6_length yX6_length, Cond.code yX6_length cX6_length 3 (some .int)] : List Cond), w ∈ lw_tbl := by decide +kernel
theorem wsL_in22 : ∀ w ∈ wsL_law_r22, w ∈ lw_tbl := by
  have h := (wsL_app wsL_in22_0 (wsL_app wsL_in22_1 (wsL_app wsL_in22_2 (wsL_app wsL_in22_3 wsL_in22_4))))
  exact h
set_option maxRecDepth 20000 in
theorem wsL_in23_0 : ∀ w ∈ ([Cond.methodLink RL 89 yX5_limb, Cond.instanceMethod yX5_limb, Cond.selects RX5 yX5_limb yX5_limb, Cond.code yX5_limb cX5_limb 3 (some .int), Cond.fieldLink RX5 152 "IntFile$Whole" "limbs" "[I"] : List Cond), w ∈ lw_tbl := by decide +kernel
set_option maxRecDepth 20000 in
theorem wsL_in23_1 : ∀ w ∈ ([Cond.methodLink RL 92 yX6_limb, Cond.instanceMethod yX6_limb, Cond.selects RX6 yX6_limb yX6_limb, Cond.code yX6_limb cX6_limb 3 (some .int), Cond.methodLink RL 93 yX5_write] : List Cond), w ∈ lw_tbl := by decide +kernel
set_option maxRecDepth 20000 in
theorem wsL_in23_2 : ∀ w ∈ ([Cond.instanceMethod yX5_write, Cond.selects RX5 yX5_write yX5_write, Cond.code yX5_write cX5_write 2 (some .int), Cond.methodLink RX5 156 yX3_print, Cond.instanceMethod yX3_print] : List Cond), w ∈ lw_tbl := by decide +kernel
set_option maxRecDepth 20000 in
theorem wsL_in23_3 : ∀ w ∈ ([Cond.selects RX3 yX3_print yX3_print, Cond.code yX3_print cX3_print 5 none, Cond.constant RX3 23 (1000000000), Cond.fieldLink RX3 36 "IntFile$Whole" "below" "Z", Cond.methodLink RX3 17 yX4_become] : List Cond), w ∈ lw_tbl := by decide +kernel
set_option maxRecDepth 20000 in
theorem wsL_in23_4 : ∀ w ∈ ([Cond.methodLink RX3 24 yX4_divideAndRest, Cond.instanceMethod yX4_divideAndRest, Cond.selects RX4 yX4_divideAndRest yX4_divideAndRest, Cond.code yX4_divideAndRest cX4_divideAndRest 7 (some .int)] : List Cond), w ∈ lw_tbl := by decide +kernel
theorem wsL_in23 : ∀ w ∈ wsL_law_r23, w ∈ lw_tbl := by
  have h := (wsL_app wsL_in23_0 (wsL_app wsL_in23_1 (wsL_app wsL_in23_2 (wsL_app wsL_in23_3 wsL_in23_4))))
  exact h
set_option maxRecDepth 20000 in
theorem wsL_in24_0 : ∀ w ∈ ([Cond.methodLink RX3 28 yX4_isZero, Cond.methodLink RX3 32 yX3_prependDigits, Cond.instanceMethod yX3_prependDigits, Cond.selects RX3 yX3_prependDigits yX3_prependDigits, Cond.code yX3_prependDigits cX3_prependDigits 5 none] : List Cond), w ∈ lw_tbl := by decide +kernel
set_option maxRecDepth 20000 in
theorem wsL_in24_1 : ∀ w ∈ ([Cond.methodLink RX3 40 yX3_prepend, Cond.instanceMethod yX3_prepend, Cond.selects RX3 yX3_prepend yX3_prepend, Cond.code yX3_prepend cX3_prepend 2 none, Cond.methodLink RX5 159 yX3_size] : List Cond), w ∈ lw_tbl := by decide +kernel
set_option maxRecDepth 20000 in
theorem wsL_in24_2 : ∀ w ∈ ([Cond.instanceMethod yX3_size, Cond.selects RX3 yX3_size yX3_size, Cond.code yX3_size cX3_size 1 (some .int), Cond.methodLink RL 96 yX6_write, Cond.instanceMethod yX6_write] : List Cond), w ∈ lw_tbl := by decide +kernel
set_option maxRecDepth 20000 in
theorem wsL_in24_3 : ∀ w ∈ ([Cond.selects RX6 yX6_write yX6_write, Cond.code yX6_write cX6_write 6 (some .int), Cond.fieldLink RX6 102 "IntFileModel" "written" "I", Cond.methodLink RL 97 yX5_written, Cond.instanceMethod yX5_written] : List Cond), w ∈ lw_tbl := by decide +kernel
set_option maxRecDepth 20000 in
theorem wsL_in24_4 : ∀ w ∈ ([Cond.selects RX5 yX5_written yX5_written, Cond.code yX5_written cX5_written 2 (some .int), Cond.methodLink RX5 162 yX3_at, Cond.instanceMethod yX3_at] : List Cond), w ∈ lw_tbl := by decide +kernel
theorem wsL_in24 : ∀ w ∈ wsL_law_r24, w ∈ lw_tbl := by
  have h := (wsL_app wsL_in24_0 (wsL_app wsL_in24_1 (wsL_app wsL_in24_2 (wsL_app wsL_in24_3 wsL_in24_4))))
  exact h
