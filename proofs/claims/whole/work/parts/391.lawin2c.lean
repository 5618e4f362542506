set_option maxRecDepth 20000 in
theorem wsL_in16_0 : ∀ w ∈ ([Cond.code yX4_shiftUp cX4_shiftUp 9 (some .int), Cond.methodLink RX0 81 yX0_guessDigit, Cond.instanceMethod yX0_guessDigit, Cond.selects RX0 yX0_guessDigit yX0_guessDigit, Cond.code yX0_guessDigit cX0_guessDigit 18 (some .long)] : List Cond), w ∈ lw_tbl := by decide +kernel
set_option maxRecDepth 20000 in
theorem wsL_in16_1 : ∀ w ∈ ([Cond.methodLink RX0 97 yX0_isAbove, Cond.static yX0_isAbove, Cond.code yX0_isAbove cX0_isAbove 4 (some .boolean), Cond.constantLong RX0 101 (-9223372036854775808), Cond.methodLink RX0 85 yX0_takeProduct] : List Cond), w ∈ lw_tbl := by decide +kernel
set_option maxRecDepth 20000 in
theorem wsL_in16_2 : ∀ w ∈ ([Cond.instanceMethod yX0_takeProduct, Cond.selects RX0 yX0_takeProduct yX0_takeProduct, Cond.code yX0_takeProduct cX0_takeProduct 12 (some .boolean), Cond.methodLink RX0 89 yX0_giveBack, Cond.instanceMethod yX0_giveBack] : List Cond), w ∈ lw_tbl := by decide +kernel
set_option maxRecDepth 20000 in
theorem wsL_in16_3 : ∀ w ∈ ([Cond.selects RX0 yX0_giveBack yX0_giveBack, Cond.code yX0_giveBack cX0_giveBack 8 none, Cond.methodLink RX0 93 yX4_shiftDown, Cond.instanceMethod yX4_shiftDown, Cond.selects RX4 yX4_shiftDown yX4_shiftDown] : List Cond), w ∈ lw_tbl := by decide +kernel
set_option maxRecDepth 20000 in
theorem wsL_in16_4 : ∀ w ∈ ([Cond.code yX4_shiftDown cX4_shiftDown 10 none, Cond.methodLink RL 56 yX6_divMod, Cond.instanceMethod yX6_divMod, Cond.selects RX6 yX6_divMod yX6_divMod] : List Cond), w ∈ lw_tbl := by decide +kernel
theorem wsL_in16 : ∀ w ∈ wsL_law_r16, w ∈ lw_tbl := by
  have h := (wsL_app wsL_in16_0 (wsL_app wsL_in16_1 (wsL_app wsL_in16_2 (wsL_app wsL_in16_3 wsL_in16_4))))
  exact h
set_option maxRecDepth 20000 in
theorem wsL_in17_0 : ∀ w ∈ ([Cond.code yX6_divMod cX6_divMod 7 (some .int), Cond.methodLink RX6 87 yX6_divide, Cond.instanceMethod yX6_divide, Cond.selects RX6 yX6_divide yX6_divide, Cond.code yX6_divide cX6_divide 20 none] : List Cond), w ∈ lw_tbl := by decide +kernel
set_option maxRecDepth 20000 in
theorem wsL_in17_1 : ∀ w ∈ ([Cond.constant RX6 54 (32768), Cond.methodLink RX6 58 yX6_shiftDown, Cond.instanceMethod yX6_shiftDown, Cond.selects RX6 yX6_shiftDown yX6_shiftDown, Cond.code yX6_shiftDown cX6_shiftDown 11 none] : List Cond), w ∈ lw_tbl := by decide +kernel
set_option maxRecDepth 20000 in
theorem wsL_in17_2 : ∀ w ∈ ([Cond.methodLink RL 57 yX5_shl, Cond.instanceMethod yX5_shl, Cond.selects RX5 yX5_shl yX5_shl, Cond.code yX5_shl cX5_shl 4 (some .int), Cond.constantLong RX5 121 (32)] : List Cond), w ∈ lw_tbl := by decide +kernel
set_option maxRecDepth 20000 in
theorem wsL_in17_3 : ∀ w ∈ ([Cond.methodLink RX5 117 yX4_bits, Cond.instanceMethod yX4_bits, Cond.selects RX4 yX4_bits yX4_bits, Cond.code yX4_bits cX4_bits 1 (some .int), Cond.methodLink RX4 21 yJ6_numberOfLeadingZeros_0f7a4] : List Cond), w ∈ lw_tbl := by decide +kernel
set_option maxRecDepth 20000 in
theorem wsL_in17_4 : ∀ w ∈ ([Cond.methodLink RX5 123 yX4_becomeShiftedUp, Cond.instanceMethod yX4_becomeShiftedUp, Cond.selects RX4 yX4_becomeShiftedUp yX4_becomeShiftedUp, Cond.code yX4_becomeShiftedUp cX4_becomeShiftedUp 4 none] : List Cond), w ∈ lw_tbl := by decide +kernel
theorem wsL_in17 : ∀ w ∈ wsL_law_r17, w ∈ lw_tbl := by
  have h := (wsL_app wsL_in17_0 (wsL_app wsL_in17_1 (wsL_app wsL_in17_2 (wsL_app wsL_in17_3 wsL_in17_4))))
  exact h
set_option maxRecDepth 20000 in
theorem wsL_in18_0 : ∀ w ∈ ([Cond.methodLink RX4 49 yJ7_fill_fda19, Cond.methodLink RX4 70 yX4_shiftUp, Cond.methodLink RL 60 yX6_shl, Cond.instanceMethod yX6_shl, Cond.selects RX6 yX6_shl yX6_shl] : List Cond), w ∈ lw_tbl := by decide +kernel
set_option maxRecDepth 20000 in
theorem wsL_in18_1 : ∀ w ∈ ([Cond.code yX6_shl cX6_shl 5 (some .int), Cond.constantLong RX6 94 (16), Cond.methodLink RX6 90 yX6_bitsOf, Cond.instanceMethod yX6_bitsOf, Cond.selects RX6 yX6_bitsOf yX6_bitsOf] : List Cond), w ∈ lw_tbl := by decide +kernel
set_option maxRecDepth 20000 in
theorem wsL_in18_2 : ∀ w ∈ ([Cond.code yX6_bitsOf cX6_bitsOf 4 (some .int), Cond.methodLink RL 61 yX5_shr, Cond.instanceMethod yX5_shr, Cond.selects RX5 yX5_shr yX5_shr, Cond.code yX5_shr cX5_shr 4 (some .int)] : List Cond), w ∈ lw_tbl := by decide +kernel
set_option maxRecDepth 20000 in
theorem wsL_in18_3 : ∀ w ∈ ([Cond.methodLink RX5 126 yX4_becomeShiftedDown, Cond.instanceMethod yX4_becomeShiftedDown, Cond.selects RX4 yX4_becomeShiftedDown yX4_becomeShiftedDown, Cond.code yX4_becomeShiftedDown cX4_becomeShiftedDown 4 none, Cond.methodLink RX4 74 Lib.Math.min.name] : List Cond), w ∈ lw_tbl := by decide +kernel
set_option maxRecDepth 20000 in
theorem wsL_in18_4 : ∀ w ∈ ([Cond.methodLink RX4 77 yX4_shiftDown, Cond.methodLink RX4 80 yX4_hasOneBelow, Cond.instanceMethod yX4_hasOneBelow, Cond.selects RX4 yX4_hasOneBelow yX4_hasOneBelow] : List Cond), w ∈ lw_tbl := by decide +kernel
theorem wsL_in18 : ∀ w ∈ wsL_law_r18, w ∈ lw_tbl := by
  have h := (wsL_app wsL_in18_0 (wsL_app wsL_in18_1 (wsL_app wsL_in18_2 (wsL_app wsL_in18_3 wsL_in18_4))))
  exact h
