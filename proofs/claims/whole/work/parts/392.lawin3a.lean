set_option maxRecDepth 20000 in
theorem wsL_in19_0 : ∀ w ∈ ([Cond.code yX4_hasOneBelow cX4_hasOneBelow 4 (some .boolean), Cond.methodLink RX4 84 yX4_scaleAndAdd, Cond.instanceMethod yX4_scaleAndAdd, Cond.selects RX4 yX4_scaleAndAdd yX4_scaleAndAdd, Cond.code yX4_scaleAndAdd cX4_scaleAndAdd 8 none] : List Cond), w ∈ lw_tbl := by decide +kernel
set_option maxRecDepth 20000 in
theorem wsL_in19_1 : ∀ w ∈ ([Cond.methodLink RL 64 yX6_shr, Cond.instanceMethod yX6_shr, Cond.selects RX6 yX6_shr yX6_shr, Cond.code yX6_shr cX6_shr 7 (some .int), Cond.methodLink RL 65 yX5_gcd] : List Cond), w ∈ lw_tbl := by decide +kernel
set_option maxRecDepth 20000 in
theorem wsL_in19_2 : ∀ w ∈ ([Cond.instanceMethod yX5_gcd, Cond.selects RX5 yX5_gcd yX5_gcd, Cond.code yX5_gcd cX5_gcd 5 (some .int), Cond.constant RX5 129 (1000000), Cond.methodLink RL 68 yX6_gcd] : List Cond), w ∈ lw_tbl := by decide +kernel
set_option maxRecDepth 20000 in
theorem wsL_in19_3 : ∀ w ∈ ([Cond.instanceMethod yX6_gcd, Cond.selects RX6 yX6_gcd yX6_gcd, Cond.code yX6_gcd cX6_gcd 4 (some .int), Cond.methodLink RL 69 yX5_powMod, Cond.instanceMethod yX5_powMod] : List Cond), w ∈ lw_tbl := by decide +kernel
set_option maxRecDepth 20000 in
theorem wsL_in19_4 : ∀ w ∈ ([Cond.selects RX5 yX5_powMod yX5_powMod, Cond.code yX5_powMod cX5_powMod 6 (some .int), Cond.methodLink RX5 130 yX5_reduceToFirst, Cond.instanceMethod yX5_reduceToFirst] : List Cond), w ∈ lw_tbl := by decide +kernel
theorem wsL_in19 : ∀ w ∈ wsL_law_r19, w ∈ lw_tbl := by
  have h := (wsL_app wsL_in19_0 (wsL_app wsL_in19_1 (wsL_app wsL_in19_2 (wsL_app wsL_in19_3 wsL_in19_4))))
  exact h
set_option maxRecDepth 20000 in
theorem wsL_in20_0 : ∀ w ∈ ([Cond.selects RX5 yX5_reduceToFirst yX5_reduceToFirst, Cond.code yX5_reduceToFirst cX5_reduceToFirst 3 none, Cond.methodLink RX5 133 yX5_oneToSecond, Cond.instanceMethod yX5_oneToSecond, Cond.selects RX5 yX5_oneToSecond yX5_oneToSecond] : List Cond), w ∈ lw_tbl := by decide +kernel
set_option maxRecDepth 20000 in
theorem wsL_in20_1 : ∀ w ∈ ([Cond.code yX5_oneToSecond cX5_oneToSecond 2 none, Cond.methodLink RX5 136 yX5_multiplySecond, Cond.instanceMethod yX5_multiplySecond, Cond.selects RX5 yX5_multiplySecond yX5_multiplySecond, Cond.code yX5_multiplySecond cX5_multiplySecond 3 none] : List Cond), w ∈ lw_tbl := by decide +kernel
set_option maxRecDepth 20000 in
theorem wsL_in20_2 : ∀ w ∈ ([Cond.methodLink RX5 139 yX4_hasBit, Cond.instanceMethod yX4_hasBit, Cond.selects RX4 yX4_hasBit yX4_hasBit, Cond.code yX4_hasBit cX4_hasBit 3 (some .boolean), Cond.methodLink RL 72 yX6_powMod] : List Cond), w ∈ lw_tbl := by decide +kernel
set_option maxRecDepth 20000 in
theorem wsL_in20_3 : ∀ w ∈ ([Cond.instanceMethod yX6_powMod, Cond.selects RX6 yX6_powMod yX6_powMod, Cond.code yX6_powMod cX6_powMod 7 (some .int), Cond.methodLink RX6 96 yX6_timesRest, Cond.instanceMethod yX6_timesRest] : List Cond), w ∈ lw_tbl := by decide +kernel
set_option maxRecDepth 20000 in
theorem wsL_in20_4 : ∀ w ∈ ([Cond.selects RX6 yX6_timesRest yX6_timesRest, Cond.code yX6_timesRest cX6_timesRest 2 none, Cond.methodLink RL 73 yX5_root, Cond.instanceMethod yX5_root] : List Cond), w ∈ lw_tbl := by decide +kernel
theorem wsL_in20 : ∀ w ∈ wsL_law_r20, w ∈ lw_tbl := by
  have h := (wsL_app wsL_in20_0 (wsL_app wsL_in20_1 (wsL_app wsL_in20_2 (wsL_app wsL_in20_3 wsL_in20_4))))
  exact h
set_option maxRecDepth 20000 in
theorem wsL_in21_0 : ∀ w ∈ ([Cond.selects RX5 yX5_root yX5_root, Cond.code yX5_root cX5_root 3 (some .int), Cond.methodLink RX5 142 yX5_rootToFirst, Cond.instanceMethod yX5_rootToFirst, Cond.selects RX5 yX5_rootToFirst yX5_rootToFirst] : List Cond), w ∈ lw_tbl := by decide +kernel
set_option maxRecDepth 20000 in
theorem wsL_in21_1 : ∀ w ∈ ([Cond.code yX5_rootToFirst cX5_rootToFirst 3 none, Cond.methodLink RX5 188 yX4_becomePowerOfTwo, Cond.instanceMethod yX4_becomePowerOfTwo, Cond.selects RX4 yX4_becomePowerOfTwo yX4_becomePowerOfTwo, Cond.code yX4_becomePowerOfTwo cX4_becomePowerOfTwo 3 none] : List Cond), w ∈ lw_tbl := by decide +kernel
set_option maxRecDepth 20000 in
theorem wsL_in21_2 : ∀ w ∈ ([Cond.methodLink RX5 191 yX4_compareSize, Cond.methodLink RL 76 yX6_root, Cond.instanceMethod yX6_root, Cond.selects RX6 yX6_root yX6_root, Cond.code yX6_root cX6_root 5 (some .int)] : List Cond), w ∈ lw_tbl := by decide +kernel
set_option maxRecDepth 20000 in
theorem wsL_in21_3 : ∀ w ∈ ([Cond.constantLong RX6 100 (2), Cond.methodLink RL 77 yX5_cmp, Cond.instanceMethod yX5_cmp, Cond.selects RX5 yX5_cmp yX5_cmp, Cond.code yX5_cmp cX5_cmp 3 (some .int)] : List Cond), w ∈ lw_tbl := by decide +kernel
set_option maxRecDepth 20000 in
theorem wsL_in21_4 : ∀ w ∈ ([Cond.methodLink RX5 145 yX4_compareValue, Cond.instanceMethod yX4_compareValue, Cond.selects RX4 yX4_compareValue yX4_compareValue, Cond.code yX4_compareValue cX4_compareValue 2 (some .int)] : List Cond), w ∈ lw_tbl := by decide +kernel
theorem wsL_in21 : ∀ w ∈ wsL_law_r21, w ∈ lw_tbl := by
  have h := (wsL_app wsL_in21_0 (wsL_app wsL_in21_1 (wsL_app wsL_in21_2 (wsL_app wsL_in21_3 wsL_in21_4))))
  exact h
