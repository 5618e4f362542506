set_option maxRecDepth 20000 in
theorem wsL_in22 : ∀ w ∈ wsL_law_r22, w ∈ lw_tbl := by decide +kernel
set_option maxRecDepth 20000 in
theorem wsL_in23 : ∀ w ∈ wsL_law_r23, w ∈ lw_tbl := by decide +kernel
set_option maxRecDepth 20000 in
theorem wsL_in24 : ∀ w ∈ wsL_law_r24, w ∈ lw_tbl := by decide +kernel
