set_option maxRecDepth 20000 in
theorem wsL_in13 : ∀ w ∈ wsL_law_r13, w ∈ lw_tbl := by decide +kernel
set_option maxRecDepth 20000 in
theorem wsL_in14 : ∀ w ∈ wsL_law_r14, w ∈ lw_tbl := by decide +kernel
set_option maxRecDepth 20000 in
theorem wsL_in15 : ∀ w ∈ wsL_law_r15, w ∈ lw_tbl := by decide +kernel
