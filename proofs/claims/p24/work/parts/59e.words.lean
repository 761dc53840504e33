set_option maxRecDepth 20000 in
theorem wsLi_13 : ∀ w ∈ wsL_law_r13, w ∈ lw_tbl := by decide +kernel
