/-! words of the law are among the tables' -/
theorem wsL_lw_36 : ∀ w ∈ wsL_law0_r36, w ∈ lw_tbl := by decide +kernel
theorem wsL_lw_37 : ∀ w ∈ wsL_law0_r37, w ∈ lw_tbl := by decide +kernel
