/-! words of the law are among the tables' -/
theorem wsL_law_x5 : ∀ w ∈ nseA.filter goodWord, w ∈ lw_tbl := by decide +kernel
