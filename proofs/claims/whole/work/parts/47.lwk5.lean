/-! words of the law are among the tables' -/
theorem wsL_law_x5 : ∀ w ∈ (vx_atS RX4 149 "java/util/NoSuchElementException" ["java/lang/RuntimeException", "java/lang/Exception"]).filter goodWord, w ∈ lw_tbl := by decide +kernel
