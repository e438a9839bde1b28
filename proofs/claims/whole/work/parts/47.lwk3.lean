/-! words of the law are among the tables' -/
theorem wsL_law_x3 : ∀ w ∈ (vx_atS RX4 81 "java/lang/UnsupportedOperationException" ["java/lang/RuntimeException", "java/lang/Exception"]).filter goodWord, w ∈ lw_tbl := by decide +kernel
