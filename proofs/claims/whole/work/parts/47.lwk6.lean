/-! words of the law are among the tables' -/
theorem wsL_law_x6 : ∀ w ∈ (vx_atS RX4 299 "java/lang/ArithmeticException" ["java/lang/RuntimeException", "java/lang/Exception"]).filter goodWord, w ∈ lw_tbl := by decide +kernel
