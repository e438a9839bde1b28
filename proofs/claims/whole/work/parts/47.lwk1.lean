/-! words of the law are among the tables' -/
theorem wsL_law_x1 : ∀ w ∈ (vx_atS RX4 59 "java/lang/IllegalArgumentException" ["java/lang/RuntimeException", "java/lang/Exception"]).filter goodWord, w ∈ lw_tbl := by decide +kernel
