/-! words of the law are among the tables' -/
theorem wsL_law_x4 : ∀ w ∈ (vx_atS RX4 317 "java/lang/IndexOutOfBoundsException" ["java/lang/RuntimeException", "java/lang/Exception"]).filter goodWord, w ∈ lw_tbl := by decide +kernel
