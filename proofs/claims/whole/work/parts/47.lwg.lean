/-! words of the law are among the tables' -/
theorem lwi_X0 : ∀ w ∈ wsX00, w ∈ lw_tbl := by decide +kernel
theorem lwi_X1 : ∀ w ∈ wsX10, w ∈ lw_tbl := by decide +kernel
theorem lwi_X2 : ∀ w ∈ wsX20, w ∈ lw_tbl := by decide +kernel
theorem lwi_X3 : ∀ w ∈ wsX30, w ∈ lw_tbl := by decide +kernel
theorem lwi_X4 : ∀ w ∈ wsX40, w ∈ lw_tbl := by decide +kernel
theorem lwi_X5 : ∀ w ∈ wsX50, w ∈ lw_tbl := by decide +kernel
theorem lwi_Jx4a65c : ∀ w ∈ wsJx4a65c0, w ∈ lw_tbl := by decide +kernel
theorem lwi_J0 : ∀ w ∈ wsJ00, w ∈ lw_tbl := by decide +kernel
theorem lwi_Jx00060 : ∀ w ∈ wsJx000600, w ∈ lw_tbl := by decide +kernel
