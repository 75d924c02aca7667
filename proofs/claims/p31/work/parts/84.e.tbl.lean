/-! ===== the law's words stand in the tables ===== -/
theorem mt_13 : ∀ w ∈ wsL_law0_r13, w ∈ lw_tbl := by decide +kernel
theorem mt_14 : ∀ w ∈ wsL_law0_r14, w ∈ lw_tbl := by decide +kernel
theorem mt_15 : ∀ w ∈ wsL_law0_r15, w ∈ lw_tbl := by decide +kernel
