/-! ===== the law's words stand in the tables ===== -/
theorem mt_4 : ∀ w ∈ wsL_law0_r4, w ∈ lw_tbl := by decide +kernel
theorem mt_5 : ∀ w ∈ wsL_law0_r5, w ∈ lw_tbl := by decide +kernel
theorem mt_6 : ∀ w ∈ wsL_law0_r6, w ∈ lw_tbl := by decide +kernel
