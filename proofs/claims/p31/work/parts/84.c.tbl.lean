/-! ===== the law's words stand in the tables ===== -/
theorem mt_7 : ∀ w ∈ wsL_law0_r7, w ∈ lw_tbl := by decide +kernel
theorem mt_8 : ∀ w ∈ wsL_law0_r8, w ∈ lw_tbl := by decide +kernel
theorem mt_9 : ∀ w ∈ wsL_law0_r9, w ∈ lw_tbl := by decide +kernel
