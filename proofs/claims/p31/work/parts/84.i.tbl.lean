/-! ===== the law's words stand in the tables ===== -/
theorem mt_25 : ∀ w ∈ wsL_law0_r25, w ∈ lw_tbl := by decide +kernel
theorem mt_26 : ∀ w ∈ wsL_law0_r26, w ∈ lw_tbl := by decide +kernel
theorem mt_27 : ∀ w ∈ wsL_law0_r27, w ∈ lw_tbl := by decide +kernel
