/-! ===== the law's words stand in the tables ===== -/
theorem mt_10 : ∀ w ∈ wsL_law0_r10, w ∈ lw_tbl := by decide +kernel
theorem mt_11 : ∀ w ∈ wsL_law0_r11, w ∈ lw_tbl := by decide +kernel
theorem mt_12 : ∀ w ∈ wsL_law0_r12, w ∈ lw_tbl := by decide +kernel
