/-! ===== the law's words stand in the tables ===== -/
theorem mt_16 : ∀ w ∈ wsL_law0_r16, w ∈ lw_tbl := by decide +kernel
theorem mt_17 : ∀ w ∈ wsL_law0_r17, w ∈ lw_tbl := by decide +kernel
theorem mt_18 : ∀ w ∈ wsL_law0_r18, w ∈ lw_tbl := by decide +kernel
