/-! ===== the law's words stand in the tables ===== -/
theorem mt_1 : ∀ w ∈ wsL_law0_r1, w ∈ lw_tbl := by decide +kernel
theorem mt_2 : ∀ w ∈ wsL_law0_r2, w ∈ lw_tbl := by decide +kernel
theorem mt_3 : ∀ w ∈ wsL_law0_r3, w ∈ lw_tbl := by decide +kernel
