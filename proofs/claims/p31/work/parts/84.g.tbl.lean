/-! ===== the law's words stand in the tables ===== -/
theorem mt_19 : ∀ w ∈ wsL_law0_r19, w ∈ lw_tbl := by decide +kernel
theorem mt_20 : ∀ w ∈ wsL_law0_r20, w ∈ lw_tbl := by decide +kernel
theorem mt_21 : ∀ w ∈ wsL_law0_r21, w ∈ lw_tbl := by decide +kernel
