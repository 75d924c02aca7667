/-! ===== the law's words stand in the tables ===== -/
theorem mt_28 : ∀ w ∈ wsL_law0_r28, w ∈ lw_tbl := by decide +kernel
theorem mt_29 : ∀ w ∈ wsL_law0_r29, w ∈ lw_tbl := by decide +kernel
