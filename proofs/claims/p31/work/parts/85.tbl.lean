/-! ===== the law's words stand in the tables ===== -/
theorem mt_X60 : ∀ w ∈ wsX60, w ∈ lw_tbl := by decide +kernel
theorem mt_X20 : ∀ w ∈ wsX20, w ∈ lw_tbl := by decide +kernel
theorem mt_Jx4a65c0 : ∀ w ∈ wsJx4a65c0, w ∈ lw_tbl := by decide +kernel
theorem mt_X30 : ∀ w ∈ wsX30, w ∈ lw_tbl := by decide +kernel
theorem mt_X50 : ∀ w ∈ wsX50, w ∈ lw_tbl := by decide +kernel
theorem mt_X10 : ∀ w ∈ wsX10, w ∈ lw_tbl := by decide +kernel
theorem mt_X40 : ∀ w ∈ wsX40, w ∈ lw_tbl := by decide +kernel
theorem mt_X00 : ∀ w ∈ wsX00, w ∈ lw_tbl := by decide +kernel
theorem mt_F0 : ∀ w ∈ (vx_atS RX6 27 "java/lang/IllegalArgumentException" ["java/lang/RuntimeException", "java/lang/Exception"]).filter goodWord, w ∈ lw_tbl := by decide +kernel
theorem mt_F1 : ∀ w ∈ (vx_atS RX6 44 "java/lang/IllegalStateException" ["java/lang/RuntimeException", "java/lang/Exception"]).filter goodWord, w ∈ lw_tbl := by decide +kernel
theorem mt_F2 : ∀ w ∈ (vx_atS RX6 372 "java/lang/IndexOutOfBoundsException" ["java/lang/RuntimeException", "java/lang/Exception"]).filter goodWord, w ∈ lw_tbl := by decide +kernel
theorem mt_app {a b : List Cond} (h1 : ∀ w ∈ a, w ∈ lw_tbl) (h2 : ∀ w ∈ b, w ∈ lw_tbl) : ∀ w ∈ a ++ b, w ∈ lw_tbl := fun w h => (List.mem_append.mp h).elim (h1 w) (h2 w)
theorem mt_0 : ∀ w ∈ wsL_law0, w ∈ lw_tbl := mt_app (mt_app (mt_app (mt_app (mt_app (mt_app (mt_app (mt_app (mt_app (mt_app mt_1 (mt_app mt_2 (mt_app mt_3 (mt_app mt_4 (mt_app mt_5 (mt_app mt_6 (mt_app mt_7 (mt_app mt_8 (mt_app mt_9 (mt_app mt_10 (mt_app mt_11 (mt_app mt_12 (mt_app mt_13 (mt_app mt_14 (mt_app mt_15 (mt_app mt_16 (mt_app mt_17 (mt_app mt_18 (mt_app mt_19 (mt_app mt_20 (mt_app mt_21 (mt_app mt_22 (mt_app mt_23 (mt_app mt_24 (mt_app mt_25 (mt_app mt_26 (mt_app mt_27 (mt_app mt_28 mt_29)))))))))))))))))))))))))))) mt_X60) mt_X20) mt_Jx4a65c0) mt_X30) mt_X50) mt_X10) mt_X40) mt_X00) (fun _ h => absurd h List.not_mem_nil)
theorem mt_all : ∀ w ∈ wsL_law, w ∈ lw_tbl := mt_app (mt_app (mt_app mt_0 mt_F0) mt_F1) mt_F2
