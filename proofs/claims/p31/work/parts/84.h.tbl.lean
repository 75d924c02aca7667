/-! ===== the law's words stand in the tables ===== -/
theorem mt_22 : ∀ w ∈ wsL_law0_r22, w ∈ lw_tbl := by decide +kernel
theorem mt_23 : ∀ w ∈ wsL_law0_r23, w ∈ lw_tbl := by decide +kernel
theorem mt_24_0 : Cond.selects RX2 yX2_flyPests yX2_flyPests ∈ lw_tbl := by decide +kernel
theorem mt_24_1 : Cond.code yX2_flyPests cX2_flyPests 3 none ∈ lw_tbl := by decide +kernel
theorem mt_24_2 : Cond.methodLink RX2 128 yX2_nearestOnTheStalk ∈ lw_tbl := by decide +kernel
theorem mt_24_3 : Cond.instanceMethod yX2_nearestOnTheStalk ∈ lw_tbl := by decide +kernel
theorem mt_24_4 : Cond.selects RX2 yX2_nearestOnTheStalk yX2_nearestOnTheStalk ∈ lw_tbl := by decide +kernel
theorem mt_24_5 : Cond.code yX2_nearestOnTheStalk cX2_nearestOnTheStalk 6 (some (.object "Subakhall$Field")) ∈ lw_tbl := by decide +kernel
theorem mt_24_6 : Cond.fieldLink RX2 142 "Subakhall$Crop" "stage" "I" ∈ lw_tbl := by decide +kernel
theorem mt_24_7 : Cond.methodLink RX2 132 yX2_flyFrom ∈ lw_tbl := by decide +kernel
theorem mt_24_8 : Cond.instanceMethod yX2_flyFrom ∈ lw_tbl := by decide +kernel
theorem mt_24_9 : Cond.selects RX2 yX2_flyFrom yX2_flyFrom ∈ lw_tbl := by decide +kernel
theorem mt_24_10 : Cond.code yX2_flyFrom cX2_flyFrom 4 none ∈ lw_tbl := by decide +kernel
theorem mt_24_11 : Cond.fieldLink RX2 139 "Subakhall$Field" "flying" "I" ∈ lw_tbl := by decide +kernel
theorem mt_24_12 : Cond.methodLink RX2 136 yX1_settlePests ∈ lw_tbl := by decide +kernel
theorem mt_24_13 : Cond.instanceMethod yX1_settlePests ∈ lw_tbl := by decide +kernel
theorem mt_24_14 : Cond.selects RX1 yX1_settlePests yX1_settlePests ∈ lw_tbl := by decide +kernel
theorem mt_24_15 : Cond.code yX1_settlePests cX1_settlePests 1 none ∈ lw_tbl := by decide +kernel
theorem mt_24_16 : Cond.fieldLink RX1 115 "Subakhall$Field" "flying" "I" ∈ lw_tbl := by decide +kernel
theorem mt_24_17 : Cond.methodLink RL 87 yL_isSo ∈ lw_tbl := by decide +kernel
theorem mt_24_18 : Cond.static yL_isSo ∈ lw_tbl := by decide +kernel
theorem mt_24_19 : Cond.code yL_isSo cL_isSo 13 (some .boolean) ∈ lw_tbl := List.mem_append_right _ (List.mem_append_right _ (List.mem_append_right _ (List.mem_append_right _ (List.mem_append_left _ (List.mem_of_getElem? (i := 235) rfl)))))
theorem mt_24_20 : Cond.methodLink RL 95 yX6_suspect ∈ lw_tbl := by decide +kernel
theorem mt_24_21 : Cond.instanceMethod yX6_suspect ∈ lw_tbl := by decide +kernel
theorem mt_24_22 : Cond.selects RX6 yX6_suspect yX6_suspect ∈ lw_tbl := by decide +kernel
theorem mt_24_23 : Cond.code yX6_suspect cX6_suspect 2 (some .int) ∈ lw_tbl := by decide +kernel
theorem mt_24 : ∀ w ∈ wsL_law0_r24, w ∈ lw_tbl := List.forall_mem_cons.mpr ⟨mt_24_0, List.forall_mem_cons.mpr ⟨mt_24_1, List.forall_mem_cons.mpr ⟨mt_24_2, List.forall_mem_cons.mpr ⟨mt_24_3, List.forall_mem_cons.mpr ⟨mt_24_4, List.forall_mem_cons.mpr ⟨mt_24_5, List.forall_mem_cons.mpr ⟨mt_24_6, List.forall_mem_cons.mpr ⟨mt_24_7, List.forall_mem_cons.mpr ⟨mt_24_8, List.forall_mem_cons.mpr ⟨mt_24_9, List.forall_mem_cons.mpr ⟨mt_24_10, List.forall_mem_cons.mpr ⟨mt_24_11, List.forall_mem_cons.mpr ⟨mt_24_12, List.forall_mem_cons.mpr ⟨mt_24_13, List.forall_mem_cons.mpr ⟨mt_24_14, List.forall_mem_cons.mpr ⟨mt_24_15, List.forall_mem_cons.mpr ⟨mt_24_16, List.forall_mem_cons.mpr ⟨mt_24_17, List.forall_mem_cons.mpr ⟨mt_24_18, List.forall_mem_cons.mpr ⟨mt_24_19, List.forall_mem_cons.mpr ⟨mt_24_20, List.forall_mem_cons.mpr ⟨mt_24_21, List.forall_mem_cons.mpr ⟨mt_24_22, List.forall_mem_cons.mpr ⟨mt_24_23, (fun _ h => absurd h List.not_mem_nil)⟩⟩⟩⟩⟩⟩⟩⟩⟩⟩⟩⟩⟩⟩⟩⟩⟩⟩⟩⟩⟩⟩⟩⟩
