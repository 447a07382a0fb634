/-! all of Level 2 -/
theorem x_all : x_L2 INV 50000 := ⟨l2_cl _ (by omega), l2_routine _, l2_act _ (by omega), l2_alter _ (by omega), l2_told _ (by omega), l2_of _ (by omega), l2_statement _ (by omega), l2_text _ (by omega), l2_feed _, l2_copy _ (by omega), l2_write _ (by omega), l2_fault _, l2_clear _, l2_like _ (by omega), l2_set _, l2_run _ (by omega), l2_ran _, l2_out _⟩
