theorem dX6_run_0 : decode cX6_run 0 = .ok (.aload_n 0, 1) := by decide +kernel
theorem dX6_run_1 : decode cX6_run 1 = .ok (.iload_n 1, 1) := by decide +kernel
theorem dX6_run_2 : decode cX6_run 2 = .ok (.invokevirtual 68, 3) := by decide +kernel
theorem dX6_run_5 : decode cX6_run 5 = .ok (.astore_n 3, 1) := by decide +kernel
theorem dX6_run_6 : decode cX6_run 6 = .ok (.aload_n 3, 1) := by decide +kernel
theorem dX6_run_7 : decode cX6_run 7 = .ok (.ifnull 14, 3) := by decide +kernel
theorem dX6_run_10 : decode cX6_run 10 = .ok (.iload_n 2, 1) := by decide +kernel
theorem dX6_run_11 : decode cX6_run 11 = .ok (.ifCond .lt 10, 3) := by decide +kernel
theorem dX6_run_14 : decode cX6_run 14 = .ok (.iload_n 2, 1) := by decide +kernel
theorem dX6_run_15 : decode cX6_run 15 = .ok (.sipush 10000, 3) := by decide +kernel
theorem dX6_run_18 : decode cX6_run 18 = .ok (.if_icmp .le 6, 3) := by decide +kernel
theorem dX6_run_21 : decode cX6_run 21 = .ok (.bipush (-2), 2) := by decide +kernel
theorem dX6_run_23 : decode cX6_run 23 = .ok (.ireturn, 1) := by decide +kernel
theorem dX6_run_24 : decode cX6_run 24 = .ok (.aload_n 3, 1) := by decide +kernel
theorem dX6_run_25 : decode cX6_run 25 = .ok (.getfield 99, 3) := by decide +kernel
theorem dX6_run_28 : decode cX6_run 28 = .ok (.ifCond .ne 6, 3) := by decide +kernel
theorem dX6_run_31 : decode cX6_run 31 = .ok (.bipush (-3), 2) := by decide +kernel
theorem dX6_run_33 : decode cX6_run 33 = .ok (.ireturn, 1) := by decide +kernel
theorem dX6_run_34 : decode cX6_run 34 = .ok (.aload_n 0, 1) := by decide +kernel
theorem dX6_run_35 : decode cX6_run 35 = .ok (.getfield 59, 3) := by decide +kernel
theorem dX6_run_38 : decode cX6_run 38 = .ok (.aload_n 0, 1) := by decide +kernel
theorem dX6_run_39 : decode cX6_run 39 = .ok (.getfield 11, 3) := by decide +kernel
theorem dX6_run_42 : decode cX6_run 42 = .ok (.aload_n 3, 1) := by decide +kernel
theorem dX6_run_43 : decode cX6_run 43 = .ok (.aload_n 0, 1) := by decide +kernel
theorem dX6_run_44 : decode cX6_run 44 = .ok (.getfield 53, 3) := by decide +kernel
theorem dX6_run_47 : decode cX6_run 47 = .ok (.iload_n 2, 1) := by decide +kernel
theorem dX6_run_48 : decode cX6_run 48 = .ok (.invokevirtual 172, 3) := by decide +kernel
theorem dX6_run_51 : decode cX6_run 51 = .ok (.ireturn, 1) := by decide +kernel
theorem dX6_ran_0 : decode cX6_ran 0 = .ok (.iload_n 1, 1) := by decide +kernel
theorem dX6_ran_1 : decode cX6_ran 1 = .ok (.tableswitch 83 0 7 #[47, 55, 63, 83, 71, 71, 71, 71], 47) := by decide +kernel
theorem dX6_ran_48 : decode cX6_ran 48 = .ok (.aload_n 0, 1) := by decide +kernel
theorem dX6_ran_49 : decode cX6_ran 49 = .ok (.getfield 59, 3) := by decide +kernel
theorem dX6_ran_52 : decode cX6_ran 52 = .ok (.getfield 176, 3) := by decide +kernel
theorem dX6_ran_55 : decode cX6_ran 55 = .ok (.ireturn, 1) := by decide +kernel
theorem dX6_ran_56 : decode cX6_ran 56 = .ok (.aload_n 0, 1) := by decide +kernel
theorem dX6_ran_57 : decode cX6_ran 57 = .ok (.getfield 59, 3) := by decide +kernel
theorem dX6_ran_60 : decode cX6_ran 60 = .ok (.getfield 179, 3) := by decide +kernel
theorem dX6_ran_63 : decode cX6_ran 63 = .ok (.ireturn, 1) := by decide +kernel
theorem dX6_ran_64 : decode cX6_ran 64 = .ok (.aload_n 0, 1) := by decide +kernel
theorem dX6_ran_65 : decode cX6_ran 65 = .ok (.getfield 59, 3) := by decide +kernel
theorem dX6_ran_68 : decode cX6_ran 68 = .ok (.getfield 182, 3) := by decide +kernel
theorem dX6_ran_71 : decode cX6_ran 71 = .ok (.ireturn, 1) := by decide +kernel
theorem dX6_ran_72 : decode cX6_ran 72 = .ok (.aload_n 0, 1) := by decide +kernel
theorem dX6_ran_73 : decode cX6_ran 73 = .ok (.getfield 59, 3) := by decide +kernel
theorem dX6_ran_76 : decode cX6_ran 76 = .ok (.getfield 185, 3) := by decide +kernel
theorem dX6_ran_79 : decode cX6_ran 79 = .ok (.iload_n 1, 1) := by decide +kernel
theorem dX6_ran_80 : decode cX6_ran 80 = .ok (.iconst 4, 1) := by decide +kernel
theorem dX6_ran_81 : decode cX6_ran 81 = .ok (.isub, 1) := by decide +kernel
theorem dX6_ran_82 : decode cX6_ran 82 = .ok (.iaload, 1) := by decide +kernel
theorem dX6_ran_83 : decode cX6_ran 83 = .ok (.ireturn, 1) := by decide +kernel
theorem dX6_ran_84 : decode cX6_ran 84 = .ok (.bipush (-2), 2) := by decide +kernel
theorem dX6_ran_86 : decode cX6_ran 86 = .ok (.ireturn, 1) := by decide +kernel
theorem dX6_out_0 : decode cX6_out 0 = .ok (.iload_n 1, 1) := by decide +kernel
theorem dX6_out_1 : decode cX6_out 1 = .ok (.ifCond .lt 14, 3) := by decide +kernel
theorem dX6_out_4 : decode cX6_out 4 = .ok (.iload_n 1, 1) := by decide +kernel
theorem dX6_out_5 : decode cX6_out 5 = .ok (.aload_n 0, 1) := by decide +kernel
theorem dX6_out_6 : decode cX6_out 6 = .ok (.getfield 59, 3) := by decide +kernel
theorem dX6_out_9 : decode cX6_out 9 = .ok (.getfield 179, 3) := by decide +kernel
theorem dX6_out_12 : decode cX6_out 12 = .ok (.if_icmp .lt 8, 3) := by decide +kernel
theorem dX6_out_15 : decode cX6_out 15 = .ok (.bipush (-2), 2) := by decide +kernel
theorem dX6_out_17 : decode cX6_out 17 = .ok (.goto 12, 3) := by decide +kernel
theorem dX6_out_20 : decode cX6_out 20 = .ok (.aload_n 0, 1) := by decide +kernel
theorem dX6_out_21 : decode cX6_out 21 = .ok (.getfield 59, 3) := by decide +kernel
theorem dX6_out_24 : decode cX6_out 24 = .ok (.getfield 188, 3) := by decide +kernel
theorem dX6_out_27 : decode cX6_out 27 = .ok (.iload_n 1, 1) := by decide +kernel
theorem dX6_out_28 : decode cX6_out 28 = .ok (.iaload, 1) := by decide +kernel
theorem dX6_out_29 : decode cX6_out 29 = .ok (.ireturn, 1) := by decide +kernel
theorem dX6_find_0 : decode cX6_find 0 = .ok (.iload_n 1, 1) := by decide +kernel
theorem dX6_find_1 : decode cX6_find 1 = .ok (.ifCond .lt 11, 3) := by decide +kernel
theorem dX6_find_4 : decode cX6_find 4 = .ok (.iload_n 1, 1) := by decide +kernel
theorem dX6_find_5 : decode cX6_find 5 = .ok (.aload_n 0, 1) := by decide +kernel
theorem dX6_find_6 : decode cX6_find 6 = .ok (.getfield 15, 3) := by decide +kernel
theorem dX6_find_9 : decode cX6_find 9 = .ok (.if_icmp .lt 7, 3) := by decide +kernel
theorem dX6_find_12 : decode cX6_find 12 = .ok (.aconst_null, 1) := by decide +kernel
theorem dX6_find_13 : decode cX6_find 13 = .ok (.goto 9, 3) := by decide +kernel
theorem dX6_find_16 : decode cX6_find 16 = .ok (.aload_n 0, 1) := by decide +kernel
theorem dX6_find_17 : decode cX6_find 17 = .ok (.getfield 11, 3) := by decide +kernel
theorem dX6_find_20 : decode cX6_find 20 = .ok (.iload_n 1, 1) := by decide +kernel
theorem dX6_find_21 : decode cX6_find 21 = .ok (.aaload, 1) := by decide +kernel
theorem dX6_find_22 : decode cX6_find 22 = .ok (.areturn, 1) := by decide +kernel
theorem dX6_addRoutine_0 : decode cX6_addRoutine 0 = .ok (.aload_n 0, 1) := by decide +kernel
theorem dX6_addRoutine_1 : decode cX6_addRoutine 1 = .ok (.getfield 15, 3) := by decide +kernel
theorem dX6_addRoutine_4 : decode cX6_addRoutine 4 = .ok (.istore_n 2, 1) := by decide +kernel
theorem dX6_addRoutine_5 : decode cX6_addRoutine 5 = .ok (.iload_n 2, 1) := by decide +kernel
theorem dX6_addRoutine_6 : decode cX6_addRoutine 6 = .ok (.bipush 12, 2) := by decide +kernel
theorem dX6_addRoutine_8 : decode cX6_addRoutine 8 = .ok (.if_icmp .lt 6, 3) := by decide +kernel
theorem dX6_addRoutine_11 : decode cX6_addRoutine 11 = .ok (.bipush (-4), 2) := by decide +kernel
theorem dX6_addRoutine_13 : decode cX6_addRoutine 13 = .ok (.ireturn, 1) := by decide +kernel
theorem dX6_addRoutine_14 : decode cX6_addRoutine 14 = .ok (.aload_n 0, 1) := by decide +kernel
theorem dX6_addRoutine_15 : decode cX6_addRoutine 15 = .ok (.getfield 11, 3) := by decide +kernel
theorem dX6_addRoutine_18 : decode cX6_addRoutine 18 = .ok (.iload_n 2, 1) := by decide +kernel
theorem dX6_addRoutine_19 : decode cX6_addRoutine 19 = .ok (.aload_n 1, 1) := by decide +kernel
theorem dX6_addRoutine_20 : decode cX6_addRoutine 20 = .ok (.aastore, 1) := by decide +kernel
theorem dX6_addRoutine_21 : decode cX6_addRoutine 21 = .ok (.aload_n 0, 1) := by decide +kernel
theorem dX6_addRoutine_22 : decode cX6_addRoutine 22 = .ok (.iload_n 2, 1) := by decide +kernel
theorem dX6_addRoutine_23 : decode cX6_addRoutine 23 = .ok (.iconst 1, 1) := by decide +kernel
theorem dX6_addRoutine_24 : decode cX6_addRoutine 24 = .ok (.iadd, 1) := by decide +kernel
theorem dX6_addRoutine_25 : decode cX6_addRoutine 25 = .ok (.putfield 15, 3) := by decide +kernel
theorem dX6_addRoutine_28 : decode cX6_addRoutine 28 = .ok (.iload_n 2, 1) := by decide +kernel
theorem dX6_addRoutine_29 : decode cX6_addRoutine 29 = .ok (.ireturn, 1) := by decide +kernel
theorem dX6_change_0 : decode cX6_change 0 = .ok (.aload_n 1, 1) := by decide +kernel
theorem dX6_change_1 : decode cX6_change 1 = .ok (.iload_n 2, 1) := by decide +kernel
theorem dX6_change_2 : decode cX6_change 2 = .ok (.iload_n 3, 1) := by decide +kernel
theorem dX6_change_3 : decode cX6_change 3 = .ok (.iload 4, 2) := by decide +kernel
theorem dX6_change_5 : decode cX6_change 5 = .ok (.iload 5, 2) := by decide +kernel
theorem dX6_change_7 : decode cX6_change 7 = .ok (.iload 6, 2) := by decide +kernel
theorem dX6_change_9 : decode cX6_change 9 = .ok (.invokevirtual 191, 3) := by decide +kernel
theorem dX6_change_12 : decode cX6_change 12 = .ok (.aload_n 1, 1) := by decide +kernel
theorem dX6_change_13 : decode cX6_change 13 = .ok (.invokevirtual 195, 3) := by decide +kernel
theorem dX6_change_16 : decode cX6_change 16 = .ok (.aload_n 0, 1) := by decide +kernel
theorem dX6_change_17 : decode cX6_change 17 = .ok (.iconst (-1), 1) := by decide +kernel
theorem dX6_change_18 : decode cX6_change 18 = .ok (.putfield 26, 3) := by decide +kernel
theorem dX6_change_21 : decode cX6_change 21 = .ok (.return_, 1) := by decide +kernel
theorem dX6_treeOf_0 : decode cX6_treeOf 0 = .ok (.aload_n 0, 1) := by decide +kernel
theorem dX6_treeOf_1 : decode cX6_treeOf 1 = .ok (.getfield 26, 3) := by decide +kernel
theorem dX6_treeOf_4 : decode cX6_treeOf 4 = .ok (.iload_n 1, 1) := by decide +kernel
theorem dX6_treeOf_5 : decode cX6_treeOf 5 = .ok (.if_icmp .eq 16, 3) := by decide +kernel
theorem dX6_treeOf_8 : decode cX6_treeOf 8 = .ok (.aload_n 0, 1) := by decide +kernel
theorem dX6_treeOf_9 : decode cX6_treeOf 9 = .ok (.getfield 22, 3) := by decide +kernel
theorem dX6_treeOf_12 : decode cX6_treeOf 12 = .ok (.aload_n 2, 1) := by decide +kernel
theorem dX6_treeOf_13 : decode cX6_treeOf 13 = .ok (.invokevirtual 198, 3) := by decide +kernel
theorem dX6_treeOf_16 : decode cX6_treeOf 16 = .ok (.aload_n 0, 1) := by decide +kernel
theorem dX6_treeOf_17 : decode cX6_treeOf 17 = .ok (.iload_n 1, 1) := by decide +kernel
theorem dX6_treeOf_18 : decode cX6_treeOf 18 = .ok (.putfield 26, 3) := by decide +kernel
theorem dX6_treeOf_21 : decode cX6_treeOf 21 = .ok (.aload_n 0, 1) := by decide +kernel
theorem dX6_treeOf_22 : decode cX6_treeOf 22 = .ok (.getfield 22, 3) := by decide +kernel
theorem dX6_treeOf_25 : decode cX6_treeOf 25 = .ok (.getfield 201, 3) := by decide +kernel
theorem dX6_treeOf_28 : decode cX6_treeOf 28 = .ok (.areturn, 1) := by decide +kernel
theorem dX6_cameTo_0 : decode cX6_cameTo 0 = .ok (.aload_n 0, 1) := by decide +kernel
theorem dX6_cameTo_1 : decode cX6_cameTo 1 = .ok (.getfield 32, 3) := by decide +kernel
theorem dX6_cameTo_4 : decode cX6_cameTo 4 = .ok (.aload_n 1, 1) := by decide +kernel
theorem dX6_cameTo_5 : decode cX6_cameTo 5 = .ok (.invokevirtual 205, 3) := by decide +kernel
theorem dX6_cameTo_8 : decode cX6_cameTo 8 = .ok (.aload_n 0, 1) := by decide +kernel
theorem dX6_cameTo_9 : decode cX6_cameTo 9 = .ok (.getfield 32, 3) := by decide +kernel
theorem dX6_cameTo_12 : decode cX6_cameTo 12 = .ok (.getfield 208, 3) := by decide +kernel
theorem dX6_cameTo_15 : decode cX6_cameTo 15 = .ok (.iload_n 2, 1) := by decide +kernel
theorem dX6_cameTo_16 : decode cX6_cameTo 16 = .ok (.iaload, 1) := by decide +kernel
theorem dX6_cameTo_17 : decode cX6_cameTo 17 = .ok (.ireturn, 1) := by decide +kernel
theorem dX6_neverMet_0 : decode cX6_neverMet 0 = .ok (.aload_n 0, 1) := by decide +kernel
theorem dX6_neverMet_1 : decode cX6_neverMet 1 = .ok (.getfield 32, 3) := by decide +kernel
theorem dX6_neverMet_4 : decode cX6_neverMet 4 = .ok (.aload_n 1, 1) := by decide +kernel
theorem dX6_neverMet_5 : decode cX6_neverMet 5 = .ok (.invokevirtual 205, 3) := by decide +kernel
theorem dX6_neverMet_8 : decode cX6_neverMet 8 = .ok (.aload_n 1, 1) := by decide +kernel
theorem dX6_neverMet_9 : decode cX6_neverMet 9 = .ok (.getfield 76, 3) := by decide +kernel
theorem dX6_neverMet_12 : decode cX6_neverMet 12 = .ok (.aload_n 0, 1) := by decide +kernel
theorem dX6_neverMet_13 : decode cX6_neverMet 13 = .ok (.getfield 32, 3) := by decide +kernel
theorem dX6_neverMet_16 : decode cX6_neverMet 16 = .ok (.getfield 211, 3) := by decide +kernel
theorem dX6_neverMet_19 : decode cX6_neverMet 19 = .ok (.isub, 1) := by decide +kernel
theorem dX6_neverMet_20 : decode cX6_neverMet 20 = .ok (.ireturn, 1) := by decide +kernel
theorem dX6_leastAlike_0 : decode cX6_leastAlike 0 = .ok (.iconst 0, 1) := by decide +kernel
theorem dX6_leastAlike_1 : decode cX6_leastAlike 1 = .ok (.istore_n 3, 1) := by decide +kernel
theorem dX6_leastAlike_2 : decode cX6_leastAlike 2 = .ok (.iload_n 3, 1) := by decide +kernel
theorem dX6_leastAlike_3 : decode cX6_leastAlike 3 = .ok (.iload_n 1, 1) := by decide +kernel
theorem dX6_leastAlike_4 : decode cX6_leastAlike 4 = .ok (.if_icmp .ge 32, 3) := by decide +kernel
theorem dX6_leastAlike_7 : decode cX6_leastAlike 7 = .ok (.aload_n 0, 1) := by decide +kernel
theorem dX6_leastAlike_8 : decode cX6_leastAlike 8 = .ok (.iload_n 3, 1) := by decide +kernel
theorem dX6_leastAlike_9 : decode cX6_leastAlike 9 = .ok (.invokevirtual 68, 3) := by decide +kernel
theorem dX6_leastAlike_12 : decode cX6_leastAlike 12 = .ok (.astore 4, 2) := by decide +kernel
theorem dX6_leastAlike_14 : decode cX6_leastAlike 14 = .ok (.aload 4, 2) := by decide +kernel
theorem dX6_leastAlike_16 : decode cX6_leastAlike 16 = .ok (.ifnull 14, 3) := by decide +kernel
theorem dX6_leastAlike_19 : decode cX6_leastAlike 19 = .ok (.aload 4, 2) := by decide +kernel
theorem dX6_leastAlike_21 : decode cX6_leastAlike 21 = .ok (.aload_n 2, 1) := by decide +kernel
theorem dX6_leastAlike_22 : decode cX6_leastAlike 22 = .ok (.invokevirtual 168, 3) := by decide +kernel
theorem dX6_leastAlike_25 : decode cX6_leastAlike 25 = .ok (.ifCond .eq 5, 3) := by decide +kernel
theorem dX6_leastAlike_28 : decode cX6_leastAlike 28 = .ok (.iload_n 3, 1) := by decide +kernel
theorem dX6_leastAlike_29 : decode cX6_leastAlike 29 = .ok (.ireturn, 1) := by decide +kernel
theorem dX6_leastAlike_30 : decode cX6_leastAlike 30 = .ok (.iinc 3 1, 3) := by decide +kernel
theorem dX6_leastAlike_33 : decode cX6_leastAlike 33 = .ok (.goto (-31), 3) := by decide +kernel
theorem dX6_leastAlike_36 : decode cX6_leastAlike 36 = .ok (.iload_n 1, 1) := by decide +kernel
theorem dX6_leastAlike_37 : decode cX6_leastAlike 37 = .ok (.ireturn, 1) := by decide +kernel
theorem dX6_callersOf_0 : decode cX6_callersOf 0 = .ok (.iconst 0, 1) := by decide +kernel
theorem dX6_callersOf_1 : decode cX6_callersOf 1 = .ok (.istore_n 2, 1) := by decide +kernel
theorem dX6_callersOf_2 : decode cX6_callersOf 2 = .ok (.iconst 0, 1) := by decide +kernel
theorem dX6_callersOf_3 : decode cX6_callersOf 3 = .ok (.istore_n 3, 1) := by decide +kernel
theorem dX6_callersOf_4 : decode cX6_callersOf 4 = .ok (.iload_n 3, 1) := by decide +kernel
theorem dX6_callersOf_5 : decode cX6_callersOf 5 = .ok (.aload_n 0, 1) := by decide +kernel
theorem dX6_callersOf_6 : decode cX6_callersOf 6 = .ok (.getfield 15, 3) := by decide +kernel
theorem dX6_callersOf_9 : decode cX6_callersOf 9 = .ok (.if_icmp .ge 33, 3) := by decide +kernel
theorem dX6_callersOf_12 : decode cX6_callersOf 12 = .ok (.aload_n 0, 1) := by decide +kernel
theorem dX6_callersOf_13 : decode cX6_callersOf 13 = .ok (.iload_n 3, 1) := by decide +kernel
theorem dX6_callersOf_14 : decode cX6_callersOf 14 = .ok (.invokevirtual 68, 3) := by decide +kernel
theorem dX6_callersOf_17 : decode cX6_callersOf 17 = .ok (.astore 4, 2) := by decide +kernel
theorem dX6_callersOf_19 : decode cX6_callersOf 19 = .ok (.aload 4, 2) := by decide +kernel
theorem dX6_callersOf_21 : decode cX6_callersOf 21 = .ok (.ifnull 15, 3) := by decide +kernel
theorem dX6_callersOf_24 : decode cX6_callersOf 24 = .ok (.aload 4, 2) := by decide +kernel
theorem dX6_callersOf_26 : decode cX6_callersOf 26 = .ok (.iload_n 1, 1) := by decide +kernel
theorem dX6_callersOf_27 : decode cX6_callersOf 27 = .ok (.invokevirtual 214, 3) := by decide +kernel
theorem dX6_callersOf_30 : decode cX6_callersOf 30 = .ok (.ifCond .eq 6, 3) := by decide +kernel
theorem dX6_callersOf_33 : decode cX6_callersOf 33 = .ok (.iinc 2 1, 3) := by decide +kernel
theorem dX6_callersOf_36 : decode cX6_callersOf 36 = .ok (.iinc 3 1, 3) := by decide +kernel
theorem dX6_callersOf_39 : decode cX6_callersOf 39 = .ok (.goto (-35), 3) := by decide +kernel
theorem dX6_callersOf_42 : decode cX6_callersOf 42 = .ok (.iload_n 2, 1) := by decide +kernel
theorem dX6_callersOf_43 : decode cX6_callersOf 43 = .ok (.ireturn, 1) := by decide +kernel
theorem dX6_isJump_0 : decode cX6_isJump 0 = .ok (.iload_n 0, 1) := by decide +kernel
theorem dX6_isJump_1 : decode cX6_isJump 1 = .ok (.iconst 2, 1) := by decide +kernel
theorem dX6_isJump_2 : decode cX6_isJump 2 = .ok (.if_icmp .eq 8, 3) := by decide +kernel
theorem dX6_isJump_5 : decode cX6_isJump 5 = .ok (.iload_n 0, 1) := by decide +kernel
theorem dX6_isJump_6 : decode cX6_isJump 6 = .ok (.iconst 3, 1) := by decide +kernel
theorem dX6_isJump_7 : decode cX6_isJump 7 = .ok (.if_icmp .ne 7, 3) := by decide +kernel
theorem dX6_isJump_10 : decode cX6_isJump 10 = .ok (.iconst 1, 1) := by decide +kernel
theorem dX6_isJump_11 : decode cX6_isJump 11 = .ok (.goto 4, 3) := by decide +kernel
theorem dX6_isJump_14 : decode cX6_isJump 14 = .ok (.iconst 0, 1) := by decide +kernel
theorem dX6_isJump_15 : decode cX6_isJump 15 = .ok (.ireturn, 1) := by decide +kernel
theorem dX6_isAct_0 : decode cX6_isAct 0 = .ok (.iload_n 0, 1) := by decide +kernel
theorem dX6_isAct_1 : decode cX6_isAct 1 = .ok (.ifCond .lt 59, 3) := by decide +kernel
theorem dX6_isAct_4 : decode cX6_isAct 4 = .ok (.iload_n 0, 1) := by decide +kernel
theorem dX6_isAct_5 : decode cX6_isAct 5 = .ok (.iconst 5, 1) := by decide +kernel
theorem dX6_isAct_6 : decode cX6_isAct 6 = .ok (.if_icmp .gt 54, 3) := by decide +kernel
theorem dX6_isAct_9 : decode cX6_isAct 9 = .ok (.iload_n 0, 1) := by decide +kernel
theorem dX6_isAct_10 : decode cX6_isAct 10 = .ok (.invokestatic 217, 3) := by decide +kernel
theorem dX6_isAct_13 : decode cX6_isAct 13 = .ok (.ifCond .eq 11, 3) := by decide +kernel
theorem dX6_isAct_16 : decode cX6_isAct 16 = .ok (.iload_n 0, 1) := by decide +kernel
theorem dX6_isAct_17 : decode cX6_isAct 17 = .ok (.iload_n 1, 1) := by decide +kernel
theorem dX6_isAct_18 : decode cX6_isAct 18 = .ok (.invokestatic 220, 3) := by decide +kernel
theorem dX6_isAct_21 : decode cX6_isAct 21 = .ok (.ifCond .eq 39, 3) := by decide +kernel
theorem dX6_isAct_24 : decode cX6_isAct 24 = .ok (.iload_n 0, 1) := by decide +kernel
theorem dX6_isAct_25 : decode cX6_isAct 25 = .ok (.invokestatic 224, 3) := by decide +kernel
theorem dX6_isAct_28 : decode cX6_isAct 28 = .ok (.ifCond .eq 11, 3) := by decide +kernel
theorem dX6_isAct_31 : decode cX6_isAct 31 = .ok (.iload_n 0, 1) := by decide +kernel
theorem dX6_isAct_32 : decode cX6_isAct 32 = .ok (.iload_n 2, 1) := by decide +kernel
theorem dX6_isAct_33 : decode cX6_isAct 33 = .ok (.invokestatic 227, 3) := by decide +kernel
theorem dX6_isAct_36 : decode cX6_isAct 36 = .ok (.ifCond .eq 24, 3) := by decide +kernel
theorem dX6_isAct_39 : decode cX6_isAct 39 = .ok (.iload_n 0, 1) := by decide +kernel
theorem dX6_isAct_40 : decode cX6_isAct 40 = .ok (.invokestatic 230, 3) := by decide +kernel
theorem dX6_isAct_43 : decode cX6_isAct 43 = .ok (.ifCond .eq 13, 3) := by decide +kernel
theorem dX6_isAct_46 : decode cX6_isAct 46 = .ok (.iload_n 3, 1) := by decide +kernel
theorem dX6_isAct_47 : decode cX6_isAct 47 = .ok (.ifCond .lt 13, 3) := by decide +kernel
theorem dX6_isAct_50 : decode cX6_isAct 50 = .ok (.iload_n 3, 1) := by decide +kernel
theorem dX6_isAct_51 : decode cX6_isAct 51 = .ok (.bipush 60, 2) := by decide +kernel
theorem dX6_isAct_53 : decode cX6_isAct 53 = .ok (.if_icmp .gt 7, 3) := by decide +kernel
theorem dX6_isAct_56 : decode cX6_isAct 56 = .ok (.iconst 1, 1) := by decide +kernel
theorem dX6_isAct_57 : decode cX6_isAct 57 = .ok (.goto 4, 3) := by decide +kernel
theorem dX6_isAct_60 : decode cX6_isAct 60 = .ok (.iconst 0, 1) := by decide +kernel
theorem dX6_isAct_61 : decode cX6_isAct 61 = .ok (.ireturn, 1) := by decide +kernel
theorem dX6_usesA_0 : decode cX6_usesA 0 = .ok (.iload_n 0, 1) := by decide +kernel
theorem dX6_usesA_1 : decode cX6_usesA 1 = .ok (.iconst 2, 1) := by decide +kernel
theorem dX6_usesA_2 : decode cX6_usesA 2 = .ok (.if_icmp .eq 12, 3) := by decide +kernel
theorem dX6_usesA_5 : decode cX6_usesA 5 = .ok (.iload_n 0, 1) := by decide +kernel
theorem dX6_usesA_6 : decode cX6_usesA 6 = .ok (.iconst 4, 1) := by decide +kernel
theorem dX6_usesA_7 : decode cX6_usesA 7 = .ok (.if_icmp .eq 7, 3) := by decide +kernel
theorem dX6_usesA_10 : decode cX6_usesA 10 = .ok (.iconst 1, 1) := by decide +kernel
theorem dX6_usesA_11 : decode cX6_usesA 11 = .ok (.goto 4, 3) := by decide +kernel
theorem dX6_usesA_14 : decode cX6_usesA 14 = .ok (.iconst 0, 1) := by decide +kernel
theorem dX6_usesA_15 : decode cX6_usesA 15 = .ok (.ireturn, 1) := by decide +kernel
theorem dX6_usesB_0 : decode cX6_usesB 0 = .ok (.iload_n 0, 1) := by decide +kernel
theorem dX6_usesB_1 : decode cX6_usesB 1 = .ok (.iconst 1, 1) := by decide +kernel
theorem dX6_usesB_2 : decode cX6_usesB 2 = .ok (.if_icmp .eq 8, 3) := by decide +kernel
theorem dX6_usesB_5 : decode cX6_usesB 5 = .ok (.iload_n 0, 1) := by decide +kernel
theorem dX6_usesB_6 : decode cX6_usesB 6 = .ok (.iconst 3, 1) := by decide +kernel
theorem dX6_usesB_7 : decode cX6_usesB 7 = .ok (.if_icmp .ne 7, 3) := by decide +kernel
theorem dX6_usesB_10 : decode cX6_usesB 10 = .ok (.iconst 1, 1) := by decide +kernel
theorem dX6_usesB_11 : decode cX6_usesB 11 = .ok (.goto 4, 3) := by decide +kernel
theorem dX6_usesB_14 : decode cX6_usesB 14 = .ok (.iconst 0, 1) := by decide +kernel
theorem dX6_usesB_15 : decode cX6_usesB 15 = .ok (.ireturn, 1) := by decide +kernel
theorem dX6_mayHaveA_0 : decode cX6_mayHaveA 0 = .ok (.iload_n 0, 1) := by decide +kernel
theorem dX6_mayHaveA_1 : decode cX6_mayHaveA 1 = .ok (.tableswitch 72 0 5 #[39, 41, 72, 41, 72, 56], 39) := by decide +kernel
theorem dX6_mayHaveA_40 : decode cX6_mayHaveA 40 = .ok (.iconst 1, 1) := by decide +kernel
theorem dX6_mayHaveA_41 : decode cX6_mayHaveA 41 = .ok (.ireturn, 1) := by decide +kernel
theorem dX6_mayHaveA_42 : decode cX6_mayHaveA 42 = .ok (.iload_n 1, 1) := by decide +kernel
theorem dX6_mayHaveA_43 : decode cX6_mayHaveA 43 = .ok (.ifCond .lt 12, 3) := by decide +kernel
theorem dX6_mayHaveA_46 : decode cX6_mayHaveA 46 = .ok (.iload_n 1, 1) := by decide +kernel
theorem dX6_mayHaveA_47 : decode cX6_mayHaveA 47 = .ok (.iconst 4, 1) := by decide +kernel
theorem dX6_mayHaveA_48 : decode cX6_mayHaveA 48 = .ok (.if_icmp .ge 7, 3) := by decide +kernel
theorem dX6_mayHaveA_51 : decode cX6_mayHaveA 51 = .ok (.iconst 1, 1) := by decide +kernel
theorem dX6_mayHaveA_52 : decode cX6_mayHaveA 52 = .ok (.goto 4, 3) := by decide +kernel
theorem dX6_mayHaveA_55 : decode cX6_mayHaveA 55 = .ok (.iconst 0, 1) := by decide +kernel
theorem dX6_mayHaveA_56 : decode cX6_mayHaveA 56 = .ok (.ireturn, 1) := by decide +kernel
theorem dX6_mayHaveA_57 : decode cX6_mayHaveA 57 = .ok (.iload_n 1, 1) := by decide +kernel
theorem dX6_mayHaveA_58 : decode cX6_mayHaveA 58 = .ok (.ifCond .lt 13, 3) := by decide +kernel
theorem dX6_mayHaveA_61 : decode cX6_mayHaveA 61 = .ok (.iload_n 1, 1) := by decide +kernel
theorem dX6_mayHaveA_62 : decode cX6_mayHaveA 62 = .ok (.bipush 12, 2) := by decide +kernel
theorem dX6_mayHaveA_64 : decode cX6_mayHaveA 64 = .ok (.if_icmp .ge 7, 3) := by decide +kernel
theorem dX6_mayHaveA_67 : decode cX6_mayHaveA 67 = .ok (.iconst 1, 1) := by decide +kernel
theorem dX6_mayHaveA_68 : decode cX6_mayHaveA 68 = .ok (.goto 4, 3) := by decide +kernel
theorem dX6_mayHaveA_71 : decode cX6_mayHaveA 71 = .ok (.iconst 0, 1) := by decide +kernel
theorem dX6_mayHaveA_72 : decode cX6_mayHaveA 72 = .ok (.ireturn, 1) := by decide +kernel
theorem dX6_mayHaveA_73 : decode cX6_mayHaveA 73 = .ok (.iload_n 1, 1) := by decide +kernel
theorem dX6_mayHaveA_74 : decode cX6_mayHaveA 74 = .ok (.ifCond .ne 7, 3) := by decide +kernel
theorem dX6_mayHaveA_77 : decode cX6_mayHaveA 77 = .ok (.iconst 1, 1) := by decide +kernel
theorem dX6_mayHaveA_78 : decode cX6_mayHaveA 78 = .ok (.goto 4, 3) := by decide +kernel
theorem dX6_mayHaveA_81 : decode cX6_mayHaveA 81 = .ok (.iconst 0, 1) := by decide +kernel
theorem dX6_mayHaveA_82 : decode cX6_mayHaveA 82 = .ok (.ireturn, 1) := by decide +kernel
theorem dX6_mayHaveB_0 : decode cX6_mayHaveB 0 = .ok (.iload_n 0, 1) := by decide +kernel
theorem dX6_mayHaveB_1 : decode cX6_mayHaveB 1 = .ok (.lookupswitch 45 #[(1, 27), (3, 29)], 27) := by decide +kernel
theorem dX6_mayHaveB_28 : decode cX6_mayHaveB 28 = .ok (.iconst 1, 1) := by decide +kernel
theorem dX6_mayHaveB_29 : decode cX6_mayHaveB 29 = .ok (.ireturn, 1) := by decide +kernel
theorem dX6_mayHaveB_30 : decode cX6_mayHaveB 30 = .ok (.iload_n 1, 1) := by decide +kernel
theorem dX6_mayHaveB_31 : decode cX6_mayHaveB 31 = .ok (.ifCond .lt 13, 3) := by decide +kernel
theorem dX6_mayHaveB_34 : decode cX6_mayHaveB 34 = .ok (.iload_n 1, 1) := by decide +kernel
theorem dX6_mayHaveB_35 : decode cX6_mayHaveB 35 = .ok (.bipush 6, 2) := by decide +kernel
theorem dX6_mayHaveB_37 : decode cX6_mayHaveB 37 = .ok (.if_icmp .ge 7, 3) := by decide +kernel
theorem dX6_mayHaveB_40 : decode cX6_mayHaveB 40 = .ok (.iconst 1, 1) := by decide +kernel
theorem dX6_mayHaveB_41 : decode cX6_mayHaveB 41 = .ok (.goto 4, 3) := by decide +kernel
theorem dX6_mayHaveB_44 : decode cX6_mayHaveB 44 = .ok (.iconst 0, 1) := by decide +kernel
theorem dX6_mayHaveB_45 : decode cX6_mayHaveB 45 = .ok (.ireturn, 1) := by decide +kernel
theorem dX6_mayHaveB_46 : decode cX6_mayHaveB 46 = .ok (.iload_n 1, 1) := by decide +kernel
theorem dX6_mayHaveB_47 : decode cX6_mayHaveB 47 = .ok (.ifCond .ne 7, 3) := by decide +kernel
theorem dX6_mayHaveB_50 : decode cX6_mayHaveB 50 = .ok (.iconst 1, 1) := by decide +kernel
theorem dX6_mayHaveB_51 : decode cX6_mayHaveB 51 = .ok (.goto 4, 3) := by decide +kernel
theorem dX6_mayHaveB_54 : decode cX6_mayHaveB 54 = .ok (.iconst 0, 1) := by decide +kernel
theorem dX6_mayHaveB_55 : decode cX6_mayHaveB 55 = .ok (.ireturn, 1) := by decide +kernel
theorem dX7_init_0 : decode cX7_init 0 = .ok (.aload_n 0, 1) := by decide +kernel
theorem dX7_init_1 : decode cX7_init 1 = .ok (.invokespecial 1, 3) := by decide +kernel
theorem dX7_init_4 : decode cX7_init 4 = .ok (.aload_n 0, 1) := by decide +kernel
theorem dX7_init_5 : decode cX7_init 5 = .ok (.bipush 12, 2) := by decide +kernel
theorem dX7_init_7 : decode cX7_init 7 = .ok (.newarray .int, 2) := by decide +kernel
theorem dX7_init_9 : decode cX7_init 9 = .ok (.putfield 7, 3) := by decide +kernel
theorem dX7_init_12 : decode cX7_init 12 = .ok (.aload_n 0, 1) := by decide +kernel
theorem dX7_init_13 : decode cX7_init 13 = .ok (.sipush 720, 3) := by decide +kernel
theorem dX7_init_16 : decode cX7_init 16 = .ok (.newarray .int, 2) := by decide +kernel
theorem dX7_init_18 : decode cX7_init 18 = .ok (.putfield 13, 3) := by decide +kernel
theorem dX7_init_21 : decode cX7_init 21 = .ok (.aload_n 0, 1) := by decide +kernel
theorem dX7_init_22 : decode cX7_init 22 = .ok (.sipush 720, 3) := by decide +kernel
theorem dX7_init_25 : decode cX7_init 25 = .ok (.newarray .int, 2) := by decide +kernel
theorem dX7_init_27 : decode cX7_init 27 = .ok (.putfield 16, 3) := by decide +kernel
theorem dX7_init_30 : decode cX7_init 30 = .ok (.aload_n 0, 1) := by decide +kernel
theorem dX7_init_31 : decode cX7_init 31 = .ok (.sipush 720, 3) := by decide +kernel
theorem dX7_init_34 : decode cX7_init 34 = .ok (.newarray .int, 2) := by decide +kernel
theorem dX7_init_36 : decode cX7_init 36 = .ok (.putfield 19, 3) := by decide +kernel
theorem dX7_init_39 : decode cX7_init 39 = .ok (.aload_n 0, 1) := by decide +kernel
theorem dX7_init_40 : decode cX7_init 40 = .ok (.sipush 720, 3) := by decide +kernel
theorem dX7_init_43 : decode cX7_init 43 = .ok (.newarray .int, 2) := by decide +kernel
theorem dX7_init_45 : decode cX7_init 45 = .ok (.putfield 22, 3) := by decide +kernel
theorem dX7_init_48 : decode cX7_init 48 = .ok (.aload_n 0, 1) := by decide +kernel
theorem dX7_init_49 : decode cX7_init 49 = .ok (.iconst 4, 1) := by decide +kernel
theorem dX7_init_50 : decode cX7_init 50 = .ok (.newarray .int, 2) := by decide +kernel
theorem dX7_init_52 : decode cX7_init 52 = .ok (.putfield 25, 3) := by decide +kernel
theorem dX7_init_55 : decode cX7_init 55 = .ok (.aload_n 0, 1) := by decide +kernel
theorem dX7_init_56 : decode cX7_init 56 = .ok (.sipush 300, 3) := by decide +kernel
theorem dX7_init_59 : decode cX7_init 59 = .ok (.newarray .int, 2) := by decide +kernel
theorem dX7_init_61 : decode cX7_init 61 = .ok (.putfield 28, 3) := by decide +kernel
theorem dX7_init_64 : decode cX7_init 64 = .ok (.aload_n 0, 1) := by decide +kernel
theorem dX7_init_65 : decode cX7_init 65 = .ok (.iconst (-1), 1) := by decide +kernel
theorem dX7_init_66 : decode cX7_init 66 = .ok (.putfield 31, 3) := by decide +kernel
theorem dX7_init_69 : decode cX7_init 69 = .ok (.aload_n 0, 1) := by decide +kernel
theorem dX7_init_70 : decode cX7_init 70 = .ok (.sipush 200, 3) := by decide +kernel
theorem dX7_init_73 : decode cX7_init 73 = .ok (.newarray .int, 2) := by decide +kernel
theorem dX7_init_75 : decode cX7_init 75 = .ok (.putfield 35, 3) := by decide +kernel
theorem dX7_init_78 : decode cX7_init 78 = .ok (.aload_n 0, 1) := by decide +kernel
theorem dX7_init_79 : decode cX7_init 79 = .ok (.iconst 4, 1) := by decide +kernel
theorem dX7_init_80 : decode cX7_init 80 = .ok (.newarray .int, 2) := by decide +kernel
theorem dX7_init_82 : decode cX7_init 82 = .ok (.putfield 38, 3) := by decide +kernel
theorem dX7_init_85 : decode cX7_init 85 = .ok (.aload_n 0, 1) := by decide +kernel
theorem dX7_init_86 : decode cX7_init 86 = .ok (.sipush 200, 3) := by decide +kernel
theorem dX7_init_89 : decode cX7_init 89 = .ok (.newarray .int, 2) := by decide +kernel
theorem dX7_init_91 : decode cX7_init 91 = .ok (.putfield 41, 3) := by decide +kernel
theorem dX7_init_94 : decode cX7_init 94 = .ok (.aload_n 0, 1) := by decide +kernel
theorem dX7_init_95 : decode cX7_init 95 = .ok (.sipush 200, 3) := by decide +kernel
theorem dX7_init_98 : decode cX7_init 98 = .ok (.newarray .int, 2) := by decide +kernel
theorem dX7_init_100 : decode cX7_init 100 = .ok (.putfield 44, 3) := by decide +kernel
theorem dX7_init_103 : decode cX7_init 103 = .ok (.aload_n 0, 1) := by decide +kernel
theorem dX7_init_104 : decode cX7_init 104 = .ok (.sipush 200, 3) := by decide +kernel
theorem dX7_init_107 : decode cX7_init 107 = .ok (.newarray .int, 2) := by decide +kernel
theorem dX7_init_109 : decode cX7_init 109 = .ok (.putfield 47, 3) := by decide +kernel
theorem dX7_init_112 : decode cX7_init 112 = .ok (.aload_n 0, 1) := by decide +kernel
theorem dX7_init_113 : decode cX7_init 113 = .ok (.sipush 200, 3) := by decide +kernel
theorem dX7_init_116 : decode cX7_init 116 = .ok (.newarray .int, 2) := by decide +kernel
theorem dX7_init_118 : decode cX7_init 118 = .ok (.putfield 50, 3) := by decide +kernel
theorem dX7_init_121 : decode cX7_init 121 = .ok (.aload_n 0, 1) := by decide +kernel
theorem dX7_init_122 : decode cX7_init 122 = .ok (.sipush 200, 3) := by decide +kernel
theorem dX7_init_125 : decode cX7_init 125 = .ok (.newarray .int, 2) := by decide +kernel
theorem dX7_init_127 : decode cX7_init 127 = .ok (.putfield 53, 3) := by decide +kernel
theorem dX7_init_130 : decode cX7_init 130 = .ok (.aload_n 0, 1) := by decide +kernel
theorem dX7_init_131 : decode cX7_init 131 = .ok (.sipush 200, 3) := by decide +kernel
theorem dX7_init_134 : decode cX7_init 134 = .ok (.newarray .int, 2) := by decide +kernel
theorem dX7_init_136 : decode cX7_init 136 = .ok (.putfield 56, 3) := by decide +kernel
theorem dX7_init_139 : decode cX7_init 139 = .ok (.aload_n 0, 1) := by decide +kernel
theorem dX7_init_140 : decode cX7_init 140 = .ok (.sipush 200, 3) := by decide +kernel
theorem dX7_init_143 : decode cX7_init 143 = .ok (.newarray .int, 2) := by decide +kernel
theorem dX7_init_145 : decode cX7_init 145 = .ok (.putfield 59, 3) := by decide +kernel
theorem dX7_init_148 : decode cX7_init 148 = .ok (.aload_n 0, 1) := by decide +kernel
theorem dX7_init_149 : decode cX7_init 149 = .ok (.sipush 200, 3) := by decide +kernel
theorem dX7_init_152 : decode cX7_init 152 = .ok (.newarray .int, 2) := by decide +kernel
theorem dX7_init_154 : decode cX7_init 154 = .ok (.putfield 62, 3) := by decide +kernel
theorem dX7_init_157 : decode cX7_init 157 = .ok (.aload_n 0, 1) := by decide +kernel
theorem dX7_init_158 : decode cX7_init 158 = .ok (.sipush 200, 3) := by decide +kernel
theorem dX7_init_161 : decode cX7_init 161 = .ok (.newarray .int, 2) := by decide +kernel
theorem dX7_init_163 : decode cX7_init 163 = .ok (.putfield 65, 3) := by decide +kernel
theorem dX7_init_166 : decode cX7_init 166 = .ok (.aload_n 0, 1) := by decide +kernel
theorem dX7_init_167 : decode cX7_init 167 = .ok (.sipush 200, 3) := by decide +kernel
theorem dX7_init_170 : decode cX7_init 170 = .ok (.newarray .int, 2) := by decide +kernel
theorem dX7_init_172 : decode cX7_init 172 = .ok (.putfield 68, 3) := by decide +kernel
theorem dX7_init_175 : decode cX7_init 175 = .ok (.aload_n 0, 1) := by decide +kernel
theorem dX7_init_176 : decode cX7_init 176 = .ok (.sipush 200, 3) := by decide +kernel
theorem dX7_init_179 : decode cX7_init 179 = .ok (.newarray .int, 2) := by decide +kernel
theorem dX7_init_181 : decode cX7_init 181 = .ok (.putfield 71, 3) := by decide +kernel
theorem dX7_init_184 : decode cX7_init 184 = .ok (.aload_n 0, 1) := by decide +kernel
theorem dX7_init_185 : decode cX7_init 185 = .ok (.sipush 200, 3) := by decide +kernel
theorem dX7_init_188 : decode cX7_init 188 = .ok (.newarray .int, 2) := by decide +kernel
theorem dX7_init_190 : decode cX7_init 190 = .ok (.putfield 74, 3) := by decide +kernel
theorem dX7_init_193 : decode cX7_init 193 = .ok (.aload_n 0, 1) := by decide +kernel
theorem dX7_init_194 : decode cX7_init 194 = .ok (.sipush 200, 3) := by decide +kernel
theorem dX7_init_197 : decode cX7_init 197 = .ok (.newarray .int, 2) := by decide +kernel
theorem dX7_init_199 : decode cX7_init 199 = .ok (.putfield 77, 3) := by decide +kernel
theorem dX7_init_202 : decode cX7_init 202 = .ok (.aload_n 0, 1) := by decide +kernel
theorem dX7_init_203 : decode cX7_init 203 = .ok (.sipush 200, 3) := by decide +kernel
theorem dX7_init_206 : decode cX7_init 206 = .ok (.newarray .int, 2) := by decide +kernel
theorem dX7_init_208 : decode cX7_init 208 = .ok (.putfield 80, 3) := by decide +kernel
theorem dX7_init_211 : decode cX7_init 211 = .ok (.aload_n 0, 1) := by decide +kernel
theorem dX7_init_212 : decode cX7_init 212 = .ok (.sipush 1000, 3) := by decide +kernel
theorem dX7_init_215 : decode cX7_init 215 = .ok (.newarray .int, 2) := by decide +kernel
theorem dX7_init_217 : decode cX7_init 217 = .ok (.putfield 83, 3) := by decide +kernel
theorem dX7_init_220 : decode cX7_init 220 = .ok (.aload_n 0, 1) := by decide +kernel
theorem dX7_init_221 : decode cX7_init 221 = .ok (.bipush 61, 2) := by decide +kernel
theorem dX7_init_223 : decode cX7_init 223 = .ok (.newarray .boolean, 2) := by decide +kernel
theorem dX7_init_225 : decode cX7_init 225 = .ok (.putfield 86, 3) := by decide +kernel
theorem dX7_init_228 : decode cX7_init 228 = .ok (.aload_n 0, 1) := by decide +kernel
theorem dX7_init_229 : decode cX7_init 229 = .ok (.sipush 200, 3) := by decide +kernel
theorem dX7_init_232 : decode cX7_init 232 = .ok (.newarray .int, 2) := by decide +kernel
theorem dX7_init_234 : decode cX7_init 234 = .ok (.putfield 90, 3) := by decide +kernel
theorem dX7_init_237 : decode cX7_init 237 = .ok (.aload_n 0, 1) := by decide +kernel
theorem dX7_init_238 : decode cX7_init 238 = .ok (.sipush 400, 3) := by decide +kernel
theorem dX7_init_241 : decode cX7_init 241 = .ok (.newarray .int, 2) := by decide +kernel
theorem dX7_init_243 : decode cX7_init 243 = .ok (.putfield 93, 3) := by decide +kernel
theorem dX7_init_246 : decode cX7_init 246 = .ok (.aload_n 0, 1) := by decide +kernel
theorem dX7_init_247 : decode cX7_init 247 = .ok (.sipush 400, 3) := by decide +kernel
theorem dX7_init_250 : decode cX7_init 250 = .ok (.newarray .int, 2) := by decide +kernel
theorem dX7_init_252 : decode cX7_init 252 = .ok (.putfield 96, 3) := by decide +kernel
theorem dX7_init_255 : decode cX7_init 255 = .ok (.aload_n 0, 1) := by decide +kernel
theorem dX7_init_256 : decode cX7_init 256 = .ok (.sipush 400, 3) := by decide +kernel
theorem dX7_init_259 : decode cX7_init 259 = .ok (.newarray .int, 2) := by decide +kernel
theorem dX7_init_261 : decode cX7_init 261 = .ok (.putfield 99, 3) := by decide +kernel
theorem dX7_init_264 : decode cX7_init 264 = .ok (.aload_n 0, 1) := by decide +kernel
theorem dX7_init_265 : decode cX7_init 265 = .ok (.sipush 400, 3) := by decide +kernel
theorem dX7_init_268 : decode cX7_init 268 = .ok (.newarray .int, 2) := by decide +kernel
theorem dX7_init_270 : decode cX7_init 270 = .ok (.putfield 102, 3) := by decide +kernel
theorem dX7_init_273 : decode cX7_init 273 = .ok (.aload_n 0, 1) := by decide +kernel
theorem dX7_init_274 : decode cX7_init 274 = .ok (.sipush 400, 3) := by decide +kernel
theorem dX7_init_277 : decode cX7_init 277 = .ok (.newarray .int, 2) := by decide +kernel
theorem dX7_init_279 : decode cX7_init 279 = .ok (.putfield 105, 3) := by decide +kernel
theorem dX7_init_282 : decode cX7_init 282 = .ok (.aload_n 0, 1) := by decide +kernel
theorem dX7_init_283 : decode cX7_init 283 = .ok (.sipush 400, 3) := by decide +kernel
theorem dX7_init_286 : decode cX7_init 286 = .ok (.newarray .int, 2) := by decide +kernel
theorem dX7_init_288 : decode cX7_init 288 = .ok (.putfield 108, 3) := by decide +kernel
theorem dX7_init_291 : decode cX7_init 291 = .ok (.aload_n 0, 1) := by decide +kernel
theorem dX7_init_292 : decode cX7_init 292 = .ok (.bipush 64, 2) := by decide +kernel
theorem dX7_init_294 : decode cX7_init 294 = .ok (.newarray .int, 2) := by decide +kernel
theorem dX7_init_296 : decode cX7_init 296 = .ok (.putfield 111, 3) := by decide +kernel
theorem dX7_init_299 : decode cX7_init 299 = .ok (.aload_n 0, 1) := by decide +kernel
theorem dX7_init_300 : decode cX7_init 300 = .ok (.bipush 64, 2) := by decide +kernel
theorem dX7_init_302 : decode cX7_init 302 = .ok (.newarray .int, 2) := by decide +kernel
theorem dX7_init_304 : decode cX7_init 304 = .ok (.putfield 114, 3) := by decide +kernel
theorem dX7_init_307 : decode cX7_init 307 = .ok (.aload_n 0, 1) := by decide +kernel
theorem dX7_init_308 : decode cX7_init 308 = .ok (.bipush 64, 2) := by decide +kernel
theorem dX7_init_310 : decode cX7_init 310 = .ok (.newarray .int, 2) := by decide +kernel
theorem dX7_init_312 : decode cX7_init 312 = .ok (.putfield 117, 3) := by decide +kernel
theorem dX7_init_315 : decode cX7_init 315 = .ok (.aload_n 0, 1) := by decide +kernel
theorem dX7_init_316 : decode cX7_init 316 = .ok (.bipush 64, 2) := by decide +kernel
theorem dX7_init_318 : decode cX7_init 318 = .ok (.newarray .int, 2) := by decide +kernel
theorem dX7_init_320 : decode cX7_init 320 = .ok (.putfield 120, 3) := by decide +kernel
theorem dX7_init_323 : decode cX7_init 323 = .ok (.aload_n 0, 1) := by decide +kernel
theorem dX7_init_324 : decode cX7_init 324 = .ok (.bipush 64, 2) := by decide +kernel
theorem dX7_init_326 : decode cX7_init 326 = .ok (.newarray .int, 2) := by decide +kernel
theorem dX7_init_328 : decode cX7_init 328 = .ok (.putfield 123, 3) := by decide +kernel
theorem dX7_init_331 : decode cX7_init 331 = .ok (.aload_n 0, 1) := by decide +kernel
theorem dX7_init_332 : decode cX7_init 332 = .ok (.bipush 64, 2) := by decide +kernel
theorem dX7_init_334 : decode cX7_init 334 = .ok (.newarray .int, 2) := by decide +kernel
theorem dX7_init_336 : decode cX7_init 336 = .ok (.putfield 126, 3) := by decide +kernel
theorem dX7_init_339 : decode cX7_init 339 = .ok (.aload_n 0, 1) := by decide +kernel
theorem dX7_init_340 : decode cX7_init 340 = .ok (.bipush 8, 2) := by decide +kernel
theorem dX7_init_342 : decode cX7_init 342 = .ok (.newarray .int, 2) := by decide +kernel
theorem dX7_init_344 : decode cX7_init 344 = .ok (.putfield 129, 3) := by decide +kernel
theorem dX7_init_347 : decode cX7_init 347 = .ok (.aload_n 0, 1) := by decide +kernel
theorem dX7_init_348 : decode cX7_init 348 = .ok (.bipush 8, 2) := by decide +kernel
theorem dX7_init_350 : decode cX7_init 350 = .ok (.newarray .int, 2) := by decide +kernel
theorem dX7_init_352 : decode cX7_init 352 = .ok (.putfield 132, 3) := by decide +kernel
theorem dX7_init_355 : decode cX7_init 355 = .ok (.aload_n 0, 1) := by decide +kernel
theorem dX7_init_356 : decode cX7_init 356 = .ok (.iconst 0, 1) := by decide +kernel
theorem dX7_init_357 : decode cX7_init 357 = .ok (.putfield 135, 3) := by decide +kernel
theorem dX7_init_360 : decode cX7_init 360 = .ok (.return_, 1) := by decide +kernel
theorem dX7_in_0 : decode cX7_in 0 = .ok (.iload_n 0, 1) := by decide +kernel
theorem dX7_in_1 : decode cX7_in 1 = .ok (.iload_n 1, 1) := by decide +kernel
theorem dX7_in_2 : decode cX7_in 2 = .ok (.if_icmp .lt 12, 3) := by decide +kernel
theorem dX7_in_5 : decode cX7_in 5 = .ok (.iload_n 0, 1) := by decide +kernel
theorem dX7_in_6 : decode cX7_in 6 = .ok (.iload_n 2, 1) := by decide +kernel
theorem dX7_in_7 : decode cX7_in 7 = .ok (.if_icmp .gt 7, 3) := by decide +kernel
theorem dX7_in_10 : decode cX7_in 10 = .ok (.iconst 1, 1) := by decide +kernel
theorem dX7_in_11 : decode cX7_in 11 = .ok (.goto 4, 3) := by decide +kernel
theorem dX7_in_14 : decode cX7_in 14 = .ok (.iconst 0, 1) := by decide +kernel
theorem dX7_in_15 : decode cX7_in 15 = .ok (.ireturn, 1) := by decide +kernel
theorem dX7_isRoutine_0 : decode cX7_isRoutine 0 = .ok (.iload_n 1, 1) := by decide +kernel
theorem dX7_isRoutine_1 : decode cX7_isRoutine 1 = .ok (.iconst 0, 1) := by decide +kernel
theorem dX7_isRoutine_2 : decode cX7_isRoutine 2 = .ok (.aload_n 0, 1) := by decide +kernel
theorem dX7_isRoutine_3 : decode cX7_isRoutine 3 = .ok (.getfield 135, 3) := by decide +kernel
theorem dX7_isRoutine_6 : decode cX7_isRoutine 6 = .ok (.iconst 1, 1) := by decide +kernel
theorem dX7_isRoutine_7 : decode cX7_isRoutine 7 = .ok (.isub, 1) := by decide +kernel
theorem dX7_isRoutine_8 : decode cX7_isRoutine 8 = .ok (.invokestatic 138, 3) := by decide +kernel
theorem dX7_isRoutine_11 : decode cX7_isRoutine 11 = .ok (.ireturn, 1) := by decide +kernel
theorem dX7_routine_0 : decode cX7_routine 0 = .ok (.aload_n 0, 1) := by decide +kernel
theorem dX7_routine_1 : decode cX7_routine 1 = .ok (.getfield 135, 3) := by decide +kernel
theorem dX7_routine_4 : decode cX7_routine 4 = .ok (.bipush 12, 2) := by decide +kernel
theorem dX7_routine_6 : decode cX7_routine 6 = .ok (.if_icmp .ne 6, 3) := by decide +kernel
theorem dX7_routine_9 : decode cX7_routine 9 = .ok (.bipush (-4), 2) := by decide +kernel
theorem dX7_routine_11 : decode cX7_routine 11 = .ok (.ireturn, 1) := by decide +kernel
theorem dX7_routine_12 : decode cX7_routine 12 = .ok (.aload_n 0, 1) := by decide +kernel
theorem dX7_routine_13 : decode cX7_routine 13 = .ok (.getfield 7, 3) := by decide +kernel
theorem dX7_routine_16 : decode cX7_routine 16 = .ok (.aload_n 0, 1) := by decide +kernel
theorem dX7_routine_17 : decode cX7_routine 17 = .ok (.getfield 135, 3) := by decide +kernel
theorem dX7_routine_20 : decode cX7_routine 20 = .ok (.iconst 0, 1) := by decide +kernel
theorem dX7_routine_21 : decode cX7_routine 21 = .ok (.iastore, 1) := by decide +kernel
theorem dX7_routine_22 : decode cX7_routine 22 = .ok (.aload_n 0, 1) := by decide +kernel
theorem dX7_routine_23 : decode cX7_routine 23 = .ok (.dup, 1) := by decide +kernel
theorem dX7_routine_24 : decode cX7_routine 24 = .ok (.getfield 135, 3) := by decide +kernel
theorem dX7_routine_27 : decode cX7_routine 27 = .ok (.iconst 1, 1) := by decide +kernel
theorem dX7_routine_28 : decode cX7_routine 28 = .ok (.iadd, 1) := by decide +kernel
theorem dX7_routine_29 : decode cX7_routine 29 = .ok (.putfield 135, 3) := by decide +kernel
theorem dX7_routine_32 : decode cX7_routine 32 = .ok (.aload_n 0, 1) := by decide +kernel
theorem dX7_routine_33 : decode cX7_routine 33 = .ok (.getfield 135, 3) := by decide +kernel
theorem dX7_routine_36 : decode cX7_routine 36 = .ok (.iconst 1, 1) := by decide +kernel
theorem dX7_routine_37 : decode cX7_routine 37 = .ok (.isub, 1) := by decide +kernel
theorem dX7_routine_38 : decode cX7_routine 38 = .ok (.ireturn, 1) := by decide +kernel
theorem dX7_isAct_0 : decode cX7_isAct 0 = .ok (.iload_n 0, 1) := by decide +kernel
theorem dX7_isAct_1 : decode cX7_isAct 1 = .ok (.tableswitch 86 0 4 #[35, 37, 44, 52, 35], 35) := by decide +kernel
theorem dX7_isAct_36 : decode cX7_isAct 36 = .ok (.iconst 1, 1) := by decide +kernel
theorem dX7_isAct_37 : decode cX7_isAct 37 = .ok (.ireturn, 1) := by decide +kernel
theorem dX7_isAct_38 : decode cX7_isAct 38 = .ok (.iload_n 1, 1) := by decide +kernel
theorem dX7_isAct_39 : decode cX7_isAct 39 = .ok (.iconst 0, 1) := by decide +kernel
theorem dX7_isAct_40 : decode cX7_isAct 40 = .ok (.iconst 3, 1) := by decide +kernel
theorem dX7_isAct_41 : decode cX7_isAct 41 = .ok (.invokestatic 138, 3) := by decide +kernel
theorem dX7_isAct_44 : decode cX7_isAct 44 = .ok (.ireturn, 1) := by decide +kernel
theorem dX7_isAct_45 : decode cX7_isAct 45 = .ok (.iload_n 3, 1) := by decide +kernel
theorem dX7_isAct_46 : decode cX7_isAct 46 = .ok (.iconst 0, 1) := by decide +kernel
theorem dX7_isAct_47 : decode cX7_isAct 47 = .ok (.bipush 60, 2) := by decide +kernel
theorem dX7_isAct_49 : decode cX7_isAct 49 = .ok (.invokestatic 138, 3) := by decide +kernel
theorem dX7_isAct_52 : decode cX7_isAct 52 = .ok (.ireturn, 1) := by decide +kernel
theorem dX7_isAct_53 : decode cX7_isAct 53 = .ok (.iload_n 1, 1) := by decide +kernel
theorem dX7_isAct_54 : decode cX7_isAct 54 = .ok (.iconst 0, 1) := by decide +kernel
theorem dX7_isAct_55 : decode cX7_isAct 55 = .ok (.iconst 3, 1) := by decide +kernel
theorem dX7_isAct_56 : decode cX7_isAct 56 = .ok (.invokestatic 138, 3) := by decide +kernel
theorem dX7_isAct_59 : decode cX7_isAct 59 = .ok (.ifCond .eq 26, 3) := by decide +kernel
theorem dX7_isAct_62 : decode cX7_isAct 62 = .ok (.iload_n 2, 1) := by decide +kernel
theorem dX7_isAct_63 : decode cX7_isAct 63 = .ok (.iconst 0, 1) := by decide +kernel
theorem dX7_isAct_64 : decode cX7_isAct 64 = .ok (.iconst 5, 1) := by decide +kernel
theorem dX7_isAct_65 : decode cX7_isAct 65 = .ok (.invokestatic 138, 3) := by decide +kernel
theorem dX7_isAct_68 : decode cX7_isAct 68 = .ok (.ifCond .eq 17, 3) := by decide +kernel
theorem dX7_isAct_71 : decode cX7_isAct 71 = .ok (.iload_n 3, 1) := by decide +kernel
theorem dX7_isAct_72 : decode cX7_isAct 72 = .ok (.iconst 0, 1) := by decide +kernel
theorem dX7_isAct_73 : decode cX7_isAct 73 = .ok (.bipush 60, 2) := by decide +kernel
theorem dX7_isAct_75 : decode cX7_isAct 75 = .ok (.invokestatic 138, 3) := by decide +kernel
theorem dX7_isAct_78 : decode cX7_isAct 78 = .ok (.ifCond .eq 7, 3) := by decide +kernel
theorem dX7_isAct_81 : decode cX7_isAct 81 = .ok (.iconst 1, 1) := by decide +kernel
theorem dX7_isAct_82 : decode cX7_isAct 82 = .ok (.goto 4, 3) := by decide +kernel
theorem dX7_isAct_85 : decode cX7_isAct 85 = .ok (.iconst 0, 1) := by decide +kernel
theorem dX7_isAct_86 : decode cX7_isAct 86 = .ok (.ireturn, 1) := by decide +kernel
theorem dX7_isAct_87 : decode cX7_isAct 87 = .ok (.iload_n 0, 1) := by decide +kernel
theorem dX7_isAct_88 : decode cX7_isAct 88 = .ok (.iconst 5, 1) := by decide +kernel
theorem dX7_isAct_89 : decode cX7_isAct 89 = .ok (.if_icmp .ne 17, 3) := by decide +kernel
theorem dX7_isAct_92 : decode cX7_isAct 92 = .ok (.iload_n 1, 1) := by decide +kernel
theorem dX7_isAct_93 : decode cX7_isAct 93 = .ok (.iconst 0, 1) := by decide +kernel
theorem dX7_isAct_94 : decode cX7_isAct 94 = .ok (.bipush 11, 2) := by decide +kernel
theorem dX7_isAct_96 : decode cX7_isAct 96 = .ok (.invokestatic 138, 3) := by decide +kernel
theorem dX7_isAct_99 : decode cX7_isAct 99 = .ok (.ifCond .eq 7, 3) := by decide +kernel
theorem dX7_isAct_102 : decode cX7_isAct 102 = .ok (.iconst 1, 1) := by decide +kernel
theorem dX7_isAct_103 : decode cX7_isAct 103 = .ok (.goto 4, 3) := by decide +kernel
theorem dX7_isAct_106 : decode cX7_isAct 106 = .ok (.iconst 0, 1) := by decide +kernel
theorem dX7_isAct_107 : decode cX7_isAct 107 = .ok (.ireturn, 1) := by decide +kernel
theorem dX7_put_0 : decode cX7_put 0 = .ok (.bipush 60, 2) := by decide +kernel
theorem dX7_put_2 : decode cX7_put 2 = .ok (.iload_n 1, 1) := by decide +kernel
theorem dX7_put_3 : decode cX7_put 3 = .ok (.imul, 1) := by decide +kernel
theorem dX7_put_4 : decode cX7_put 4 = .ok (.iload_n 2, 1) := by decide +kernel
theorem dX7_put_5 : decode cX7_put 5 = .ok (.iadd, 1) := by decide +kernel
theorem dX7_put_6 : decode cX7_put 6 = .ok (.istore 7, 2) := by decide +kernel
theorem dX7_put_8 : decode cX7_put 8 = .ok (.aload_n 0, 1) := by decide +kernel
theorem dX7_put_9 : decode cX7_put 9 = .ok (.getfield 13, 3) := by decide +kernel
theorem dX7_put_12 : decode cX7_put 12 = .ok (.iload 7, 2) := by decide +kernel
theorem dX7_put_14 : decode cX7_put 14 = .ok (.iload_n 3, 1) := by decide +kernel
theorem dX7_put_15 : decode cX7_put 15 = .ok (.iastore, 1) := by decide +kernel
theorem dX7_put_16 : decode cX7_put 16 = .ok (.aload_n 0, 1) := by decide +kernel
theorem dX7_put_17 : decode cX7_put 17 = .ok (.getfield 16, 3) := by decide +kernel
theorem dX7_put_20 : decode cX7_put 20 = .ok (.iload 7, 2) := by decide +kernel
theorem dX7_put_22 : decode cX7_put 22 = .ok (.iload_n 3, 1) := by decide +kernel
theorem dX7_put_23 : decode cX7_put 23 = .ok (.iconst 2, 1) := by decide +kernel
theorem dX7_put_24 : decode cX7_put 24 = .ok (.if_icmp .eq 8, 3) := by decide +kernel
theorem dX7_put_27 : decode cX7_put 27 = .ok (.iload_n 3, 1) := by decide +kernel
theorem dX7_put_28 : decode cX7_put 28 = .ok (.iconst 4, 1) := by decide +kernel
theorem dX7_put_29 : decode cX7_put 29 = .ok (.if_icmp .ne 7, 3) := by decide +kernel
theorem dX7_put_32 : decode cX7_put 32 = .ok (.iconst 0, 1) := by decide +kernel
theorem dX7_put_33 : decode cX7_put 33 = .ok (.goto 5, 3) := by decide +kernel
theorem dX7_put_36 : decode cX7_put 36 = .ok (.iload 4, 2) := by decide +kernel
theorem dX7_put_38 : decode cX7_put 38 = .ok (.iastore, 1) := by decide +kernel
theorem dX7_put_39 : decode cX7_put 39 = .ok (.aload_n 0, 1) := by decide +kernel
theorem dX7_put_40 : decode cX7_put 40 = .ok (.getfield 19, 3) := by decide +kernel
theorem dX7_put_43 : decode cX7_put 43 = .ok (.iload 7, 2) := by decide +kernel
theorem dX7_put_45 : decode cX7_put 45 = .ok (.iload_n 3, 1) := by decide +kernel
theorem dX7_put_46 : decode cX7_put 46 = .ok (.iconst 1, 1) := by decide +kernel
theorem dX7_put_47 : decode cX7_put 47 = .ok (.if_icmp .eq 8, 3) := by decide +kernel
theorem dX7_put_50 : decode cX7_put 50 = .ok (.iload_n 3, 1) := by decide +kernel
theorem dX7_put_51 : decode cX7_put 51 = .ok (.iconst 3, 1) := by decide +kernel
theorem dX7_put_52 : decode cX7_put 52 = .ok (.if_icmp .ne 8, 3) := by decide +kernel
theorem dX7_put_55 : decode cX7_put 55 = .ok (.iload 5, 2) := by decide +kernel
theorem dX7_put_57 : decode cX7_put 57 = .ok (.goto 4, 3) := by decide +kernel
theorem dX7_put_60 : decode cX7_put 60 = .ok (.iconst 0, 1) := by decide +kernel
theorem dX7_put_61 : decode cX7_put 61 = .ok (.iastore, 1) := by decide +kernel
theorem dX7_put_62 : decode cX7_put 62 = .ok (.aload_n 0, 1) := by decide +kernel
theorem dX7_put_63 : decode cX7_put 63 = .ok (.getfield 22, 3) := by decide +kernel
theorem dX7_put_66 : decode cX7_put 66 = .ok (.iload 7, 2) := by decide +kernel
theorem dX7_put_68 : decode cX7_put 68 = .ok (.iload_n 3, 1) := by decide +kernel
theorem dX7_put_69 : decode cX7_put 69 = .ok (.iconst 2, 1) := by decide +kernel
theorem dX7_put_70 : decode cX7_put 70 = .ok (.if_icmp .eq 8, 3) := by decide +kernel
theorem dX7_put_73 : decode cX7_put 73 = .ok (.iload_n 3, 1) := by decide +kernel
theorem dX7_put_74 : decode cX7_put 74 = .ok (.iconst 3, 1) := by decide +kernel
theorem dX7_put_75 : decode cX7_put 75 = .ok (.if_icmp .ne 8, 3) := by decide +kernel
theorem dX7_put_78 : decode cX7_put 78 = .ok (.iload 6, 2) := by decide +kernel
theorem dX7_put_80 : decode cX7_put 80 = .ok (.goto 4, 3) := by decide +kernel
theorem dX7_put_83 : decode cX7_put 83 = .ok (.iconst 0, 1) := by decide +kernel
theorem dX7_put_84 : decode cX7_put 84 = .ok (.iastore, 1) := by decide +kernel
theorem dX7_put_85 : decode cX7_put 85 = .ok (.return_, 1) := by decide +kernel
theorem dX7_act_0 : decode cX7_act 0 = .ok (.aload_n 0, 1) := by decide +kernel
theorem dX7_act_1 : decode cX7_act 1 = .ok (.iload_n 1, 1) := by decide +kernel
theorem dX7_act_2 : decode cX7_act 2 = .ok (.invokevirtual 142, 3) := by decide +kernel
theorem dX7_act_5 : decode cX7_act 5 = .ok (.ifCond .eq 15, 3) := by decide +kernel
theorem dX7_act_8 : decode cX7_act 8 = .ok (.iload_n 2, 1) := by decide +kernel
theorem dX7_act_9 : decode cX7_act 9 = .ok (.iload_n 3, 1) := by decide +kernel
theorem dX7_act_10 : decode cX7_act 10 = .ok (.iload 4, 2) := by decide +kernel
theorem dX7_act_12 : decode cX7_act 12 = .ok (.iload 5, 2) := by decide +kernel
theorem dX7_act_14 : decode cX7_act 14 = .ok (.invokestatic 146, 3) := by decide +kernel
theorem dX7_act_17 : decode cX7_act 17 = .ok (.ifCond .ne 6, 3) := by decide +kernel
theorem dX7_act_20 : decode cX7_act 20 = .ok (.bipush (-2), 2) := by decide +kernel
theorem dX7_act_22 : decode cX7_act 22 = .ok (.ireturn, 1) := by decide +kernel
theorem dX7_act_23 : decode cX7_act 23 = .ok (.aload_n 0, 1) := by decide +kernel
theorem dX7_act_24 : decode cX7_act 24 = .ok (.getfield 7, 3) := by decide +kernel
theorem dX7_act_27 : decode cX7_act 27 = .ok (.iload_n 1, 1) := by decide +kernel
theorem dX7_act_28 : decode cX7_act 28 = .ok (.iaload, 1) := by decide +kernel
theorem dX7_act_29 : decode cX7_act 29 = .ok (.bipush 60, 2) := by decide +kernel
theorem dX7_act_31 : decode cX7_act 31 = .ok (.if_icmp .ne 6, 3) := by decide +kernel
theorem dX7_act_34 : decode cX7_act 34 = .ok (.bipush (-4), 2) := by decide +kernel
theorem dX7_act_36 : decode cX7_act 36 = .ok (.ireturn, 1) := by decide +kernel
theorem dX7_act_37 : decode cX7_act 37 = .ok (.aload_n 0, 1) := by decide +kernel
theorem dX7_act_38 : decode cX7_act 38 = .ok (.iload_n 1, 1) := by decide +kernel
theorem dX7_act_39 : decode cX7_act 39 = .ok (.aload_n 0, 1) := by decide +kernel
theorem dX7_act_40 : decode cX7_act 40 = .ok (.getfield 7, 3) := by decide +kernel
theorem dX7_act_43 : decode cX7_act 43 = .ok (.iload_n 1, 1) := by decide +kernel
theorem dX7_act_44 : decode cX7_act 44 = .ok (.iaload, 1) := by decide +kernel
theorem dX7_act_45 : decode cX7_act 45 = .ok (.iload_n 2, 1) := by decide +kernel
theorem dX7_act_46 : decode cX7_act 46 = .ok (.iload_n 3, 1) := by decide +kernel
theorem dX7_act_47 : decode cX7_act 47 = .ok (.iload 4, 2) := by decide +kernel
theorem dX7_act_49 : decode cX7_act 49 = .ok (.iload 5, 2) := by decide +kernel
theorem dX7_act_51 : decode cX7_act 51 = .ok (.invokevirtual 150, 3) := by decide +kernel
theorem dX7_act_54 : decode cX7_act 54 = .ok (.aload_n 0, 1) := by decide +kernel
theorem dX7_act_55 : decode cX7_act 55 = .ok (.getfield 7, 3) := by decide +kernel
theorem dX7_act_58 : decode cX7_act 58 = .ok (.iload_n 1, 1) := by decide +kernel
theorem dX7_act_59 : decode cX7_act 59 = .ok (.dup2, 1) := by decide +kernel
theorem dX7_act_60 : decode cX7_act 60 = .ok (.iaload, 1) := by decide +kernel
theorem dX7_act_61 : decode cX7_act 61 = .ok (.iconst 1, 1) := by decide +kernel
theorem dX7_act_62 : decode cX7_act 62 = .ok (.iadd, 1) := by decide +kernel
theorem dX7_act_63 : decode cX7_act 63 = .ok (.iastore, 1) := by decide +kernel
theorem dX7_act_64 : decode cX7_act 64 = .ok (.aload_n 0, 1) := by decide +kernel
theorem dX7_act_65 : decode cX7_act 65 = .ok (.getfield 7, 3) := by decide +kernel
theorem dX7_act_68 : decode cX7_act 68 = .ok (.iload_n 1, 1) := by decide +kernel
theorem dX7_act_69 : decode cX7_act 69 = .ok (.iaload, 1) := by decide +kernel
theorem dX7_act_70 : decode cX7_act 70 = .ok (.iconst 1, 1) := by decide +kernel
theorem dX7_act_71 : decode cX7_act 71 = .ok (.isub, 1) := by decide +kernel
theorem dX7_act_72 : decode cX7_act 72 = .ok (.ireturn, 1) := by decide +kernel
theorem dX7_alter_0 : decode cX7_alter 0 = .ok (.aload_n 0, 1) := by decide +kernel
theorem dX7_alter_1 : decode cX7_alter 1 = .ok (.iload_n 1, 1) := by decide +kernel
theorem dX7_alter_2 : decode cX7_alter 2 = .ok (.invokevirtual 142, 3) := by decide +kernel
theorem dX7_alter_5 : decode cX7_alter 5 = .ok (.ifCond .eq 32, 3) := by decide +kernel
theorem dX7_alter_8 : decode cX7_alter 8 = .ok (.iload_n 2, 1) := by decide +kernel
theorem dX7_alter_9 : decode cX7_alter 9 = .ok (.iconst 0, 1) := by decide +kernel
theorem dX7_alter_10 : decode cX7_alter 10 = .ok (.aload_n 0, 1) := by decide +kernel
theorem dX7_alter_11 : decode cX7_alter 11 = .ok (.getfield 7, 3) := by decide +kernel
theorem dX7_alter_14 : decode cX7_alter 14 = .ok (.iload_n 1, 1) := by decide +kernel
theorem dX7_alter_15 : decode cX7_alter 15 = .ok (.iaload, 1) := by decide +kernel
theorem dX7_alter_16 : decode cX7_alter 16 = .ok (.iconst 1, 1) := by decide +kernel
theorem dX7_alter_17 : decode cX7_alter 17 = .ok (.isub, 1) := by decide +kernel
theorem dX7_alter_18 : decode cX7_alter 18 = .ok (.invokestatic 138, 3) := by decide +kernel
theorem dX7_alter_21 : decode cX7_alter 21 = .ok (.ifCond .eq 16, 3) := by decide +kernel
theorem dX7_alter_24 : decode cX7_alter 24 = .ok (.iload_n 3, 1) := by decide +kernel
theorem dX7_alter_25 : decode cX7_alter 25 = .ok (.iload 4, 2) := by decide +kernel
theorem dX7_alter_27 : decode cX7_alter 27 = .ok (.iload 5, 2) := by decide +kernel
theorem dX7_alter_29 : decode cX7_alter 29 = .ok (.iload 6, 2) := by decide +kernel
theorem dX7_alter_31 : decode cX7_alter 31 = .ok (.invokestatic 146, 3) := by decide +kernel
theorem dX7_alter_34 : decode cX7_alter 34 = .ok (.ifCond .ne 6, 3) := by decide +kernel
theorem dX7_alter_37 : decode cX7_alter 37 = .ok (.bipush (-2), 2) := by decide +kernel
theorem dX7_alter_39 : decode cX7_alter 39 = .ok (.ireturn, 1) := by decide +kernel
theorem dX7_alter_40 : decode cX7_alter 40 = .ok (.aload_n 0, 1) := by decide +kernel
theorem dX7_alter_41 : decode cX7_alter 41 = .ok (.iload_n 1, 1) := by decide +kernel
theorem dX7_alter_42 : decode cX7_alter 42 = .ok (.iload_n 2, 1) := by decide +kernel
theorem dX7_alter_43 : decode cX7_alter 43 = .ok (.iload_n 3, 1) := by decide +kernel
theorem dX7_alter_44 : decode cX7_alter 44 = .ok (.iload 4, 2) := by decide +kernel
theorem dX7_alter_46 : decode cX7_alter 46 = .ok (.iload 5, 2) := by decide +kernel
theorem dX7_alter_48 : decode cX7_alter 48 = .ok (.iload 6, 2) := by decide +kernel
theorem dX7_alter_50 : decode cX7_alter 50 = .ok (.invokevirtual 150, 3) := by decide +kernel
theorem dX7_alter_53 : decode cX7_alter 53 = .ok (.iload_n 2, 1) := by decide +kernel
theorem dX7_alter_54 : decode cX7_alter 54 = .ok (.ireturn, 1) := by decide +kernel
theorem dX7_leads_0 : decode cX7_leads 0 = .ok (.aload_n 0, 1) := by decide +kernel
theorem dX7_leads_1 : decode cX7_leads 1 = .ok (.getfield 13, 3) := by decide +kernel
theorem dX7_leads_4 : decode cX7_leads 4 = .ok (.iload_n 1, 1) := by decide +kernel
theorem dX7_leads_5 : decode cX7_leads 5 = .ok (.iaload, 1) := by decide +kernel
theorem dX7_leads_6 : decode cX7_leads 6 = .ok (.iconst 2, 1) := by decide +kernel
theorem dX7_leads_7 : decode cX7_leads 7 = .ok (.if_icmp .eq 13, 3) := by decide +kernel
theorem dX7_leads_10 : decode cX7_leads 10 = .ok (.aload_n 0, 1) := by decide +kernel
theorem dX7_leads_11 : decode cX7_leads 11 = .ok (.getfield 13, 3) := by decide +kernel
theorem dX7_leads_14 : decode cX7_leads 14 = .ok (.iload_n 1, 1) := by decide +kernel
theorem dX7_leads_15 : decode cX7_leads 15 = .ok (.iaload, 1) := by decide +kernel
theorem dX7_leads_16 : decode cX7_leads 16 = .ok (.iconst 3, 1) := by decide +kernel
theorem dX7_leads_17 : decode cX7_leads 17 = .ok (.if_icmp .ne 7, 3) := by decide +kernel
theorem dX7_leads_20 : decode cX7_leads 20 = .ok (.iconst 1, 1) := by decide +kernel
theorem dX7_leads_21 : decode cX7_leads 21 = .ok (.goto 4, 3) := by decide +kernel
theorem dX7_leads_24 : decode cX7_leads 24 = .ok (.iconst 0, 1) := by decide +kernel
theorem dX7_leads_25 : decode cX7_leads 25 = .ok (.ireturn, 1) := by decide +kernel
theorem dX7_isWhole_0 : decode cX7_isWhole 0 = .ok (.iconst 1, 1) := by decide +kernel
theorem dX7_isWhole_1 : decode cX7_isWhole 1 = .ok (.istore_n 2, 1) := by decide +kernel
theorem dX7_isWhole_2 : decode cX7_isWhole 2 = .ok (.bipush 60, 2) := by decide +kernel
theorem dX7_isWhole_4 : decode cX7_isWhole 4 = .ok (.iload_n 1, 1) := by decide +kernel
theorem dX7_isWhole_5 : decode cX7_isWhole 5 = .ok (.imul, 1) := by decide +kernel
theorem dX7_isWhole_6 : decode cX7_isWhole 6 = .ok (.istore_n 3, 1) := by decide +kernel
theorem dX7_isWhole_7 : decode cX7_isWhole 7 = .ok (.iload_n 3, 1) := by decide +kernel
theorem dX7_isWhole_8 : decode cX7_isWhole 8 = .ok (.bipush 60, 2) := by decide +kernel
theorem dX7_isWhole_10 : decode cX7_isWhole 10 = .ok (.iload_n 1, 1) := by decide +kernel
theorem dX7_isWhole_11 : decode cX7_isWhole 11 = .ok (.imul, 1) := by decide +kernel
theorem dX7_isWhole_12 : decode cX7_isWhole 12 = .ok (.aload_n 0, 1) := by decide +kernel
theorem dX7_isWhole_13 : decode cX7_isWhole 13 = .ok (.getfield 7, 3) := by decide +kernel
theorem dX7_isWhole_16 : decode cX7_isWhole 16 = .ok (.iload_n 1, 1) := by decide +kernel
theorem dX7_isWhole_17 : decode cX7_isWhole 17 = .ok (.iaload, 1) := by decide +kernel
theorem dX7_isWhole_18 : decode cX7_isWhole 18 = .ok (.iadd, 1) := by decide +kernel
theorem dX7_isWhole_19 : decode cX7_isWhole 19 = .ok (.if_icmp .ge 42, 3) := by decide +kernel
theorem dX7_isWhole_22 : decode cX7_isWhole 22 = .ok (.iload_n 2, 1) := by decide +kernel
theorem dX7_isWhole_23 : decode cX7_isWhole 23 = .ok (.ifCond .eq 30, 3) := by decide +kernel
theorem dX7_isWhole_26 : decode cX7_isWhole 26 = .ok (.aload_n 0, 1) := by decide +kernel
theorem dX7_isWhole_27 : decode cX7_isWhole 27 = .ok (.iload_n 3, 1) := by decide +kernel
theorem dX7_isWhole_28 : decode cX7_isWhole 28 = .ok (.invokevirtual 154, 3) := by decide +kernel
theorem dX7_isWhole_31 : decode cX7_isWhole 31 = .ok (.ifCond .eq 18, 3) := by decide +kernel
theorem dX7_isWhole_34 : decode cX7_isWhole 34 = .ok (.aload_n 0, 1) := by decide +kernel
theorem dX7_isWhole_35 : decode cX7_isWhole 35 = .ok (.getfield 22, 3) := by decide +kernel
theorem dX7_isWhole_38 : decode cX7_isWhole 38 = .ok (.iload_n 3, 1) := by decide +kernel
theorem dX7_isWhole_39 : decode cX7_isWhole 39 = .ok (.iaload, 1) := by decide +kernel
theorem dX7_isWhole_40 : decode cX7_isWhole 40 = .ok (.aload_n 0, 1) := by decide +kernel
theorem dX7_isWhole_41 : decode cX7_isWhole 41 = .ok (.getfield 7, 3) := by decide +kernel
theorem dX7_isWhole_44 : decode cX7_isWhole 44 = .ok (.iload_n 1, 1) := by decide +kernel
theorem dX7_isWhole_45 : decode cX7_isWhole 45 = .ok (.iaload, 1) := by decide +kernel
theorem dX7_isWhole_46 : decode cX7_isWhole 46 = .ok (.if_icmp .gt 7, 3) := by decide +kernel
theorem dX7_isWhole_49 : decode cX7_isWhole 49 = .ok (.iconst 1, 1) := by decide +kernel
theorem dX7_isWhole_50 : decode cX7_isWhole 50 = .ok (.goto 4, 3) := by decide +kernel
theorem dX7_isWhole_53 : decode cX7_isWhole 53 = .ok (.iconst 0, 1) := by decide +kernel
theorem dX7_isWhole_54 : decode cX7_isWhole 54 = .ok (.istore_n 2, 1) := by decide +kernel
theorem dX7_isWhole_55 : decode cX7_isWhole 55 = .ok (.iinc 3 1, 3) := by decide +kernel
theorem dX7_isWhole_58 : decode cX7_isWhole 58 = .ok (.goto (-51), 3) := by decide +kernel
theorem dX7_isWhole_61 : decode cX7_isWhole 61 = .ok (.iload_n 2, 1) := by decide +kernel
theorem dX7_isWhole_62 : decode cX7_isWhole 62 = .ok (.ireturn, 1) := by decide +kernel
theorem dX7_range_0 : decode cX7_range 0 = .ok (.aload_n 0, 1) := by decide +kernel
theorem dX7_range_1 : decode cX7_range 1 = .ok (.getfield 65, 3) := by decide +kernel
theorem dX7_range_4 : decode cX7_range 4 = .ok (.aload_n 0, 1) := by decide +kernel
theorem dX7_range_5 : decode cX7_range 5 = .ok (.getfield 157, 3) := by decide +kernel
theorem dX7_range_8 : decode cX7_range 8 = .ok (.iload_n 1, 1) := by decide +kernel
theorem dX7_range_9 : decode cX7_range 9 = .ok (.iastore, 1) := by decide +kernel
theorem dX7_range_10 : decode cX7_range 10 = .ok (.aload_n 0, 1) := by decide +kernel
theorem dX7_range_11 : decode cX7_range 11 = .ok (.getfield 68, 3) := by decide +kernel
theorem dX7_range_14 : decode cX7_range 14 = .ok (.aload_n 0, 1) := by decide +kernel
theorem dX7_range_15 : decode cX7_range 15 = .ok (.getfield 157, 3) := by decide +kernel
theorem dX7_range_18 : decode cX7_range 18 = .ok (.iload_n 2, 1) := by decide +kernel
theorem dX7_range_19 : decode cX7_range 19 = .ok (.iastore, 1) := by decide +kernel
theorem dX7_range_20 : decode cX7_range 20 = .ok (.aload_n 0, 1) := by decide +kernel
theorem dX7_range_21 : decode cX7_range 21 = .ok (.getfield 71, 3) := by decide +kernel
theorem dX7_range_24 : decode cX7_range 24 = .ok (.aload_n 0, 1) := by decide +kernel
theorem dX7_range_25 : decode cX7_range 25 = .ok (.getfield 157, 3) := by decide +kernel
theorem dX7_range_28 : decode cX7_range 28 = .ok (.iload_n 3, 1) := by decide +kernel
theorem dX7_range_29 : decode cX7_range 29 = .ok (.iastore, 1) := by decide +kernel
theorem dX7_range_30 : decode cX7_range 30 = .ok (.aload_n 0, 1) := by decide +kernel
theorem dX7_range_31 : decode cX7_range 31 = .ok (.getfield 74, 3) := by decide +kernel
theorem dX7_range_34 : decode cX7_range 34 = .ok (.aload_n 0, 1) := by decide +kernel
theorem dX7_range_35 : decode cX7_range 35 = .ok (.getfield 157, 3) := by decide +kernel
theorem dX7_range_38 : decode cX7_range 38 = .ok (.iload 4, 2) := by decide +kernel
theorem dX7_range_40 : decode cX7_range 40 = .ok (.iastore, 1) := by decide +kernel
theorem dX7_range_41 : decode cX7_range 41 = .ok (.aload_n 0, 1) := by decide +kernel
theorem dX7_range_42 : decode cX7_range 42 = .ok (.getfield 77, 3) := by decide +kernel
theorem dX7_range_45 : decode cX7_range 45 = .ok (.aload_n 0, 1) := by decide +kernel
theorem dX7_range_46 : decode cX7_range 46 = .ok (.getfield 157, 3) := by decide +kernel
theorem dX7_range_49 : decode cX7_range 49 = .ok (.iload 5, 2) := by decide +kernel
theorem dX7_range_51 : decode cX7_range 51 = .ok (.iastore, 1) := by decide +kernel
theorem dX7_range_52 : decode cX7_range 52 = .ok (.aload_n 0, 1) := by decide +kernel
theorem dX7_range_53 : decode cX7_range 53 = .ok (.getfield 80, 3) := by decide +kernel
theorem dX7_range_56 : decode cX7_range 56 = .ok (.aload_n 0, 1) := by decide +kernel
theorem dX7_range_57 : decode cX7_range 57 = .ok (.getfield 157, 3) := by decide +kernel
theorem dX7_range_60 : decode cX7_range 60 = .ok (.iload 6, 2) := by decide +kernel
theorem dX7_range_62 : decode cX7_range 62 = .ok (.iastore, 1) := by decide +kernel
theorem dX7_range_63 : decode cX7_range 63 = .ok (.aload_n 0, 1) := by decide +kernel
theorem dX7_range_64 : decode cX7_range 64 = .ok (.dup, 1) := by decide +kernel
theorem dX7_range_65 : decode cX7_range 65 = .ok (.getfield 157, 3) := by decide +kernel
theorem dX7_range_68 : decode cX7_range 68 = .ok (.iconst 1, 1) := by decide +kernel
theorem dX7_range_69 : decode cX7_range 69 = .ok (.iadd, 1) := by decide +kernel
theorem dX7_range_70 : decode cX7_range 70 = .ok (.putfield 157, 3) := by decide +kernel
theorem dX7_range_73 : decode cX7_range 73 = .ok (.return_, 1) := by decide +kernel
theorem dX7_state_0 : decode cX7_state 0 = .ok (.aload_n 0, 1) := by decide +kernel
theorem dX7_state_1 : decode cX7_state 1 = .ok (.getfield 160, 3) := by decide +kernel
theorem dX7_state_4 : decode cX7_state 4 = .ok (.istore 7, 2) := by decide +kernel
theorem dX7_state_6 : decode cX7_state 6 = .ok (.aload_n 0, 1) := by decide +kernel
theorem dX7_state_7 : decode cX7_state 7 = .ok (.getfield 41, 3) := by decide +kernel
theorem dX7_state_10 : decode cX7_state 10 = .ok (.iload 7, 2) := by decide +kernel
theorem dX7_state_12 : decode cX7_state 12 = .ok (.iload_n 1, 1) := by decide +kernel
theorem dX7_state_13 : decode cX7_state 13 = .ok (.iastore, 1) := by decide +kernel
theorem dX7_state_14 : decode cX7_state 14 = .ok (.aload_n 0, 1) := by decide +kernel
theorem dX7_state_15 : decode cX7_state 15 = .ok (.getfield 44, 3) := by decide +kernel
theorem dX7_state_18 : decode cX7_state 18 = .ok (.iload 7, 2) := by decide +kernel
theorem dX7_state_20 : decode cX7_state 20 = .ok (.iload_n 2, 1) := by decide +kernel
theorem dX7_state_21 : decode cX7_state 21 = .ok (.iastore, 1) := by decide +kernel
theorem dX7_state_22 : decode cX7_state 22 = .ok (.aload_n 0, 1) := by decide +kernel
theorem dX7_state_23 : decode cX7_state 23 = .ok (.getfield 47, 3) := by decide +kernel
theorem dX7_state_26 : decode cX7_state 26 = .ok (.iload 7, 2) := by decide +kernel
theorem dX7_state_28 : decode cX7_state 28 = .ok (.iload_n 3, 1) := by decide +kernel
theorem dX7_state_29 : decode cX7_state 29 = .ok (.iastore, 1) := by decide +kernel
theorem dX7_state_30 : decode cX7_state 30 = .ok (.aload_n 0, 1) := by decide +kernel
theorem dX7_state_31 : decode cX7_state 31 = .ok (.getfield 50, 3) := by decide +kernel
theorem dX7_state_34 : decode cX7_state 34 = .ok (.iload 7, 2) := by decide +kernel
theorem dX7_state_36 : decode cX7_state 36 = .ok (.aload_n 0, 1) := by decide +kernel
theorem dX7_state_37 : decode cX7_state 37 = .ok (.getfield 77, 3) := by decide +kernel
theorem dX7_state_40 : decode cX7_state 40 = .ok (.aload_n 0, 1) := by decide +kernel
theorem dX7_state_41 : decode cX7_state 41 = .ok (.getfield 157, 3) := by decide +kernel
theorem dX7_state_44 : decode cX7_state 44 = .ok (.iconst 1, 1) := by decide +kernel
theorem dX7_state_45 : decode cX7_state 45 = .ok (.isub, 1) := by decide +kernel
theorem dX7_state_46 : decode cX7_state 46 = .ok (.iaload, 1) := by decide +kernel
theorem dX7_state_47 : decode cX7_state 47 = .ok (.iastore, 1) := by decide +kernel
theorem dX7_state_48 : decode cX7_state 48 = .ok (.aload_n 0, 1) := by decide +kernel
theorem dX7_state_49 : decode cX7_state 49 = .ok (.getfield 53, 3) := by decide +kernel
theorem dX7_state_52 : decode cX7_state 52 = .ok (.iload 7, 2) := by decide +kernel
theorem dX7_state_54 : decode cX7_state 54 = .ok (.aload_n 0, 1) := by decide +kernel
theorem dX7_state_55 : decode cX7_state 55 = .ok (.getfield 80, 3) := by decide +kernel
theorem dX7_state_58 : decode cX7_state 58 = .ok (.aload_n 0, 1) := by decide +kernel
theorem dX7_state_59 : decode cX7_state 59 = .ok (.getfield 157, 3) := by decide +kernel
theorem dX7_state_62 : decode cX7_state 62 = .ok (.iconst 1, 1) := by decide +kernel
theorem dX7_state_63 : decode cX7_state 63 = .ok (.isub, 1) := by decide +kernel
theorem dX7_state_64 : decode cX7_state 64 = .ok (.iaload, 1) := by decide +kernel
theorem dX7_state_65 : decode cX7_state 65 = .ok (.iastore, 1) := by decide +kernel
theorem dX7_state_66 : decode cX7_state 66 = .ok (.aload_n 0, 1) := by decide +kernel
theorem dX7_state_67 : decode cX7_state 67 = .ok (.getfield 56, 3) := by decide +kernel
theorem dX7_state_70 : decode cX7_state 70 = .ok (.iload 7, 2) := by decide +kernel
theorem dX7_state_72 : decode cX7_state 72 = .ok (.iload 4, 2) := by decide +kernel
theorem dX7_state_74 : decode cX7_state 74 = .ok (.iastore, 1) := by decide +kernel
theorem dX7_state_75 : decode cX7_state 75 = .ok (.aload_n 0, 1) := by decide +kernel
theorem dX7_state_76 : decode cX7_state 76 = .ok (.getfield 59, 3) := by decide +kernel
theorem dX7_state_79 : decode cX7_state 79 = .ok (.iload 7, 2) := by decide +kernel
theorem dX7_state_81 : decode cX7_state 81 = .ok (.iload 5, 2) := by decide +kernel
theorem dX7_state_83 : decode cX7_state 83 = .ok (.iastore, 1) := by decide +kernel
theorem dX7_state_84 : decode cX7_state 84 = .ok (.aload_n 0, 1) := by decide +kernel
theorem dX7_state_85 : decode cX7_state 85 = .ok (.getfield 62, 3) := by decide +kernel
theorem dX7_state_88 : decode cX7_state 88 = .ok (.iload 7, 2) := by decide +kernel
theorem dX7_state_90 : decode cX7_state 90 = .ok (.iload 6, 2) := by decide +kernel
theorem dX7_state_92 : decode cX7_state 92 = .ok (.iastore, 1) := by decide +kernel
theorem dX7_state_93 : decode cX7_state 93 = .ok (.aload_n 0, 1) := by decide +kernel
theorem dX7_state_94 : decode cX7_state 94 = .ok (.dup, 1) := by decide +kernel
theorem dX7_state_95 : decode cX7_state 95 = .ok (.getfield 160, 3) := by decide +kernel
theorem dX7_state_98 : decode cX7_state 98 = .ok (.iconst 1, 1) := by decide +kernel
theorem dX7_state_99 : decode cX7_state 99 = .ok (.iadd, 1) := by decide +kernel
theorem dX7_state_100 : decode cX7_state 100 = .ok (.putfield 160, 3) := by decide +kernel
theorem dX7_state_103 : decode cX7_state 103 = .ok (.iload 7, 2) := by decide +kernel
theorem dX7_state_105 : decode cX7_state 105 = .ok (.ireturn, 1) := by decide +kernel
theorem dX7_isBeingRead_0 : decode cX7_isBeingRead 0 = .ok (.iconst 0, 1) := by decide +kernel
theorem dX7_isBeingRead_1 : decode cX7_isBeingRead 1 = .ok (.istore_n 2, 1) := by decide +kernel
theorem dX7_isBeingRead_2 : decode cX7_isBeingRead 2 = .ok (.aload_n 0, 1) := by decide +kernel
theorem dX7_isBeingRead_3 : decode cX7_isBeingRead 3 = .ok (.getfield 77, 3) := by decide +kernel
theorem dX7_isBeingRead_6 : decode cX7_isBeingRead 6 = .ok (.aload_n 0, 1) := by decide +kernel
theorem dX7_isBeingRead_7 : decode cX7_isBeingRead 7 = .ok (.getfield 157, 3) := by decide +kernel
theorem dX7_isBeingRead_10 : decode cX7_isBeingRead 10 = .ok (.iconst 1, 1) := by decide +kernel
theorem dX7_isBeingRead_11 : decode cX7_isBeingRead 11 = .ok (.isub, 1) := by decide +kernel
theorem dX7_isBeingRead_12 : decode cX7_isBeingRead 12 = .ok (.iaload, 1) := by decide +kernel
theorem dX7_isBeingRead_13 : decode cX7_isBeingRead 13 = .ok (.istore_n 3, 1) := by decide +kernel
theorem dX7_isBeingRead_14 : decode cX7_isBeingRead 14 = .ok (.iload_n 3, 1) := by decide +kernel
theorem dX7_isBeingRead_15 : decode cX7_isBeingRead 15 = .ok (.iconst (-1), 1) := by decide +kernel
theorem dX7_isBeingRead_16 : decode cX7_isBeingRead 16 = .ok (.if_icmp .eq 53, 3) := by decide +kernel
theorem dX7_isBeingRead_19 : decode cX7_isBeingRead 19 = .ok (.iload_n 2, 1) := by decide +kernel
theorem dX7_isBeingRead_20 : decode cX7_isBeingRead 20 = .ok (.ifCond .ne 33, 3) := by decide +kernel
theorem dX7_isBeingRead_23 : decode cX7_isBeingRead 23 = .ok (.aload_n 0, 1) := by decide +kernel
theorem dX7_isBeingRead_24 : decode cX7_isBeingRead 24 = .ok (.getfield 41, 3) := by decide +kernel
theorem dX7_isBeingRead_27 : decode cX7_isBeingRead 27 = .ok (.iload_n 3, 1) := by decide +kernel
theorem dX7_isBeingRead_28 : decode cX7_isBeingRead 28 = .ok (.iaload, 1) := by decide +kernel
theorem dX7_isBeingRead_29 : decode cX7_isBeingRead 29 = .ok (.iconst 3, 1) := by decide +kernel
theorem dX7_isBeingRead_30 : decode cX7_isBeingRead 30 = .ok (.if_icmp .eq 13, 3) := by decide +kernel
theorem dX7_isBeingRead_33 : decode cX7_isBeingRead 33 = .ok (.aload_n 0, 1) := by decide +kernel
theorem dX7_isBeingRead_34 : decode cX7_isBeingRead 34 = .ok (.getfield 41, 3) := by decide +kernel
theorem dX7_isBeingRead_37 : decode cX7_isBeingRead 37 = .ok (.iload_n 3, 1) := by decide +kernel
theorem dX7_isBeingRead_38 : decode cX7_isBeingRead 38 = .ok (.iaload, 1) := by decide +kernel
theorem dX7_isBeingRead_39 : decode cX7_isBeingRead 39 = .ok (.iconst 5, 1) := by decide +kernel
theorem dX7_isBeingRead_40 : decode cX7_isBeingRead 40 = .ok (.if_icmp .ne 17, 3) := by decide +kernel
theorem dX7_isBeingRead_43 : decode cX7_isBeingRead 43 = .ok (.aload_n 0, 1) := by decide +kernel
theorem dX7_isBeingRead_44 : decode cX7_isBeingRead 44 = .ok (.getfield 44, 3) := by decide +kernel
theorem dX7_isBeingRead_47 : decode cX7_isBeingRead 47 = .ok (.iload_n 3, 1) := by decide +kernel
theorem dX7_isBeingRead_48 : decode cX7_isBeingRead 48 = .ok (.iaload, 1) := by decide +kernel
theorem dX7_isBeingRead_49 : decode cX7_isBeingRead 49 = .ok (.iload_n 1, 1) := by decide +kernel
theorem dX7_isBeingRead_50 : decode cX7_isBeingRead 50 = .ok (.if_icmp .ne 7, 3) := by decide +kernel
theorem dX7_isBeingRead_53 : decode cX7_isBeingRead 53 = .ok (.iconst 1, 1) := by decide +kernel
theorem dX7_isBeingRead_54 : decode cX7_isBeingRead 54 = .ok (.goto 4, 3) := by decide +kernel
theorem dX7_isBeingRead_57 : decode cX7_isBeingRead 57 = .ok (.iconst 0, 1) := by decide +kernel
theorem dX7_isBeingRead_58 : decode cX7_isBeingRead 58 = .ok (.istore_n 2, 1) := by decide +kernel
theorem dX7_isBeingRead_59 : decode cX7_isBeingRead 59 = .ok (.aload_n 0, 1) := by decide +kernel
theorem dX7_isBeingRead_60 : decode cX7_isBeingRead 60 = .ok (.getfield 50, 3) := by decide +kernel
theorem dX7_isBeingRead_63 : decode cX7_isBeingRead 63 = .ok (.iload_n 3, 1) := by decide +kernel
theorem dX7_isBeingRead_64 : decode cX7_isBeingRead 64 = .ok (.iaload, 1) := by decide +kernel
theorem dX7_isBeingRead_65 : decode cX7_isBeingRead 65 = .ok (.istore_n 3, 1) := by decide +kernel
theorem dX7_isBeingRead_66 : decode cX7_isBeingRead 66 = .ok (.goto (-52), 3) := by decide +kernel
theorem dX7_isBeingRead_69 : decode cX7_isBeingRead 69 = .ok (.iload_n 2, 1) := by decide +kernel
theorem dX7_isBeingRead_70 : decode cX7_isBeingRead 70 = .ok (.ireturn, 1) := by decide +kernel
theorem dX7_read_0 : decode cX7_read 0 = .ok (.aload_n 0, 1) := by decide +kernel
theorem dX7_read_1 : decode cX7_read 1 = .ok (.iconst 0, 1) := by decide +kernel
theorem dX7_read_2 : decode cX7_read 2 = .ok (.putfield 160, 3) := by decide +kernel
theorem dX7_read_5 : decode cX7_read 5 = .ok (.aload_n 0, 1) := by decide +kernel
theorem dX7_read_6 : decode cX7_read 6 = .ok (.iconst 0, 1) := by decide +kernel
theorem dX7_read_7 : decode cX7_read 7 = .ok (.putfield 157, 3) := by decide +kernel
theorem dX7_read_10 : decode cX7_read 10 = .ok (.aload_n 0, 1) := by decide +kernel
theorem dX7_read_11 : decode cX7_read 11 = .ok (.iconst 0, 1) := by decide +kernel
theorem dX7_read_12 : decode cX7_read 12 = .ok (.aload_n 0, 1) := by decide +kernel
theorem dX7_read_13 : decode cX7_read 13 = .ok (.getfield 7, 3) := by decide +kernel
theorem dX7_read_16 : decode cX7_read 16 = .ok (.iload_n 1, 1) := by decide +kernel
theorem dX7_read_17 : decode cX7_read 17 = .ok (.iaload, 1) := by decide +kernel
theorem dX7_read_18 : decode cX7_read 18 = .ok (.iconst (-1), 1) := by decide +kernel
theorem dX7_read_19 : decode cX7_read 19 = .ok (.iconst (-1), 1) := by decide +kernel
theorem dX7_read_20 : decode cX7_read 20 = .ok (.iconst (-1), 1) := by decide +kernel
theorem dX7_read_21 : decode cX7_read 21 = .ok (.iconst (-1), 1) := by decide +kernel
theorem dX7_read_22 : decode cX7_read 22 = .ok (.invokevirtual 163, 3) := by decide +kernel
theorem dX7_read_25 : decode cX7_read 25 = .ok (.aload_n 0, 1) := by decide +kernel
theorem dX7_read_26 : decode cX7_read 26 = .ok (.getfield 157, 3) := by decide +kernel
theorem dX7_read_29 : decode cX7_read 29 = .ok (.ifCond .le 55, 3) := by decide +kernel
theorem dX7_read_32 : decode cX7_read 32 = .ok (.aload_n 0, 1) := by decide +kernel
theorem dX7_read_33 : decode cX7_read 33 = .ok (.getfield 65, 3) := by decide +kernel
theorem dX7_read_36 : decode cX7_read 36 = .ok (.aload_n 0, 1) := by decide +kernel
theorem dX7_read_37 : decode cX7_read 37 = .ok (.getfield 157, 3) := by decide +kernel
theorem dX7_read_40 : decode cX7_read 40 = .ok (.iconst 1, 1) := by decide +kernel
theorem dX7_read_41 : decode cX7_read 41 = .ok (.isub, 1) := by decide +kernel
theorem dX7_read_42 : decode cX7_read 42 = .ok (.iaload, 1) := by decide +kernel
theorem dX7_read_43 : decode cX7_read 43 = .ok (.istore_n 2, 1) := by decide +kernel
theorem dX7_read_44 : decode cX7_read 44 = .ok (.iload_n 2, 1) := by decide +kernel
theorem dX7_read_45 : decode cX7_read 45 = .ok (.aload_n 0, 1) := by decide +kernel
theorem dX7_read_46 : decode cX7_read 46 = .ok (.getfield 68, 3) := by decide +kernel
theorem dX7_read_49 : decode cX7_read 49 = .ok (.aload_n 0, 1) := by decide +kernel
theorem dX7_read_50 : decode cX7_read 50 = .ok (.getfield 157, 3) := by decide +kernel
theorem dX7_read_53 : decode cX7_read 53 = .ok (.iconst 1, 1) := by decide +kernel
theorem dX7_read_54 : decode cX7_read 54 = .ok (.isub, 1) := by decide +kernel
theorem dX7_read_55 : decode cX7_read 55 = .ok (.iaload, 1) := by decide +kernel
theorem dX7_read_56 : decode cX7_read 56 = .ok (.if_icmp .ge 15, 3) := by decide +kernel
theorem dX7_read_59 : decode cX7_read 59 = .ok (.aload_n 0, 1) := by decide +kernel
theorem dX7_read_60 : decode cX7_read 60 = .ok (.bipush 60, 2) := by decide +kernel
theorem dX7_read_62 : decode cX7_read 62 = .ok (.iload_n 1, 1) := by decide +kernel
theorem dX7_read_63 : decode cX7_read 63 = .ok (.imul, 1) := by decide +kernel
theorem dX7_read_64 : decode cX7_read 64 = .ok (.iload_n 2, 1) := by decide +kernel
theorem dX7_read_65 : decode cX7_read 65 = .ok (.invokevirtual 166, 3) := by decide +kernel
theorem dX7_read_68 : decode cX7_read 68 = .ok (.goto 13, 3) := by decide +kernel
theorem dX7_read_71 : decode cX7_read 71 = .ok (.aload_n 0, 1) := by decide +kernel
theorem dX7_read_72 : decode cX7_read 72 = .ok (.dup, 1) := by decide +kernel
theorem dX7_read_73 : decode cX7_read 73 = .ok (.getfield 157, 3) := by decide +kernel
theorem dX7_read_76 : decode cX7_read 76 = .ok (.iconst 1, 1) := by decide +kernel
theorem dX7_read_77 : decode cX7_read 77 = .ok (.isub, 1) := by decide +kernel
theorem dX7_read_78 : decode cX7_read 78 = .ok (.putfield 157, 3) := by decide +kernel
theorem dX7_read_81 : decode cX7_read 81 = .ok (.goto (-56), 3) := by decide +kernel
theorem dX7_read_84 : decode cX7_read 84 = .ok (.return_, 1) := by decide +kernel
theorem dX7_readAt_0 : decode cX7_readAt 0 = .ok (.aload_n 0, 1) := by decide +kernel
theorem dX7_readAt_1 : decode cX7_readAt 1 = .ok (.getfield 157, 3) := by decide +kernel
theorem dX7_readAt_4 : decode cX7_readAt 4 = .ok (.iconst 1, 1) := by decide +kernel
theorem dX7_readAt_5 : decode cX7_readAt 5 = .ok (.isub, 1) := by decide +kernel
theorem dX7_readAt_6 : decode cX7_readAt 6 = .ok (.istore_n 3, 1) := by decide +kernel
theorem dX7_readAt_7 : decode cX7_readAt 7 = .ok (.aload_n 0, 1) := by decide +kernel
theorem dX7_readAt_8 : decode cX7_readAt 8 = .ok (.getfield 68, 3) := by decide +kernel
theorem dX7_readAt_11 : decode cX7_readAt 11 = .ok (.iload_n 3, 1) := by decide +kernel
theorem dX7_readAt_12 : decode cX7_readAt 12 = .ok (.iaload, 1) := by decide +kernel
theorem dX7_readAt_13 : decode cX7_readAt 13 = .ok (.istore 4, 2) := by decide +kernel
theorem dX7_readAt_15 : decode cX7_readAt 15 = .ok (.iconst (-1), 1) := by decide +kernel
theorem dX7_readAt_16 : decode cX7_readAt 16 = .ok (.istore 5, 2) := by decide +kernel
theorem dX7_readAt_18 : decode cX7_readAt 18 = .ok (.iload_n 2, 1) := by decide +kernel
theorem dX7_readAt_19 : decode cX7_readAt 19 = .ok (.istore 6, 2) := by decide +kernel
theorem dX7_readAt_21 : decode cX7_readAt 21 = .ok (.iload 6, 2) := by decide +kernel
theorem dX7_readAt_23 : decode cX7_readAt 23 = .ok (.iload 4, 2) := by decide +kernel
theorem dX7_readAt_25 : decode cX7_readAt 25 = .ok (.if_icmp .ge 42, 3) := by decide +kernel
theorem dX7_readAt_28 : decode cX7_readAt 28 = .ok (.aload_n 0, 1) := by decide +kernel
theorem dX7_readAt_29 : decode cX7_readAt 29 = .ok (.iload_n 1, 1) := by decide +kernel
theorem dX7_readAt_30 : decode cX7_readAt 30 = .ok (.iload 6, 2) := by decide +kernel
theorem dX7_readAt_32 : decode cX7_readAt 32 = .ok (.iadd, 1) := by decide +kernel
theorem dX7_readAt_33 : decode cX7_readAt 33 = .ok (.invokevirtual 154, 3) := by decide +kernel
theorem dX7_readAt_36 : decode cX7_readAt 36 = .ok (.ifCond .eq 21, 3) := by decide +kernel
theorem dX7_readAt_39 : decode cX7_readAt 39 = .ok (.aload_n 0, 1) := by decide +kernel
theorem dX7_readAt_40 : decode cX7_readAt 40 = .ok (.getfield 22, 3) := by decide +kernel
theorem dX7_readAt_43 : decode cX7_readAt 43 = .ok (.iload_n 1, 1) := by decide +kernel
theorem dX7_readAt_44 : decode cX7_readAt 44 = .ok (.iload 6, 2) := by decide +kernel
theorem dX7_readAt_46 : decode cX7_readAt 46 = .ok (.iadd, 1) := by decide +kernel
theorem dX7_readAt_47 : decode cX7_readAt 47 = .ok (.iaload, 1) := by decide +kernel
theorem dX7_readAt_48 : decode cX7_readAt 48 = .ok (.iload_n 2, 1) := by decide +kernel
theorem dX7_readAt_49 : decode cX7_readAt 49 = .ok (.if_icmp .ne 8, 3) := by decide +kernel
theorem dX7_readAt_52 : decode cX7_readAt 52 = .ok (.iload 6, 2) := by decide +kernel
theorem dX7_readAt_54 : decode cX7_readAt 54 = .ok (.goto 5, 3) := by decide +kernel
theorem dX7_readAt_57 : decode cX7_readAt 57 = .ok (.iload 5, 2) := by decide +kernel
theorem dX7_readAt_59 : decode cX7_readAt 59 = .ok (.istore 5, 2) := by decide +kernel
theorem dX7_readAt_61 : decode cX7_readAt 61 = .ok (.iinc 6 1, 3) := by decide +kernel
theorem dX7_readAt_64 : decode cX7_readAt 64 = .ok (.goto (-43), 3) := by decide +kernel
theorem dX7_readAt_67 : decode cX7_readAt 67 = .ok (.iload 5, 2) := by decide +kernel
theorem dX7_readAt_69 : decode cX7_readAt 69 = .ok (.iconst (-1), 1) := by decide +kernel
theorem dX7_readAt_70 : decode cX7_readAt 70 = .ok (.if_icmp .eq 20, 3) := by decide +kernel
theorem dX7_readAt_73 : decode cX7_readAt 73 = .ok (.aload_n 0, 1) := by decide +kernel
theorem dX7_readAt_74 : decode cX7_readAt 74 = .ok (.iload_n 2, 1) := by decide +kernel
theorem dX7_readAt_75 : decode cX7_readAt 75 = .ok (.invokevirtual 170, 3) := by decide +kernel
theorem dX7_readAt_78 : decode cX7_readAt 78 = .ok (.ifCond .ne 12, 3) := by decide +kernel
theorem dX7_readAt_81 : decode cX7_readAt 81 = .ok (.aload_n 0, 1) := by decide +kernel
theorem dX7_readAt_82 : decode cX7_readAt 82 = .ok (.iload_n 1, 1) := by decide +kernel
theorem dX7_readAt_83 : decode cX7_readAt 83 = .ok (.iload_n 2, 1) := by decide +kernel
theorem dX7_readAt_84 : decode cX7_readAt 84 = .ok (.iload 5, 2) := by decide +kernel
theorem dX7_readAt_86 : decode cX7_readAt 86 = .ok (.invokevirtual 173, 3) := by decide +kernel
theorem dX7_readAt_89 : decode cX7_readAt 89 = .ok (.return_, 1) := by decide +kernel
theorem dX7_readAt_90 : decode cX7_readAt 90 = .ok (.iload_n 1, 1) := by decide +kernel
theorem dX7_readAt_91 : decode cX7_readAt 91 = .ok (.iload_n 2, 1) := by decide +kernel
theorem dX7_readAt_92 : decode cX7_readAt 92 = .ok (.iadd, 1) := by decide +kernel
theorem dX7_readAt_93 : decode cX7_readAt 93 = .ok (.istore 6, 2) := by decide +kernel
theorem dX7_readAt_95 : decode cX7_readAt 95 = .ok (.aload_n 0, 1) := by decide +kernel
theorem dX7_readAt_96 : decode cX7_readAt 96 = .ok (.getfield 16, 3) := by decide +kernel
theorem dX7_readAt_99 : decode cX7_readAt 99 = .ok (.iload 6, 2) := by decide +kernel
theorem dX7_readAt_101 : decode cX7_readAt 101 = .ok (.iaload, 1) := by decide +kernel
theorem dX7_readAt_102 : decode cX7_readAt 102 = .ok (.istore 7, 2) := by decide +kernel
theorem dX7_readAt_104 : decode cX7_readAt 104 = .ok (.aload_n 0, 1) := by decide +kernel
theorem dX7_readAt_105 : decode cX7_readAt 105 = .ok (.getfield 19, 3) := by decide +kernel
theorem dX7_readAt_108 : decode cX7_readAt 108 = .ok (.iload 6, 2) := by decide +kernel
theorem dX7_readAt_110 : decode cX7_readAt 110 = .ok (.iaload, 1) := by decide +kernel
theorem dX7_readAt_111 : decode cX7_readAt 111 = .ok (.istore 8, 2) := by decide +kernel
theorem dX7_readAt_113 : decode cX7_readAt 113 = .ok (.aload_n 0, 1) := by decide +kernel
theorem dX7_readAt_114 : decode cX7_readAt 114 = .ok (.getfield 22, 3) := by decide +kernel
theorem dX7_readAt_117 : decode cX7_readAt 117 = .ok (.iload 6, 2) := by decide +kernel
theorem dX7_readAt_119 : decode cX7_readAt 119 = .ok (.iaload, 1) := by decide +kernel
theorem dX7_readAt_120 : decode cX7_readAt 120 = .ok (.istore 9, 2) := by decide +kernel
theorem dX7_readAt_122 : decode cX7_readAt 122 = .ok (.aload_n 0, 1) := by decide +kernel
theorem dX7_readAt_123 : decode cX7_readAt 123 = .ok (.iload 6, 2) := by decide +kernel
theorem dX7_readAt_125 : decode cX7_readAt 125 = .ok (.invokevirtual 154, 3) := by decide +kernel
theorem dX7_readAt_128 : decode cX7_readAt 128 = .ok (.ifCond .eq 18, 3) := by decide +kernel
theorem dX7_readAt_131 : decode cX7_readAt 131 = .ok (.iload 9, 2) := by decide +kernel
theorem dX7_readAt_133 : decode cX7_readAt 133 = .ok (.aload_n 0, 1) := by decide +kernel
theorem dX7_readAt_134 : decode cX7_readAt 134 = .ok (.getfield 71, 3) := by decide +kernel
theorem dX7_readAt_137 : decode cX7_readAt 137 = .ok (.iload_n 3, 1) := by decide +kernel
theorem dX7_readAt_138 : decode cX7_readAt 138 = .ok (.iaload, 1) := by decide +kernel
theorem dX7_readAt_139 : decode cX7_readAt 139 = .ok (.if_icmp .ne 7, 3) := by decide +kernel
theorem dX7_readAt_142 : decode cX7_readAt 142 = .ok (.iconst 1, 1) := by decide +kernel
theorem dX7_readAt_143 : decode cX7_readAt 143 = .ok (.goto 4, 3) := by decide +kernel
theorem dX7_readAt_146 : decode cX7_readAt 146 = .ok (.iconst 0, 1) := by decide +kernel
theorem dX7_readAt_147 : decode cX7_readAt 147 = .ok (.istore 10, 2) := by decide +kernel
theorem dX7_readAt_149 : decode cX7_readAt 149 = .ok (.aload_n 0, 1) := by decide +kernel
theorem dX7_readAt_150 : decode cX7_readAt 150 = .ok (.iload 6, 2) := by decide +kernel
theorem dX7_readAt_152 : decode cX7_readAt 152 = .ok (.invokevirtual 154, 3) := by decide +kernel
theorem dX7_readAt_155 : decode cX7_readAt 155 = .ok (.ifCond .eq 18, 3) := by decide +kernel
theorem dX7_readAt_158 : decode cX7_readAt 158 = .ok (.iload 9, 2) := by decide +kernel
theorem dX7_readAt_160 : decode cX7_readAt 160 = .ok (.aload_n 0, 1) := by decide +kernel
theorem dX7_readAt_161 : decode cX7_readAt 161 = .ok (.getfield 74, 3) := by decide +kernel
theorem dX7_readAt_164 : decode cX7_readAt 164 = .ok (.iload_n 3, 1) := by decide +kernel
theorem dX7_readAt_165 : decode cX7_readAt 165 = .ok (.iaload, 1) := by decide +kernel
theorem dX7_readAt_166 : decode cX7_readAt 166 = .ok (.if_icmp .ne 7, 3) := by decide +kernel
theorem dX7_readAt_169 : decode cX7_readAt 169 = .ok (.iconst 1, 1) := by decide +kernel
theorem dX7_readAt_170 : decode cX7_readAt 170 = .ok (.goto 4, 3) := by decide +kernel
theorem dX7_readAt_173 : decode cX7_readAt 173 = .ok (.iconst 0, 1) := by decide +kernel
theorem dX7_readAt_174 : decode cX7_readAt 174 = .ok (.istore 11, 2) := by decide +kernel
theorem dX7_readAt_176 : decode cX7_readAt 176 = .ok (.aload_n 0, 1) := by decide +kernel
theorem dX7_readAt_177 : decode cX7_readAt 177 = .ok (.getfield 65, 3) := by decide +kernel
theorem dX7_readAt_180 : decode cX7_readAt 180 = .ok (.iload_n 3, 1) := by decide +kernel
theorem dX7_readAt_181 : decode cX7_readAt 181 = .ok (.iload_n 2, 1) := by decide +kernel
theorem dX7_readAt_182 : decode cX7_readAt 182 = .ok (.iconst 1, 1) := by decide +kernel
theorem dX7_readAt_183 : decode cX7_readAt 183 = .ok (.iadd, 1) := by decide +kernel
theorem dX7_readAt_184 : decode cX7_readAt 184 = .ok (.iastore, 1) := by decide +kernel
theorem dX7_readAt_185 : decode cX7_readAt 185 = .ok (.iconst (-1), 1) := by decide +kernel
theorem dX7_readAt_186 : decode cX7_readAt 186 = .ok (.istore 12, 2) := by decide +kernel
theorem dX7_readAt_188 : decode cX7_readAt 188 = .ok (.aload_n 0, 1) := by decide +kernel
theorem dX7_readAt_189 : decode cX7_readAt 189 = .ok (.getfield 13, 3) := by decide +kernel
theorem dX7_readAt_192 : decode cX7_readAt 192 = .ok (.iload 6, 2) := by decide +kernel
theorem dX7_readAt_194 : decode cX7_readAt 194 = .ok (.iaload, 1) := by decide +kernel
theorem dX7_readAt_195 : decode cX7_readAt 195 = .ok (.iconst 2, 1) := by decide +kernel
theorem dX7_readAt_196 : decode cX7_readAt 196 = .ok (.if_icmp .ne 42, 3) := by decide +kernel
theorem dX7_readAt_199 : decode cX7_readAt 199 = .ok (.aload_n 0, 1) := by decide +kernel
theorem dX7_readAt_200 : decode cX7_readAt 200 = .ok (.iload 10, 2) := by decide +kernel
theorem dX7_readAt_202 : decode cX7_readAt 202 = .ok (.ifCond .eq 8, 3) := by decide +kernel
theorem dX7_readAt_205 : decode cX7_readAt 205 = .ok (.bipush 6, 2) := by decide +kernel
theorem dX7_readAt_207 : decode cX7_readAt 207 = .ok (.goto 15, 3) := by decide +kernel
theorem dX7_readAt_210 : decode cX7_readAt 210 = .ok (.iload 11, 2) := by decide +kernel
theorem dX7_readAt_212 : decode cX7_readAt 212 = .ok (.ifCond .eq 8, 3) := by decide +kernel
theorem dX7_readAt_215 : decode cX7_readAt 215 = .ok (.bipush 7, 2) := by decide +kernel
theorem dX7_readAt_217 : decode cX7_readAt 217 = .ok (.goto 5, 3) := by decide +kernel
theorem dX7_readAt_220 : decode cX7_readAt 220 = .ok (.bipush 8, 2) := by decide +kernel
theorem dX7_readAt_222 : decode cX7_readAt 222 = .ok (.iload_n 2, 1) := by decide +kernel
theorem dX7_readAt_223 : decode cX7_readAt 223 = .ok (.iload_n 2, 1) := by decide +kernel
theorem dX7_readAt_224 : decode cX7_readAt 224 = .ok (.iconst 1, 1) := by decide +kernel
theorem dX7_readAt_225 : decode cX7_readAt 225 = .ok (.iadd, 1) := by decide +kernel
theorem dX7_readAt_226 : decode cX7_readAt 226 = .ok (.iconst 0, 1) := by decide +kernel
theorem dX7_readAt_227 : decode cX7_readAt 227 = .ok (.iconst 0, 1) := by decide +kernel
theorem dX7_readAt_228 : decode cX7_readAt 228 = .ok (.iload 9, 2) := by decide +kernel
theorem dX7_readAt_230 : decode cX7_readAt 230 = .ok (.invokevirtual 177, 3) := by decide +kernel
theorem dX7_readAt_233 : decode cX7_readAt 233 = .ok (.istore 12, 2) := by decide +kernel
theorem dX7_readAt_235 : decode cX7_readAt 235 = .ok (.goto 111, 3) := by decide +kernel
theorem dX7_readAt_238 : decode cX7_readAt 238 = .ok (.aload_n 0, 1) := by decide +kernel
theorem dX7_readAt_239 : decode cX7_readAt 239 = .ok (.getfield 13, 3) := by decide +kernel
theorem dX7_readAt_242 : decode cX7_readAt 242 = .ok (.iload 6, 2) := by decide +kernel
theorem dX7_readAt_244 : decode cX7_readAt 244 = .ok (.iaload, 1) := by decide +kernel
theorem dX7_readAt_245 : decode cX7_readAt 245 = .ok (.iconst 3, 1) := by decide +kernel
theorem dX7_readAt_246 : decode cX7_readAt 246 = .ok (.if_icmp .eq 28, 3) := by decide +kernel
theorem dX7_readAt_249 : decode cX7_readAt 249 = .ok (.aload_n 0, 1) := by decide +kernel
theorem dX7_readAt_250 : decode cX7_readAt 250 = .ok (.iconst 0, 1) := by decide +kernel
theorem dX7_readAt_251 : decode cX7_readAt 251 = .ok (.iload_n 2, 1) := by decide +kernel
theorem dX7_readAt_252 : decode cX7_readAt 252 = .ok (.iload_n 2, 1) := by decide +kernel
theorem dX7_readAt_253 : decode cX7_readAt 253 = .ok (.iconst 1, 1) := by decide +kernel
theorem dX7_readAt_254 : decode cX7_readAt 254 = .ok (.iadd, 1) := by decide +kernel
theorem dX7_readAt_255 : decode cX7_readAt 255 = .ok (.iload 7, 2) := by decide +kernel
theorem dX7_readAt_257 : decode cX7_readAt 257 = .ok (.iload 8, 2) := by decide +kernel
theorem dX7_readAt_259 : decode cX7_readAt 259 = .ok (.aload_n 0, 1) := by decide +kernel
theorem dX7_readAt_260 : decode cX7_readAt 260 = .ok (.getfield 13, 3) := by decide +kernel
theorem dX7_readAt_263 : decode cX7_readAt 263 = .ok (.iload 6, 2) := by decide +kernel
theorem dX7_readAt_265 : decode cX7_readAt 265 = .ok (.iaload, 1) := by decide +kernel
theorem dX7_readAt_266 : decode cX7_readAt 266 = .ok (.invokevirtual 177, 3) := by decide +kernel
theorem dX7_readAt_269 : decode cX7_readAt 269 = .ok (.istore 12, 2) := by decide +kernel
theorem dX7_readAt_271 : decode cX7_readAt 271 = .ok (.goto 75, 3) := by decide +kernel
theorem dX7_readAt_274 : decode cX7_readAt 274 = .ok (.iload 10, 2) := by decide +kernel
theorem dX7_readAt_276 : decode cX7_readAt 276 = .ok (.ifCond .ne 21, 3) := by decide +kernel
theorem dX7_readAt_279 : decode cX7_readAt 279 = .ok (.iload 11, 2) := by decide +kernel
theorem dX7_readAt_281 : decode cX7_readAt 281 = .ok (.ifCond .ne 16, 3) := by decide +kernel
theorem dX7_readAt_284 : decode cX7_readAt 284 = .ok (.iload 9, 2) := by decide +kernel
theorem dX7_readAt_286 : decode cX7_readAt 286 = .ok (.iload_n 2, 1) := by decide +kernel
theorem dX7_readAt_287 : decode cX7_readAt 287 = .ok (.if_icmp .le 10, 3) := by decide +kernel
theorem dX7_readAt_290 : decode cX7_readAt 290 = .ok (.iload 9, 2) := by decide +kernel
theorem dX7_readAt_292 : decode cX7_readAt 292 = .ok (.iload 4, 2) := by decide +kernel
theorem dX7_readAt_294 : decode cX7_readAt 294 = .ok (.if_icmp .le 44, 3) := by decide +kernel
theorem dX7_readAt_297 : decode cX7_readAt 297 = .ok (.aload_n 0, 1) := by decide +kernel
theorem dX7_readAt_298 : decode cX7_readAt 298 = .ok (.iload 10, 2) := by decide +kernel
theorem dX7_readAt_300 : decode cX7_readAt 300 = .ok (.ifCond .eq 8, 3) := by decide +kernel
theorem dX7_readAt_303 : decode cX7_readAt 303 = .ok (.bipush 9, 2) := by decide +kernel
theorem dX7_readAt_305 : decode cX7_readAt 305 = .ok (.goto 15, 3) := by decide +kernel
theorem dX7_readAt_308 : decode cX7_readAt 308 = .ok (.iload 11, 2) := by decide +kernel
theorem dX7_readAt_310 : decode cX7_readAt 310 = .ok (.ifCond .eq 8, 3) := by decide +kernel
theorem dX7_readAt_313 : decode cX7_readAt 313 = .ok (.bipush 10, 2) := by decide +kernel
theorem dX7_readAt_315 : decode cX7_readAt 315 = .ok (.goto 5, 3) := by decide +kernel
theorem dX7_readAt_318 : decode cX7_readAt 318 = .ok (.bipush 11, 2) := by decide +kernel
theorem dX7_readAt_320 : decode cX7_readAt 320 = .ok (.iload_n 2, 1) := by decide +kernel
theorem dX7_readAt_321 : decode cX7_readAt 321 = .ok (.iload_n 2, 1) := by decide +kernel
theorem dX7_readAt_322 : decode cX7_readAt 322 = .ok (.iconst 1, 1) := by decide +kernel
theorem dX7_readAt_323 : decode cX7_readAt 323 = .ok (.iadd, 1) := by decide +kernel
theorem dX7_readAt_324 : decode cX7_readAt 324 = .ok (.iload 7, 2) := by decide +kernel
theorem dX7_readAt_326 : decode cX7_readAt 326 = .ok (.iload 8, 2) := by decide +kernel
theorem dX7_readAt_328 : decode cX7_readAt 328 = .ok (.iload 9, 2) := by decide +kernel
theorem dX7_readAt_330 : decode cX7_readAt 330 = .ok (.invokevirtual 177, 3) := by decide +kernel
theorem dX7_readAt_333 : decode cX7_readAt 333 = .ok (.istore 12, 2) := by decide +kernel
theorem dX7_readAt_335 : decode cX7_readAt 335 = .ok (.goto 11, 3) := by decide +kernel
theorem dX7_readAt_338 : decode cX7_readAt 338 = .ok (.aload_n 0, 1) := by decide +kernel
theorem dX7_readAt_339 : decode cX7_readAt 339 = .ok (.iload_n 1, 1) := by decide +kernel
theorem dX7_readAt_340 : decode cX7_readAt 340 = .ok (.iload_n 2, 1) := by decide +kernel
theorem dX7_readAt_341 : decode cX7_readAt 341 = .ok (.iload 9, 2) := by decide +kernel
theorem dX7_readAt_343 : decode cX7_readAt 343 = .ok (.invokevirtual 181, 3) := by decide +kernel
theorem dX7_readAt_346 : decode cX7_readAt 346 = .ok (.return_, 1) := by decide +kernel
theorem dX7_readIf_0 : decode cX7_readIf 0 = .ok (.aload_n 0, 1) := by decide +kernel
theorem dX7_readIf_1 : decode cX7_readIf 1 = .ok (.getfield 157, 3) := by decide +kernel
theorem dX7_readIf_4 : decode cX7_readIf 4 = .ok (.iconst 1, 1) := by decide +kernel
theorem dX7_readIf_5 : decode cX7_readIf 5 = .ok (.isub, 1) := by decide +kernel
theorem dX7_readIf_6 : decode cX7_readIf 6 = .ok (.istore 4, 2) := by decide +kernel
theorem dX7_readIf_8 : decode cX7_readIf 8 = .ok (.iload_n 1, 1) := by decide +kernel
theorem dX7_readIf_9 : decode cX7_readIf 9 = .ok (.iload_n 2, 1) := by decide +kernel
theorem dX7_readIf_10 : decode cX7_readIf 10 = .ok (.iadd, 1) := by decide +kernel
theorem dX7_readIf_11 : decode cX7_readIf 11 = .ok (.istore 5, 2) := by decide +kernel
theorem dX7_readIf_13 : decode cX7_readIf 13 = .ok (.aload_n 0, 1) := by decide +kernel
theorem dX7_readIf_14 : decode cX7_readIf 14 = .ok (.getfield 71, 3) := by decide +kernel
theorem dX7_readIf_17 : decode cX7_readIf 17 = .ok (.iload 4, 2) := by decide +kernel
theorem dX7_readIf_19 : decode cX7_readIf 19 = .ok (.iaload, 1) := by decide +kernel
theorem dX7_readIf_20 : decode cX7_readIf 20 = .ok (.istore 6, 2) := by decide +kernel
theorem dX7_readIf_22 : decode cX7_readIf 22 = .ok (.aload_n 0, 1) := by decide +kernel
theorem dX7_readIf_23 : decode cX7_readIf 23 = .ok (.getfield 74, 3) := by decide +kernel
theorem dX7_readIf_26 : decode cX7_readIf 26 = .ok (.iload 4, 2) := by decide +kernel
theorem dX7_readIf_28 : decode cX7_readIf 28 = .ok (.iaload, 1) := by decide +kernel
theorem dX7_readIf_29 : decode cX7_readIf 29 = .ok (.istore 7, 2) := by decide +kernel
theorem dX7_readIf_31 : decode cX7_readIf 31 = .ok (.iload_n 3, 1) := by decide +kernel
theorem dX7_readIf_32 : decode cX7_readIf 32 = .ok (.iconst 1, 1) := by decide +kernel
theorem dX7_readIf_33 : decode cX7_readIf 33 = .ok (.isub, 1) := by decide +kernel
theorem dX7_readIf_34 : decode cX7_readIf 34 = .ok (.iload_n 2, 1) := by decide +kernel
theorem dX7_readIf_35 : decode cX7_readIf 35 = .ok (.if_icmp .le 30, 3) := by decide +kernel
theorem dX7_readIf_38 : decode cX7_readIf 38 = .ok (.aload_n 0, 1) := by decide +kernel
theorem dX7_readIf_39 : decode cX7_readIf 39 = .ok (.getfield 13, 3) := by decide +kernel
theorem dX7_readIf_42 : decode cX7_readIf 42 = .ok (.iload_n 1, 1) := by decide +kernel
theorem dX7_readIf_43 : decode cX7_readIf 43 = .ok (.iload_n 3, 1) := by decide +kernel
theorem dX7_readIf_44 : decode cX7_readIf 44 = .ok (.iadd, 1) := by decide +kernel
theorem dX7_readIf_45 : decode cX7_readIf 45 = .ok (.iconst 1, 1) := by decide +kernel
theorem dX7_readIf_46 : decode cX7_readIf 46 = .ok (.isub, 1) := by decide +kernel
theorem dX7_readIf_47 : decode cX7_readIf 47 = .ok (.iaload, 1) := by decide +kernel
theorem dX7_readIf_48 : decode cX7_readIf 48 = .ok (.iconst 2, 1) := by decide +kernel
theorem dX7_readIf_49 : decode cX7_readIf 49 = .ok (.if_icmp .ne 16, 3) := by decide +kernel
theorem dX7_readIf_52 : decode cX7_readIf 52 = .ok (.aload_n 0, 1) := by decide +kernel
theorem dX7_readIf_53 : decode cX7_readIf 53 = .ok (.getfield 22, 3) := by decide +kernel
theorem dX7_readIf_56 : decode cX7_readIf 56 = .ok (.iload_n 1, 1) := by decide +kernel
theorem dX7_readIf_57 : decode cX7_readIf 57 = .ok (.iload_n 3, 1) := by decide +kernel
theorem dX7_readIf_58 : decode cX7_readIf 58 = .ok (.iadd, 1) := by decide +kernel
theorem dX7_readIf_59 : decode cX7_readIf 59 = .ok (.iconst 1, 1) := by decide +kernel
theorem dX7_readIf_60 : decode cX7_readIf 60 = .ok (.isub, 1) := by decide +kernel
theorem dX7_readIf_61 : decode cX7_readIf 61 = .ok (.iaload, 1) := by decide +kernel
theorem dX7_readIf_62 : decode cX7_readIf 62 = .ok (.goto 4, 3) := by decide +kernel
theorem dX7_readIf_65 : decode cX7_readIf 65 = .ok (.iconst (-1), 1) := by decide +kernel
theorem dX7_readIf_66 : decode cX7_readIf 66 = .ok (.istore 8, 2) := by decide +kernel
theorem dX7_readIf_68 : decode cX7_readIf 68 = .ok (.iload 8, 2) := by decide +kernel
theorem dX7_readIf_70 : decode cX7_readIf 70 = .ok (.iload_n 3, 1) := by decide +kernel
theorem dX7_readIf_71 : decode cX7_readIf 71 = .ok (.if_icmp .le 33, 3) := by decide +kernel
theorem dX7_readIf_74 : decode cX7_readIf 74 = .ok (.iload 8, 2) := by decide +kernel
theorem dX7_readIf_76 : decode cX7_readIf 76 = .ok (.aload_n 0, 1) := by decide +kernel
theorem dX7_readIf_77 : decode cX7_readIf 77 = .ok (.getfield 68, 3) := by decide +kernel
theorem dX7_readIf_80 : decode cX7_readIf 80 = .ok (.iload 4, 2) := by decide +kernel
theorem dX7_readIf_82 : decode cX7_readIf 82 = .ok (.iaload, 1) := by decide +kernel
theorem dX7_readIf_83 : decode cX7_readIf 83 = .ok (.if_icmp .gt 21, 3) := by decide +kernel
theorem dX7_readIf_86 : decode cX7_readIf 86 = .ok (.iload 8, 2) := by decide +kernel
theorem dX7_readIf_88 : decode cX7_readIf 88 = .ok (.iload 6, 2) := by decide +kernel
theorem dX7_readIf_90 : decode cX7_readIf 90 = .ok (.if_icmp .eq 14, 3) := by decide +kernel
theorem dX7_readIf_93 : decode cX7_readIf 93 = .ok (.iload 8, 2) := by decide +kernel
theorem dX7_readIf_95 : decode cX7_readIf 95 = .ok (.iload 7, 2) := by decide +kernel
theorem dX7_readIf_97 : decode cX7_readIf 97 = .ok (.if_icmp .eq 7, 3) := by decide +kernel
theorem dX7_readIf_100 : decode cX7_readIf 100 = .ok (.iconst 1, 1) := by decide +kernel
theorem dX7_readIf_101 : decode cX7_readIf 101 = .ok (.goto 4, 3) := by decide +kernel
theorem dX7_readIf_104 : decode cX7_readIf 104 = .ok (.iconst 0, 1) := by decide +kernel
theorem dX7_readIf_105 : decode cX7_readIf 105 = .ok (.istore 9, 2) := by decide +kernel
theorem dX7_readIf_107 : decode cX7_readIf 107 = .ok (.aload_n 0, 1) := by decide +kernel
theorem dX7_readIf_108 : decode cX7_readIf 108 = .ok (.iload 9, 2) := by decide +kernel
theorem dX7_readIf_110 : decode cX7_readIf 110 = .ok (.ifCond .eq 7, 3) := by decide +kernel
theorem dX7_readIf_113 : decode cX7_readIf 113 = .ok (.iconst 2, 1) := by decide +kernel
theorem dX7_readIf_114 : decode cX7_readIf 114 = .ok (.goto 4, 3) := by decide +kernel
theorem dX7_readIf_117 : decode cX7_readIf 117 = .ok (.iconst 1, 1) := by decide +kernel
theorem dX7_readIf_118 : decode cX7_readIf 118 = .ok (.iload_n 2, 1) := by decide +kernel
theorem dX7_readIf_119 : decode cX7_readIf 119 = .ok (.iload 9, 2) := by decide +kernel
theorem dX7_readIf_121 : decode cX7_readIf 121 = .ok (.ifCond .eq 8, 3) := by decide +kernel
theorem dX7_readIf_124 : decode cX7_readIf 124 = .ok (.iload 8, 2) := by decide +kernel
theorem dX7_readIf_126 : decode cX7_readIf 126 = .ok (.goto 4, 3) := by decide +kernel
theorem dX7_readIf_129 : decode cX7_readIf 129 = .ok (.iload_n 3, 1) := by decide +kernel
theorem dX7_readIf_130 : decode cX7_readIf 130 = .ok (.aload_n 0, 1) := by decide +kernel
theorem dX7_readIf_131 : decode cX7_readIf 131 = .ok (.getfield 16, 3) := by decide +kernel
theorem dX7_readIf_134 : decode cX7_readIf 134 = .ok (.iload 5, 2) := by decide +kernel
theorem dX7_readIf_136 : decode cX7_readIf 136 = .ok (.iaload, 1) := by decide +kernel
theorem dX7_readIf_137 : decode cX7_readIf 137 = .ok (.aload_n 0, 1) := by decide +kernel
theorem dX7_readIf_138 : decode cX7_readIf 138 = .ok (.getfield 19, 3) := by decide +kernel
theorem dX7_readIf_141 : decode cX7_readIf 141 = .ok (.iload 5, 2) := by decide +kernel
theorem dX7_readIf_143 : decode cX7_readIf 143 = .ok (.iaload, 1) := by decide +kernel
theorem dX7_readIf_144 : decode cX7_readIf 144 = .ok (.iload_n 3, 1) := by decide +kernel
theorem dX7_readIf_145 : decode cX7_readIf 145 = .ok (.invokevirtual 177, 3) := by decide +kernel
theorem dX7_readIf_148 : decode cX7_readIf 148 = .ok (.istore 10, 2) := by decide +kernel
theorem dX7_readIf_150 : decode cX7_readIf 150 = .ok (.aload_n 0, 1) := by decide +kernel
theorem dX7_readIf_151 : decode cX7_readIf 151 = .ok (.getfield 65, 3) := by decide +kernel
theorem dX7_readIf_154 : decode cX7_readIf 154 = .ok (.iload 4, 2) := by decide +kernel
theorem dX7_readIf_156 : decode cX7_readIf 156 = .ok (.iload 9, 2) := by decide +kernel
theorem dX7_readIf_158 : decode cX7_readIf 158 = .ok (.ifCond .eq 8, 3) := by decide +kernel
theorem dX7_readIf_161 : decode cX7_readIf 161 = .ok (.iload 8, 2) := by decide +kernel
theorem dX7_readIf_163 : decode cX7_readIf 163 = .ok (.goto 4, 3) := by decide +kernel
theorem dX7_readIf_166 : decode cX7_readIf 166 = .ok (.iload_n 3, 1) := by decide +kernel
theorem dX7_readIf_167 : decode cX7_readIf 167 = .ok (.iastore, 1) := by decide +kernel
theorem dX7_readIf_168 : decode cX7_readIf 168 = .ok (.iload 9, 2) := by decide +kernel
theorem dX7_readIf_170 : decode cX7_readIf 170 = .ok (.ifCond .eq 37, 3) := by decide +kernel
theorem dX7_readIf_173 : decode cX7_readIf 173 = .ok (.aload_n 0, 1) := by decide +kernel
theorem dX7_readIf_174 : decode cX7_readIf 174 = .ok (.iload_n 3, 1) := by decide +kernel
theorem dX7_readIf_175 : decode cX7_readIf 175 = .ok (.iload 8, 2) := by decide +kernel
theorem dX7_readIf_177 : decode cX7_readIf 177 = .ok (.iload 6, 2) := by decide +kernel
theorem dX7_readIf_179 : decode cX7_readIf 179 = .ok (.iload 7, 2) := by decide +kernel
theorem dX7_readIf_181 : decode cX7_readIf 181 = .ok (.iload 10, 2) := by decide +kernel
theorem dX7_readIf_183 : decode cX7_readIf 183 = .ok (.iconst 1, 1) := by decide +kernel
theorem dX7_readIf_184 : decode cX7_readIf 184 = .ok (.invokevirtual 163, 3) := by decide +kernel
theorem dX7_readIf_187 : decode cX7_readIf 187 = .ok (.aload_n 0, 1) := by decide +kernel
theorem dX7_readIf_188 : decode cX7_readIf 188 = .ok (.iload_n 2, 1) := by decide +kernel
theorem dX7_readIf_189 : decode cX7_readIf 189 = .ok (.iconst 1, 1) := by decide +kernel
theorem dX7_readIf_190 : decode cX7_readIf 190 = .ok (.iadd, 1) := by decide +kernel
theorem dX7_readIf_191 : decode cX7_readIf 191 = .ok (.iload_n 3, 1) := by decide +kernel
theorem dX7_readIf_192 : decode cX7_readIf 192 = .ok (.iconst 1, 1) := by decide +kernel
theorem dX7_readIf_193 : decode cX7_readIf 193 = .ok (.isub, 1) := by decide +kernel
theorem dX7_readIf_194 : decode cX7_readIf 194 = .ok (.iload 6, 2) := by decide +kernel
theorem dX7_readIf_196 : decode cX7_readIf 196 = .ok (.iload 7, 2) := by decide +kernel
theorem dX7_readIf_198 : decode cX7_readIf 198 = .ok (.iload 10, 2) := by decide +kernel
theorem dX7_readIf_200 : decode cX7_readIf 200 = .ok (.iconst 0, 1) := by decide +kernel
theorem dX7_readIf_201 : decode cX7_readIf 201 = .ok (.invokevirtual 163, 3) := by decide +kernel
theorem dX7_readIf_204 : decode cX7_readIf 204 = .ok (.goto 18, 3) := by decide +kernel
theorem dX7_readIf_207 : decode cX7_readIf 207 = .ok (.aload_n 0, 1) := by decide +kernel
theorem dX7_readIf_208 : decode cX7_readIf 208 = .ok (.iload_n 2, 1) := by decide +kernel
theorem dX7_readIf_209 : decode cX7_readIf 209 = .ok (.iconst 1, 1) := by decide +kernel
theorem dX7_readIf_210 : decode cX7_readIf 210 = .ok (.iadd, 1) := by decide +kernel
theorem dX7_readIf_211 : decode cX7_readIf 211 = .ok (.iload_n 3, 1) := by decide +kernel
theorem dX7_readIf_212 : decode cX7_readIf 212 = .ok (.iload 6, 2) := by decide +kernel
theorem dX7_readIf_214 : decode cX7_readIf 214 = .ok (.iload 7, 2) := by decide +kernel
theorem dX7_readIf_216 : decode cX7_readIf 216 = .ok (.iload 10, 2) := by decide +kernel
theorem dX7_readIf_218 : decode cX7_readIf 218 = .ok (.iconst 0, 1) := by decide +kernel
theorem dX7_readIf_219 : decode cX7_readIf 219 = .ok (.invokevirtual 163, 3) := by decide +kernel
theorem dX7_readIf_222 : decode cX7_readIf 222 = .ok (.return_, 1) := by decide +kernel
theorem dX7_readLoop_0 : decode cX7_readLoop 0 = .ok (.iload_n 1, 1) := by decide +kernel
theorem dX7_readLoop_1 : decode cX7_readLoop 1 = .ok (.iload_n 3, 1) := by decide +kernel
theorem dX7_readLoop_2 : decode cX7_readLoop 2 = .ok (.iadd, 1) := by decide +kernel
theorem dX7_readLoop_3 : decode cX7_readLoop 3 = .ok (.istore 4, 2) := by decide +kernel
theorem dX7_readLoop_5 : decode cX7_readLoop 5 = .ok (.iload_n 1, 1) := by decide +kernel
theorem dX7_readLoop_6 : decode cX7_readLoop 6 = .ok (.iload_n 2, 1) := by decide +kernel
theorem dX7_readLoop_7 : decode cX7_readLoop 7 = .ok (.iadd, 1) := by decide +kernel
theorem dX7_readLoop_8 : decode cX7_readLoop 8 = .ok (.istore 5, 2) := by decide +kernel
theorem dX7_readLoop_10 : decode cX7_readLoop 10 = .ok (.aload_n 0, 1) := by decide +kernel
theorem dX7_readLoop_11 : decode cX7_readLoop 11 = .ok (.getfield 65, 3) := by decide +kernel
theorem dX7_readLoop_14 : decode cX7_readLoop 14 = .ok (.aload_n 0, 1) := by decide +kernel
theorem dX7_readLoop_15 : decode cX7_readLoop 15 = .ok (.getfield 157, 3) := by decide +kernel
theorem dX7_readLoop_18 : decode cX7_readLoop 18 = .ok (.iconst 1, 1) := by decide +kernel
theorem dX7_readLoop_19 : decode cX7_readLoop 19 = .ok (.isub, 1) := by decide +kernel
theorem dX7_readLoop_20 : decode cX7_readLoop 20 = .ok (.iload_n 3, 1) := by decide +kernel
theorem dX7_readLoop_21 : decode cX7_readLoop 21 = .ok (.iconst 1, 1) := by decide +kernel
theorem dX7_readLoop_22 : decode cX7_readLoop 22 = .ok (.iadd, 1) := by decide +kernel
theorem dX7_readLoop_23 : decode cX7_readLoop 23 = .ok (.iastore, 1) := by decide +kernel
theorem dX7_readLoop_24 : decode cX7_readLoop 24 = .ok (.aload_n 0, 1) := by decide +kernel
theorem dX7_readLoop_25 : decode cX7_readLoop 25 = .ok (.getfield 13, 3) := by decide +kernel
theorem dX7_readLoop_28 : decode cX7_readLoop 28 = .ok (.iload 4, 2) := by decide +kernel
theorem dX7_readLoop_30 : decode cX7_readLoop 30 = .ok (.iaload, 1) := by decide +kernel
theorem dX7_readLoop_31 : decode cX7_readLoop 31 = .ok (.iconst 3, 1) := by decide +kernel
theorem dX7_readLoop_32 : decode cX7_readLoop 32 = .ok (.if_icmp .ne 45, 3) := by decide +kernel
theorem dX7_readLoop_35 : decode cX7_readLoop 35 = .ok (.aload_n 0, 1) := by decide +kernel
theorem dX7_readLoop_36 : decode cX7_readLoop 36 = .ok (.iconst 5, 1) := by decide +kernel
theorem dX7_readLoop_37 : decode cX7_readLoop 37 = .ok (.iload_n 2, 1) := by decide +kernel
theorem dX7_readLoop_38 : decode cX7_readLoop 38 = .ok (.iload_n 3, 1) := by decide +kernel
theorem dX7_readLoop_39 : decode cX7_readLoop 39 = .ok (.iconst 1, 1) := by decide +kernel
theorem dX7_readLoop_40 : decode cX7_readLoop 40 = .ok (.iadd, 1) := by decide +kernel
theorem dX7_readLoop_41 : decode cX7_readLoop 41 = .ok (.aload_n 0, 1) := by decide +kernel
theorem dX7_readLoop_42 : decode cX7_readLoop 42 = .ok (.getfield 16, 3) := by decide +kernel
theorem dX7_readLoop_45 : decode cX7_readLoop 45 = .ok (.iload 4, 2) := by decide +kernel
theorem dX7_readLoop_47 : decode cX7_readLoop 47 = .ok (.iaload, 1) := by decide +kernel
theorem dX7_readLoop_48 : decode cX7_readLoop 48 = .ok (.aload_n 0, 1) := by decide +kernel
theorem dX7_readLoop_49 : decode cX7_readLoop 49 = .ok (.getfield 19, 3) := by decide +kernel
theorem dX7_readLoop_52 : decode cX7_readLoop 52 = .ok (.iload 4, 2) := by decide +kernel
theorem dX7_readLoop_54 : decode cX7_readLoop 54 = .ok (.iaload, 1) := by decide +kernel
theorem dX7_readLoop_55 : decode cX7_readLoop 55 = .ok (.iload_n 2, 1) := by decide +kernel
theorem dX7_readLoop_56 : decode cX7_readLoop 56 = .ok (.invokevirtual 177, 3) := by decide +kernel
theorem dX7_readLoop_59 : decode cX7_readLoop 59 = .ok (.istore 6, 2) := by decide +kernel
theorem dX7_readLoop_61 : decode cX7_readLoop 61 = .ok (.aload_n 0, 1) := by decide +kernel
theorem dX7_readLoop_62 : decode cX7_readLoop 62 = .ok (.iload_n 2, 1) := by decide +kernel
theorem dX7_readLoop_63 : decode cX7_readLoop 63 = .ok (.iload_n 3, 1) := by decide +kernel
theorem dX7_readLoop_64 : decode cX7_readLoop 64 = .ok (.iload_n 3, 1) := by decide +kernel
theorem dX7_readLoop_65 : decode cX7_readLoop 65 = .ok (.iconst 1, 1) := by decide +kernel
theorem dX7_readLoop_66 : decode cX7_readLoop 66 = .ok (.iadd, 1) := by decide +kernel
theorem dX7_readLoop_67 : decode cX7_readLoop 67 = .ok (.iload_n 3, 1) := by decide +kernel
theorem dX7_readLoop_68 : decode cX7_readLoop 68 = .ok (.iload 6, 2) := by decide +kernel
theorem dX7_readLoop_70 : decode cX7_readLoop 70 = .ok (.iconst 0, 1) := by decide +kernel
theorem dX7_readLoop_71 : decode cX7_readLoop 71 = .ok (.invokevirtual 163, 3) := by decide +kernel
theorem dX7_readLoop_74 : decode cX7_readLoop 74 = .ok (.goto 105, 3) := by decide +kernel
theorem dX7_readLoop_77 : decode cX7_readLoop 77 = .ok (.aload_n 0, 1) := by decide +kernel
theorem dX7_readLoop_78 : decode cX7_readLoop 78 = .ok (.getfield 13, 3) := by decide +kernel
theorem dX7_readLoop_81 : decode cX7_readLoop 81 = .ok (.iload 5, 2) := by decide +kernel
theorem dX7_readLoop_83 : decode cX7_readLoop 83 = .ok (.iaload, 1) := by decide +kernel
theorem dX7_readLoop_84 : decode cX7_readLoop 84 = .ok (.iconst 3, 1) := by decide +kernel
theorem dX7_readLoop_85 : decode cX7_readLoop 85 = .ok (.if_icmp .ne 67, 3) := by decide +kernel
theorem dX7_readLoop_88 : decode cX7_readLoop 88 = .ok (.aload_n 0, 1) := by decide +kernel
theorem dX7_readLoop_89 : decode cX7_readLoop 89 = .ok (.getfield 22, 3) := by decide +kernel
theorem dX7_readLoop_92 : decode cX7_readLoop 92 = .ok (.iload 5, 2) := by decide +kernel
theorem dX7_readLoop_94 : decode cX7_readLoop 94 = .ok (.iaload, 1) := by decide +kernel
theorem dX7_readLoop_95 : decode cX7_readLoop 95 = .ok (.iload_n 3, 1) := by decide +kernel
theorem dX7_readLoop_96 : decode cX7_readLoop 96 = .ok (.iconst 1, 1) := by decide +kernel
theorem dX7_readLoop_97 : decode cX7_readLoop 97 = .ok (.iadd, 1) := by decide +kernel
theorem dX7_readLoop_98 : decode cX7_readLoop 98 = .ok (.if_icmp .ne 54, 3) := by decide +kernel
theorem dX7_readLoop_101 : decode cX7_readLoop 101 = .ok (.iload_n 2, 1) := by decide +kernel
theorem dX7_readLoop_102 : decode cX7_readLoop 102 = .ok (.iload_n 3, 1) := by decide +kernel
theorem dX7_readLoop_103 : decode cX7_readLoop 103 = .ok (.if_icmp .eq 49, 3) := by decide +kernel
theorem dX7_readLoop_106 : decode cX7_readLoop 106 = .ok (.aload_n 0, 1) := by decide +kernel
theorem dX7_readLoop_107 : decode cX7_readLoop 107 = .ok (.iconst 4, 1) := by decide +kernel
theorem dX7_readLoop_108 : decode cX7_readLoop 108 = .ok (.iload_n 2, 1) := by decide +kernel
theorem dX7_readLoop_109 : decode cX7_readLoop 109 = .ok (.iload_n 3, 1) := by decide +kernel
theorem dX7_readLoop_110 : decode cX7_readLoop 110 = .ok (.iconst 1, 1) := by decide +kernel
theorem dX7_readLoop_111 : decode cX7_readLoop 111 = .ok (.iadd, 1) := by decide +kernel
theorem dX7_readLoop_112 : decode cX7_readLoop 112 = .ok (.aload_n 0, 1) := by decide +kernel
theorem dX7_readLoop_113 : decode cX7_readLoop 113 = .ok (.getfield 16, 3) := by decide +kernel
theorem dX7_readLoop_116 : decode cX7_readLoop 116 = .ok (.iload 5, 2) := by decide +kernel
theorem dX7_readLoop_118 : decode cX7_readLoop 118 = .ok (.iaload, 1) := by decide +kernel
theorem dX7_readLoop_119 : decode cX7_readLoop 119 = .ok (.aload_n 0, 1) := by decide +kernel
theorem dX7_readLoop_120 : decode cX7_readLoop 120 = .ok (.getfield 19, 3) := by decide +kernel
theorem dX7_readLoop_123 : decode cX7_readLoop 123 = .ok (.iload 5, 2) := by decide +kernel
theorem dX7_readLoop_125 : decode cX7_readLoop 125 = .ok (.iaload, 1) := by decide +kernel
theorem dX7_readLoop_126 : decode cX7_readLoop 126 = .ok (.iload_n 3, 1) := by decide +kernel
theorem dX7_readLoop_127 : decode cX7_readLoop 127 = .ok (.iconst 1, 1) := by decide +kernel
theorem dX7_readLoop_128 : decode cX7_readLoop 128 = .ok (.iadd, 1) := by decide +kernel
theorem dX7_readLoop_129 : decode cX7_readLoop 129 = .ok (.invokevirtual 177, 3) := by decide +kernel
theorem dX7_readLoop_132 : decode cX7_readLoop 132 = .ok (.istore 6, 2) := by decide +kernel
theorem dX7_readLoop_134 : decode cX7_readLoop 134 = .ok (.aload_n 0, 1) := by decide +kernel
theorem dX7_readLoop_135 : decode cX7_readLoop 135 = .ok (.iload_n 2, 1) := by decide +kernel
theorem dX7_readLoop_136 : decode cX7_readLoop 136 = .ok (.iconst 1, 1) := by decide +kernel
theorem dX7_readLoop_137 : decode cX7_readLoop 137 = .ok (.iadd, 1) := by decide +kernel
theorem dX7_readLoop_138 : decode cX7_readLoop 138 = .ok (.iload_n 3, 1) := by decide +kernel
theorem dX7_readLoop_139 : decode cX7_readLoop 139 = .ok (.iload_n 3, 1) := by decide +kernel
theorem dX7_readLoop_140 : decode cX7_readLoop 140 = .ok (.iconst 1, 1) := by decide +kernel
theorem dX7_readLoop_141 : decode cX7_readLoop 141 = .ok (.iadd, 1) := by decide +kernel
theorem dX7_readLoop_142 : decode cX7_readLoop 142 = .ok (.iload_n 2, 1) := by decide +kernel
theorem dX7_readLoop_143 : decode cX7_readLoop 143 = .ok (.iload 6, 2) := by decide +kernel
theorem dX7_readLoop_145 : decode cX7_readLoop 145 = .ok (.iconst 0, 1) := by decide +kernel
theorem dX7_readLoop_146 : decode cX7_readLoop 146 = .ok (.invokevirtual 163, 3) := by decide +kernel
theorem dX7_readLoop_149 : decode cX7_readLoop 149 = .ok (.goto 30, 3) := by decide +kernel
theorem dX7_readLoop_152 : decode cX7_readLoop 152 = .ok (.aload_n 0, 1) := by decide +kernel
theorem dX7_readLoop_153 : decode cX7_readLoop 153 = .ok (.iconst 3, 1) := by decide +kernel
theorem dX7_readLoop_154 : decode cX7_readLoop 154 = .ok (.iload_n 2, 1) := by decide +kernel
theorem dX7_readLoop_155 : decode cX7_readLoop 155 = .ok (.iload_n 3, 1) := by decide +kernel
theorem dX7_readLoop_156 : decode cX7_readLoop 156 = .ok (.iconst 1, 1) := by decide +kernel
theorem dX7_readLoop_157 : decode cX7_readLoop 157 = .ok (.iadd, 1) := by decide +kernel
theorem dX7_readLoop_158 : decode cX7_readLoop 158 = .ok (.iconst 0, 1) := by decide +kernel
theorem dX7_readLoop_159 : decode cX7_readLoop 159 = .ok (.iconst 0, 1) := by decide +kernel
theorem dX7_readLoop_160 : decode cX7_readLoop 160 = .ok (.iload_n 2, 1) := by decide +kernel
theorem dX7_readLoop_161 : decode cX7_readLoop 161 = .ok (.invokevirtual 177, 3) := by decide +kernel
theorem dX7_readLoop_164 : decode cX7_readLoop 164 = .ok (.istore 6, 2) := by decide +kernel
theorem dX7_readLoop_166 : decode cX7_readLoop 166 = .ok (.aload_n 0, 1) := by decide +kernel
theorem dX7_readLoop_167 : decode cX7_readLoop 167 = .ok (.iload_n 2, 1) := by decide +kernel
theorem dX7_readLoop_168 : decode cX7_readLoop 168 = .ok (.iload_n 3, 1) := by decide +kernel
theorem dX7_readLoop_169 : decode cX7_readLoop 169 = .ok (.iload_n 3, 1) := by decide +kernel
theorem dX7_readLoop_170 : decode cX7_readLoop 170 = .ok (.iconst 1, 1) := by decide +kernel
theorem dX7_readLoop_171 : decode cX7_readLoop 171 = .ok (.iadd, 1) := by decide +kernel
theorem dX7_readLoop_172 : decode cX7_readLoop 172 = .ok (.iload_n 2, 1) := by decide +kernel
theorem dX7_readLoop_173 : decode cX7_readLoop 173 = .ok (.iload 6, 2) := by decide +kernel
theorem dX7_readLoop_175 : decode cX7_readLoop 175 = .ok (.iconst 0, 1) := by decide +kernel
theorem dX7_readLoop_176 : decode cX7_readLoop 176 = .ok (.invokevirtual 163, 3) := by decide +kernel
theorem dX7_readLoop_179 : decode cX7_readLoop 179 = .ok (.return_, 1) := by decide +kernel
