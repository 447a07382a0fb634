theorem dX0_init_0 : decode cX0_init 0 = .ok (.aload_n 0, 1) := by decide +kernel
theorem dX0_init_1 : decode cX0_init 1 = .ok (.invokespecial 3, 3) := by decide +kernel
theorem dX0_init_4 : decode cX0_init 4 = .ok (.aload_n 0, 1) := by decide +kernel
theorem dX0_init_5 : decode cX0_init 5 = .ok (.bipush 60, 2) := by decide +kernel
theorem dX0_init_7 : decode cX0_init 7 = .ok (.newarray .int, 2) := by decide +kernel
theorem dX0_init_9 : decode cX0_init 9 = .ok (.putfield 9, 3) := by decide +kernel
theorem dX0_init_12 : decode cX0_init 12 = .ok (.aload_n 0, 1) := by decide +kernel
theorem dX0_init_13 : decode cX0_init 13 = .ok (.bipush 60, 2) := by decide +kernel
theorem dX0_init_15 : decode cX0_init 15 = .ok (.newarray .int, 2) := by decide +kernel
theorem dX0_init_17 : decode cX0_init 17 = .ok (.putfield 15, 3) := by decide +kernel
theorem dX0_init_20 : decode cX0_init 20 = .ok (.aload_n 0, 1) := by decide +kernel
theorem dX0_init_21 : decode cX0_init 21 = .ok (.iconst 0, 1) := by decide +kernel
theorem dX0_init_22 : decode cX0_init 22 = .ok (.putfield 18, 3) := by decide +kernel
theorem dX0_init_25 : decode cX0_init 25 = .ok (.aload_n 0, 1) := by decide +kernel
theorem dX0_init_26 : decode cX0_init 26 = .ok (.iconst 0, 1) := by decide +kernel
theorem dX0_init_27 : decode cX0_init 27 = .ok (.putfield 22, 3) := by decide +kernel
theorem dX0_init_30 : decode cX0_init 30 = .ok (.return_, 1) := by decide +kernel
theorem dX0_explore_0 : decode cX0_explore 0 = .ok (.iconst 0, 1) := by decide +kernel
theorem dX0_explore_1 : decode cX0_explore 1 = .ok (.istore_n 2, 1) := by decide +kernel
theorem dX0_explore_2 : decode cX0_explore 2 = .ok (.iload_n 2, 1) := by decide +kernel
theorem dX0_explore_3 : decode cX0_explore 3 = .ok (.bipush 60, 2) := by decide +kernel
theorem dX0_explore_5 : decode cX0_explore 5 = .ok (.if_icmp .ge 16, 3) := by decide +kernel
theorem dX0_explore_8 : decode cX0_explore 8 = .ok (.aload_n 0, 1) := by decide +kernel
theorem dX0_explore_9 : decode cX0_explore 9 = .ok (.getfield 9, 3) := by decide +kernel
theorem dX0_explore_12 : decode cX0_explore 12 = .ok (.iload_n 2, 1) := by decide +kernel
theorem dX0_explore_13 : decode cX0_explore 13 = .ok (.iconst 0, 1) := by decide +kernel
theorem dX0_explore_14 : decode cX0_explore 14 = .ok (.iastore, 1) := by decide +kernel
theorem dX0_explore_15 : decode cX0_explore 15 = .ok (.iinc 2 1, 3) := by decide +kernel
theorem dX0_explore_18 : decode cX0_explore 18 = .ok (.goto (-16), 3) := by decide +kernel
theorem dX0_explore_21 : decode cX0_explore 21 = .ok (.aload_n 0, 1) := by decide +kernel
theorem dX0_explore_22 : decode cX0_explore 22 = .ok (.iconst 0, 1) := by decide +kernel
theorem dX0_explore_23 : decode cX0_explore 23 = .ok (.putfield 18, 3) := by decide +kernel
theorem dX0_explore_26 : decode cX0_explore 26 = .ok (.aload_n 0, 1) := by decide +kernel
theorem dX0_explore_27 : decode cX0_explore 27 = .ok (.iconst 0, 1) := by decide +kernel
theorem dX0_explore_28 : decode cX0_explore 28 = .ok (.putfield 22, 3) := by decide +kernel
theorem dX0_explore_31 : decode cX0_explore 31 = .ok (.aload_n 0, 1) := by decide +kernel
theorem dX0_explore_32 : decode cX0_explore 32 = .ok (.aload_n 1, 1) := by decide +kernel
theorem dX0_explore_33 : decode cX0_explore 33 = .ok (.iconst 0, 1) := by decide +kernel
theorem dX0_explore_34 : decode cX0_explore 34 = .ok (.invokevirtual 25, 3) := by decide +kernel
theorem dX0_explore_37 : decode cX0_explore 37 = .ok (.iconst 0, 1) := by decide +kernel
theorem dX0_explore_38 : decode cX0_explore 38 = .ok (.istore_n 2, 1) := by decide +kernel
theorem dX0_explore_39 : decode cX0_explore 39 = .ok (.iload_n 2, 1) := by decide +kernel
theorem dX0_explore_40 : decode cX0_explore 40 = .ok (.bipush 60, 2) := by decide +kernel
theorem dX0_explore_42 : decode cX0_explore 42 = .ok (.if_icmp .ge 40, 3) := by decide +kernel
theorem dX0_explore_45 : decode cX0_explore 45 = .ok (.aload_n 0, 1) := by decide +kernel
theorem dX0_explore_46 : decode cX0_explore 46 = .ok (.getfield 18, 3) := by decide +kernel
theorem dX0_explore_49 : decode cX0_explore 49 = .ok (.ifCond .le 33, 3) := by decide +kernel
theorem dX0_explore_52 : decode cX0_explore 52 = .ok (.aload_n 0, 1) := by decide +kernel
theorem dX0_explore_53 : decode cX0_explore 53 = .ok (.dup, 1) := by decide +kernel
theorem dX0_explore_54 : decode cX0_explore 54 = .ok (.getfield 18, 3) := by decide +kernel
theorem dX0_explore_57 : decode cX0_explore 57 = .ok (.iconst 1, 1) := by decide +kernel
theorem dX0_explore_58 : decode cX0_explore 58 = .ok (.isub, 1) := by decide +kernel
theorem dX0_explore_59 : decode cX0_explore 59 = .ok (.putfield 18, 3) := by decide +kernel
theorem dX0_explore_62 : decode cX0_explore 62 = .ok (.aload_n 0, 1) := by decide +kernel
theorem dX0_explore_63 : decode cX0_explore 63 = .ok (.aload_n 1, 1) := by decide +kernel
theorem dX0_explore_64 : decode cX0_explore 64 = .ok (.aload_n 0, 1) := by decide +kernel
theorem dX0_explore_65 : decode cX0_explore 65 = .ok (.getfield 15, 3) := by decide +kernel
theorem dX0_explore_68 : decode cX0_explore 68 = .ok (.aload_n 0, 1) := by decide +kernel
theorem dX0_explore_69 : decode cX0_explore 69 = .ok (.getfield 18, 3) := by decide +kernel
theorem dX0_explore_72 : decode cX0_explore 72 = .ok (.iaload, 1) := by decide +kernel
theorem dX0_explore_73 : decode cX0_explore 73 = .ok (.invokevirtual 29, 3) := by decide +kernel
theorem dX0_explore_76 : decode cX0_explore 76 = .ok (.iinc 2 1, 3) := by decide +kernel
theorem dX0_explore_79 : decode cX0_explore 79 = .ok (.goto (-40), 3) := by decide +kernel
theorem dX0_explore_82 : decode cX0_explore 82 = .ok (.return_, 1) := by decide +kernel
theorem dX0_follow_0 : decode cX0_follow 0 = .ok (.aload_n 1, 1) := by decide +kernel
theorem dX0_follow_1 : decode cX0_follow 1 = .ok (.getfield 32, 3) := by decide +kernel
theorem dX0_follow_4 : decode cX0_follow 4 = .ok (.iload_n 2, 1) := by decide +kernel
theorem dX0_follow_5 : decode cX0_follow 5 = .ok (.iaload, 1) := by decide +kernel
theorem dX0_follow_6 : decode cX0_follow 6 = .ok (.istore_n 3, 1) := by decide +kernel
theorem dX0_follow_7 : decode cX0_follow 7 = .ok (.iload_n 3, 1) := by decide +kernel
theorem dX0_follow_8 : decode cX0_follow 8 = .ok (.invokestatic 37, 3) := by decide +kernel
theorem dX0_follow_11 : decode cX0_follow 11 = .ok (.ifCond .eq 14, 3) := by decide +kernel
theorem dX0_follow_14 : decode cX0_follow 14 = .ok (.aload_n 0, 1) := by decide +kernel
theorem dX0_follow_15 : decode cX0_follow 15 = .ok (.aload_n 1, 1) := by decide +kernel
theorem dX0_follow_16 : decode cX0_follow 16 = .ok (.aload_n 1, 1) := by decide +kernel
theorem dX0_follow_17 : decode cX0_follow 17 = .ok (.getfield 41, 3) := by decide +kernel
theorem dX0_follow_20 : decode cX0_follow 20 = .ok (.iload_n 2, 1) := by decide +kernel
theorem dX0_follow_21 : decode cX0_follow 21 = .ok (.iaload, 1) := by decide +kernel
theorem dX0_follow_22 : decode cX0_follow 22 = .ok (.invokevirtual 25, 3) := by decide +kernel
theorem dX0_follow_25 : decode cX0_follow 25 = .ok (.iload_n 3, 1) := by decide +kernel
theorem dX0_follow_26 : decode cX0_follow 26 = .ok (.iconst 2, 1) := by decide +kernel
theorem dX0_follow_27 : decode cX0_follow 27 = .ok (.if_icmp .eq 16, 3) := by decide +kernel
theorem dX0_follow_30 : decode cX0_follow 30 = .ok (.iload_n 3, 1) := by decide +kernel
theorem dX0_follow_31 : decode cX0_follow 31 = .ok (.iconst 4, 1) := by decide +kernel
theorem dX0_follow_32 : decode cX0_follow 32 = .ok (.if_icmp .eq 11, 3) := by decide +kernel
theorem dX0_follow_35 : decode cX0_follow 35 = .ok (.aload_n 0, 1) := by decide +kernel
theorem dX0_follow_36 : decode cX0_follow 36 = .ok (.aload_n 1, 1) := by decide +kernel
theorem dX0_follow_37 : decode cX0_follow 37 = .ok (.iload_n 2, 1) := by decide +kernel
theorem dX0_follow_38 : decode cX0_follow 38 = .ok (.iconst 1, 1) := by decide +kernel
theorem dX0_follow_39 : decode cX0_follow 39 = .ok (.iadd, 1) := by decide +kernel
theorem dX0_follow_40 : decode cX0_follow 40 = .ok (.invokevirtual 25, 3) := by decide +kernel
theorem dX0_follow_43 : decode cX0_follow 43 = .ok (.return_, 1) := by decide +kernel
theorem dX0_meet_0 : decode cX0_meet 0 = .ok (.aload_n 1, 1) := by decide +kernel
theorem dX0_meet_1 : decode cX0_meet 1 = .ok (.iload_n 2, 1) := by decide +kernel
theorem dX0_meet_2 : decode cX0_meet 2 = .ok (.invokevirtual 44, 3) := by decide +kernel
theorem dX0_meet_5 : decode cX0_meet 5 = .ok (.ifCond .eq 49, 3) := by decide +kernel
theorem dX0_meet_8 : decode cX0_meet 8 = .ok (.aload_n 0, 1) := by decide +kernel
theorem dX0_meet_9 : decode cX0_meet 9 = .ok (.getfield 9, 3) := by decide +kernel
theorem dX0_meet_12 : decode cX0_meet 12 = .ok (.iload_n 2, 1) := by decide +kernel
theorem dX0_meet_13 : decode cX0_meet 13 = .ok (.iaload, 1) := by decide +kernel
theorem dX0_meet_14 : decode cX0_meet 14 = .ok (.ifCond .ne 40, 3) := by decide +kernel
theorem dX0_meet_17 : decode cX0_meet 17 = .ok (.aload_n 0, 1) := by decide +kernel
theorem dX0_meet_18 : decode cX0_meet 18 = .ok (.getfield 9, 3) := by decide +kernel
theorem dX0_meet_21 : decode cX0_meet 21 = .ok (.iload_n 2, 1) := by decide +kernel
theorem dX0_meet_22 : decode cX0_meet 22 = .ok (.iconst 1, 1) := by decide +kernel
theorem dX0_meet_23 : decode cX0_meet 23 = .ok (.iastore, 1) := by decide +kernel
theorem dX0_meet_24 : decode cX0_meet 24 = .ok (.aload_n 0, 1) := by decide +kernel
theorem dX0_meet_25 : decode cX0_meet 25 = .ok (.dup, 1) := by decide +kernel
theorem dX0_meet_26 : decode cX0_meet 26 = .ok (.getfield 22, 3) := by decide +kernel
theorem dX0_meet_29 : decode cX0_meet 29 = .ok (.iconst 1, 1) := by decide +kernel
theorem dX0_meet_30 : decode cX0_meet 30 = .ok (.iadd, 1) := by decide +kernel
theorem dX0_meet_31 : decode cX0_meet 31 = .ok (.putfield 22, 3) := by decide +kernel
theorem dX0_meet_34 : decode cX0_meet 34 = .ok (.aload_n 0, 1) := by decide +kernel
theorem dX0_meet_35 : decode cX0_meet 35 = .ok (.getfield 15, 3) := by decide +kernel
theorem dX0_meet_38 : decode cX0_meet 38 = .ok (.aload_n 0, 1) := by decide +kernel
theorem dX0_meet_39 : decode cX0_meet 39 = .ok (.getfield 18, 3) := by decide +kernel
theorem dX0_meet_42 : decode cX0_meet 42 = .ok (.iload_n 2, 1) := by decide +kernel
theorem dX0_meet_43 : decode cX0_meet 43 = .ok (.iastore, 1) := by decide +kernel
theorem dX0_meet_44 : decode cX0_meet 44 = .ok (.aload_n 0, 1) := by decide +kernel
theorem dX0_meet_45 : decode cX0_meet 45 = .ok (.dup, 1) := by decide +kernel
theorem dX0_meet_46 : decode cX0_meet 46 = .ok (.getfield 18, 3) := by decide +kernel
theorem dX0_meet_49 : decode cX0_meet 49 = .ok (.iconst 1, 1) := by decide +kernel
theorem dX0_meet_50 : decode cX0_meet 50 = .ok (.iadd, 1) := by decide +kernel
theorem dX0_meet_51 : decode cX0_meet 51 = .ok (.putfield 18, 3) := by decide +kernel
theorem dX0_meet_54 : decode cX0_meet 54 = .ok (.return_, 1) := by decide +kernel
theorem dX1_init_0 : decode cX1_init 0 = .ok (.aload_n 0, 1) := by decide +kernel
theorem dX1_init_1 : decode cX1_init 1 = .ok (.invokespecial 3, 3) := by decide +kernel
theorem dX1_init_4 : decode cX1_init 4 = .ok (.aload_n 0, 1) := by decide +kernel
theorem dX1_init_5 : decode cX1_init 5 = .ok (.new 9, 3) := by decide +kernel
theorem dX1_init_8 : decode cX1_init 8 = .ok (.dup, 1) := by decide +kernel
theorem dX1_init_9 : decode cX1_init 9 = .ok (.invokespecial 11, 3) := by decide +kernel
theorem dX1_init_12 : decode cX1_init 12 = .ok (.putfield 12, 3) := by decide +kernel
theorem dX1_init_15 : decode cX1_init 15 = .ok (.aload_n 0, 1) := by decide +kernel
theorem dX1_init_16 : decode cX1_init 16 = .ok (.aconst_null, 1) := by decide +kernel
theorem dX1_init_17 : decode cX1_init 17 = .ok (.putfield 18, 3) := by decide +kernel
theorem dX1_init_20 : decode cX1_init 20 = .ok (.aload_n 0, 1) := by decide +kernel
theorem dX1_init_21 : decode cX1_init 21 = .ok (.iconst 0, 1) := by decide +kernel
theorem dX1_init_22 : decode cX1_init 22 = .ok (.putfield 22, 3) := by decide +kernel
theorem dX1_init_25 : decode cX1_init 25 = .ok (.aload_n 0, 1) := by decide +kernel
theorem dX1_init_26 : decode cX1_init 26 = .ok (.bipush 61, 2) := by decide +kernel
theorem dX1_init_28 : decode cX1_init 28 = .ok (.newarray .int, 2) := by decide +kernel
theorem dX1_init_30 : decode cX1_init 30 = .ok (.putfield 26, 3) := by decide +kernel
theorem dX1_init_33 : decode cX1_init 33 = .ok (.aload_n 0, 1) := by decide +kernel
theorem dX1_init_34 : decode cX1_init 34 = .ok (.bipush 61, 2) := by decide +kernel
theorem dX1_init_36 : decode cX1_init 36 = .ok (.newarray .int, 2) := by decide +kernel
theorem dX1_init_38 : decode cX1_init 38 = .ok (.putfield 30, 3) := by decide +kernel
theorem dX1_init_41 : decode cX1_init 41 = .ok (.aload_n 0, 1) := by decide +kernel
theorem dX1_init_42 : decode cX1_init 42 = .ok (.bipush 61, 2) := by decide +kernel
theorem dX1_init_44 : decode cX1_init 44 = .ok (.newarray .int, 2) := by decide +kernel
theorem dX1_init_46 : decode cX1_init 46 = .ok (.putfield 33, 3) := by decide +kernel
theorem dX1_init_49 : decode cX1_init 49 = .ok (.aload_n 0, 1) := by decide +kernel
theorem dX1_init_50 : decode cX1_init 50 = .ok (.bipush 61, 2) := by decide +kernel
theorem dX1_init_52 : decode cX1_init 52 = .ok (.newarray .int, 2) := by decide +kernel
theorem dX1_init_54 : decode cX1_init 54 = .ok (.putfield 36, 3) := by decide +kernel
theorem dX1_init_57 : decode cX1_init 57 = .ok (.aload_n 0, 1) := by decide +kernel
theorem dX1_init_58 : decode cX1_init 58 = .ok (.bipush 61, 2) := by decide +kernel
theorem dX1_init_60 : decode cX1_init 60 = .ok (.newarray .int, 2) := by decide +kernel
theorem dX1_init_62 : decode cX1_init 62 = .ok (.putfield 39, 3) := by decide +kernel
theorem dX1_init_65 : decode cX1_init 65 = .ok (.aload_n 0, 1) := by decide +kernel
theorem dX1_init_66 : decode cX1_init 66 = .ok (.bipush 61, 2) := by decide +kernel
theorem dX1_init_68 : decode cX1_init 68 = .ok (.newarray .int, 2) := by decide +kernel
theorem dX1_init_70 : decode cX1_init 70 = .ok (.putfield 42, 3) := by decide +kernel
theorem dX1_init_73 : decode cX1_init 73 = .ok (.return_, 1) := by decide +kernel
theorem dX1_readWhole_0 : decode cX1_readWhole 0 = .ok (.aload_n 0, 1) := by decide +kernel
theorem dX1_readWhole_1 : decode cX1_readWhole 1 = .ok (.aload_n 1, 1) := by decide +kernel
theorem dX1_readWhole_2 : decode cX1_readWhole 2 = .ok (.putfield 18, 3) := by decide +kernel
theorem dX1_readWhole_5 : decode cX1_readWhole 5 = .ok (.aload_n 0, 1) := by decide +kernel
theorem dX1_readWhole_6 : decode cX1_readWhole 6 = .ok (.getfield 12, 3) := by decide +kernel
theorem dX1_readWhole_9 : decode cX1_readWhole 9 = .ok (.invokevirtual 45, 3) := by decide +kernel
theorem dX1_readWhole_12 : decode cX1_readWhole 12 = .ok (.aload_n 0, 1) := by decide +kernel
theorem dX1_readWhole_13 : decode cX1_readWhole 13 = .ok (.iconst 0, 1) := by decide +kernel
theorem dX1_readWhole_14 : decode cX1_readWhole 14 = .ok (.putfield 22, 3) := by decide +kernel
theorem dX1_readWhole_17 : decode cX1_readWhole 17 = .ok (.aload_n 0, 1) := by decide +kernel
theorem dX1_readWhole_18 : decode cX1_readWhole 18 = .ok (.iconst (-1), 1) := by decide +kernel
theorem dX1_readWhole_19 : decode cX1_readWhole 19 = .ok (.iconst (-1), 1) := by decide +kernel
theorem dX1_readWhole_20 : decode cX1_readWhole 20 = .ok (.aload_n 1, 1) := by decide +kernel
theorem dX1_readWhole_21 : decode cX1_readWhole 21 = .ok (.getfield 48, 3) := by decide +kernel
theorem dX1_readWhole_24 : decode cX1_readWhole 24 = .ok (.iconst (-1), 1) := by decide +kernel
theorem dX1_readWhole_25 : decode cX1_readWhole 25 = .ok (.iconst (-1), 1) := by decide +kernel
theorem dX1_readWhole_26 : decode cX1_readWhole 26 = .ok (.invokevirtual 53, 3) := by decide +kernel
theorem dX1_readWhole_29 : decode cX1_readWhole 29 = .ok (.iconst 0, 1) := by decide +kernel
theorem dX1_readWhole_30 : decode cX1_readWhole 30 = .ok (.istore_n 2, 1) := by decide +kernel
theorem dX1_readWhole_31 : decode cX1_readWhole 31 = .ok (.iconst 0, 1) := by decide +kernel
theorem dX1_readWhole_32 : decode cX1_readWhole 32 = .ok (.istore_n 3, 1) := by decide +kernel
theorem dX1_readWhole_33 : decode cX1_readWhole 33 = .ok (.iload_n 3, 1) := by decide +kernel
theorem dX1_readWhole_34 : decode cX1_readWhole 34 = .ok (.sipush 181, 3) := by decide +kernel
theorem dX1_readWhole_37 : decode cX1_readWhole 37 = .ok (.if_icmp .ge 45, 3) := by decide +kernel
theorem dX1_readWhole_40 : decode cX1_readWhole 40 = .ok (.aload_n 0, 1) := by decide +kernel
theorem dX1_readWhole_41 : decode cX1_readWhole 41 = .ok (.getfield 22, 3) := by decide +kernel
theorem dX1_readWhole_44 : decode cX1_readWhole 44 = .ok (.ifCond .le 38, 3) := by decide +kernel
theorem dX1_readWhole_47 : decode cX1_readWhole 47 = .ok (.iload_n 2, 1) := by decide +kernel
theorem dX1_readWhole_48 : decode cX1_readWhole 48 = .ok (.aload_n 0, 1) := by decide +kernel
theorem dX1_readWhole_49 : decode cX1_readWhole 49 = .ok (.getfield 26, 3) := by decide +kernel
theorem dX1_readWhole_52 : decode cX1_readWhole 52 = .ok (.aload_n 0, 1) := by decide +kernel
theorem dX1_readWhole_53 : decode cX1_readWhole 53 = .ok (.getfield 22, 3) := by decide +kernel
theorem dX1_readWhole_56 : decode cX1_readWhole 56 = .ok (.iconst 1, 1) := by decide +kernel
theorem dX1_readWhole_57 : decode cX1_readWhole 57 = .ok (.isub, 1) := by decide +kernel
theorem dX1_readWhole_58 : decode cX1_readWhole 58 = .ok (.iaload, 1) := by decide +kernel
theorem dX1_readWhole_59 : decode cX1_readWhole 59 = .ok (.if_icmp .ge 11, 3) := by decide +kernel
theorem dX1_readWhole_62 : decode cX1_readWhole 62 = .ok (.aload_n 0, 1) := by decide +kernel
theorem dX1_readWhole_63 : decode cX1_readWhole 63 = .ok (.iload_n 2, 1) := by decide +kernel
theorem dX1_readWhole_64 : decode cX1_readWhole 64 = .ok (.invokevirtual 57, 3) := by decide +kernel
theorem dX1_readWhole_67 : decode cX1_readWhole 67 = .ok (.goto 8, 3) := by decide +kernel
theorem dX1_readWhole_70 : decode cX1_readWhole 70 = .ok (.aload_n 0, 1) := by decide +kernel
theorem dX1_readWhole_71 : decode cX1_readWhole 71 = .ok (.iload_n 2, 1) := by decide +kernel
theorem dX1_readWhole_72 : decode cX1_readWhole 72 = .ok (.invokevirtual 61, 3) := by decide +kernel
theorem dX1_readWhole_75 : decode cX1_readWhole 75 = .ok (.istore_n 2, 1) := by decide +kernel
theorem dX1_readWhole_76 : decode cX1_readWhole 76 = .ok (.iinc 3 1, 3) := by decide +kernel
theorem dX1_readWhole_79 : decode cX1_readWhole 79 = .ok (.goto (-46), 3) := by decide +kernel
theorem dX1_readWhole_82 : decode cX1_readWhole 82 = .ok (.return_, 1) := by decide +kernel
theorem dX1_openBody_0 : decode cX1_openBody 0 = .ok (.aload_n 0, 1) := by decide +kernel
theorem dX1_openBody_1 : decode cX1_openBody 1 = .ok (.getfield 22, 3) := by decide +kernel
theorem dX1_openBody_4 : decode cX1_openBody 4 = .ok (.bipush 61, 2) := by decide +kernel
theorem dX1_openBody_6 : decode cX1_openBody 6 = .ok (.if_icmp .lt 4, 3) := by decide +kernel
theorem dX1_openBody_9 : decode cX1_openBody 9 = .ok (.return_, 1) := by decide +kernel
theorem dX1_openBody_10 : decode cX1_openBody 10 = .ok (.aload_n 0, 1) := by decide +kernel
theorem dX1_openBody_11 : decode cX1_openBody 11 = .ok (.getfield 36, 3) := by decide +kernel
theorem dX1_openBody_14 : decode cX1_openBody 14 = .ok (.aload_n 0, 1) := by decide +kernel
theorem dX1_openBody_15 : decode cX1_openBody 15 = .ok (.getfield 22, 3) := by decide +kernel
theorem dX1_openBody_18 : decode cX1_openBody 18 = .ok (.iload_n 1, 1) := by decide +kernel
theorem dX1_openBody_19 : decode cX1_openBody 19 = .ok (.iastore, 1) := by decide +kernel
theorem dX1_openBody_20 : decode cX1_openBody 20 = .ok (.aload_n 0, 1) := by decide +kernel
theorem dX1_openBody_21 : decode cX1_openBody 21 = .ok (.getfield 39, 3) := by decide +kernel
theorem dX1_openBody_24 : decode cX1_openBody 24 = .ok (.aload_n 0, 1) := by decide +kernel
theorem dX1_openBody_25 : decode cX1_openBody 25 = .ok (.getfield 22, 3) := by decide +kernel
theorem dX1_openBody_28 : decode cX1_openBody 28 = .ok (.iload_n 2, 1) := by decide +kernel
theorem dX1_openBody_29 : decode cX1_openBody 29 = .ok (.iastore, 1) := by decide +kernel
theorem dX1_openBody_30 : decode cX1_openBody 30 = .ok (.aload_n 0, 1) := by decide +kernel
theorem dX1_openBody_31 : decode cX1_openBody 31 = .ok (.getfield 26, 3) := by decide +kernel
theorem dX1_openBody_34 : decode cX1_openBody 34 = .ok (.aload_n 0, 1) := by decide +kernel
theorem dX1_openBody_35 : decode cX1_openBody 35 = .ok (.getfield 22, 3) := by decide +kernel
theorem dX1_openBody_38 : decode cX1_openBody 38 = .ok (.iload_n 3, 1) := by decide +kernel
theorem dX1_openBody_39 : decode cX1_openBody 39 = .ok (.iastore, 1) := by decide +kernel
theorem dX1_openBody_40 : decode cX1_openBody 40 = .ok (.aload_n 0, 1) := by decide +kernel
theorem dX1_openBody_41 : decode cX1_openBody 41 = .ok (.getfield 30, 3) := by decide +kernel
theorem dX1_openBody_44 : decode cX1_openBody 44 = .ok (.aload_n 0, 1) := by decide +kernel
theorem dX1_openBody_45 : decode cX1_openBody 45 = .ok (.getfield 22, 3) := by decide +kernel
theorem dX1_openBody_48 : decode cX1_openBody 48 = .ok (.iload 4, 2) := by decide +kernel
theorem dX1_openBody_50 : decode cX1_openBody 50 = .ok (.iastore, 1) := by decide +kernel
theorem dX1_openBody_51 : decode cX1_openBody 51 = .ok (.aload_n 0, 1) := by decide +kernel
theorem dX1_openBody_52 : decode cX1_openBody 52 = .ok (.getfield 33, 3) := by decide +kernel
theorem dX1_openBody_55 : decode cX1_openBody 55 = .ok (.aload_n 0, 1) := by decide +kernel
theorem dX1_openBody_56 : decode cX1_openBody 56 = .ok (.getfield 22, 3) := by decide +kernel
theorem dX1_openBody_59 : decode cX1_openBody 59 = .ok (.iload 5, 2) := by decide +kernel
theorem dX1_openBody_61 : decode cX1_openBody 61 = .ok (.iastore, 1) := by decide +kernel
theorem dX1_openBody_62 : decode cX1_openBody 62 = .ok (.aload_n 0, 1) := by decide +kernel
theorem dX1_openBody_63 : decode cX1_openBody 63 = .ok (.getfield 42, 3) := by decide +kernel
theorem dX1_openBody_66 : decode cX1_openBody 66 = .ok (.aload_n 0, 1) := by decide +kernel
theorem dX1_openBody_67 : decode cX1_openBody 67 = .ok (.getfield 22, 3) := by decide +kernel
theorem dX1_openBody_70 : decode cX1_openBody 70 = .ok (.aload_n 0, 1) := by decide +kernel
theorem dX1_openBody_71 : decode cX1_openBody 71 = .ok (.getfield 12, 3) := by decide +kernel
theorem dX1_openBody_74 : decode cX1_openBody 74 = .ok (.getfield 64, 3) := by decide +kernel
theorem dX1_openBody_77 : decode cX1_openBody 77 = .ok (.iastore, 1) := by decide +kernel
theorem dX1_openBody_78 : decode cX1_openBody 78 = .ok (.aload_n 0, 1) := by decide +kernel
theorem dX1_openBody_79 : decode cX1_openBody 79 = .ok (.getfield 12, 3) := by decide +kernel
theorem dX1_openBody_82 : decode cX1_openBody 82 = .ok (.iconst 0, 1) := by decide +kernel
theorem dX1_openBody_83 : decode cX1_openBody 83 = .ok (.invokevirtual 67, 3) := by decide +kernel
theorem dX1_openBody_86 : decode cX1_openBody 86 = .ok (.aload_n 0, 1) := by decide +kernel
theorem dX1_openBody_87 : decode cX1_openBody 87 = .ok (.dup, 1) := by decide +kernel
theorem dX1_openBody_88 : decode cX1_openBody 88 = .ok (.getfield 22, 3) := by decide +kernel
theorem dX1_openBody_91 : decode cX1_openBody 91 = .ok (.iconst 1, 1) := by decide +kernel
theorem dX1_openBody_92 : decode cX1_openBody 92 = .ok (.iadd, 1) := by decide +kernel
theorem dX1_openBody_93 : decode cX1_openBody 93 = .ok (.putfield 22, 3) := by decide +kernel
theorem dX1_openBody_96 : decode cX1_openBody 96 = .ok (.aload_n 0, 1) := by decide +kernel
theorem dX1_openBody_97 : decode cX1_openBody 97 = .ok (.getfield 12, 3) := by decide +kernel
theorem dX1_openBody_100 : decode cX1_openBody 100 = .ok (.aload_n 0, 1) := by decide +kernel
theorem dX1_openBody_101 : decode cX1_openBody 101 = .ok (.getfield 12, 3) := by decide +kernel
theorem dX1_openBody_104 : decode cX1_openBody 104 = .ok (.getfield 71, 3) := by decide +kernel
theorem dX1_openBody_107 : decode cX1_openBody 107 = .ok (.aload_n 0, 1) := by decide +kernel
theorem dX1_openBody_108 : decode cX1_openBody 108 = .ok (.getfield 22, 3) := by decide +kernel
theorem dX1_openBody_111 : decode cX1_openBody 111 = .ok (.invokestatic 74, 3) := by decide +kernel
theorem dX1_openBody_114 : decode cX1_openBody 114 = .ok (.putfield 71, 3) := by decide +kernel
theorem dX1_openBody_117 : decode cX1_openBody 117 = .ok (.return_, 1) := by decide +kernel
theorem dX1_closeBody_0 : decode cX1_closeBody 0 = .ok (.aload_n 0, 1) := by decide +kernel
theorem dX1_closeBody_1 : decode cX1_closeBody 1 = .ok (.dup, 1) := by decide +kernel
theorem dX1_closeBody_2 : decode cX1_closeBody 2 = .ok (.getfield 22, 3) := by decide +kernel
theorem dX1_closeBody_5 : decode cX1_closeBody 5 = .ok (.iconst 1, 1) := by decide +kernel
theorem dX1_closeBody_6 : decode cX1_closeBody 6 = .ok (.isub, 1) := by decide +kernel
theorem dX1_closeBody_7 : decode cX1_closeBody 7 = .ok (.putfield 22, 3) := by decide +kernel
theorem dX1_closeBody_10 : decode cX1_closeBody 10 = .ok (.aload_n 0, 1) := by decide +kernel
theorem dX1_closeBody_11 : decode cX1_closeBody 11 = .ok (.getfield 36, 3) := by decide +kernel
theorem dX1_closeBody_14 : decode cX1_closeBody 14 = .ok (.aload_n 0, 1) := by decide +kernel
theorem dX1_closeBody_15 : decode cX1_closeBody 15 = .ok (.getfield 22, 3) := by decide +kernel
theorem dX1_closeBody_18 : decode cX1_closeBody 18 = .ok (.iaload, 1) := by decide +kernel
theorem dX1_closeBody_19 : decode cX1_closeBody 19 = .ok (.istore_n 2, 1) := by decide +kernel
theorem dX1_closeBody_20 : decode cX1_closeBody 20 = .ok (.iload_n 2, 1) := by decide +kernel
theorem dX1_closeBody_21 : decode cX1_closeBody 21 = .ok (.iconst (-1), 1) := by decide +kernel
theorem dX1_closeBody_22 : decode cX1_closeBody 22 = .ok (.if_icmp .ne 5, 3) := by decide +kernel
theorem dX1_closeBody_25 : decode cX1_closeBody 25 = .ok (.iload_n 1, 1) := by decide +kernel
theorem dX1_closeBody_26 : decode cX1_closeBody 26 = .ok (.ireturn, 1) := by decide +kernel
theorem dX1_closeBody_27 : decode cX1_closeBody 27 = .ok (.aload_n 0, 1) := by decide +kernel
theorem dX1_closeBody_28 : decode cX1_closeBody 28 = .ok (.getfield 12, 3) := by decide +kernel
theorem dX1_closeBody_31 : decode cX1_closeBody 31 = .ok (.getfield 80, 3) := by decide +kernel
theorem dX1_closeBody_34 : decode cX1_closeBody 34 = .ok (.iload_n 2, 1) := by decide +kernel
theorem dX1_closeBody_35 : decode cX1_closeBody 35 = .ok (.iaload, 1) := by decide +kernel
theorem dX1_closeBody_36 : decode cX1_closeBody 36 = .ok (.iconst 2, 1) := by decide +kernel
theorem dX1_closeBody_37 : decode cX1_closeBody 37 = .ok (.if_icmp .ne 52, 3) := by decide +kernel
theorem dX1_closeBody_40 : decode cX1_closeBody 40 = .ok (.aload_n 0, 1) := by decide +kernel
theorem dX1_closeBody_41 : decode cX1_closeBody 41 = .ok (.getfield 39, 3) := by decide +kernel
theorem dX1_closeBody_44 : decode cX1_closeBody 44 = .ok (.aload_n 0, 1) := by decide +kernel
theorem dX1_closeBody_45 : decode cX1_closeBody 45 = .ok (.getfield 22, 3) := by decide +kernel
theorem dX1_closeBody_48 : decode cX1_closeBody 48 = .ok (.iaload, 1) := by decide +kernel
theorem dX1_closeBody_49 : decode cX1_closeBody 49 = .ok (.ifCond .ne 40, 3) := by decide +kernel
theorem dX1_closeBody_52 : decode cX1_closeBody 52 = .ok (.aload_n 0, 1) := by decide +kernel
theorem dX1_closeBody_53 : decode cX1_closeBody 53 = .ok (.iload_n 2, 1) := by decide +kernel
theorem dX1_closeBody_54 : decode cX1_closeBody 54 = .ok (.iconst 1, 1) := by decide +kernel
theorem dX1_closeBody_55 : decode cX1_closeBody 55 = .ok (.aload_n 0, 1) := by decide +kernel
theorem dX1_closeBody_56 : decode cX1_closeBody 56 = .ok (.getfield 12, 3) := by decide +kernel
theorem dX1_closeBody_59 : decode cX1_closeBody 59 = .ok (.getfield 83, 3) := by decide +kernel
theorem dX1_closeBody_62 : decode cX1_closeBody 62 = .ok (.iload_n 2, 1) := by decide +kernel
theorem dX1_closeBody_63 : decode cX1_closeBody 63 = .ok (.iaload, 1) := by decide +kernel
theorem dX1_closeBody_64 : decode cX1_closeBody 64 = .ok (.aload_n 0, 1) := by decide +kernel
theorem dX1_closeBody_65 : decode cX1_closeBody 65 = .ok (.getfield 30, 3) := by decide +kernel
theorem dX1_closeBody_68 : decode cX1_closeBody 68 = .ok (.aload_n 0, 1) := by decide +kernel
theorem dX1_closeBody_69 : decode cX1_closeBody 69 = .ok (.getfield 22, 3) := by decide +kernel
theorem dX1_closeBody_72 : decode cX1_closeBody 72 = .ok (.iaload, 1) := by decide +kernel
theorem dX1_closeBody_73 : decode cX1_closeBody 73 = .ok (.aload_n 0, 1) := by decide +kernel
theorem dX1_closeBody_74 : decode cX1_closeBody 74 = .ok (.getfield 33, 3) := by decide +kernel
theorem dX1_closeBody_77 : decode cX1_closeBody 77 = .ok (.aload_n 0, 1) := by decide +kernel
theorem dX1_closeBody_78 : decode cX1_closeBody 78 = .ok (.getfield 22, 3) := by decide +kernel
theorem dX1_closeBody_81 : decode cX1_closeBody 81 = .ok (.iaload, 1) := by decide +kernel
theorem dX1_closeBody_82 : decode cX1_closeBody 82 = .ok (.invokevirtual 53, 3) := by decide +kernel
theorem dX1_closeBody_85 : decode cX1_closeBody 85 = .ok (.iload_n 1, 1) := by decide +kernel
theorem dX1_closeBody_86 : decode cX1_closeBody 86 = .ok (.iconst 1, 1) := by decide +kernel
theorem dX1_closeBody_87 : decode cX1_closeBody 87 = .ok (.iadd, 1) := by decide +kernel
theorem dX1_closeBody_88 : decode cX1_closeBody 88 = .ok (.ireturn, 1) := by decide +kernel
theorem dX1_closeBody_89 : decode cX1_closeBody 89 = .ok (.aload_n 0, 1) := by decide +kernel
theorem dX1_closeBody_90 : decode cX1_closeBody 90 = .ok (.getfield 12, 3) := by decide +kernel
theorem dX1_closeBody_93 : decode cX1_closeBody 93 = .ok (.getfield 86, 3) := by decide +kernel
theorem dX1_closeBody_96 : decode cX1_closeBody 96 = .ok (.iload_n 2, 1) := by decide +kernel
theorem dX1_closeBody_97 : decode cX1_closeBody 97 = .ok (.aload_n 0, 1) := by decide +kernel
theorem dX1_closeBody_98 : decode cX1_closeBody 98 = .ok (.getfield 12, 3) := by decide +kernel
theorem dX1_closeBody_101 : decode cX1_closeBody 101 = .ok (.getfield 89, 3) := by decide +kernel
theorem dX1_closeBody_104 : decode cX1_closeBody 104 = .ok (.iload_n 2, 1) := by decide +kernel
theorem dX1_closeBody_105 : decode cX1_closeBody 105 = .ok (.isub, 1) := by decide +kernel
theorem dX1_closeBody_106 : decode cX1_closeBody 106 = .ok (.iconst 1, 1) := by decide +kernel
theorem dX1_closeBody_107 : decode cX1_closeBody 107 = .ok (.isub, 1) := by decide +kernel
theorem dX1_closeBody_108 : decode cX1_closeBody 108 = .ok (.iastore, 1) := by decide +kernel
theorem dX1_closeBody_109 : decode cX1_closeBody 109 = .ok (.aload_n 0, 1) := by decide +kernel
theorem dX1_closeBody_110 : decode cX1_closeBody 110 = .ok (.getfield 12, 3) := by decide +kernel
theorem dX1_closeBody_113 : decode cX1_closeBody 113 = .ok (.getfield 83, 3) := by decide +kernel
theorem dX1_closeBody_116 : decode cX1_closeBody 116 = .ok (.iload_n 2, 1) := by decide +kernel
theorem dX1_closeBody_117 : decode cX1_closeBody 117 = .ok (.iaload, 1) := by decide +kernel
theorem dX1_closeBody_118 : decode cX1_closeBody 118 = .ok (.ireturn, 1) := by decide +kernel
theorem dX1_readStatement_0 : decode cX1_readStatement 0 = .ok (.aload_n 0, 1) := by decide +kernel
theorem dX1_readStatement_1 : decode cX1_readStatement 1 = .ok (.iload_n 1, 1) := by decide +kernel
theorem dX1_readStatement_2 : decode cX1_readStatement 2 = .ok (.invokevirtual 92, 3) := by decide +kernel
theorem dX1_readStatement_5 : decode cX1_readStatement 5 = .ok (.ifCond .eq 7, 3) := by decide +kernel
theorem dX1_readStatement_8 : decode cX1_readStatement 8 = .ok (.iconst (-1), 1) := by decide +kernel
theorem dX1_readStatement_9 : decode cX1_readStatement 9 = .ok (.goto 22, 3) := by decide +kernel
theorem dX1_readStatement_12 : decode cX1_readStatement 12 = .ok (.aload_n 0, 1) := by decide +kernel
theorem dX1_readStatement_13 : decode cX1_readStatement 13 = .ok (.getfield 18, 3) := by decide +kernel
theorem dX1_readStatement_16 : decode cX1_readStatement 16 = .ok (.iload_n 1, 1) := by decide +kernel
theorem dX1_readStatement_17 : decode cX1_readStatement 17 = .ok (.aload_n 0, 1) := by decide +kernel
theorem dX1_readStatement_18 : decode cX1_readStatement 18 = .ok (.getfield 26, 3) := by decide +kernel
theorem dX1_readStatement_21 : decode cX1_readStatement 21 = .ok (.aload_n 0, 1) := by decide +kernel
theorem dX1_readStatement_22 : decode cX1_readStatement 22 = .ok (.getfield 22, 3) := by decide +kernel
theorem dX1_readStatement_25 : decode cX1_readStatement 25 = .ok (.iconst 1, 1) := by decide +kernel
theorem dX1_readStatement_26 : decode cX1_readStatement 26 = .ok (.isub, 1) := by decide +kernel
theorem dX1_readStatement_27 : decode cX1_readStatement 27 = .ok (.iaload, 1) := by decide +kernel
theorem dX1_readStatement_28 : decode cX1_readStatement 28 = .ok (.invokevirtual 96, 3) := by decide +kernel
theorem dX1_readStatement_31 : decode cX1_readStatement 31 = .ok (.istore_n 2, 1) := by decide +kernel
theorem dX1_readStatement_32 : decode cX1_readStatement 32 = .ok (.iload_n 2, 1) := by decide +kernel
theorem dX1_readStatement_33 : decode cX1_readStatement 33 = .ok (.iconst (-1), 1) := by decide +kernel
theorem dX1_readStatement_34 : decode cX1_readStatement 34 = .ok (.if_icmp .eq 10, 3) := by decide +kernel
theorem dX1_readStatement_37 : decode cX1_readStatement 37 = .ok (.aload_n 0, 1) := by decide +kernel
theorem dX1_readStatement_38 : decode cX1_readStatement 38 = .ok (.iload_n 1, 1) := by decide +kernel
theorem dX1_readStatement_39 : decode cX1_readStatement 39 = .ok (.iload_n 2, 1) := by decide +kernel
theorem dX1_readStatement_40 : decode cX1_readStatement 40 = .ok (.invokevirtual 99, 3) := by decide +kernel
theorem dX1_readStatement_43 : decode cX1_readStatement 43 = .ok (.ireturn, 1) := by decide +kernel
theorem dX1_readStatement_44 : decode cX1_readStatement 44 = .ok (.aload_n 0, 1) := by decide +kernel
theorem dX1_readStatement_45 : decode cX1_readStatement 45 = .ok (.getfield 18, 3) := by decide +kernel
theorem dX1_readStatement_48 : decode cX1_readStatement 48 = .ok (.getfield 102, 3) := by decide +kernel
theorem dX1_readStatement_51 : decode cX1_readStatement 51 = .ok (.iload_n 1, 1) := by decide +kernel
theorem dX1_readStatement_52 : decode cX1_readStatement 52 = .ok (.iaload, 1) := by decide +kernel
theorem dX1_readStatement_53 : decode cX1_readStatement 53 = .ok (.invokestatic 103, 3) := by decide +kernel
theorem dX1_readStatement_56 : decode cX1_readStatement 56 = .ok (.ifCond .ne 9, 3) := by decide +kernel
theorem dX1_readStatement_59 : decode cX1_readStatement 59 = .ok (.aload_n 0, 1) := by decide +kernel
theorem dX1_readStatement_60 : decode cX1_readStatement 60 = .ok (.iload_n 1, 1) := by decide +kernel
theorem dX1_readStatement_61 : decode cX1_readStatement 61 = .ok (.invokevirtual 106, 3) := by decide +kernel
theorem dX1_readStatement_64 : decode cX1_readStatement 64 = .ok (.ireturn, 1) := by decide +kernel
theorem dX1_readStatement_65 : decode cX1_readStatement 65 = .ok (.aload_n 0, 1) := by decide +kernel
theorem dX1_readStatement_66 : decode cX1_readStatement 66 = .ok (.iload_n 1, 1) := by decide +kernel
theorem dX1_readStatement_67 : decode cX1_readStatement 67 = .ok (.invokevirtual 109, 3) := by decide +kernel
theorem dX1_readStatement_70 : decode cX1_readStatement 70 = .ok (.ifCond .eq 11, 3) := by decide +kernel
theorem dX1_readStatement_73 : decode cX1_readStatement 73 = .ok (.aload_n 0, 1) := by decide +kernel
theorem dX1_readStatement_74 : decode cX1_readStatement 74 = .ok (.iload_n 1, 1) := by decide +kernel
theorem dX1_readStatement_75 : decode cX1_readStatement 75 = .ok (.invokevirtual 112, 3) := by decide +kernel
theorem dX1_readStatement_78 : decode cX1_readStatement 78 = .ok (.goto 8, 3) := by decide +kernel
theorem dX1_readStatement_81 : decode cX1_readStatement 81 = .ok (.aload_n 0, 1) := by decide +kernel
theorem dX1_readStatement_82 : decode cX1_readStatement 82 = .ok (.iload_n 1, 1) := by decide +kernel
theorem dX1_readStatement_83 : decode cX1_readStatement 83 = .ok (.invokevirtual 115, 3) := by decide +kernel
theorem dX1_readStatement_86 : decode cX1_readStatement 86 = .ok (.ireturn, 1) := by decide +kernel
theorem dX1_isLoopBegun_0 : decode cX1_isLoopBegun 0 = .ok (.aload_n 0, 1) := by decide +kernel
theorem dX1_isLoopBegun_1 : decode cX1_isLoopBegun 1 = .ok (.getfield 36, 3) := by decide +kernel
theorem dX1_isLoopBegun_4 : decode cX1_isLoopBegun 4 = .ok (.aload_n 0, 1) := by decide +kernel
theorem dX1_isLoopBegun_5 : decode cX1_isLoopBegun 5 = .ok (.getfield 22, 3) := by decide +kernel
theorem dX1_isLoopBegun_8 : decode cX1_isLoopBegun 8 = .ok (.iconst 1, 1) := by decide +kernel
theorem dX1_isLoopBegun_9 : decode cX1_isLoopBegun 9 = .ok (.isub, 1) := by decide +kernel
theorem dX1_isLoopBegun_10 : decode cX1_isLoopBegun 10 = .ok (.iaload, 1) := by decide +kernel
theorem dX1_isLoopBegun_11 : decode cX1_isLoopBegun 11 = .ok (.istore_n 2, 1) := by decide +kernel
theorem dX1_isLoopBegun_12 : decode cX1_isLoopBegun 12 = .ok (.iload_n 2, 1) := by decide +kernel
theorem dX1_isLoopBegun_13 : decode cX1_isLoopBegun 13 = .ok (.iconst (-1), 1) := by decide +kernel
theorem dX1_isLoopBegun_14 : decode cX1_isLoopBegun 14 = .ok (.if_icmp .eq 46, 3) := by decide +kernel
theorem dX1_isLoopBegun_17 : decode cX1_isLoopBegun 17 = .ok (.aload_n 0, 1) := by decide +kernel
theorem dX1_isLoopBegun_18 : decode cX1_isLoopBegun 18 = .ok (.getfield 12, 3) := by decide +kernel
theorem dX1_isLoopBegun_21 : decode cX1_isLoopBegun 21 = .ok (.getfield 118, 3) := by decide +kernel
theorem dX1_isLoopBegun_24 : decode cX1_isLoopBegun 24 = .ok (.iload_n 2, 1) := by decide +kernel
theorem dX1_isLoopBegun_25 : decode cX1_isLoopBegun 25 = .ok (.iaload, 1) := by decide +kernel
theorem dX1_isLoopBegun_26 : decode cX1_isLoopBegun 26 = .ok (.iload_n 1, 1) := by decide +kernel
theorem dX1_isLoopBegun_27 : decode cX1_isLoopBegun 27 = .ok (.if_icmp .ne 33, 3) := by decide +kernel
theorem dX1_isLoopBegun_30 : decode cX1_isLoopBegun 30 = .ok (.aload_n 0, 1) := by decide +kernel
theorem dX1_isLoopBegun_31 : decode cX1_isLoopBegun 31 = .ok (.getfield 12, 3) := by decide +kernel
theorem dX1_isLoopBegun_34 : decode cX1_isLoopBegun 34 = .ok (.getfield 80, 3) := by decide +kernel
theorem dX1_isLoopBegun_37 : decode cX1_isLoopBegun 37 = .ok (.iload_n 2, 1) := by decide +kernel
theorem dX1_isLoopBegun_38 : decode cX1_isLoopBegun 38 = .ok (.iaload, 1) := by decide +kernel
theorem dX1_isLoopBegun_39 : decode cX1_isLoopBegun 39 = .ok (.iconst 3, 1) := by decide +kernel
theorem dX1_isLoopBegun_40 : decode cX1_isLoopBegun 40 = .ok (.if_icmp .eq 16, 3) := by decide +kernel
theorem dX1_isLoopBegun_43 : decode cX1_isLoopBegun 43 = .ok (.aload_n 0, 1) := by decide +kernel
theorem dX1_isLoopBegun_44 : decode cX1_isLoopBegun 44 = .ok (.getfield 12, 3) := by decide +kernel
theorem dX1_isLoopBegun_47 : decode cX1_isLoopBegun 47 = .ok (.getfield 80, 3) := by decide +kernel
theorem dX1_isLoopBegun_50 : decode cX1_isLoopBegun 50 = .ok (.iload_n 2, 1) := by decide +kernel
theorem dX1_isLoopBegun_51 : decode cX1_isLoopBegun 51 = .ok (.iaload, 1) := by decide +kernel
theorem dX1_isLoopBegun_52 : decode cX1_isLoopBegun 52 = .ok (.iconst 5, 1) := by decide +kernel
theorem dX1_isLoopBegun_53 : decode cX1_isLoopBegun 53 = .ok (.if_icmp .ne 7, 3) := by decide +kernel
theorem dX1_isLoopBegun_56 : decode cX1_isLoopBegun 56 = .ok (.iconst 1, 1) := by decide +kernel
theorem dX1_isLoopBegun_57 : decode cX1_isLoopBegun 57 = .ok (.goto 4, 3) := by decide +kernel
theorem dX1_isLoopBegun_60 : decode cX1_isLoopBegun 60 = .ok (.iconst 0, 1) := by decide +kernel
theorem dX1_isLoopBegun_61 : decode cX1_isLoopBegun 61 = .ok (.ireturn, 1) := by decide +kernel
theorem dX1_readLoop_0 : decode cX1_readLoop 0 = .ok (.aload_n 0, 1) := by decide +kernel
theorem dX1_readLoop_1 : decode cX1_readLoop 1 = .ok (.getfield 18, 3) := by decide +kernel
theorem dX1_readLoop_4 : decode cX1_readLoop 4 = .ok (.getfield 102, 3) := by decide +kernel
theorem dX1_readLoop_7 : decode cX1_readLoop 7 = .ok (.iload_n 2, 1) := by decide +kernel
theorem dX1_readLoop_8 : decode cX1_readLoop 8 = .ok (.iaload, 1) := by decide +kernel
theorem dX1_readLoop_9 : decode cX1_readLoop 9 = .ok (.iconst 3, 1) := by decide +kernel
theorem dX1_readLoop_10 : decode cX1_readLoop 10 = .ok (.if_icmp .ne 32, 3) := by decide +kernel
theorem dX1_readLoop_13 : decode cX1_readLoop 13 = .ok (.aload_n 0, 1) := by decide +kernel
theorem dX1_readLoop_14 : decode cX1_readLoop 14 = .ok (.iconst 5, 1) := by decide +kernel
theorem dX1_readLoop_15 : decode cX1_readLoop 15 = .ok (.iload_n 1, 1) := by decide +kernel
theorem dX1_readLoop_16 : decode cX1_readLoop 16 = .ok (.iload_n 2, 1) := by decide +kernel
theorem dX1_readLoop_17 : decode cX1_readLoop 17 = .ok (.iconst 1, 1) := by decide +kernel
theorem dX1_readLoop_18 : decode cX1_readLoop 18 = .ok (.iadd, 1) := by decide +kernel
theorem dX1_readLoop_19 : decode cX1_readLoop 19 = .ok (.iload_n 2, 1) := by decide +kernel
theorem dX1_readLoop_20 : decode cX1_readLoop 20 = .ok (.invokevirtual 121, 3) := by decide +kernel
theorem dX1_readLoop_23 : decode cX1_readLoop 23 = .ok (.istore_n 3, 1) := by decide +kernel
theorem dX1_readLoop_24 : decode cX1_readLoop 24 = .ok (.aload_n 0, 1) := by decide +kernel
theorem dX1_readLoop_25 : decode cX1_readLoop 25 = .ok (.iload_n 2, 1) := by decide +kernel
theorem dX1_readLoop_26 : decode cX1_readLoop 26 = .ok (.invokevirtual 125, 3) := by decide +kernel
theorem dX1_readLoop_29 : decode cX1_readLoop 29 = .ok (.aload_n 0, 1) := by decide +kernel
theorem dX1_readLoop_30 : decode cX1_readLoop 30 = .ok (.iload_n 3, 1) := by decide +kernel
theorem dX1_readLoop_31 : decode cX1_readLoop 31 = .ok (.iconst 0, 1) := by decide +kernel
theorem dX1_readLoop_32 : decode cX1_readLoop 32 = .ok (.iload_n 2, 1) := by decide +kernel
theorem dX1_readLoop_33 : decode cX1_readLoop 33 = .ok (.iload_n 2, 1) := by decide +kernel
theorem dX1_readLoop_34 : decode cX1_readLoop 34 = .ok (.iconst 1, 1) := by decide +kernel
theorem dX1_readLoop_35 : decode cX1_readLoop 35 = .ok (.iadd, 1) := by decide +kernel
theorem dX1_readLoop_36 : decode cX1_readLoop 36 = .ok (.iload_n 2, 1) := by decide +kernel
theorem dX1_readLoop_37 : decode cX1_readLoop 37 = .ok (.invokevirtual 53, 3) := by decide +kernel
theorem dX1_readLoop_40 : decode cX1_readLoop 40 = .ok (.iload_n 1, 1) := by decide +kernel
theorem dX1_readLoop_41 : decode cX1_readLoop 41 = .ok (.ireturn, 1) := by decide +kernel
theorem dX1_readLoop_42 : decode cX1_readLoop 42 = .ok (.aload_n 0, 1) := by decide +kernel
theorem dX1_readLoop_43 : decode cX1_readLoop 43 = .ok (.getfield 18, 3) := by decide +kernel
theorem dX1_readLoop_46 : decode cX1_readLoop 46 = .ok (.getfield 102, 3) := by decide +kernel
theorem dX1_readLoop_49 : decode cX1_readLoop 49 = .ok (.iload_n 1, 1) := by decide +kernel
theorem dX1_readLoop_50 : decode cX1_readLoop 50 = .ok (.iaload, 1) := by decide +kernel
theorem dX1_readLoop_51 : decode cX1_readLoop 51 = .ok (.iconst 3, 1) := by decide +kernel
theorem dX1_readLoop_52 : decode cX1_readLoop 52 = .ok (.if_icmp .ne 59, 3) := by decide +kernel
theorem dX1_readLoop_55 : decode cX1_readLoop 55 = .ok (.aload_n 0, 1) := by decide +kernel
theorem dX1_readLoop_56 : decode cX1_readLoop 56 = .ok (.getfield 18, 3) := by decide +kernel
theorem dX1_readLoop_59 : decode cX1_readLoop 59 = .ok (.getfield 128, 3) := by decide +kernel
theorem dX1_readLoop_62 : decode cX1_readLoop 62 = .ok (.iload_n 1, 1) := by decide +kernel
theorem dX1_readLoop_63 : decode cX1_readLoop 63 = .ok (.iaload, 1) := by decide +kernel
theorem dX1_readLoop_64 : decode cX1_readLoop 64 = .ok (.iload_n 2, 1) := by decide +kernel
theorem dX1_readLoop_65 : decode cX1_readLoop 65 = .ok (.iconst 1, 1) := by decide +kernel
theorem dX1_readLoop_66 : decode cX1_readLoop 66 = .ok (.iadd, 1) := by decide +kernel
theorem dX1_readLoop_67 : decode cX1_readLoop 67 = .ok (.if_icmp .ne 44, 3) := by decide +kernel
theorem dX1_readLoop_70 : decode cX1_readLoop 70 = .ok (.aload_n 0, 1) := by decide +kernel
theorem dX1_readLoop_71 : decode cX1_readLoop 71 = .ok (.iconst 4, 1) := by decide +kernel
theorem dX1_readLoop_72 : decode cX1_readLoop 72 = .ok (.iload_n 1, 1) := by decide +kernel
theorem dX1_readLoop_73 : decode cX1_readLoop 73 = .ok (.iload_n 2, 1) := by decide +kernel
theorem dX1_readLoop_74 : decode cX1_readLoop 74 = .ok (.iconst 1, 1) := by decide +kernel
theorem dX1_readLoop_75 : decode cX1_readLoop 75 = .ok (.iadd, 1) := by decide +kernel
theorem dX1_readLoop_76 : decode cX1_readLoop 76 = .ok (.iload_n 2, 1) := by decide +kernel
theorem dX1_readLoop_77 : decode cX1_readLoop 77 = .ok (.invokevirtual 121, 3) := by decide +kernel
theorem dX1_readLoop_80 : decode cX1_readLoop 80 = .ok (.istore_n 3, 1) := by decide +kernel
theorem dX1_readLoop_81 : decode cX1_readLoop 81 = .ok (.aload_n 0, 1) := by decide +kernel
theorem dX1_readLoop_82 : decode cX1_readLoop 82 = .ok (.getfield 12, 3) := by decide +kernel
theorem dX1_readLoop_85 : decode cX1_readLoop 85 = .ok (.getfield 131, 3) := by decide +kernel
theorem dX1_readLoop_88 : decode cX1_readLoop 88 = .ok (.iload_n 1, 1) := by decide +kernel
theorem dX1_readLoop_89 : decode cX1_readLoop 89 = .ok (.iload_n 3, 1) := by decide +kernel
theorem dX1_readLoop_90 : decode cX1_readLoop 90 = .ok (.iastore, 1) := by decide +kernel
theorem dX1_readLoop_91 : decode cX1_readLoop 91 = .ok (.aload_n 0, 1) := by decide +kernel
theorem dX1_readLoop_92 : decode cX1_readLoop 92 = .ok (.iload_n 1, 1) := by decide +kernel
theorem dX1_readLoop_93 : decode cX1_readLoop 93 = .ok (.invokevirtual 125, 3) := by decide +kernel
theorem dX1_readLoop_96 : decode cX1_readLoop 96 = .ok (.aload_n 0, 1) := by decide +kernel
theorem dX1_readLoop_97 : decode cX1_readLoop 97 = .ok (.iload_n 3, 1) := by decide +kernel
theorem dX1_readLoop_98 : decode cX1_readLoop 98 = .ok (.iconst 0, 1) := by decide +kernel
theorem dX1_readLoop_99 : decode cX1_readLoop 99 = .ok (.iload_n 2, 1) := by decide +kernel
theorem dX1_readLoop_100 : decode cX1_readLoop 100 = .ok (.iload_n 2, 1) := by decide +kernel
theorem dX1_readLoop_101 : decode cX1_readLoop 101 = .ok (.iconst 1, 1) := by decide +kernel
theorem dX1_readLoop_102 : decode cX1_readLoop 102 = .ok (.iadd, 1) := by decide +kernel
theorem dX1_readLoop_103 : decode cX1_readLoop 103 = .ok (.iload_n 1, 1) := by decide +kernel
theorem dX1_readLoop_104 : decode cX1_readLoop 104 = .ok (.invokevirtual 53, 3) := by decide +kernel
theorem dX1_readLoop_107 : decode cX1_readLoop 107 = .ok (.iload_n 1, 1) := by decide +kernel
theorem dX1_readLoop_108 : decode cX1_readLoop 108 = .ok (.iconst 1, 1) := by decide +kernel
theorem dX1_readLoop_109 : decode cX1_readLoop 109 = .ok (.iadd, 1) := by decide +kernel
theorem dX1_readLoop_110 : decode cX1_readLoop 110 = .ok (.ireturn, 1) := by decide +kernel
theorem dX1_readLoop_111 : decode cX1_readLoop 111 = .ok (.aload_n 0, 1) := by decide +kernel
theorem dX1_readLoop_112 : decode cX1_readLoop 112 = .ok (.iconst 3, 1) := by decide +kernel
theorem dX1_readLoop_113 : decode cX1_readLoop 113 = .ok (.iload_n 1, 1) := by decide +kernel
theorem dX1_readLoop_114 : decode cX1_readLoop 114 = .ok (.iload_n 2, 1) := by decide +kernel
theorem dX1_readLoop_115 : decode cX1_readLoop 115 = .ok (.iconst 1, 1) := by decide +kernel
theorem dX1_readLoop_116 : decode cX1_readLoop 116 = .ok (.iadd, 1) := by decide +kernel
theorem dX1_readLoop_117 : decode cX1_readLoop 117 = .ok (.iload_n 2, 1) := by decide +kernel
theorem dX1_readLoop_118 : decode cX1_readLoop 118 = .ok (.invokevirtual 121, 3) := by decide +kernel
theorem dX1_readLoop_121 : decode cX1_readLoop 121 = .ok (.istore_n 3, 1) := by decide +kernel
theorem dX1_readLoop_122 : decode cX1_readLoop 122 = .ok (.aload_n 0, 1) := by decide +kernel
theorem dX1_readLoop_123 : decode cX1_readLoop 123 = .ok (.iload_n 3, 1) := by decide +kernel
theorem dX1_readLoop_124 : decode cX1_readLoop 124 = .ok (.iconst 0, 1) := by decide +kernel
theorem dX1_readLoop_125 : decode cX1_readLoop 125 = .ok (.iload_n 2, 1) := by decide +kernel
theorem dX1_readLoop_126 : decode cX1_readLoop 126 = .ok (.iload_n 2, 1) := by decide +kernel
theorem dX1_readLoop_127 : decode cX1_readLoop 127 = .ok (.iconst 1, 1) := by decide +kernel
theorem dX1_readLoop_128 : decode cX1_readLoop 128 = .ok (.iadd, 1) := by decide +kernel
theorem dX1_readLoop_129 : decode cX1_readLoop 129 = .ok (.iload_n 1, 1) := by decide +kernel
theorem dX1_readLoop_130 : decode cX1_readLoop 130 = .ok (.invokevirtual 53, 3) := by decide +kernel
theorem dX1_readLoop_133 : decode cX1_readLoop 133 = .ok (.iload_n 1, 1) := by decide +kernel
theorem dX1_readLoop_134 : decode cX1_readLoop 134 = .ok (.ireturn, 1) := by decide +kernel
theorem dX1_isIf_0 : decode cX1_isIf 0 = .ok (.aload_n 0, 1) := by decide +kernel
theorem dX1_isIf_1 : decode cX1_isIf 1 = .ok (.getfield 18, 3) := by decide +kernel
theorem dX1_isIf_4 : decode cX1_isIf 4 = .ok (.getfield 128, 3) := by decide +kernel
theorem dX1_isIf_7 : decode cX1_isIf 7 = .ok (.iload_n 1, 1) := by decide +kernel
theorem dX1_isIf_8 : decode cX1_isIf 8 = .ok (.iaload, 1) := by decide +kernel
theorem dX1_isIf_9 : decode cX1_isIf 9 = .ok (.istore_n 2, 1) := by decide +kernel
theorem dX1_isIf_10 : decode cX1_isIf 10 = .ok (.aload_n 0, 1) := by decide +kernel
theorem dX1_isIf_11 : decode cX1_isIf 11 = .ok (.getfield 18, 3) := by decide +kernel
theorem dX1_isIf_14 : decode cX1_isIf 14 = .ok (.getfield 102, 3) := by decide +kernel
theorem dX1_isIf_17 : decode cX1_isIf 17 = .ok (.iload_n 1, 1) := by decide +kernel
theorem dX1_isIf_18 : decode cX1_isIf 18 = .ok (.iaload, 1) := by decide +kernel
theorem dX1_isIf_19 : decode cX1_isIf 19 = .ok (.iconst 3, 1) := by decide +kernel
theorem dX1_isIf_20 : decode cX1_isIf 20 = .ok (.if_icmp .ne 35, 3) := by decide +kernel
theorem dX1_isIf_23 : decode cX1_isIf 23 = .ok (.iload_n 2, 1) := by decide +kernel
theorem dX1_isIf_24 : decode cX1_isIf 24 = .ok (.iload_n 1, 1) := by decide +kernel
theorem dX1_isIf_25 : decode cX1_isIf 25 = .ok (.if_icmp .le 30, 3) := by decide +kernel
theorem dX1_isIf_28 : decode cX1_isIf 28 = .ok (.iload_n 2, 1) := by decide +kernel
theorem dX1_isIf_29 : decode cX1_isIf 29 = .ok (.aload_n 0, 1) := by decide +kernel
theorem dX1_isIf_30 : decode cX1_isIf 30 = .ok (.getfield 26, 3) := by decide +kernel
theorem dX1_isIf_33 : decode cX1_isIf 33 = .ok (.aload_n 0, 1) := by decide +kernel
theorem dX1_isIf_34 : decode cX1_isIf 34 = .ok (.getfield 22, 3) := by decide +kernel
theorem dX1_isIf_37 : decode cX1_isIf 37 = .ok (.iconst 1, 1) := by decide +kernel
theorem dX1_isIf_38 : decode cX1_isIf 38 = .ok (.isub, 1) := by decide +kernel
theorem dX1_isIf_39 : decode cX1_isIf 39 = .ok (.iaload, 1) := by decide +kernel
theorem dX1_isIf_40 : decode cX1_isIf 40 = .ok (.if_icmp .gt 15, 3) := by decide +kernel
theorem dX1_isIf_43 : decode cX1_isIf 43 = .ok (.aload_n 0, 1) := by decide +kernel
theorem dX1_isIf_44 : decode cX1_isIf 44 = .ok (.iload_n 2, 1) := by decide +kernel
theorem dX1_isIf_45 : decode cX1_isIf 45 = .ok (.invokevirtual 134, 3) := by decide +kernel
theorem dX1_isIf_48 : decode cX1_isIf 48 = .ok (.ifCond .eq 7, 3) := by decide +kernel
theorem dX1_isIf_51 : decode cX1_isIf 51 = .ok (.iconst 1, 1) := by decide +kernel
theorem dX1_isIf_52 : decode cX1_isIf 52 = .ok (.goto 4, 3) := by decide +kernel
theorem dX1_isIf_55 : decode cX1_isIf 55 = .ok (.iconst 0, 1) := by decide +kernel
theorem dX1_isIf_56 : decode cX1_isIf 56 = .ok (.ireturn, 1) := by decide +kernel
theorem dX1_isNeither_0 : decode cX1_isNeither 0 = .ok (.iload_n 1, 1) := by decide +kernel
theorem dX1_isNeither_1 : decode cX1_isNeither 1 = .ok (.aload_n 0, 1) := by decide +kernel
theorem dX1_isNeither_2 : decode cX1_isNeither 2 = .ok (.getfield 30, 3) := by decide +kernel
theorem dX1_isNeither_5 : decode cX1_isNeither 5 = .ok (.aload_n 0, 1) := by decide +kernel
theorem dX1_isNeither_6 : decode cX1_isNeither 6 = .ok (.getfield 22, 3) := by decide +kernel
theorem dX1_isNeither_9 : decode cX1_isNeither 9 = .ok (.iconst 1, 1) := by decide +kernel
theorem dX1_isNeither_10 : decode cX1_isNeither 10 = .ok (.isub, 1) := by decide +kernel
theorem dX1_isNeither_11 : decode cX1_isNeither 11 = .ok (.iaload, 1) := by decide +kernel
theorem dX1_isNeither_12 : decode cX1_isNeither 12 = .ok (.if_icmp .eq 22, 3) := by decide +kernel
theorem dX1_isNeither_15 : decode cX1_isNeither 15 = .ok (.iload_n 1, 1) := by decide +kernel
theorem dX1_isNeither_16 : decode cX1_isNeither 16 = .ok (.aload_n 0, 1) := by decide +kernel
theorem dX1_isNeither_17 : decode cX1_isNeither 17 = .ok (.getfield 33, 3) := by decide +kernel
theorem dX1_isNeither_20 : decode cX1_isNeither 20 = .ok (.aload_n 0, 1) := by decide +kernel
theorem dX1_isNeither_21 : decode cX1_isNeither 21 = .ok (.getfield 22, 3) := by decide +kernel
theorem dX1_isNeither_24 : decode cX1_isNeither 24 = .ok (.iconst 1, 1) := by decide +kernel
theorem dX1_isNeither_25 : decode cX1_isNeither 25 = .ok (.isub, 1) := by decide +kernel
theorem dX1_isNeither_26 : decode cX1_isNeither 26 = .ok (.iaload, 1) := by decide +kernel
theorem dX1_isNeither_27 : decode cX1_isNeither 27 = .ok (.if_icmp .eq 7, 3) := by decide +kernel
theorem dX1_isNeither_30 : decode cX1_isNeither 30 = .ok (.iconst 1, 1) := by decide +kernel
theorem dX1_isNeither_31 : decode cX1_isNeither 31 = .ok (.goto 4, 3) := by decide +kernel
theorem dX1_isNeither_34 : decode cX1_isNeither 34 = .ok (.iconst 0, 1) := by decide +kernel
theorem dX1_isNeither_35 : decode cX1_isNeither 35 = .ok (.ireturn, 1) := by decide +kernel
theorem dX1_readIf_0 : decode cX1_readIf 0 = .ok (.aload_n 0, 1) := by decide +kernel
theorem dX1_readIf_1 : decode cX1_readIf 1 = .ok (.getfield 18, 3) := by decide +kernel
theorem dX1_readIf_4 : decode cX1_readIf 4 = .ok (.getfield 128, 3) := by decide +kernel
theorem dX1_readIf_7 : decode cX1_readIf 7 = .ok (.iload_n 1, 1) := by decide +kernel
theorem dX1_readIf_8 : decode cX1_readIf 8 = .ok (.iaload, 1) := by decide +kernel
theorem dX1_readIf_9 : decode cX1_readIf 9 = .ok (.istore_n 2, 1) := by decide +kernel
theorem dX1_readIf_10 : decode cX1_readIf 10 = .ok (.aload_n 0, 1) := by decide +kernel
theorem dX1_readIf_11 : decode cX1_readIf 11 = .ok (.getfield 30, 3) := by decide +kernel
theorem dX1_readIf_14 : decode cX1_readIf 14 = .ok (.aload_n 0, 1) := by decide +kernel
theorem dX1_readIf_15 : decode cX1_readIf 15 = .ok (.getfield 22, 3) := by decide +kernel
theorem dX1_readIf_18 : decode cX1_readIf 18 = .ok (.iconst 1, 1) := by decide +kernel
theorem dX1_readIf_19 : decode cX1_readIf 19 = .ok (.isub, 1) := by decide +kernel
theorem dX1_readIf_20 : decode cX1_readIf 20 = .ok (.iaload, 1) := by decide +kernel
theorem dX1_readIf_21 : decode cX1_readIf 21 = .ok (.istore_n 3, 1) := by decide +kernel
theorem dX1_readIf_22 : decode cX1_readIf 22 = .ok (.aload_n 0, 1) := by decide +kernel
theorem dX1_readIf_23 : decode cX1_readIf 23 = .ok (.getfield 33, 3) := by decide +kernel
theorem dX1_readIf_26 : decode cX1_readIf 26 = .ok (.aload_n 0, 1) := by decide +kernel
theorem dX1_readIf_27 : decode cX1_readIf 27 = .ok (.getfield 22, 3) := by decide +kernel
theorem dX1_readIf_30 : decode cX1_readIf 30 = .ok (.iconst 1, 1) := by decide +kernel
theorem dX1_readIf_31 : decode cX1_readIf 31 = .ok (.isub, 1) := by decide +kernel
theorem dX1_readIf_32 : decode cX1_readIf 32 = .ok (.iaload, 1) := by decide +kernel
theorem dX1_readIf_33 : decode cX1_readIf 33 = .ok (.istore 4, 2) := by decide +kernel
theorem dX1_readIf_35 : decode cX1_readIf 35 = .ok (.aload_n 0, 1) := by decide +kernel
theorem dX1_readIf_36 : decode cX1_readIf 36 = .ok (.iload_n 1, 1) := by decide +kernel
theorem dX1_readIf_37 : decode cX1_readIf 37 = .ok (.iload_n 2, 1) := by decide +kernel
theorem dX1_readIf_38 : decode cX1_readIf 38 = .ok (.invokevirtual 137, 3) := by decide +kernel
theorem dX1_readIf_41 : decode cX1_readIf 41 = .ok (.istore 5, 2) := by decide +kernel
theorem dX1_readIf_43 : decode cX1_readIf 43 = .ok (.iload 5, 2) := by decide +kernel
theorem dX1_readIf_45 : decode cX1_readIf 45 = .ok (.iconst (-1), 1) := by decide +kernel
theorem dX1_readIf_46 : decode cX1_readIf 46 = .ok (.if_icmp .ne 33, 3) := by decide +kernel
theorem dX1_readIf_49 : decode cX1_readIf 49 = .ok (.aload_n 0, 1) := by decide +kernel
theorem dX1_readIf_50 : decode cX1_readIf 50 = .ok (.iconst 1, 1) := by decide +kernel
theorem dX1_readIf_51 : decode cX1_readIf 51 = .ok (.iload_n 1, 1) := by decide +kernel
theorem dX1_readIf_52 : decode cX1_readIf 52 = .ok (.iload_n 2, 1) := by decide +kernel
theorem dX1_readIf_53 : decode cX1_readIf 53 = .ok (.iload_n 1, 1) := by decide +kernel
theorem dX1_readIf_54 : decode cX1_readIf 54 = .ok (.invokevirtual 121, 3) := by decide +kernel
theorem dX1_readIf_57 : decode cX1_readIf 57 = .ok (.istore 6, 2) := by decide +kernel
theorem dX1_readIf_59 : decode cX1_readIf 59 = .ok (.aload_n 0, 1) := by decide +kernel
theorem dX1_readIf_60 : decode cX1_readIf 60 = .ok (.iload_n 1, 1) := by decide +kernel
theorem dX1_readIf_61 : decode cX1_readIf 61 = .ok (.invokevirtual 125, 3) := by decide +kernel
theorem dX1_readIf_64 : decode cX1_readIf 64 = .ok (.aload_n 0, 1) := by decide +kernel
theorem dX1_readIf_65 : decode cX1_readIf 65 = .ok (.iload 6, 2) := by decide +kernel
theorem dX1_readIf_67 : decode cX1_readIf 67 = .ok (.iconst 0, 1) := by decide +kernel
theorem dX1_readIf_68 : decode cX1_readIf 68 = .ok (.iload_n 2, 1) := by decide +kernel
theorem dX1_readIf_69 : decode cX1_readIf 69 = .ok (.iload_n 3, 1) := by decide +kernel
theorem dX1_readIf_70 : decode cX1_readIf 70 = .ok (.iload 4, 2) := by decide +kernel
theorem dX1_readIf_72 : decode cX1_readIf 72 = .ok (.invokevirtual 53, 3) := by decide +kernel
theorem dX1_readIf_75 : decode cX1_readIf 75 = .ok (.iload_n 1, 1) := by decide +kernel
theorem dX1_readIf_76 : decode cX1_readIf 76 = .ok (.iconst 1, 1) := by decide +kernel
theorem dX1_readIf_77 : decode cX1_readIf 77 = .ok (.iadd, 1) := by decide +kernel
theorem dX1_readIf_78 : decode cX1_readIf 78 = .ok (.ireturn, 1) := by decide +kernel
theorem dX1_readIf_79 : decode cX1_readIf 79 = .ok (.aload_n 0, 1) := by decide +kernel
theorem dX1_readIf_80 : decode cX1_readIf 80 = .ok (.iconst 2, 1) := by decide +kernel
theorem dX1_readIf_81 : decode cX1_readIf 81 = .ok (.iload_n 1, 1) := by decide +kernel
theorem dX1_readIf_82 : decode cX1_readIf 82 = .ok (.iload 5, 2) := by decide +kernel
theorem dX1_readIf_84 : decode cX1_readIf 84 = .ok (.iload_n 1, 1) := by decide +kernel
theorem dX1_readIf_85 : decode cX1_readIf 85 = .ok (.invokevirtual 121, 3) := by decide +kernel
theorem dX1_readIf_88 : decode cX1_readIf 88 = .ok (.istore 6, 2) := by decide +kernel
theorem dX1_readIf_90 : decode cX1_readIf 90 = .ok (.aload_n 0, 1) := by decide +kernel
theorem dX1_readIf_91 : decode cX1_readIf 91 = .ok (.getfield 12, 3) := by decide +kernel
theorem dX1_readIf_94 : decode cX1_readIf 94 = .ok (.getfield 131, 3) := by decide +kernel
theorem dX1_readIf_97 : decode cX1_readIf 97 = .ok (.iload_n 2, 1) := by decide +kernel
theorem dX1_readIf_98 : decode cX1_readIf 98 = .ok (.iconst 1, 1) := by decide +kernel
theorem dX1_readIf_99 : decode cX1_readIf 99 = .ok (.isub, 1) := by decide +kernel
theorem dX1_readIf_100 : decode cX1_readIf 100 = .ok (.iload 6, 2) := by decide +kernel
theorem dX1_readIf_102 : decode cX1_readIf 102 = .ok (.iastore, 1) := by decide +kernel
theorem dX1_readIf_103 : decode cX1_readIf 103 = .ok (.aload_n 0, 1) := by decide +kernel
theorem dX1_readIf_104 : decode cX1_readIf 104 = .ok (.iload_n 1, 1) := by decide +kernel
theorem dX1_readIf_105 : decode cX1_readIf 105 = .ok (.invokevirtual 125, 3) := by decide +kernel
theorem dX1_readIf_108 : decode cX1_readIf 108 = .ok (.aload_n 0, 1) := by decide +kernel
theorem dX1_readIf_109 : decode cX1_readIf 109 = .ok (.iload 6, 2) := by decide +kernel
theorem dX1_readIf_111 : decode cX1_readIf 111 = .ok (.iconst 0, 1) := by decide +kernel
theorem dX1_readIf_112 : decode cX1_readIf 112 = .ok (.iload_n 2, 1) := by decide +kernel
theorem dX1_readIf_113 : decode cX1_readIf 113 = .ok (.iconst 1, 1) := by decide +kernel
theorem dX1_readIf_114 : decode cX1_readIf 114 = .ok (.isub, 1) := by decide +kernel
theorem dX1_readIf_115 : decode cX1_readIf 115 = .ok (.iload_n 3, 1) := by decide +kernel
theorem dX1_readIf_116 : decode cX1_readIf 116 = .ok (.iload 4, 2) := by decide +kernel
theorem dX1_readIf_118 : decode cX1_readIf 118 = .ok (.invokevirtual 53, 3) := by decide +kernel
theorem dX1_readIf_121 : decode cX1_readIf 121 = .ok (.iload_n 1, 1) := by decide +kernel
theorem dX1_readIf_122 : decode cX1_readIf 122 = .ok (.iconst 1, 1) := by decide +kernel
theorem dX1_readIf_123 : decode cX1_readIf 123 = .ok (.iadd, 1) := by decide +kernel
theorem dX1_readIf_124 : decode cX1_readIf 124 = .ok (.ireturn, 1) := by decide +kernel
theorem dX1_elseEnd_0 : decode cX1_elseEnd 0 = .ok (.iload_n 2, 1) := by decide +kernel
theorem dX1_elseEnd_1 : decode cX1_elseEnd 1 = .ok (.iconst 1, 1) := by decide +kernel
theorem dX1_elseEnd_2 : decode cX1_elseEnd 2 = .ok (.isub, 1) := by decide +kernel
theorem dX1_elseEnd_3 : decode cX1_elseEnd 3 = .ok (.istore_n 3, 1) := by decide +kernel
theorem dX1_elseEnd_4 : decode cX1_elseEnd 4 = .ok (.iload_n 3, 1) := by decide +kernel
theorem dX1_elseEnd_5 : decode cX1_elseEnd 5 = .ok (.iload_n 1, 1) := by decide +kernel
theorem dX1_elseEnd_6 : decode cX1_elseEnd 6 = .ok (.if_icmp .le 16, 3) := by decide +kernel
theorem dX1_elseEnd_9 : decode cX1_elseEnd 9 = .ok (.aload_n 0, 1) := by decide +kernel
theorem dX1_elseEnd_10 : decode cX1_elseEnd 10 = .ok (.getfield 18, 3) := by decide +kernel
theorem dX1_elseEnd_13 : decode cX1_elseEnd 13 = .ok (.getfield 102, 3) := by decide +kernel
theorem dX1_elseEnd_16 : decode cX1_elseEnd 16 = .ok (.iload_n 3, 1) := by decide +kernel
theorem dX1_elseEnd_17 : decode cX1_elseEnd 17 = .ok (.iaload, 1) := by decide +kernel
theorem dX1_elseEnd_18 : decode cX1_elseEnd 18 = .ok (.iconst 2, 1) := by decide +kernel
theorem dX1_elseEnd_19 : decode cX1_elseEnd 19 = .ok (.if_icmp .eq 5, 3) := by decide +kernel
theorem dX1_elseEnd_22 : decode cX1_elseEnd 22 = .ok (.iconst (-1), 1) := by decide +kernel
theorem dX1_elseEnd_23 : decode cX1_elseEnd 23 = .ok (.ireturn, 1) := by decide +kernel
theorem dX1_elseEnd_24 : decode cX1_elseEnd 24 = .ok (.aload_n 0, 1) := by decide +kernel
theorem dX1_elseEnd_25 : decode cX1_elseEnd 25 = .ok (.getfield 18, 3) := by decide +kernel
theorem dX1_elseEnd_28 : decode cX1_elseEnd 28 = .ok (.getfield 128, 3) := by decide +kernel
theorem dX1_elseEnd_31 : decode cX1_elseEnd 31 = .ok (.iload_n 3, 1) := by decide +kernel
theorem dX1_elseEnd_32 : decode cX1_elseEnd 32 = .ok (.iaload, 1) := by decide +kernel
theorem dX1_elseEnd_33 : decode cX1_elseEnd 33 = .ok (.istore 4, 2) := by decide +kernel
theorem dX1_elseEnd_35 : decode cX1_elseEnd 35 = .ok (.iload 4, 2) := by decide +kernel
theorem dX1_elseEnd_37 : decode cX1_elseEnd 37 = .ok (.iload_n 2, 1) := by decide +kernel
theorem dX1_elseEnd_38 : decode cX1_elseEnd 38 = .ok (.if_icmp .le 33, 3) := by decide +kernel
theorem dX1_elseEnd_41 : decode cX1_elseEnd 41 = .ok (.iload 4, 2) := by decide +kernel
theorem dX1_elseEnd_43 : decode cX1_elseEnd 43 = .ok (.aload_n 0, 1) := by decide +kernel
theorem dX1_elseEnd_44 : decode cX1_elseEnd 44 = .ok (.getfield 26, 3) := by decide +kernel
theorem dX1_elseEnd_47 : decode cX1_elseEnd 47 = .ok (.aload_n 0, 1) := by decide +kernel
theorem dX1_elseEnd_48 : decode cX1_elseEnd 48 = .ok (.getfield 22, 3) := by decide +kernel
theorem dX1_elseEnd_51 : decode cX1_elseEnd 51 = .ok (.iconst 1, 1) := by decide +kernel
theorem dX1_elseEnd_52 : decode cX1_elseEnd 52 = .ok (.isub, 1) := by decide +kernel
theorem dX1_elseEnd_53 : decode cX1_elseEnd 53 = .ok (.iaload, 1) := by decide +kernel
theorem dX1_elseEnd_54 : decode cX1_elseEnd 54 = .ok (.if_icmp .gt 17, 3) := by decide +kernel
theorem dX1_elseEnd_57 : decode cX1_elseEnd 57 = .ok (.aload_n 0, 1) := by decide +kernel
theorem dX1_elseEnd_58 : decode cX1_elseEnd 58 = .ok (.iload 4, 2) := by decide +kernel
theorem dX1_elseEnd_60 : decode cX1_elseEnd 60 = .ok (.invokevirtual 134, 3) := by decide +kernel
theorem dX1_elseEnd_63 : decode cX1_elseEnd 63 = .ok (.ifCond .eq 8, 3) := by decide +kernel
theorem dX1_elseEnd_66 : decode cX1_elseEnd 66 = .ok (.iload 4, 2) := by decide +kernel
theorem dX1_elseEnd_68 : decode cX1_elseEnd 68 = .ok (.goto 4, 3) := by decide +kernel
theorem dX1_elseEnd_71 : decode cX1_elseEnd 71 = .ok (.iconst (-1), 1) := by decide +kernel
theorem dX1_elseEnd_72 : decode cX1_elseEnd 72 = .ok (.ireturn, 1) := by decide +kernel
theorem dX1_readLeap_0 : decode cX1_readLeap 0 = .ok (.aload_n 0, 1) := by decide +kernel
theorem dX1_readLeap_1 : decode cX1_readLeap 1 = .ok (.getfield 18, 3) := by decide +kernel
theorem dX1_readLeap_4 : decode cX1_readLeap 4 = .ok (.getfield 128, 3) := by decide +kernel
theorem dX1_readLeap_7 : decode cX1_readLeap 7 = .ok (.iload_n 1, 1) := by decide +kernel
theorem dX1_readLeap_8 : decode cX1_readLeap 8 = .ok (.iaload, 1) := by decide +kernel
theorem dX1_readLeap_9 : decode cX1_readLeap 9 = .ok (.istore_n 2, 1) := by decide +kernel
theorem dX1_readLeap_10 : decode cX1_readLeap 10 = .ok (.aload_n 0, 1) := by decide +kernel
theorem dX1_readLeap_11 : decode cX1_readLeap 11 = .ok (.getfield 18, 3) := by decide +kernel
theorem dX1_readLeap_14 : decode cX1_readLeap 14 = .ok (.getfield 102, 3) := by decide +kernel
theorem dX1_readLeap_17 : decode cX1_readLeap 17 = .ok (.iload_n 1, 1) := by decide +kernel
theorem dX1_readLeap_18 : decode cX1_readLeap 18 = .ok (.iaload, 1) := by decide +kernel
theorem dX1_readLeap_19 : decode cX1_readLeap 19 = .ok (.iconst 3, 1) := by decide +kernel
theorem dX1_readLeap_20 : decode cX1_readLeap 20 = .ok (.if_icmp .ne 7, 3) := by decide +kernel
theorem dX1_readLeap_23 : decode cX1_readLeap 23 = .ok (.iconst 1, 1) := by decide +kernel
theorem dX1_readLeap_24 : decode cX1_readLeap 24 = .ok (.goto 4, 3) := by decide +kernel
theorem dX1_readLeap_27 : decode cX1_readLeap 27 = .ok (.iconst 0, 1) := by decide +kernel
theorem dX1_readLeap_28 : decode cX1_readLeap 28 = .ok (.istore_n 3, 1) := by decide +kernel
theorem dX1_readLeap_29 : decode cX1_readLeap 29 = .ok (.bipush 8, 2) := by decide +kernel
theorem dX1_readLeap_31 : decode cX1_readLeap 31 = .ok (.istore 4, 2) := by decide +kernel
theorem dX1_readLeap_33 : decode cX1_readLeap 33 = .ok (.iload_n 2, 1) := by decide +kernel
theorem dX1_readLeap_34 : decode cX1_readLeap 34 = .ok (.aload_n 0, 1) := by decide +kernel
theorem dX1_readLeap_35 : decode cX1_readLeap 35 = .ok (.getfield 30, 3) := by decide +kernel
theorem dX1_readLeap_38 : decode cX1_readLeap 38 = .ok (.aload_n 0, 1) := by decide +kernel
theorem dX1_readLeap_39 : decode cX1_readLeap 39 = .ok (.getfield 22, 3) := by decide +kernel
theorem dX1_readLeap_42 : decode cX1_readLeap 42 = .ok (.iconst 1, 1) := by decide +kernel
theorem dX1_readLeap_43 : decode cX1_readLeap 43 = .ok (.isub, 1) := by decide +kernel
theorem dX1_readLeap_44 : decode cX1_readLeap 44 = .ok (.iaload, 1) := by decide +kernel
theorem dX1_readLeap_45 : decode cX1_readLeap 45 = .ok (.if_icmp .ne 10, 3) := by decide +kernel
theorem dX1_readLeap_48 : decode cX1_readLeap 48 = .ok (.bipush 6, 2) := by decide +kernel
theorem dX1_readLeap_50 : decode cX1_readLeap 50 = .ok (.istore 4, 2) := by decide +kernel
theorem dX1_readLeap_52 : decode cX1_readLeap 52 = .ok (.goto 22, 3) := by decide +kernel
theorem dX1_readLeap_55 : decode cX1_readLeap 55 = .ok (.iload_n 2, 1) := by decide +kernel
theorem dX1_readLeap_56 : decode cX1_readLeap 56 = .ok (.aload_n 0, 1) := by decide +kernel
theorem dX1_readLeap_57 : decode cX1_readLeap 57 = .ok (.getfield 33, 3) := by decide +kernel
theorem dX1_readLeap_60 : decode cX1_readLeap 60 = .ok (.aload_n 0, 1) := by decide +kernel
theorem dX1_readLeap_61 : decode cX1_readLeap 61 = .ok (.getfield 22, 3) := by decide +kernel
theorem dX1_readLeap_64 : decode cX1_readLeap 64 = .ok (.iconst 1, 1) := by decide +kernel
theorem dX1_readLeap_65 : decode cX1_readLeap 65 = .ok (.isub, 1) := by decide +kernel
theorem dX1_readLeap_66 : decode cX1_readLeap 66 = .ok (.iaload, 1) := by decide +kernel
theorem dX1_readLeap_67 : decode cX1_readLeap 67 = .ok (.if_icmp .ne 7, 3) := by decide +kernel
theorem dX1_readLeap_70 : decode cX1_readLeap 70 = .ok (.bipush 7, 2) := by decide +kernel
theorem dX1_readLeap_72 : decode cX1_readLeap 72 = .ok (.istore 4, 2) := by decide +kernel
theorem dX1_readLeap_74 : decode cX1_readLeap 74 = .ok (.aload_n 0, 1) := by decide +kernel
theorem dX1_readLeap_75 : decode cX1_readLeap 75 = .ok (.iload_n 3, 1) := by decide +kernel
theorem dX1_readLeap_76 : decode cX1_readLeap 76 = .ok (.ifCond .eq 14, 3) := by decide +kernel
theorem dX1_readLeap_79 : decode cX1_readLeap 79 = .ok (.iload 4, 2) := by decide +kernel
theorem dX1_readLeap_81 : decode cX1_readLeap 81 = .ok (.bipush 6, 2) := by decide +kernel
theorem dX1_readLeap_83 : decode cX1_readLeap 83 = .ok (.isub, 1) := by decide +kernel
theorem dX1_readLeap_84 : decode cX1_readLeap 84 = .ok (.bipush 9, 2) := by decide +kernel
theorem dX1_readLeap_86 : decode cX1_readLeap 86 = .ok (.iadd, 1) := by decide +kernel
theorem dX1_readLeap_87 : decode cX1_readLeap 87 = .ok (.goto 5, 3) := by decide +kernel
theorem dX1_readLeap_90 : decode cX1_readLeap 90 = .ok (.iload 4, 2) := by decide +kernel
theorem dX1_readLeap_92 : decode cX1_readLeap 92 = .ok (.iload_n 1, 1) := by decide +kernel
theorem dX1_readLeap_93 : decode cX1_readLeap 93 = .ok (.iload_n 1, 1) := by decide +kernel
theorem dX1_readLeap_94 : decode cX1_readLeap 94 = .ok (.iconst 1, 1) := by decide +kernel
theorem dX1_readLeap_95 : decode cX1_readLeap 95 = .ok (.iadd, 1) := by decide +kernel
theorem dX1_readLeap_96 : decode cX1_readLeap 96 = .ok (.iload_n 1, 1) := by decide +kernel
theorem dX1_readLeap_97 : decode cX1_readLeap 97 = .ok (.invokevirtual 121, 3) := by decide +kernel
theorem dX1_readLeap_100 : decode cX1_readLeap 100 = .ok (.pop, 1) := by decide +kernel
theorem dX1_readLeap_101 : decode cX1_readLeap 101 = .ok (.iload_n 3, 1) := by decide +kernel
theorem dX1_readLeap_102 : decode cX1_readLeap 102 = .ok (.ifCond .eq 8, 3) := by decide +kernel
theorem dX1_readLeap_105 : decode cX1_readLeap 105 = .ok (.aload_n 0, 1) := by decide +kernel
theorem dX1_readLeap_106 : decode cX1_readLeap 106 = .ok (.iload_n 1, 1) := by decide +kernel
theorem dX1_readLeap_107 : decode cX1_readLeap 107 = .ok (.invokevirtual 125, 3) := by decide +kernel
theorem dX1_readLeap_110 : decode cX1_readLeap 110 = .ok (.iload 4, 2) := by decide +kernel
theorem dX1_readLeap_112 : decode cX1_readLeap 112 = .ok (.bipush 8, 2) := by decide +kernel
theorem dX1_readLeap_114 : decode cX1_readLeap 114 = .ok (.if_icmp .ne 24, 3) := by decide +kernel
theorem dX1_readLeap_117 : decode cX1_readLeap 117 = .ok (.aload_n 0, 1) := by decide +kernel
theorem dX1_readLeap_118 : decode cX1_readLeap 118 = .ok (.getfield 12, 3) := by decide +kernel
theorem dX1_readLeap_121 : decode cX1_readLeap 121 = .ok (.iload_n 2, 1) := by decide +kernel
theorem dX1_readLeap_122 : decode cX1_readLeap 122 = .ok (.invokevirtual 67, 3) := by decide +kernel
theorem dX1_readLeap_125 : decode cX1_readLeap 125 = .ok (.aload_n 0, 1) := by decide +kernel
theorem dX1_readLeap_126 : decode cX1_readLeap 126 = .ok (.getfield 12, 3) := by decide +kernel
theorem dX1_readLeap_129 : decode cX1_readLeap 129 = .ok (.dup, 1) := by decide +kernel
theorem dX1_readLeap_130 : decode cX1_readLeap 130 = .ok (.getfield 140, 3) := by decide +kernel
theorem dX1_readLeap_133 : decode cX1_readLeap 133 = .ok (.iconst 1, 1) := by decide +kernel
theorem dX1_readLeap_134 : decode cX1_readLeap 134 = .ok (.iadd, 1) := by decide +kernel
theorem dX1_readLeap_135 : decode cX1_readLeap 135 = .ok (.putfield 140, 3) := by decide +kernel
theorem dX1_readLeap_138 : decode cX1_readLeap 138 = .ok (.iload_n 1, 1) := by decide +kernel
theorem dX1_readLeap_139 : decode cX1_readLeap 139 = .ok (.iconst 1, 1) := by decide +kernel
theorem dX1_readLeap_140 : decode cX1_readLeap 140 = .ok (.iadd, 1) := by decide +kernel
theorem dX1_readLeap_141 : decode cX1_readLeap 141 = .ok (.ireturn, 1) := by decide +kernel
theorem dX1_readAct_0 : decode cX1_readAct 0 = .ok (.aload_n 0, 1) := by decide +kernel
theorem dX1_readAct_1 : decode cX1_readAct 1 = .ok (.iconst 0, 1) := by decide +kernel
theorem dX1_readAct_2 : decode cX1_readAct 2 = .ok (.iload_n 1, 1) := by decide +kernel
theorem dX1_readAct_3 : decode cX1_readAct 3 = .ok (.iload_n 1, 1) := by decide +kernel
theorem dX1_readAct_4 : decode cX1_readAct 4 = .ok (.iconst 1, 1) := by decide +kernel
theorem dX1_readAct_5 : decode cX1_readAct 5 = .ok (.iadd, 1) := by decide +kernel
theorem dX1_readAct_6 : decode cX1_readAct 6 = .ok (.iload_n 1, 1) := by decide +kernel
theorem dX1_readAct_7 : decode cX1_readAct 7 = .ok (.invokevirtual 121, 3) := by decide +kernel
theorem dX1_readAct_10 : decode cX1_readAct 10 = .ok (.pop, 1) := by decide +kernel
theorem dX1_readAct_11 : decode cX1_readAct 11 = .ok (.aload_n 0, 1) := by decide +kernel
theorem dX1_readAct_12 : decode cX1_readAct 12 = .ok (.getfield 12, 3) := by decide +kernel
theorem dX1_readAct_15 : decode cX1_readAct 15 = .ok (.aload_n 0, 1) := by decide +kernel
theorem dX1_readAct_16 : decode cX1_readAct 16 = .ok (.getfield 18, 3) := by decide +kernel
theorem dX1_readAct_19 : decode cX1_readAct 19 = .ok (.getfield 102, 3) := by decide +kernel
theorem dX1_readAct_22 : decode cX1_readAct 22 = .ok (.iload_n 1, 1) := by decide +kernel
theorem dX1_readAct_23 : decode cX1_readAct 23 = .ok (.iaload, 1) := by decide +kernel
theorem dX1_readAct_24 : decode cX1_readAct 24 = .ok (.invokevirtual 67, 3) := by decide +kernel
theorem dX1_readAct_27 : decode cX1_readAct 27 = .ok (.aload_n 0, 1) := by decide +kernel
theorem dX1_readAct_28 : decode cX1_readAct 28 = .ok (.iload_n 1, 1) := by decide +kernel
theorem dX1_readAct_29 : decode cX1_readAct 29 = .ok (.invokevirtual 125, 3) := by decide +kernel
theorem dX1_readAct_32 : decode cX1_readAct 32 = .ok (.iload_n 1, 1) := by decide +kernel
theorem dX1_readAct_33 : decode cX1_readAct 33 = .ok (.iconst 1, 1) := by decide +kernel
theorem dX1_readAct_34 : decode cX1_readAct 34 = .ok (.iadd, 1) := by decide +kernel
theorem dX1_readAct_35 : decode cX1_readAct 35 = .ok (.ireturn, 1) := by decide +kernel
theorem dX1_begin_0 : decode cX1_begin 0 = .ok (.aload_n 0, 1) := by decide +kernel
theorem dX1_begin_1 : decode cX1_begin 1 = .ok (.getfield 12, 3) := by decide +kernel
theorem dX1_begin_4 : decode cX1_begin 4 = .ok (.getfield 89, 3) := by decide +kernel
theorem dX1_begin_7 : decode cX1_begin 7 = .ok (.istore 5, 2) := by decide +kernel
theorem dX1_begin_9 : decode cX1_begin 9 = .ok (.iload 5, 2) := by decide +kernel
theorem dX1_begin_11 : decode cX1_begin 11 = .ok (.bipush 60, 2) := by decide +kernel
theorem dX1_begin_13 : decode cX1_begin 13 = .ok (.if_icmp .lt 5, 3) := by decide +kernel
theorem dX1_begin_16 : decode cX1_begin 16 = .ok (.iconst (-1), 1) := by decide +kernel
theorem dX1_begin_17 : decode cX1_begin 17 = .ok (.ireturn, 1) := by decide +kernel
theorem dX1_begin_18 : decode cX1_begin 18 = .ok (.aload_n 0, 1) := by decide +kernel
theorem dX1_begin_19 : decode cX1_begin 19 = .ok (.getfield 12, 3) := by decide +kernel
theorem dX1_begin_22 : decode cX1_begin 22 = .ok (.getfield 80, 3) := by decide +kernel
theorem dX1_begin_25 : decode cX1_begin 25 = .ok (.iload 5, 2) := by decide +kernel
theorem dX1_begin_27 : decode cX1_begin 27 = .ok (.iload_n 1, 1) := by decide +kernel
theorem dX1_begin_28 : decode cX1_begin 28 = .ok (.iastore, 1) := by decide +kernel
theorem dX1_begin_29 : decode cX1_begin 29 = .ok (.aload_n 0, 1) := by decide +kernel
theorem dX1_begin_30 : decode cX1_begin 30 = .ok (.getfield 12, 3) := by decide +kernel
theorem dX1_begin_33 : decode cX1_begin 33 = .ok (.getfield 118, 3) := by decide +kernel
theorem dX1_begin_36 : decode cX1_begin 36 = .ok (.iload 5, 2) := by decide +kernel
theorem dX1_begin_38 : decode cX1_begin 38 = .ok (.iload_n 2, 1) := by decide +kernel
theorem dX1_begin_39 : decode cX1_begin 39 = .ok (.iastore, 1) := by decide +kernel
theorem dX1_begin_40 : decode cX1_begin 40 = .ok (.aload_n 0, 1) := by decide +kernel
theorem dX1_begin_41 : decode cX1_begin 41 = .ok (.getfield 12, 3) := by decide +kernel
theorem dX1_begin_44 : decode cX1_begin 44 = .ok (.getfield 83, 3) := by decide +kernel
theorem dX1_begin_47 : decode cX1_begin 47 = .ok (.iload 5, 2) := by decide +kernel
theorem dX1_begin_49 : decode cX1_begin 49 = .ok (.iload_n 3, 1) := by decide +kernel
theorem dX1_begin_50 : decode cX1_begin 50 = .ok (.iastore, 1) := by decide +kernel
theorem dX1_begin_51 : decode cX1_begin 51 = .ok (.aload_n 0, 1) := by decide +kernel
theorem dX1_begin_52 : decode cX1_begin 52 = .ok (.getfield 12, 3) := by decide +kernel
theorem dX1_begin_55 : decode cX1_begin 55 = .ok (.getfield 143, 3) := by decide +kernel
theorem dX1_begin_58 : decode cX1_begin 58 = .ok (.iload 5, 2) := by decide +kernel
theorem dX1_begin_60 : decode cX1_begin 60 = .ok (.aload_n 0, 1) := by decide +kernel
theorem dX1_begin_61 : decode cX1_begin 61 = .ok (.getfield 36, 3) := by decide +kernel
theorem dX1_begin_64 : decode cX1_begin 64 = .ok (.aload_n 0, 1) := by decide +kernel
theorem dX1_begin_65 : decode cX1_begin 65 = .ok (.getfield 22, 3) := by decide +kernel
theorem dX1_begin_68 : decode cX1_begin 68 = .ok (.iconst 1, 1) := by decide +kernel
theorem dX1_begin_69 : decode cX1_begin 69 = .ok (.isub, 1) := by decide +kernel
theorem dX1_begin_70 : decode cX1_begin 70 = .ok (.iaload, 1) := by decide +kernel
theorem dX1_begin_71 : decode cX1_begin 71 = .ok (.iastore, 1) := by decide +kernel
theorem dX1_begin_72 : decode cX1_begin 72 = .ok (.aload_n 0, 1) := by decide +kernel
theorem dX1_begin_73 : decode cX1_begin 73 = .ok (.getfield 12, 3) := by decide +kernel
theorem dX1_begin_76 : decode cX1_begin 76 = .ok (.getfield 146, 3) := by decide +kernel
theorem dX1_begin_79 : decode cX1_begin 79 = .ok (.iload 5, 2) := by decide +kernel
theorem dX1_begin_81 : decode cX1_begin 81 = .ok (.aload_n 0, 1) := by decide +kernel
theorem dX1_begin_82 : decode cX1_begin 82 = .ok (.getfield 39, 3) := by decide +kernel
theorem dX1_begin_85 : decode cX1_begin 85 = .ok (.aload_n 0, 1) := by decide +kernel
theorem dX1_begin_86 : decode cX1_begin 86 = .ok (.getfield 22, 3) := by decide +kernel
theorem dX1_begin_89 : decode cX1_begin 89 = .ok (.iconst 1, 1) := by decide +kernel
theorem dX1_begin_90 : decode cX1_begin 90 = .ok (.isub, 1) := by decide +kernel
theorem dX1_begin_91 : decode cX1_begin 91 = .ok (.iaload, 1) := by decide +kernel
theorem dX1_begin_92 : decode cX1_begin 92 = .ok (.iastore, 1) := by decide +kernel
theorem dX1_begin_93 : decode cX1_begin 93 = .ok (.aload_n 0, 1) := by decide +kernel
theorem dX1_begin_94 : decode cX1_begin 94 = .ok (.getfield 12, 3) := by decide +kernel
theorem dX1_begin_97 : decode cX1_begin 97 = .ok (.getfield 86, 3) := by decide +kernel
theorem dX1_begin_100 : decode cX1_begin 100 = .ok (.iload 5, 2) := by decide +kernel
theorem dX1_begin_102 : decode cX1_begin 102 = .ok (.iconst 0, 1) := by decide +kernel
theorem dX1_begin_103 : decode cX1_begin 103 = .ok (.iastore, 1) := by decide +kernel
theorem dX1_begin_104 : decode cX1_begin 104 = .ok (.aload_n 0, 1) := by decide +kernel
theorem dX1_begin_105 : decode cX1_begin 105 = .ok (.getfield 12, 3) := by decide +kernel
theorem dX1_begin_108 : decode cX1_begin 108 = .ok (.getfield 131, 3) := by decide +kernel
theorem dX1_begin_111 : decode cX1_begin 111 = .ok (.iload 4, 2) := by decide +kernel
theorem dX1_begin_113 : decode cX1_begin 113 = .ok (.iload 5, 2) := by decide +kernel
theorem dX1_begin_115 : decode cX1_begin 115 = .ok (.iastore, 1) := by decide +kernel
theorem dX1_begin_116 : decode cX1_begin 116 = .ok (.aload_n 0, 1) := by decide +kernel
theorem dX1_begin_117 : decode cX1_begin 117 = .ok (.getfield 12, 3) := by decide +kernel
theorem dX1_begin_120 : decode cX1_begin 120 = .ok (.iload 5, 2) := by decide +kernel
theorem dX1_begin_122 : decode cX1_begin 122 = .ok (.iconst 1, 1) := by decide +kernel
theorem dX1_begin_123 : decode cX1_begin 123 = .ok (.iadd, 1) := by decide +kernel
theorem dX1_begin_124 : decode cX1_begin 124 = .ok (.putfield 89, 3) := by decide +kernel
theorem dX1_begin_127 : decode cX1_begin 127 = .ok (.aload_n 0, 1) := by decide +kernel
theorem dX1_begin_128 : decode cX1_begin 128 = .ok (.getfield 12, 3) := by decide +kernel
theorem dX1_begin_131 : decode cX1_begin 131 = .ok (.getfield 149, 3) := by decide +kernel
theorem dX1_begin_134 : decode cX1_begin 134 = .ok (.aload_n 0, 1) := by decide +kernel
theorem dX1_begin_135 : decode cX1_begin 135 = .ok (.getfield 42, 3) := by decide +kernel
theorem dX1_begin_138 : decode cX1_begin 138 = .ok (.aload_n 0, 1) := by decide +kernel
theorem dX1_begin_139 : decode cX1_begin 139 = .ok (.getfield 22, 3) := by decide +kernel
theorem dX1_begin_142 : decode cX1_begin 142 = .ok (.iconst 1, 1) := by decide +kernel
theorem dX1_begin_143 : decode cX1_begin 143 = .ok (.isub, 1) := by decide +kernel
theorem dX1_begin_144 : decode cX1_begin 144 = .ok (.iaload, 1) := by decide +kernel
theorem dX1_begin_145 : decode cX1_begin 145 = .ok (.dup2, 1) := by decide +kernel
theorem dX1_begin_146 : decode cX1_begin 146 = .ok (.iaload, 1) := by decide +kernel
theorem dX1_begin_147 : decode cX1_begin 147 = .ok (.iconst 1, 1) := by decide +kernel
theorem dX1_begin_148 : decode cX1_begin 148 = .ok (.iadd, 1) := by decide +kernel
theorem dX1_begin_149 : decode cX1_begin 149 = .ok (.iastore, 1) := by decide +kernel
theorem dX1_begin_150 : decode cX1_begin 150 = .ok (.aload_n 0, 1) := by decide +kernel
theorem dX1_begin_151 : decode cX1_begin 151 = .ok (.getfield 12, 3) := by decide +kernel
theorem dX1_begin_154 : decode cX1_begin 154 = .ok (.iload_n 1, 1) := by decide +kernel
theorem dX1_begin_155 : decode cX1_begin 155 = .ok (.invokevirtual 67, 3) := by decide +kernel
theorem dX1_begin_158 : decode cX1_begin 158 = .ok (.iload 5, 2) := by decide +kernel
theorem dX1_begin_160 : decode cX1_begin 160 = .ok (.ireturn, 1) := by decide +kernel
theorem dX1_wordTest_0 : decode cX1_wordTest 0 = .ok (.aload_n 0, 1) := by decide +kernel
theorem dX1_wordTest_1 : decode cX1_wordTest 1 = .ok (.getfield 12, 3) := by decide +kernel
theorem dX1_wordTest_4 : decode cX1_wordTest 4 = .ok (.aload_n 0, 1) := by decide +kernel
theorem dX1_wordTest_5 : decode cX1_wordTest 5 = .ok (.getfield 18, 3) := by decide +kernel
theorem dX1_wordTest_8 : decode cX1_wordTest 8 = .ok (.getfield 152, 3) := by decide +kernel
theorem dX1_wordTest_11 : decode cX1_wordTest 11 = .ok (.iload_n 1, 1) := by decide +kernel
theorem dX1_wordTest_12 : decode cX1_wordTest 12 = .ok (.iaload, 1) := by decide +kernel
theorem dX1_wordTest_13 : decode cX1_wordTest 13 = .ok (.invokevirtual 67, 3) := by decide +kernel
theorem dX1_wordTest_16 : decode cX1_wordTest 16 = .ok (.aload_n 0, 1) := by decide +kernel
theorem dX1_wordTest_17 : decode cX1_wordTest 17 = .ok (.getfield 12, 3) := by decide +kernel
theorem dX1_wordTest_20 : decode cX1_wordTest 20 = .ok (.aload_n 0, 1) := by decide +kernel
theorem dX1_wordTest_21 : decode cX1_wordTest 21 = .ok (.getfield 18, 3) := by decide +kernel
theorem dX1_wordTest_24 : decode cX1_wordTest 24 = .ok (.getfield 155, 3) := by decide +kernel
theorem dX1_wordTest_27 : decode cX1_wordTest 27 = .ok (.iload_n 1, 1) := by decide +kernel
theorem dX1_wordTest_28 : decode cX1_wordTest 28 = .ok (.iaload, 1) := by decide +kernel
theorem dX1_wordTest_29 : decode cX1_wordTest 29 = .ok (.invokevirtual 67, 3) := by decide +kernel
theorem dX1_wordTest_32 : decode cX1_wordTest 32 = .ok (.return_, 1) := by decide +kernel
theorem dX2_init_0 : decode cX2_init 0 = .ok (.aload_n 0, 1) := by decide +kernel
theorem dX2_init_1 : decode cX2_init 1 = .ok (.invokespecial 3, 3) := by decide +kernel
theorem dX2_init_4 : decode cX2_init 4 = .ok (.aload_n 0, 1) := by decide +kernel
theorem dX2_init_5 : decode cX2_init 5 = .ok (.bipush 60, 2) := by decide +kernel
theorem dX2_init_7 : decode cX2_init 7 = .ok (.newarray .int, 2) := by decide +kernel
theorem dX2_init_9 : decode cX2_init 9 = .ok (.putfield 9, 3) := by decide +kernel
theorem dX2_init_12 : decode cX2_init 12 = .ok (.aload_n 0, 1) := by decide +kernel
theorem dX2_init_13 : decode cX2_init 13 = .ok (.bipush 60, 2) := by decide +kernel
theorem dX2_init_15 : decode cX2_init 15 = .ok (.newarray .int, 2) := by decide +kernel
theorem dX2_init_17 : decode cX2_init 17 = .ok (.putfield 15, 3) := by decide +kernel
theorem dX2_init_20 : decode cX2_init 20 = .ok (.aload_n 0, 1) := by decide +kernel
theorem dX2_init_21 : decode cX2_init 21 = .ok (.bipush 60, 2) := by decide +kernel
theorem dX2_init_23 : decode cX2_init 23 = .ok (.newarray .int, 2) := by decide +kernel
theorem dX2_init_25 : decode cX2_init 25 = .ok (.putfield 18, 3) := by decide +kernel
theorem dX2_init_28 : decode cX2_init 28 = .ok (.aload_n 0, 1) := by decide +kernel
theorem dX2_init_29 : decode cX2_init 29 = .ok (.bipush 60, 2) := by decide +kernel
theorem dX2_init_31 : decode cX2_init 31 = .ok (.newarray .int, 2) := by decide +kernel
theorem dX2_init_33 : decode cX2_init 33 = .ok (.putfield 21, 3) := by decide +kernel
theorem dX2_init_36 : decode cX2_init 36 = .ok (.aload_n 0, 1) := by decide +kernel
theorem dX2_init_37 : decode cX2_init 37 = .ok (.iconst 0, 1) := by decide +kernel
theorem dX2_init_38 : decode cX2_init 38 = .ok (.putfield 24, 3) := by decide +kernel
theorem dX2_init_41 : decode cX2_init 41 = .ok (.aload_n 0, 1) := by decide +kernel
theorem dX2_init_42 : decode cX2_init 42 = .ok (.iconst 1, 1) := by decide +kernel
theorem dX2_init_43 : decode cX2_init 43 = .ok (.putfield 28, 3) := by decide +kernel
theorem dX2_init_46 : decode cX2_init 46 = .ok (.return_, 1) := by decide +kernel
theorem dX2_has_0 : decode cX2_has 0 = .ok (.iload_n 1, 1) := by decide +kernel
theorem dX2_has_1 : decode cX2_has 1 = .ok (.ifCond .lt 15, 3) := by decide +kernel
theorem dX2_has_4 : decode cX2_has 4 = .ok (.iload_n 1, 1) := by decide +kernel
theorem dX2_has_5 : decode cX2_has 5 = .ok (.aload_n 0, 1) := by decide +kernel
theorem dX2_has_6 : decode cX2_has 6 = .ok (.getfield 24, 3) := by decide +kernel
theorem dX2_has_9 : decode cX2_has 9 = .ok (.if_icmp .ge 7, 3) := by decide +kernel
theorem dX2_has_12 : decode cX2_has 12 = .ok (.iconst 1, 1) := by decide +kernel
theorem dX2_has_13 : decode cX2_has 13 = .ok (.goto 4, 3) := by decide +kernel
theorem dX2_has_16 : decode cX2_has 16 = .ok (.iconst 0, 1) := by decide +kernel
theorem dX2_has_17 : decode cX2_has 17 = .ok (.ireturn, 1) := by decide +kernel
theorem dX2_put_0 : decode cX2_put 0 = .ok (.iload_n 1, 1) := by decide +kernel
theorem dX2_put_1 : decode cX2_put 1 = .ok (.ifCond .lt 9, 3) := by decide +kernel
theorem dX2_put_4 : decode cX2_put 4 = .ok (.iload_n 1, 1) := by decide +kernel
theorem dX2_put_5 : decode cX2_put 5 = .ok (.bipush 60, 2) := by decide +kernel
theorem dX2_put_7 : decode cX2_put 7 = .ok (.if_icmp .lt 4, 3) := by decide +kernel
theorem dX2_put_10 : decode cX2_put 10 = .ok (.return_, 1) := by decide +kernel
theorem dX2_put_11 : decode cX2_put 11 = .ok (.aload_n 0, 1) := by decide +kernel
theorem dX2_put_12 : decode cX2_put 12 = .ok (.getfield 9, 3) := by decide +kernel
theorem dX2_put_15 : decode cX2_put 15 = .ok (.iload_n 1, 1) := by decide +kernel
theorem dX2_put_16 : decode cX2_put 16 = .ok (.iload_n 2, 1) := by decide +kernel
theorem dX2_put_17 : decode cX2_put 17 = .ok (.iastore, 1) := by decide +kernel
theorem dX2_put_18 : decode cX2_put 18 = .ok (.aload_n 0, 1) := by decide +kernel
theorem dX2_put_19 : decode cX2_put 19 = .ok (.getfield 15, 3) := by decide +kernel
theorem dX2_put_22 : decode cX2_put 22 = .ok (.iload_n 1, 1) := by decide +kernel
theorem dX2_put_23 : decode cX2_put 23 = .ok (.iload_n 2, 1) := by decide +kernel
theorem dX2_put_24 : decode cX2_put 24 = .ok (.invokestatic 32, 3) := by decide +kernel
theorem dX2_put_27 : decode cX2_put 27 = .ok (.ifCond .eq 7, 3) := by decide +kernel
theorem dX2_put_30 : decode cX2_put 30 = .ok (.iload_n 3, 1) := by decide +kernel
theorem dX2_put_31 : decode cX2_put 31 = .ok (.goto 4, 3) := by decide +kernel
theorem dX2_put_34 : decode cX2_put 34 = .ok (.iconst 0, 1) := by decide +kernel
theorem dX2_put_35 : decode cX2_put 35 = .ok (.iastore, 1) := by decide +kernel
theorem dX2_put_36 : decode cX2_put 36 = .ok (.aload_n 0, 1) := by decide +kernel
theorem dX2_put_37 : decode cX2_put 37 = .ok (.getfield 18, 3) := by decide +kernel
theorem dX2_put_40 : decode cX2_put 40 = .ok (.iload_n 1, 1) := by decide +kernel
theorem dX2_put_41 : decode cX2_put 41 = .ok (.iload_n 2, 1) := by decide +kernel
theorem dX2_put_42 : decode cX2_put 42 = .ok (.invokestatic 36, 3) := by decide +kernel
theorem dX2_put_45 : decode cX2_put 45 = .ok (.ifCond .eq 8, 3) := by decide +kernel
theorem dX2_put_48 : decode cX2_put 48 = .ok (.iload 4, 2) := by decide +kernel
theorem dX2_put_50 : decode cX2_put 50 = .ok (.goto 4, 3) := by decide +kernel
theorem dX2_put_53 : decode cX2_put 53 = .ok (.iconst 0, 1) := by decide +kernel
theorem dX2_put_54 : decode cX2_put 54 = .ok (.iastore, 1) := by decide +kernel
theorem dX2_put_55 : decode cX2_put 55 = .ok (.aload_n 0, 1) := by decide +kernel
theorem dX2_put_56 : decode cX2_put 56 = .ok (.getfield 21, 3) := by decide +kernel
theorem dX2_put_59 : decode cX2_put 59 = .ok (.iload_n 1, 1) := by decide +kernel
theorem dX2_put_60 : decode cX2_put 60 = .ok (.iload_n 2, 1) := by decide +kernel
theorem dX2_put_61 : decode cX2_put 61 = .ok (.invokestatic 39, 3) := by decide +kernel
theorem dX2_put_64 : decode cX2_put 64 = .ok (.ifCond .eq 8, 3) := by decide +kernel
theorem dX2_put_67 : decode cX2_put 67 = .ok (.iload 5, 2) := by decide +kernel
theorem dX2_put_69 : decode cX2_put 69 = .ok (.goto 4, 3) := by decide +kernel
theorem dX2_put_72 : decode cX2_put 72 = .ok (.iconst 0, 1) := by decide +kernel
theorem dX2_put_73 : decode cX2_put 73 = .ok (.iastore, 1) := by decide +kernel
theorem dX2_put_74 : decode cX2_put 74 = .ok (.return_, 1) := by decide +kernel
theorem dX2_judgeWhole_0 : decode cX2_judgeWhole 0 = .ok (.aload_n 0, 1) := by decide +kernel
theorem dX2_judgeWhole_1 : decode cX2_judgeWhole 1 = .ok (.iconst 1, 1) := by decide +kernel
theorem dX2_judgeWhole_2 : decode cX2_judgeWhole 2 = .ok (.putfield 28, 3) := by decide +kernel
theorem dX2_judgeWhole_5 : decode cX2_judgeWhole 5 = .ok (.iconst 0, 1) := by decide +kernel
theorem dX2_judgeWhole_6 : decode cX2_judgeWhole 6 = .ok (.istore_n 1, 1) := by decide +kernel
theorem dX2_judgeWhole_7 : decode cX2_judgeWhole 7 = .ok (.iload_n 1, 1) := by decide +kernel
theorem dX2_judgeWhole_8 : decode cX2_judgeWhole 8 = .ok (.aload_n 0, 1) := by decide +kernel
theorem dX2_judgeWhole_9 : decode cX2_judgeWhole 9 = .ok (.getfield 24, 3) := by decide +kernel
theorem dX2_judgeWhole_12 : decode cX2_judgeWhole 12 = .ok (.if_icmp .ge 27, 3) := by decide +kernel
theorem dX2_judgeWhole_15 : decode cX2_judgeWhole 15 = .ok (.aload_n 0, 1) := by decide +kernel
theorem dX2_judgeWhole_16 : decode cX2_judgeWhole 16 = .ok (.getfield 21, 3) := by decide +kernel
theorem dX2_judgeWhole_19 : decode cX2_judgeWhole 19 = .ok (.iload_n 1, 1) := by decide +kernel
theorem dX2_judgeWhole_20 : decode cX2_judgeWhole 20 = .ok (.iaload, 1) := by decide +kernel
theorem dX2_judgeWhole_21 : decode cX2_judgeWhole 21 = .ok (.aload_n 0, 1) := by decide +kernel
theorem dX2_judgeWhole_22 : decode cX2_judgeWhole 22 = .ok (.getfield 24, 3) := by decide +kernel
theorem dX2_judgeWhole_25 : decode cX2_judgeWhole 25 = .ok (.if_icmp .le 8, 3) := by decide +kernel
theorem dX2_judgeWhole_28 : decode cX2_judgeWhole 28 = .ok (.aload_n 0, 1) := by decide +kernel
theorem dX2_judgeWhole_29 : decode cX2_judgeWhole 29 = .ok (.iconst 0, 1) := by decide +kernel
theorem dX2_judgeWhole_30 : decode cX2_judgeWhole 30 = .ok (.putfield 28, 3) := by decide +kernel
theorem dX2_judgeWhole_33 : decode cX2_judgeWhole 33 = .ok (.iinc 1 1, 3) := by decide +kernel
theorem dX2_judgeWhole_36 : decode cX2_judgeWhole 36 = .ok (.goto (-29), 3) := by decide +kernel
theorem dX2_judgeWhole_39 : decode cX2_judgeWhole 39 = .ok (.return_, 1) := by decide +kernel
theorem dX2_takeOver_0 : decode cX2_takeOver 0 = .ok (.aload_n 0, 1) := by decide +kernel
theorem dX2_takeOver_1 : decode cX2_takeOver 1 = .ok (.aload_n 1, 1) := by decide +kernel
theorem dX2_takeOver_2 : decode cX2_takeOver 2 = .ok (.getfield 24, 3) := by decide +kernel
theorem dX2_takeOver_5 : decode cX2_takeOver 5 = .ok (.putfield 24, 3) := by decide +kernel
theorem dX2_takeOver_8 : decode cX2_takeOver 8 = .ok (.iconst 0, 1) := by decide +kernel
theorem dX2_takeOver_9 : decode cX2_takeOver 9 = .ok (.istore_n 2, 1) := by decide +kernel
theorem dX2_takeOver_10 : decode cX2_takeOver 10 = .ok (.iload_n 2, 1) := by decide +kernel
theorem dX2_takeOver_11 : decode cX2_takeOver 11 = .ok (.aload_n 0, 1) := by decide +kernel
theorem dX2_takeOver_12 : decode cX2_takeOver 12 = .ok (.getfield 24, 3) := by decide +kernel
theorem dX2_takeOver_15 : decode cX2_takeOver 15 = .ok (.if_icmp .ge 38, 3) := by decide +kernel
theorem dX2_takeOver_18 : decode cX2_takeOver 18 = .ok (.aload_n 0, 1) := by decide +kernel
theorem dX2_takeOver_19 : decode cX2_takeOver 19 = .ok (.iload_n 2, 1) := by decide +kernel
theorem dX2_takeOver_20 : decode cX2_takeOver 20 = .ok (.aload_n 1, 1) := by decide +kernel
theorem dX2_takeOver_21 : decode cX2_takeOver 21 = .ok (.getfield 9, 3) := by decide +kernel
theorem dX2_takeOver_24 : decode cX2_takeOver 24 = .ok (.iload_n 2, 1) := by decide +kernel
theorem dX2_takeOver_25 : decode cX2_takeOver 25 = .ok (.iaload, 1) := by decide +kernel
theorem dX2_takeOver_26 : decode cX2_takeOver 26 = .ok (.aload_n 1, 1) := by decide +kernel
theorem dX2_takeOver_27 : decode cX2_takeOver 27 = .ok (.getfield 15, 3) := by decide +kernel
theorem dX2_takeOver_30 : decode cX2_takeOver 30 = .ok (.iload_n 2, 1) := by decide +kernel
theorem dX2_takeOver_31 : decode cX2_takeOver 31 = .ok (.iaload, 1) := by decide +kernel
theorem dX2_takeOver_32 : decode cX2_takeOver 32 = .ok (.aload_n 1, 1) := by decide +kernel
theorem dX2_takeOver_33 : decode cX2_takeOver 33 = .ok (.getfield 18, 3) := by decide +kernel
theorem dX2_takeOver_36 : decode cX2_takeOver 36 = .ok (.iload_n 2, 1) := by decide +kernel
theorem dX2_takeOver_37 : decode cX2_takeOver 37 = .ok (.iaload, 1) := by decide +kernel
theorem dX2_takeOver_38 : decode cX2_takeOver 38 = .ok (.aload_n 1, 1) := by decide +kernel
theorem dX2_takeOver_39 : decode cX2_takeOver 39 = .ok (.getfield 21, 3) := by decide +kernel
theorem dX2_takeOver_42 : decode cX2_takeOver 42 = .ok (.iload_n 2, 1) := by decide +kernel
theorem dX2_takeOver_43 : decode cX2_takeOver 43 = .ok (.iaload, 1) := by decide +kernel
theorem dX2_takeOver_44 : decode cX2_takeOver 44 = .ok (.invokevirtual 42, 3) := by decide +kernel
theorem dX2_takeOver_47 : decode cX2_takeOver 47 = .ok (.iinc 2 1, 3) := by decide +kernel
theorem dX2_takeOver_50 : decode cX2_takeOver 50 = .ok (.goto (-40), 3) := by decide +kernel
theorem dX2_takeOver_53 : decode cX2_takeOver 53 = .ok (.aload_n 0, 1) := by decide +kernel
theorem dX2_takeOver_54 : decode cX2_takeOver 54 = .ok (.invokevirtual 46, 3) := by decide +kernel
theorem dX2_takeOver_57 : decode cX2_takeOver 57 = .ok (.return_, 1) := by decide +kernel
theorem dX2_isAlike_0 : decode cX2_isAlike 0 = .ok (.aload_n 0, 1) := by decide +kernel
theorem dX2_isAlike_1 : decode cX2_isAlike 1 = .ok (.getfield 24, 3) := by decide +kernel
theorem dX2_isAlike_4 : decode cX2_isAlike 4 = .ok (.aload_n 1, 1) := by decide +kernel
theorem dX2_isAlike_5 : decode cX2_isAlike 5 = .ok (.getfield 24, 3) := by decide +kernel
theorem dX2_isAlike_8 : decode cX2_isAlike 8 = .ok (.if_icmp .eq 5, 3) := by decide +kernel
theorem dX2_isAlike_11 : decode cX2_isAlike 11 = .ok (.iconst 0, 1) := by decide +kernel
theorem dX2_isAlike_12 : decode cX2_isAlike 12 = .ok (.ireturn, 1) := by decide +kernel
theorem dX2_isAlike_13 : decode cX2_isAlike 13 = .ok (.iconst 0, 1) := by decide +kernel
theorem dX2_isAlike_14 : decode cX2_isAlike 14 = .ok (.istore_n 2, 1) := by decide +kernel
theorem dX2_isAlike_15 : decode cX2_isAlike 15 = .ok (.iload_n 2, 1) := by decide +kernel
theorem dX2_isAlike_16 : decode cX2_isAlike 16 = .ok (.aload_n 0, 1) := by decide +kernel
theorem dX2_isAlike_17 : decode cX2_isAlike 17 = .ok (.getfield 24, 3) := by decide +kernel
theorem dX2_isAlike_20 : decode cX2_isAlike 20 = .ok (.if_icmp .ge 71, 3) := by decide +kernel
theorem dX2_isAlike_23 : decode cX2_isAlike 23 = .ok (.aload_n 0, 1) := by decide +kernel
theorem dX2_isAlike_24 : decode cX2_isAlike 24 = .ok (.getfield 9, 3) := by decide +kernel
theorem dX2_isAlike_27 : decode cX2_isAlike 27 = .ok (.iload_n 2, 1) := by decide +kernel
theorem dX2_isAlike_28 : decode cX2_isAlike 28 = .ok (.iaload, 1) := by decide +kernel
theorem dX2_isAlike_29 : decode cX2_isAlike 29 = .ok (.aload_n 1, 1) := by decide +kernel
theorem dX2_isAlike_30 : decode cX2_isAlike 30 = .ok (.getfield 9, 3) := by decide +kernel
theorem dX2_isAlike_33 : decode cX2_isAlike 33 = .ok (.iload_n 2, 1) := by decide +kernel
theorem dX2_isAlike_34 : decode cX2_isAlike 34 = .ok (.iaload, 1) := by decide +kernel
theorem dX2_isAlike_35 : decode cX2_isAlike 35 = .ok (.if_icmp .ne 48, 3) := by decide +kernel
theorem dX2_isAlike_38 : decode cX2_isAlike 38 = .ok (.aload_n 0, 1) := by decide +kernel
theorem dX2_isAlike_39 : decode cX2_isAlike 39 = .ok (.getfield 15, 3) := by decide +kernel
theorem dX2_isAlike_42 : decode cX2_isAlike 42 = .ok (.iload_n 2, 1) := by decide +kernel
theorem dX2_isAlike_43 : decode cX2_isAlike 43 = .ok (.iaload, 1) := by decide +kernel
theorem dX2_isAlike_44 : decode cX2_isAlike 44 = .ok (.aload_n 1, 1) := by decide +kernel
theorem dX2_isAlike_45 : decode cX2_isAlike 45 = .ok (.getfield 15, 3) := by decide +kernel
theorem dX2_isAlike_48 : decode cX2_isAlike 48 = .ok (.iload_n 2, 1) := by decide +kernel
theorem dX2_isAlike_49 : decode cX2_isAlike 49 = .ok (.iaload, 1) := by decide +kernel
theorem dX2_isAlike_50 : decode cX2_isAlike 50 = .ok (.if_icmp .ne 33, 3) := by decide +kernel
theorem dX2_isAlike_53 : decode cX2_isAlike 53 = .ok (.aload_n 0, 1) := by decide +kernel
theorem dX2_isAlike_54 : decode cX2_isAlike 54 = .ok (.getfield 18, 3) := by decide +kernel
theorem dX2_isAlike_57 : decode cX2_isAlike 57 = .ok (.iload_n 2, 1) := by decide +kernel
theorem dX2_isAlike_58 : decode cX2_isAlike 58 = .ok (.iaload, 1) := by decide +kernel
theorem dX2_isAlike_59 : decode cX2_isAlike 59 = .ok (.aload_n 1, 1) := by decide +kernel
theorem dX2_isAlike_60 : decode cX2_isAlike 60 = .ok (.getfield 18, 3) := by decide +kernel
theorem dX2_isAlike_63 : decode cX2_isAlike 63 = .ok (.iload_n 2, 1) := by decide +kernel
theorem dX2_isAlike_64 : decode cX2_isAlike 64 = .ok (.iaload, 1) := by decide +kernel
theorem dX2_isAlike_65 : decode cX2_isAlike 65 = .ok (.if_icmp .ne 18, 3) := by decide +kernel
theorem dX2_isAlike_68 : decode cX2_isAlike 68 = .ok (.aload_n 0, 1) := by decide +kernel
theorem dX2_isAlike_69 : decode cX2_isAlike 69 = .ok (.getfield 21, 3) := by decide +kernel
theorem dX2_isAlike_72 : decode cX2_isAlike 72 = .ok (.iload_n 2, 1) := by decide +kernel
theorem dX2_isAlike_73 : decode cX2_isAlike 73 = .ok (.iaload, 1) := by decide +kernel
theorem dX2_isAlike_74 : decode cX2_isAlike 74 = .ok (.aload_n 1, 1) := by decide +kernel
theorem dX2_isAlike_75 : decode cX2_isAlike 75 = .ok (.getfield 21, 3) := by decide +kernel
theorem dX2_isAlike_78 : decode cX2_isAlike 78 = .ok (.iload_n 2, 1) := by decide +kernel
theorem dX2_isAlike_79 : decode cX2_isAlike 79 = .ok (.iaload, 1) := by decide +kernel
theorem dX2_isAlike_80 : decode cX2_isAlike 80 = .ok (.if_icmp .eq 5, 3) := by decide +kernel
theorem dX2_isAlike_83 : decode cX2_isAlike 83 = .ok (.iconst 0, 1) := by decide +kernel
theorem dX2_isAlike_84 : decode cX2_isAlike 84 = .ok (.ireturn, 1) := by decide +kernel
theorem dX2_isAlike_85 : decode cX2_isAlike 85 = .ok (.iinc 2 1, 3) := by decide +kernel
theorem dX2_isAlike_88 : decode cX2_isAlike 88 = .ok (.goto (-73), 3) := by decide +kernel
theorem dX2_isAlike_91 : decode cX2_isAlike 91 = .ok (.iconst 1, 1) := by decide +kernel
theorem dX2_isAlike_92 : decode cX2_isAlike 92 = .ok (.ireturn, 1) := by decide +kernel
theorem dX2_hasCallOf_0 : decode cX2_hasCallOf 0 = .ok (.iconst 0, 1) := by decide +kernel
theorem dX2_hasCallOf_1 : decode cX2_hasCallOf 1 = .ok (.istore_n 2, 1) := by decide +kernel
theorem dX2_hasCallOf_2 : decode cX2_hasCallOf 2 = .ok (.iload_n 2, 1) := by decide +kernel
theorem dX2_hasCallOf_3 : decode cX2_hasCallOf 3 = .ok (.aload_n 0, 1) := by decide +kernel
theorem dX2_hasCallOf_4 : decode cX2_hasCallOf 4 = .ok (.getfield 24, 3) := by decide +kernel
theorem dX2_hasCallOf_7 : decode cX2_hasCallOf 7 = .ok (.if_icmp .ge 31, 3) := by decide +kernel
theorem dX2_hasCallOf_10 : decode cX2_hasCallOf 10 = .ok (.aload_n 0, 1) := by decide +kernel
theorem dX2_hasCallOf_11 : decode cX2_hasCallOf 11 = .ok (.getfield 9, 3) := by decide +kernel
theorem dX2_hasCallOf_14 : decode cX2_hasCallOf 14 = .ok (.iload_n 2, 1) := by decide +kernel
theorem dX2_hasCallOf_15 : decode cX2_hasCallOf 15 = .ok (.iaload, 1) := by decide +kernel
theorem dX2_hasCallOf_16 : decode cX2_hasCallOf 16 = .ok (.iconst 5, 1) := by decide +kernel
theorem dX2_hasCallOf_17 : decode cX2_hasCallOf 17 = .ok (.if_icmp .ne 15, 3) := by decide +kernel
theorem dX2_hasCallOf_20 : decode cX2_hasCallOf 20 = .ok (.aload_n 0, 1) := by decide +kernel
theorem dX2_hasCallOf_21 : decode cX2_hasCallOf 21 = .ok (.getfield 15, 3) := by decide +kernel
theorem dX2_hasCallOf_24 : decode cX2_hasCallOf 24 = .ok (.iload_n 2, 1) := by decide +kernel
theorem dX2_hasCallOf_25 : decode cX2_hasCallOf 25 = .ok (.iaload, 1) := by decide +kernel
theorem dX2_hasCallOf_26 : decode cX2_hasCallOf 26 = .ok (.iload_n 1, 1) := by decide +kernel
theorem dX2_hasCallOf_27 : decode cX2_hasCallOf 27 = .ok (.if_icmp .ne 5, 3) := by decide +kernel
theorem dX2_hasCallOf_30 : decode cX2_hasCallOf 30 = .ok (.iconst 1, 1) := by decide +kernel
theorem dX2_hasCallOf_31 : decode cX2_hasCallOf 31 = .ok (.ireturn, 1) := by decide +kernel
theorem dX2_hasCallOf_32 : decode cX2_hasCallOf 32 = .ok (.iinc 2 1, 3) := by decide +kernel
theorem dX2_hasCallOf_35 : decode cX2_hasCallOf 35 = .ok (.goto (-33), 3) := by decide +kernel
theorem dX2_hasCallOf_38 : decode cX2_hasCallOf 38 = .ok (.iconst 0, 1) := by decide +kernel
theorem dX2_hasCallOf_39 : decode cX2_hasCallOf 39 = .ok (.ireturn, 1) := by decide +kernel
theorem dX2_lastJumpTo_0 : decode cX2_lastJumpTo 0 = .ok (.iload_n 2, 1) := by decide +kernel
theorem dX2_lastJumpTo_1 : decode cX2_lastJumpTo 1 = .ok (.iconst 1, 1) := by decide +kernel
theorem dX2_lastJumpTo_2 : decode cX2_lastJumpTo 2 = .ok (.isub, 1) := by decide +kernel
theorem dX2_lastJumpTo_3 : decode cX2_lastJumpTo 3 = .ok (.istore_n 3, 1) := by decide +kernel
theorem dX2_lastJumpTo_4 : decode cX2_lastJumpTo 4 = .ok (.iload_n 3, 1) := by decide +kernel
theorem dX2_lastJumpTo_5 : decode cX2_lastJumpTo 5 = .ok (.iload_n 1, 1) := by decide +kernel
theorem dX2_lastJumpTo_6 : decode cX2_lastJumpTo 6 = .ok (.if_icmp .lt 33, 3) := by decide +kernel
theorem dX2_lastJumpTo_9 : decode cX2_lastJumpTo 9 = .ok (.aload_n 0, 1) := by decide +kernel
theorem dX2_lastJumpTo_10 : decode cX2_lastJumpTo 10 = .ok (.getfield 9, 3) := by decide +kernel
theorem dX2_lastJumpTo_13 : decode cX2_lastJumpTo 13 = .ok (.iload_n 3, 1) := by decide +kernel
theorem dX2_lastJumpTo_14 : decode cX2_lastJumpTo 14 = .ok (.iaload, 1) := by decide +kernel
theorem dX2_lastJumpTo_15 : decode cX2_lastJumpTo 15 = .ok (.invokestatic 39, 3) := by decide +kernel
theorem dX2_lastJumpTo_18 : decode cX2_lastJumpTo 18 = .ok (.ifCond .eq 15, 3) := by decide +kernel
theorem dX2_lastJumpTo_21 : decode cX2_lastJumpTo 21 = .ok (.aload_n 0, 1) := by decide +kernel
theorem dX2_lastJumpTo_22 : decode cX2_lastJumpTo 22 = .ok (.getfield 21, 3) := by decide +kernel
theorem dX2_lastJumpTo_25 : decode cX2_lastJumpTo 25 = .ok (.iload_n 3, 1) := by decide +kernel
theorem dX2_lastJumpTo_26 : decode cX2_lastJumpTo 26 = .ok (.iaload, 1) := by decide +kernel
theorem dX2_lastJumpTo_27 : decode cX2_lastJumpTo 27 = .ok (.iload_n 1, 1) := by decide +kernel
theorem dX2_lastJumpTo_28 : decode cX2_lastJumpTo 28 = .ok (.if_icmp .ne 5, 3) := by decide +kernel
theorem dX2_lastJumpTo_31 : decode cX2_lastJumpTo 31 = .ok (.iload_n 3, 1) := by decide +kernel
theorem dX2_lastJumpTo_32 : decode cX2_lastJumpTo 32 = .ok (.ireturn, 1) := by decide +kernel
theorem dX2_lastJumpTo_33 : decode cX2_lastJumpTo 33 = .ok (.iinc 3 (-1), 3) := by decide +kernel
theorem dX2_lastJumpTo_36 : decode cX2_lastJumpTo 36 = .ok (.goto (-32), 3) := by decide +kernel
theorem dX2_lastJumpTo_39 : decode cX2_lastJumpTo 39 = .ok (.iconst (-1), 1) := by decide +kernel
theorem dX2_lastJumpTo_40 : decode cX2_lastJumpTo 40 = .ok (.ireturn, 1) := by decide +kernel
theorem dX3_init_0 : decode cX3_init 0 = .ok (.aload_n 0, 1) := by decide +kernel
theorem dX3_init_1 : decode cX3_init 1 = .ok (.invokespecial 3, 3) := by decide +kernel
theorem dX3_init_4 : decode cX3_init 4 = .ok (.aload_n 0, 1) := by decide +kernel
theorem dX3_init_5 : decode cX3_init 5 = .ok (.iconst 0, 1) := by decide +kernel
theorem dX3_init_6 : decode cX3_init 6 = .ok (.putfield 9, 3) := by decide +kernel
theorem dX3_init_9 : decode cX3_init 9 = .ok (.aload_n 0, 1) := by decide +kernel
theorem dX3_init_10 : decode cX3_init 10 = .ok (.iconst 0, 1) := by decide +kernel
theorem dX3_init_11 : decode cX3_init 11 = .ok (.putfield 15, 3) := by decide +kernel
theorem dX3_init_14 : decode cX3_init 14 = .ok (.aload_n 0, 1) := by decide +kernel
theorem dX3_init_15 : decode cX3_init 15 = .ok (.iconst 0, 1) := by decide +kernel
theorem dX3_init_16 : decode cX3_init 16 = .ok (.putfield 18, 3) := by decide +kernel
theorem dX3_init_19 : decode cX3_init 19 = .ok (.aload_n 0, 1) := by decide +kernel
theorem dX3_init_20 : decode cX3_init 20 = .ok (.sipush 200, 3) := by decide +kernel
theorem dX3_init_23 : decode cX3_init 23 = .ok (.newarray .int, 2) := by decide +kernel
theorem dX3_init_25 : decode cX3_init 25 = .ok (.putfield 21, 3) := by decide +kernel
theorem dX3_init_28 : decode cX3_init 28 = .ok (.aload_n 0, 1) := by decide +kernel
theorem dX3_init_29 : decode cX3_init 29 = .ok (.iconst 4, 1) := by decide +kernel
theorem dX3_init_30 : decode cX3_init 30 = .ok (.newarray .int, 2) := by decide +kernel
theorem dX3_init_32 : decode cX3_init 32 = .ok (.putfield 25, 3) := by decide +kernel
theorem dX3_init_35 : decode cX3_init 35 = .ok (.aload_n 0, 1) := by decide +kernel
theorem dX3_init_36 : decode cX3_init 36 = .ok (.iconst 0, 1) := by decide +kernel
theorem dX3_init_37 : decode cX3_init 37 = .ok (.putfield 28, 3) := by decide +kernel
theorem dX3_init_40 : decode cX3_init 40 = .ok (.aload_n 0, 1) := by decide +kernel
theorem dX3_init_41 : decode cX3_init 41 = .ok (.bipush 8, 2) := by decide +kernel
theorem dX3_init_43 : decode cX3_init 43 = .ok (.anewarray 31, 3) := by decide +kernel
theorem dX3_init_46 : decode cX3_init 46 = .ok (.putfield 33, 3) := by decide +kernel
theorem dX3_init_49 : decode cX3_init 49 = .ok (.aload_n 0, 1) := by decide +kernel
theorem dX3_init_50 : decode cX3_init 50 = .ok (.bipush 8, 2) := by decide +kernel
theorem dX3_init_52 : decode cX3_init 52 = .ok (.newarray .int, 2) := by decide +kernel
theorem dX3_init_54 : decode cX3_init 54 = .ok (.putfield 37, 3) := by decide +kernel
theorem dX3_init_57 : decode cX3_init 57 = .ok (.return_, 1) := by decide +kernel
theorem dX3_start_0 : decode cX3_start 0 = .ok (.aload_n 0, 1) := by decide +kernel
theorem dX3_start_1 : decode cX3_start 1 = .ok (.iconst 0, 1) := by decide +kernel
theorem dX3_start_2 : decode cX3_start 2 = .ok (.putfield 9, 3) := by decide +kernel
theorem dX3_start_5 : decode cX3_start 5 = .ok (.aload_n 0, 1) := by decide +kernel
theorem dX3_start_6 : decode cX3_start 6 = .ok (.iconst 0, 1) := by decide +kernel
theorem dX3_start_7 : decode cX3_start 7 = .ok (.putfield 15, 3) := by decide +kernel
theorem dX3_start_10 : decode cX3_start 10 = .ok (.aload_n 0, 1) := by decide +kernel
theorem dX3_start_11 : decode cX3_start 11 = .ok (.iconst 0, 1) := by decide +kernel
theorem dX3_start_12 : decode cX3_start 12 = .ok (.putfield 18, 3) := by decide +kernel
theorem dX3_start_15 : decode cX3_start 15 = .ok (.aload_n 3, 1) := by decide +kernel
theorem dX3_start_16 : decode cX3_start 16 = .ok (.iconst 0, 1) := by decide +kernel
theorem dX3_start_17 : decode cX3_start 17 = .ok (.aload_n 0, 1) := by decide +kernel
theorem dX3_start_18 : decode cX3_start 18 = .ok (.getfield 25, 3) := by decide +kernel
theorem dX3_start_21 : decode cX3_start 21 = .ok (.iconst 0, 1) := by decide +kernel
theorem dX3_start_22 : decode cX3_start 22 = .ok (.iconst 4, 1) := by decide +kernel
theorem dX3_start_23 : decode cX3_start 23 = .ok (.invokestatic 40, 3) := by decide +kernel
theorem dX3_start_26 : decode cX3_start 26 = .ok (.aload_n 0, 1) := by decide +kernel
theorem dX3_start_27 : decode cX3_start 27 = .ok (.iconst 0, 1) := by decide +kernel
theorem dX3_start_28 : decode cX3_start 28 = .ok (.putfield 28, 3) := by decide +kernel
theorem dX3_start_31 : decode cX3_start 31 = .ok (.aload_n 0, 1) := by decide +kernel
theorem dX3_start_32 : decode cX3_start 32 = .ok (.aload_n 2, 1) := by decide +kernel
theorem dX3_start_33 : decode cX3_start 33 = .ok (.invokevirtual 46, 3) := by decide +kernel
theorem dX3_start_36 : decode cX3_start 36 = .ok (.iconst (-1), 1) := by decide +kernel
theorem dX3_start_37 : decode cX3_start 37 = .ok (.istore 5, 2) := by decide +kernel
theorem dX3_start_39 : decode cX3_start 39 = .ok (.iconst 0, 1) := by decide +kernel
theorem dX3_start_40 : decode cX3_start 40 = .ok (.istore 6, 2) := by decide +kernel
theorem dX3_start_42 : decode cX3_start 42 = .ok (.iload 6, 2) := by decide +kernel
theorem dX3_start_44 : decode cX3_start 44 = .ok (.sipush 20003, 3) := by decide +kernel
theorem dX3_start_47 : decode cX3_start 47 = .ok (.if_icmp .ge 24, 3) := by decide +kernel
theorem dX3_start_50 : decode cX3_start 50 = .ok (.iload 5, 2) := by decide +kernel
theorem dX3_start_52 : decode cX3_start 52 = .ok (.iconst (-1), 1) := by decide +kernel
theorem dX3_start_53 : decode cX3_start 53 = .ok (.if_icmp .ne 18, 3) := by decide +kernel
theorem dX3_start_56 : decode cX3_start 56 = .ok (.aload_n 0, 1) := by decide +kernel
theorem dX3_start_57 : decode cX3_start 57 = .ok (.aload_n 1, 1) := by decide +kernel
theorem dX3_start_58 : decode cX3_start 58 = .ok (.iload 4, 2) := by decide +kernel
theorem dX3_start_60 : decode cX3_start 60 = .ok (.invokevirtual 50, 3) := by decide +kernel
theorem dX3_start_63 : decode cX3_start 63 = .ok (.istore 5, 2) := by decide +kernel
theorem dX3_start_65 : decode cX3_start 65 = .ok (.iinc 6 1, 3) := by decide +kernel
theorem dX3_start_68 : decode cX3_start 68 = .ok (.goto (-26), 3) := by decide +kernel
theorem dX3_start_71 : decode cX3_start 71 = .ok (.iload 5, 2) := by decide +kernel
theorem dX3_start_73 : decode cX3_start 73 = .ok (.ireturn, 1) := by decide +kernel
theorem dX3_enter_0 : decode cX3_enter 0 = .ok (.aload_n 0, 1) := by decide +kernel
theorem dX3_enter_1 : decode cX3_enter 1 = .ok (.getfield 33, 3) := by decide +kernel
theorem dX3_enter_4 : decode cX3_enter 4 = .ok (.aload_n 0, 1) := by decide +kernel
theorem dX3_enter_5 : decode cX3_enter 5 = .ok (.getfield 28, 3) := by decide +kernel
theorem dX3_enter_8 : decode cX3_enter 8 = .ok (.aload_n 1, 1) := by decide +kernel
theorem dX3_enter_9 : decode cX3_enter 9 = .ok (.aastore, 1) := by decide +kernel
theorem dX3_enter_10 : decode cX3_enter 10 = .ok (.aload_n 0, 1) := by decide +kernel
theorem dX3_enter_11 : decode cX3_enter 11 = .ok (.getfield 37, 3) := by decide +kernel
theorem dX3_enter_14 : decode cX3_enter 14 = .ok (.aload_n 0, 1) := by decide +kernel
theorem dX3_enter_15 : decode cX3_enter 15 = .ok (.getfield 28, 3) := by decide +kernel
theorem dX3_enter_18 : decode cX3_enter 18 = .ok (.iconst 0, 1) := by decide +kernel
theorem dX3_enter_19 : decode cX3_enter 19 = .ok (.iastore, 1) := by decide +kernel
theorem dX3_enter_20 : decode cX3_enter 20 = .ok (.aload_n 0, 1) := by decide +kernel
theorem dX3_enter_21 : decode cX3_enter 21 = .ok (.dup, 1) := by decide +kernel
theorem dX3_enter_22 : decode cX3_enter 22 = .ok (.getfield 28, 3) := by decide +kernel
theorem dX3_enter_25 : decode cX3_enter 25 = .ok (.iconst 1, 1) := by decide +kernel
theorem dX3_enter_26 : decode cX3_enter 26 = .ok (.iadd, 1) := by decide +kernel
theorem dX3_enter_27 : decode cX3_enter 27 = .ok (.putfield 28, 3) := by decide +kernel
theorem dX3_enter_30 : decode cX3_enter 30 = .ok (.aload_n 0, 1) := by decide +kernel
theorem dX3_enter_31 : decode cX3_enter 31 = .ok (.dup, 1) := by decide +kernel
theorem dX3_enter_32 : decode cX3_enter 32 = .ok (.getfield 15, 3) := by decide +kernel
theorem dX3_enter_35 : decode cX3_enter 35 = .ok (.iconst 1, 1) := by decide +kernel
theorem dX3_enter_36 : decode cX3_enter 36 = .ok (.iadd, 1) := by decide +kernel
theorem dX3_enter_37 : decode cX3_enter 37 = .ok (.putfield 15, 3) := by decide +kernel
theorem dX3_enter_40 : decode cX3_enter 40 = .ok (.return_, 1) := by decide +kernel
theorem dX3_turn_0 : decode cX3_turn 0 = .ok (.aload_n 0, 1) := by decide +kernel
theorem dX3_turn_1 : decode cX3_turn 1 = .ok (.getfield 28, 3) := by decide +kernel
theorem dX3_turn_4 : decode cX3_turn 4 = .ok (.ifCond .ne 5, 3) := by decide +kernel
theorem dX3_turn_7 : decode cX3_turn 7 = .ok (.iconst 0, 1) := by decide +kernel
theorem dX3_turn_8 : decode cX3_turn 8 = .ok (.ireturn, 1) := by decide +kernel
theorem dX3_turn_9 : decode cX3_turn 9 = .ok (.aload_n 0, 1) := by decide +kernel
theorem dX3_turn_10 : decode cX3_turn 10 = .ok (.getfield 33, 3) := by decide +kernel
theorem dX3_turn_13 : decode cX3_turn 13 = .ok (.aload_n 0, 1) := by decide +kernel
theorem dX3_turn_14 : decode cX3_turn 14 = .ok (.getfield 28, 3) := by decide +kernel
theorem dX3_turn_17 : decode cX3_turn 17 = .ok (.iconst 1, 1) := by decide +kernel
theorem dX3_turn_18 : decode cX3_turn 18 = .ok (.isub, 1) := by decide +kernel
theorem dX3_turn_19 : decode cX3_turn 19 = .ok (.aaload, 1) := by decide +kernel
theorem dX3_turn_20 : decode cX3_turn 20 = .ok (.astore_n 3, 1) := by decide +kernel
theorem dX3_turn_21 : decode cX3_turn 21 = .ok (.aload_n 0, 1) := by decide +kernel
theorem dX3_turn_22 : decode cX3_turn 22 = .ok (.getfield 37, 3) := by decide +kernel
theorem dX3_turn_25 : decode cX3_turn 25 = .ok (.aload_n 0, 1) := by decide +kernel
theorem dX3_turn_26 : decode cX3_turn 26 = .ok (.getfield 28, 3) := by decide +kernel
theorem dX3_turn_29 : decode cX3_turn 29 = .ok (.iconst 1, 1) := by decide +kernel
theorem dX3_turn_30 : decode cX3_turn 30 = .ok (.isub, 1) := by decide +kernel
theorem dX3_turn_31 : decode cX3_turn 31 = .ok (.iaload, 1) := by decide +kernel
theorem dX3_turn_32 : decode cX3_turn 32 = .ok (.istore 4, 2) := by decide +kernel
theorem dX3_turn_34 : decode cX3_turn 34 = .ok (.iload 4, 2) := by decide +kernel
theorem dX3_turn_36 : decode cX3_turn 36 = .ok (.aload_n 3, 1) := by decide +kernel
theorem dX3_turn_37 : decode cX3_turn 37 = .ok (.getfield 54, 3) := by decide +kernel
theorem dX3_turn_40 : decode cX3_turn 40 = .ok (.if_icmp .lt 15, 3) := by decide +kernel
theorem dX3_turn_43 : decode cX3_turn 43 = .ok (.aload_n 0, 1) := by decide +kernel
theorem dX3_turn_44 : decode cX3_turn 44 = .ok (.dup, 1) := by decide +kernel
theorem dX3_turn_45 : decode cX3_turn 45 = .ok (.getfield 28, 3) := by decide +kernel
theorem dX3_turn_48 : decode cX3_turn 48 = .ok (.iconst 1, 1) := by decide +kernel
theorem dX3_turn_49 : decode cX3_turn 49 = .ok (.isub, 1) := by decide +kernel
theorem dX3_turn_50 : decode cX3_turn 50 = .ok (.putfield 28, 3) := by decide +kernel
theorem dX3_turn_53 : decode cX3_turn 53 = .ok (.iconst (-1), 1) := by decide +kernel
theorem dX3_turn_54 : decode cX3_turn 54 = .ok (.ireturn, 1) := by decide +kernel
theorem dX3_turn_55 : decode cX3_turn 55 = .ok (.aload_n 0, 1) := by decide +kernel
theorem dX3_turn_56 : decode cX3_turn 56 = .ok (.getfield 9, 3) := by decide +kernel
theorem dX3_turn_59 : decode cX3_turn 59 = .ok (.iload_n 2, 1) := by decide +kernel
theorem dX3_turn_60 : decode cX3_turn 60 = .ok (.if_icmp .lt 5, 3) := by decide +kernel
theorem dX3_turn_63 : decode cX3_turn 63 = .ok (.iconst 1, 1) := by decide +kernel
theorem dX3_turn_64 : decode cX3_turn 64 = .ok (.ireturn, 1) := by decide +kernel
theorem dX3_turn_65 : decode cX3_turn 65 = .ok (.aload_n 0, 1) := by decide +kernel
theorem dX3_turn_66 : decode cX3_turn 66 = .ok (.dup, 1) := by decide +kernel
theorem dX3_turn_67 : decode cX3_turn 67 = .ok (.getfield 9, 3) := by decide +kernel
theorem dX3_turn_70 : decode cX3_turn 70 = .ok (.iconst 1, 1) := by decide +kernel
theorem dX3_turn_71 : decode cX3_turn 71 = .ok (.iadd, 1) := by decide +kernel
theorem dX3_turn_72 : decode cX3_turn 72 = .ok (.putfield 9, 3) := by decide +kernel
theorem dX3_turn_75 : decode cX3_turn 75 = .ok (.aload_n 0, 1) := by decide +kernel
theorem dX3_turn_76 : decode cX3_turn 76 = .ok (.aload_n 1, 1) := by decide +kernel
theorem dX3_turn_77 : decode cX3_turn 77 = .ok (.aload_n 3, 1) := by decide +kernel
theorem dX3_turn_78 : decode cX3_turn 78 = .ok (.iload 4, 2) := by decide +kernel
theorem dX3_turn_80 : decode cX3_turn 80 = .ok (.invokevirtual 57, 3) := by decide +kernel
theorem dX3_turn_83 : decode cX3_turn 83 = .ok (.ireturn, 1) := by decide +kernel
theorem dX3_perform_0 : decode cX3_perform 0 = .ok (.aload_n 2, 1) := by decide +kernel
theorem dX3_perform_1 : decode cX3_perform 1 = .ok (.getfield 61, 3) := by decide +kernel
theorem dX3_perform_4 : decode cX3_perform 4 = .ok (.iload_n 3, 1) := by decide +kernel
theorem dX3_perform_5 : decode cX3_perform 5 = .ok (.iaload, 1) := by decide +kernel
theorem dX3_perform_6 : decode cX3_perform 6 = .ok (.istore 4, 2) := by decide +kernel
theorem dX3_perform_8 : decode cX3_perform 8 = .ok (.aload_n 2, 1) := by decide +kernel
theorem dX3_perform_9 : decode cX3_perform 9 = .ok (.getfield 64, 3) := by decide +kernel
theorem dX3_perform_12 : decode cX3_perform 12 = .ok (.iload_n 3, 1) := by decide +kernel
theorem dX3_perform_13 : decode cX3_perform 13 = .ok (.iaload, 1) := by decide +kernel
theorem dX3_perform_14 : decode cX3_perform 14 = .ok (.istore 5, 2) := by decide +kernel
theorem dX3_perform_16 : decode cX3_perform 16 = .ok (.aload_n 0, 1) := by decide +kernel
theorem dX3_perform_17 : decode cX3_perform 17 = .ok (.getfield 37, 3) := by decide +kernel
theorem dX3_perform_20 : decode cX3_perform 20 = .ok (.aload_n 0, 1) := by decide +kernel
theorem dX3_perform_21 : decode cX3_perform 21 = .ok (.getfield 28, 3) := by decide +kernel
theorem dX3_perform_24 : decode cX3_perform 24 = .ok (.iconst 1, 1) := by decide +kernel
theorem dX3_perform_25 : decode cX3_perform 25 = .ok (.isub, 1) := by decide +kernel
theorem dX3_perform_26 : decode cX3_perform 26 = .ok (.iload_n 3, 1) := by decide +kernel
theorem dX3_perform_27 : decode cX3_perform 27 = .ok (.iconst 1, 1) := by decide +kernel
theorem dX3_perform_28 : decode cX3_perform 28 = .ok (.iadd, 1) := by decide +kernel
theorem dX3_perform_29 : decode cX3_perform 29 = .ok (.iastore, 1) := by decide +kernel
theorem dX3_perform_30 : decode cX3_perform 30 = .ok (.aload_n 2, 1) := by decide +kernel
theorem dX3_perform_31 : decode cX3_perform 31 = .ok (.getfield 67, 3) := by decide +kernel
theorem dX3_perform_34 : decode cX3_perform 34 = .ok (.iload_n 3, 1) := by decide +kernel
theorem dX3_perform_35 : decode cX3_perform 35 = .ok (.iaload, 1) := by decide +kernel
theorem dX3_perform_36 : decode cX3_perform 36 = .ok (.tableswitch 127 0 4 #[36, 43, 57, 76, 110], 36) := by decide +kernel
theorem dX3_perform_72 : decode cX3_perform 72 = .ok (.aload_n 0, 1) := by decide +kernel
theorem dX3_perform_73 : decode cX3_perform 73 = .ok (.iload 4, 2) := by decide +kernel
theorem dX3_perform_75 : decode cX3_perform 75 = .ok (.invokevirtual 70, 3) := by decide +kernel
theorem dX3_perform_78 : decode cX3_perform 78 = .ok (.ireturn, 1) := by decide +kernel
theorem dX3_perform_79 : decode cX3_perform 79 = .ok (.aload_n 0, 1) := by decide +kernel
theorem dX3_perform_80 : decode cX3_perform 80 = .ok (.getfield 25, 3) := by decide +kernel
theorem dX3_perform_83 : decode cX3_perform 83 = .ok (.iload 4, 2) := by decide +kernel
theorem dX3_perform_85 : decode cX3_perform 85 = .ok (.dup2, 1) := by decide +kernel
theorem dX3_perform_86 : decode cX3_perform 86 = .ok (.iaload, 1) := by decide +kernel
theorem dX3_perform_87 : decode cX3_perform 87 = .ok (.iload 5, 2) := by decide +kernel
theorem dX3_perform_89 : decode cX3_perform 89 = .ok (.iadd, 1) := by decide +kernel
theorem dX3_perform_90 : decode cX3_perform 90 = .ok (.iastore, 1) := by decide +kernel
theorem dX3_perform_91 : decode cX3_perform 91 = .ok (.iconst (-1), 1) := by decide +kernel
theorem dX3_perform_92 : decode cX3_perform 92 = .ok (.ireturn, 1) := by decide +kernel
theorem dX3_perform_93 : decode cX3_perform 93 = .ok (.aload_n 0, 1) := by decide +kernel
theorem dX3_perform_94 : decode cX3_perform 94 = .ok (.getfield 37, 3) := by decide +kernel
theorem dX3_perform_97 : decode cX3_perform 97 = .ok (.aload_n 0, 1) := by decide +kernel
theorem dX3_perform_98 : decode cX3_perform 98 = .ok (.getfield 28, 3) := by decide +kernel
theorem dX3_perform_101 : decode cX3_perform 101 = .ok (.iconst 1, 1) := by decide +kernel
theorem dX3_perform_102 : decode cX3_perform 102 = .ok (.isub, 1) := by decide +kernel
theorem dX3_perform_103 : decode cX3_perform 103 = .ok (.aload_n 2, 1) := by decide +kernel
theorem dX3_perform_104 : decode cX3_perform 104 = .ok (.getfield 74, 3) := by decide +kernel
theorem dX3_perform_107 : decode cX3_perform 107 = .ok (.iload_n 3, 1) := by decide +kernel
theorem dX3_perform_108 : decode cX3_perform 108 = .ok (.iaload, 1) := by decide +kernel
theorem dX3_perform_109 : decode cX3_perform 109 = .ok (.iastore, 1) := by decide +kernel
theorem dX3_perform_110 : decode cX3_perform 110 = .ok (.iconst (-1), 1) := by decide +kernel
theorem dX3_perform_111 : decode cX3_perform 111 = .ok (.ireturn, 1) := by decide +kernel
theorem dX3_perform_112 : decode cX3_perform 112 = .ok (.aload_n 0, 1) := by decide +kernel
theorem dX3_perform_113 : decode cX3_perform 113 = .ok (.getfield 25, 3) := by decide +kernel
theorem dX3_perform_116 : decode cX3_perform 116 = .ok (.iload 4, 2) := by decide +kernel
theorem dX3_perform_118 : decode cX3_perform 118 = .ok (.iaload, 1) := by decide +kernel
theorem dX3_perform_119 : decode cX3_perform 119 = .ok (.iload 5, 2) := by decide +kernel
theorem dX3_perform_121 : decode cX3_perform 121 = .ok (.invokestatic 77, 3) := by decide +kernel
theorem dX3_perform_124 : decode cX3_perform 124 = .ok (.ifCond .eq 20, 3) := by decide +kernel
theorem dX3_perform_127 : decode cX3_perform 127 = .ok (.aload_n 0, 1) := by decide +kernel
theorem dX3_perform_128 : decode cX3_perform 128 = .ok (.getfield 37, 3) := by decide +kernel
theorem dX3_perform_131 : decode cX3_perform 131 = .ok (.aload_n 0, 1) := by decide +kernel
theorem dX3_perform_132 : decode cX3_perform 132 = .ok (.getfield 28, 3) := by decide +kernel
theorem dX3_perform_135 : decode cX3_perform 135 = .ok (.iconst 1, 1) := by decide +kernel
theorem dX3_perform_136 : decode cX3_perform 136 = .ok (.isub, 1) := by decide +kernel
theorem dX3_perform_137 : decode cX3_perform 137 = .ok (.aload_n 2, 1) := by decide +kernel
theorem dX3_perform_138 : decode cX3_perform 138 = .ok (.getfield 74, 3) := by decide +kernel
theorem dX3_perform_141 : decode cX3_perform 141 = .ok (.iload_n 3, 1) := by decide +kernel
theorem dX3_perform_142 : decode cX3_perform 142 = .ok (.iaload, 1) := by decide +kernel
theorem dX3_perform_143 : decode cX3_perform 143 = .ok (.iastore, 1) := by decide +kernel
theorem dX3_perform_144 : decode cX3_perform 144 = .ok (.iconst (-1), 1) := by decide +kernel
theorem dX3_perform_145 : decode cX3_perform 145 = .ok (.ireturn, 1) := by decide +kernel
theorem dX3_perform_146 : decode cX3_perform 146 = .ok (.aload_n 0, 1) := by decide +kernel
theorem dX3_perform_147 : decode cX3_perform 147 = .ok (.getfield 37, 3) := by decide +kernel
theorem dX3_perform_150 : decode cX3_perform 150 = .ok (.aload_n 0, 1) := by decide +kernel
theorem dX3_perform_151 : decode cX3_perform 151 = .ok (.getfield 28, 3) := by decide +kernel
theorem dX3_perform_154 : decode cX3_perform 154 = .ok (.iconst 1, 1) := by decide +kernel
theorem dX3_perform_155 : decode cX3_perform 155 = .ok (.isub, 1) := by decide +kernel
theorem dX3_perform_156 : decode cX3_perform 156 = .ok (.aload_n 2, 1) := by decide +kernel
theorem dX3_perform_157 : decode cX3_perform 157 = .ok (.getfield 54, 3) := by decide +kernel
theorem dX3_perform_160 : decode cX3_perform 160 = .ok (.iastore, 1) := by decide +kernel
theorem dX3_perform_161 : decode cX3_perform 161 = .ok (.iconst (-1), 1) := by decide +kernel
theorem dX3_perform_162 : decode cX3_perform 162 = .ok (.ireturn, 1) := by decide +kernel
theorem dX3_perform_163 : decode cX3_perform 163 = .ok (.aload_n 0, 1) := by decide +kernel
theorem dX3_perform_164 : decode cX3_perform 164 = .ok (.aload_n 1, 1) := by decide +kernel
theorem dX3_perform_165 : decode cX3_perform 165 = .ok (.iload 4, 2) := by decide +kernel
theorem dX3_perform_167 : decode cX3_perform 167 = .ok (.aaload, 1) := by decide +kernel
theorem dX3_perform_168 : decode cX3_perform 168 = .ok (.invokevirtual 81, 3) := by decide +kernel
theorem dX3_perform_171 : decode cX3_perform 171 = .ok (.ireturn, 1) := by decide +kernel
