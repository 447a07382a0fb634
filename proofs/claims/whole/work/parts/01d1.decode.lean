theorem dX3_say_0 : decode cX3_say 0 = .ok (.aload_n 0, 1) := by decide +kernel
theorem dX3_say_1 : decode cX3_say 1 = .ok (.getfield 18, 3) := by decide +kernel
theorem dX3_say_4 : decode cX3_say 4 = .ok (.sipush 200, 3) := by decide +kernel
theorem dX3_say_7 : decode cX3_say 7 = .ok (.if_icmp .lt 5, 3) := by decide +kernel
theorem dX3_say_10 : decode cX3_say 10 = .ok (.iconst 4, 1) := by decide +kernel
theorem dX3_say_11 : decode cX3_say 11 = .ok (.ireturn, 1) := by decide +kernel
theorem dX3_say_12 : decode cX3_say 12 = .ok (.aload_n 0, 1) := by decide +kernel
theorem dX3_say_13 : decode cX3_say 13 = .ok (.getfield 21, 3) := by decide +kernel
theorem dX3_say_16 : decode cX3_say 16 = .ok (.aload_n 0, 1) := by decide +kernel
theorem dX3_say_17 : decode cX3_say 17 = .ok (.getfield 18, 3) := by decide +kernel
theorem dX3_say_20 : decode cX3_say 20 = .ok (.iload_n 1, 1) := by decide +kernel
theorem dX3_say_21 : decode cX3_say 21 = .ok (.iastore, 1) := by decide +kernel
theorem dX3_say_22 : decode cX3_say 22 = .ok (.aload_n 0, 1) := by decide +kernel
theorem dX3_say_23 : decode cX3_say 23 = .ok (.dup, 1) := by decide +kernel
theorem dX3_say_24 : decode cX3_say 24 = .ok (.getfield 18, 3) := by decide +kernel
theorem dX3_say_27 : decode cX3_say 27 = .ok (.iconst 1, 1) := by decide +kernel
theorem dX3_say_28 : decode cX3_say 28 = .ok (.iadd, 1) := by decide +kernel
theorem dX3_say_29 : decode cX3_say 29 = .ok (.putfield 18, 3) := by decide +kernel
theorem dX3_say_32 : decode cX3_say 32 = .ok (.iconst (-1), 1) := by decide +kernel
theorem dX3_say_33 : decode cX3_say 33 = .ok (.ireturn, 1) := by decide +kernel
theorem dX3_callOf_0 : decode cX3_callOf 0 = .ok (.aload_n 1, 1) := by decide +kernel
theorem dX3_callOf_1 : decode cX3_callOf 1 = .ok (.ifnull 10, 3) := by decide +kernel
theorem dX3_callOf_4 : decode cX3_callOf 4 = .ok (.aload_n 1, 1) := by decide +kernel
theorem dX3_callOf_5 : decode cX3_callOf 5 = .ok (.getfield 85, 3) := by decide +kernel
theorem dX3_callOf_8 : decode cX3_callOf 8 = .ok (.ifCond .ne 5, 3) := by decide +kernel
theorem dX3_callOf_11 : decode cX3_callOf 11 = .ok (.iconst 2, 1) := by decide +kernel
theorem dX3_callOf_12 : decode cX3_callOf 12 = .ok (.ireturn, 1) := by decide +kernel
theorem dX3_callOf_13 : decode cX3_callOf 13 = .ok (.aload_n 0, 1) := by decide +kernel
theorem dX3_callOf_14 : decode cX3_callOf 14 = .ok (.getfield 28, 3) := by decide +kernel
theorem dX3_callOf_17 : decode cX3_callOf 17 = .ok (.bipush 8, 2) := by decide +kernel
theorem dX3_callOf_19 : decode cX3_callOf 19 = .ok (.if_icmp .lt 5, 3) := by decide +kernel
theorem dX3_callOf_22 : decode cX3_callOf 22 = .ok (.iconst 3, 1) := by decide +kernel
theorem dX3_callOf_23 : decode cX3_callOf 23 = .ok (.ireturn, 1) := by decide +kernel
theorem dX3_callOf_24 : decode cX3_callOf 24 = .ok (.aload_n 0, 1) := by decide +kernel
theorem dX3_callOf_25 : decode cX3_callOf 25 = .ok (.aload_n 1, 1) := by decide +kernel
theorem dX3_callOf_26 : decode cX3_callOf 26 = .ok (.invokevirtual 46, 3) := by decide +kernel
theorem dX3_callOf_29 : decode cX3_callOf 29 = .ok (.iconst (-1), 1) := by decide +kernel
theorem dX3_callOf_30 : decode cX3_callOf 30 = .ok (.ireturn, 1) := by decide +kernel
theorem dX3_holds_0 : decode cX3_holds 0 = .ok (.iload_n 1, 1) := by decide +kernel
theorem dX3_holds_1 : decode cX3_holds 1 = .ok (.tableswitch 85 0 4 #[35, 45, 55, 65, 75], 35) := by decide +kernel
theorem dX3_holds_36 : decode cX3_holds 36 = .ok (.iload_n 0, 1) := by decide +kernel
theorem dX3_holds_37 : decode cX3_holds 37 = .ok (.ifCond .ne 7, 3) := by decide +kernel
theorem dX3_holds_40 : decode cX3_holds 40 = .ok (.iconst 1, 1) := by decide +kernel
theorem dX3_holds_41 : decode cX3_holds 41 = .ok (.goto 4, 3) := by decide +kernel
theorem dX3_holds_44 : decode cX3_holds 44 = .ok (.iconst 0, 1) := by decide +kernel
theorem dX3_holds_45 : decode cX3_holds 45 = .ok (.ireturn, 1) := by decide +kernel
theorem dX3_holds_46 : decode cX3_holds 46 = .ok (.iload_n 0, 1) := by decide +kernel
theorem dX3_holds_47 : decode cX3_holds 47 = .ok (.ifCond .eq 7, 3) := by decide +kernel
theorem dX3_holds_50 : decode cX3_holds 50 = .ok (.iconst 1, 1) := by decide +kernel
theorem dX3_holds_51 : decode cX3_holds 51 = .ok (.goto 4, 3) := by decide +kernel
theorem dX3_holds_54 : decode cX3_holds 54 = .ok (.iconst 0, 1) := by decide +kernel
theorem dX3_holds_55 : decode cX3_holds 55 = .ok (.ireturn, 1) := by decide +kernel
theorem dX3_holds_56 : decode cX3_holds 56 = .ok (.iload_n 0, 1) := by decide +kernel
theorem dX3_holds_57 : decode cX3_holds 57 = .ok (.ifCond .ge 7, 3) := by decide +kernel
theorem dX3_holds_60 : decode cX3_holds 60 = .ok (.iconst 1, 1) := by decide +kernel
theorem dX3_holds_61 : decode cX3_holds 61 = .ok (.goto 4, 3) := by decide +kernel
theorem dX3_holds_64 : decode cX3_holds 64 = .ok (.iconst 0, 1) := by decide +kernel
theorem dX3_holds_65 : decode cX3_holds 65 = .ok (.ireturn, 1) := by decide +kernel
theorem dX3_holds_66 : decode cX3_holds 66 = .ok (.iload_n 0, 1) := by decide +kernel
theorem dX3_holds_67 : decode cX3_holds 67 = .ok (.ifCond .lt 7, 3) := by decide +kernel
theorem dX3_holds_70 : decode cX3_holds 70 = .ok (.iconst 1, 1) := by decide +kernel
theorem dX3_holds_71 : decode cX3_holds 71 = .ok (.goto 4, 3) := by decide +kernel
theorem dX3_holds_74 : decode cX3_holds 74 = .ok (.iconst 0, 1) := by decide +kernel
theorem dX3_holds_75 : decode cX3_holds 75 = .ok (.ireturn, 1) := by decide +kernel
theorem dX3_holds_76 : decode cX3_holds 76 = .ok (.iload_n 0, 1) := by decide +kernel
theorem dX3_holds_77 : decode cX3_holds 77 = .ok (.ifCond .le 7, 3) := by decide +kernel
theorem dX3_holds_80 : decode cX3_holds 80 = .ok (.iconst 1, 1) := by decide +kernel
theorem dX3_holds_81 : decode cX3_holds 81 = .ok (.goto 4, 3) := by decide +kernel
theorem dX3_holds_84 : decode cX3_holds 84 = .ok (.iconst 0, 1) := by decide +kernel
theorem dX3_holds_85 : decode cX3_holds 85 = .ok (.ireturn, 1) := by decide +kernel
theorem dX3_holds_86 : decode cX3_holds 86 = .ok (.iload_n 0, 1) := by decide +kernel
theorem dX3_holds_87 : decode cX3_holds 87 = .ok (.ifCond .gt 7, 3) := by decide +kernel
theorem dX3_holds_90 : decode cX3_holds 90 = .ok (.iconst 1, 1) := by decide +kernel
theorem dX3_holds_91 : decode cX3_holds 91 = .ok (.goto 4, 3) := by decide +kernel
theorem dX3_holds_94 : decode cX3_holds 94 = .ok (.iconst 0, 1) := by decide +kernel
theorem dX3_holds_95 : decode cX3_holds 95 = .ok (.ireturn, 1) := by decide +kernel
theorem dX4_init_0 : decode cX4_init 0 = .ok (.aload_n 0, 1) := by decide +kernel
theorem dX4_init_1 : decode cX4_init 1 = .ok (.invokespecial 3, 3) := by decide +kernel
theorem dX4_init_4 : decode cX4_init 4 = .ok (.aload_n 0, 1) := by decide +kernel
theorem dX4_init_5 : decode cX4_init 5 = .ok (.bipush 60, 2) := by decide +kernel
theorem dX4_init_7 : decode cX4_init 7 = .ok (.newarray .int, 2) := by decide +kernel
theorem dX4_init_9 : decode cX4_init 9 = .ok (.putfield 9, 3) := by decide +kernel
theorem dX4_init_12 : decode cX4_init 12 = .ok (.aload_n 0, 1) := by decide +kernel
theorem dX4_init_13 : decode cX4_init 13 = .ok (.bipush 60, 2) := by decide +kernel
theorem dX4_init_15 : decode cX4_init 15 = .ok (.newarray .int, 2) := by decide +kernel
theorem dX4_init_17 : decode cX4_init 17 = .ok (.putfield 15, 3) := by decide +kernel
theorem dX4_init_20 : decode cX4_init 20 = .ok (.aload_n 0, 1) := by decide +kernel
theorem dX4_init_21 : decode cX4_init 21 = .ok (.bipush 60, 2) := by decide +kernel
theorem dX4_init_23 : decode cX4_init 23 = .ok (.newarray .int, 2) := by decide +kernel
theorem dX4_init_25 : decode cX4_init 25 = .ok (.putfield 18, 3) := by decide +kernel
theorem dX4_init_28 : decode cX4_init 28 = .ok (.aload_n 0, 1) := by decide +kernel
theorem dX4_init_29 : decode cX4_init 29 = .ok (.bipush 60, 2) := by decide +kernel
theorem dX4_init_31 : decode cX4_init 31 = .ok (.newarray .int, 2) := by decide +kernel
theorem dX4_init_33 : decode cX4_init 33 = .ok (.putfield 21, 3) := by decide +kernel
theorem dX4_init_36 : decode cX4_init 36 = .ok (.aload_n 0, 1) := by decide +kernel
theorem dX4_init_37 : decode cX4_init 37 = .ok (.bipush 60, 2) := by decide +kernel
theorem dX4_init_39 : decode cX4_init 39 = .ok (.newarray .int, 2) := by decide +kernel
theorem dX4_init_41 : decode cX4_init 41 = .ok (.putfield 24, 3) := by decide +kernel
theorem dX4_init_44 : decode cX4_init 44 = .ok (.aload_n 0, 1) := by decide +kernel
theorem dX4_init_45 : decode cX4_init 45 = .ok (.bipush 60, 2) := by decide +kernel
theorem dX4_init_47 : decode cX4_init 47 = .ok (.newarray .int, 2) := by decide +kernel
theorem dX4_init_49 : decode cX4_init 49 = .ok (.putfield 27, 3) := by decide +kernel
theorem dX4_init_52 : decode cX4_init 52 = .ok (.aload_n 0, 1) := by decide +kernel
theorem dX4_init_53 : decode cX4_init 53 = .ok (.bipush 60, 2) := by decide +kernel
theorem dX4_init_55 : decode cX4_init 55 = .ok (.newarray .int, 2) := by decide +kernel
theorem dX4_init_57 : decode cX4_init 57 = .ok (.putfield 30, 3) := by decide +kernel
theorem dX4_init_60 : decode cX4_init 60 = .ok (.aload_n 0, 1) := by decide +kernel
theorem dX4_init_61 : decode cX4_init 61 = .ok (.sipush 241, 3) := by decide +kernel
theorem dX4_init_64 : decode cX4_init 64 = .ok (.newarray .int, 2) := by decide +kernel
theorem dX4_init_66 : decode cX4_init 66 = .ok (.putfield 33, 3) := by decide +kernel
theorem dX4_init_69 : decode cX4_init 69 = .ok (.aload_n 0, 1) := by decide +kernel
theorem dX4_init_70 : decode cX4_init 70 = .ok (.iconst 0, 1) := by decide +kernel
theorem dX4_init_71 : decode cX4_init 71 = .ok (.putfield 36, 3) := by decide +kernel
theorem dX4_init_74 : decode cX4_init 74 = .ok (.aload_n 0, 1) := by decide +kernel
theorem dX4_init_75 : decode cX4_init 75 = .ok (.iconst 0, 1) := by decide +kernel
theorem dX4_init_76 : decode cX4_init 76 = .ok (.putfield 40, 3) := by decide +kernel
theorem dX4_init_79 : decode cX4_init 79 = .ok (.aload_n 0, 1) := by decide +kernel
theorem dX4_init_80 : decode cX4_init 80 = .ok (.iconst 0, 1) := by decide +kernel
theorem dX4_init_81 : decode cX4_init 81 = .ok (.putfield 43, 3) := by decide +kernel
theorem dX4_init_84 : decode cX4_init 84 = .ok (.aload_n 0, 1) := by decide +kernel
theorem dX4_init_85 : decode cX4_init 85 = .ok (.iconst 0, 1) := by decide +kernel
theorem dX4_init_86 : decode cX4_init 86 = .ok (.putfield 46, 3) := by decide +kernel
theorem dX4_init_89 : decode cX4_init 89 = .ok (.return_, 1) := by decide +kernel
theorem dX4_empty_0 : decode cX4_empty 0 = .ok (.aload_n 0, 1) := by decide +kernel
theorem dX4_empty_1 : decode cX4_empty 1 = .ok (.iconst 0, 1) := by decide +kernel
theorem dX4_empty_2 : decode cX4_empty 2 = .ok (.putfield 36, 3) := by decide +kernel
theorem dX4_empty_5 : decode cX4_empty 5 = .ok (.aload_n 0, 1) := by decide +kernel
theorem dX4_empty_6 : decode cX4_empty 6 = .ok (.iconst 0, 1) := by decide +kernel
theorem dX4_empty_7 : decode cX4_empty 7 = .ok (.putfield 40, 3) := by decide +kernel
theorem dX4_empty_10 : decode cX4_empty 10 = .ok (.aload_n 0, 1) := by decide +kernel
theorem dX4_empty_11 : decode cX4_empty 11 = .ok (.iconst 0, 1) := by decide +kernel
theorem dX4_empty_12 : decode cX4_empty 12 = .ok (.putfield 43, 3) := by decide +kernel
theorem dX4_empty_15 : decode cX4_empty 15 = .ok (.aload_n 0, 1) := by decide +kernel
theorem dX4_empty_16 : decode cX4_empty 16 = .ok (.iconst 0, 1) := by decide +kernel
theorem dX4_empty_17 : decode cX4_empty 17 = .ok (.putfield 46, 3) := by decide +kernel
theorem dX4_empty_20 : decode cX4_empty 20 = .ok (.return_, 1) := by decide +kernel
theorem dX4_has_0 : decode cX4_has 0 = .ok (.iload_n 1, 1) := by decide +kernel
theorem dX4_has_1 : decode cX4_has 1 = .ok (.ifCond .lt 15, 3) := by decide +kernel
theorem dX4_has_4 : decode cX4_has 4 = .ok (.iload_n 1, 1) := by decide +kernel
theorem dX4_has_5 : decode cX4_has 5 = .ok (.aload_n 0, 1) := by decide +kernel
theorem dX4_has_6 : decode cX4_has 6 = .ok (.getfield 36, 3) := by decide +kernel
theorem dX4_has_9 : decode cX4_has 9 = .ok (.if_icmp .ge 7, 3) := by decide +kernel
theorem dX4_has_12 : decode cX4_has 12 = .ok (.iconst 1, 1) := by decide +kernel
theorem dX4_has_13 : decode cX4_has 13 = .ok (.goto 4, 3) := by decide +kernel
theorem dX4_has_16 : decode cX4_has 16 = .ok (.iconst 0, 1) := by decide +kernel
theorem dX4_has_17 : decode cX4_has 17 = .ok (.ireturn, 1) := by decide +kernel
theorem dX4_tell_0 : decode cX4_tell 0 = .ok (.iload_n 2, 1) := by decide +kernel
theorem dX4_tell_1 : decode cX4_tell 1 = .ok (.tableswitch 70 0 4 #[35, 42, 49, 56, 63], 35) := by decide +kernel
theorem dX4_tell_36 : decode cX4_tell 36 = .ok (.aload_n 0, 1) := by decide +kernel
theorem dX4_tell_37 : decode cX4_tell 37 = .ok (.getfield 9, 3) := by decide +kernel
theorem dX4_tell_40 : decode cX4_tell 40 = .ok (.iload_n 1, 1) := by decide +kernel
theorem dX4_tell_41 : decode cX4_tell 41 = .ok (.iaload, 1) := by decide +kernel
theorem dX4_tell_42 : decode cX4_tell 42 = .ok (.ireturn, 1) := by decide +kernel
theorem dX4_tell_43 : decode cX4_tell 43 = .ok (.aload_n 0, 1) := by decide +kernel
theorem dX4_tell_44 : decode cX4_tell 44 = .ok (.getfield 15, 3) := by decide +kernel
theorem dX4_tell_47 : decode cX4_tell 47 = .ok (.iload_n 1, 1) := by decide +kernel
theorem dX4_tell_48 : decode cX4_tell 48 = .ok (.iaload, 1) := by decide +kernel
theorem dX4_tell_49 : decode cX4_tell 49 = .ok (.ireturn, 1) := by decide +kernel
theorem dX4_tell_50 : decode cX4_tell 50 = .ok (.aload_n 0, 1) := by decide +kernel
theorem dX4_tell_51 : decode cX4_tell 51 = .ok (.getfield 18, 3) := by decide +kernel
theorem dX4_tell_54 : decode cX4_tell 54 = .ok (.iload_n 1, 1) := by decide +kernel
theorem dX4_tell_55 : decode cX4_tell 55 = .ok (.iaload, 1) := by decide +kernel
theorem dX4_tell_56 : decode cX4_tell 56 = .ok (.ireturn, 1) := by decide +kernel
theorem dX4_tell_57 : decode cX4_tell 57 = .ok (.aload_n 0, 1) := by decide +kernel
theorem dX4_tell_58 : decode cX4_tell 58 = .ok (.getfield 21, 3) := by decide +kernel
theorem dX4_tell_61 : decode cX4_tell 61 = .ok (.iload_n 1, 1) := by decide +kernel
theorem dX4_tell_62 : decode cX4_tell 62 = .ok (.iaload, 1) := by decide +kernel
theorem dX4_tell_63 : decode cX4_tell 63 = .ok (.ireturn, 1) := by decide +kernel
theorem dX4_tell_64 : decode cX4_tell 64 = .ok (.aload_n 0, 1) := by decide +kernel
theorem dX4_tell_65 : decode cX4_tell 65 = .ok (.getfield 24, 3) := by decide +kernel
theorem dX4_tell_68 : decode cX4_tell 68 = .ok (.iload_n 1, 1) := by decide +kernel
theorem dX4_tell_69 : decode cX4_tell 69 = .ok (.iaload, 1) := by decide +kernel
theorem dX4_tell_70 : decode cX4_tell 70 = .ok (.ireturn, 1) := by decide +kernel
theorem dX4_tell_71 : decode cX4_tell 71 = .ok (.aload_n 0, 1) := by decide +kernel
theorem dX4_tell_72 : decode cX4_tell 72 = .ok (.getfield 27, 3) := by decide +kernel
theorem dX4_tell_75 : decode cX4_tell 75 = .ok (.iload_n 1, 1) := by decide +kernel
theorem dX4_tell_76 : decode cX4_tell 76 = .ok (.iaload, 1) := by decide +kernel
theorem dX4_tell_77 : decode cX4_tell 77 = .ok (.ireturn, 1) := by decide +kernel
theorem dX4_word_0 : decode cX4_word 0 = .ok (.aload_n 0, 1) := by decide +kernel
theorem dX4_word_1 : decode cX4_word 1 = .ok (.getfield 40, 3) := by decide +kernel
theorem dX4_word_4 : decode cX4_word 4 = .ok (.sipush 241, 3) := by decide +kernel
theorem dX4_word_7 : decode cX4_word 7 = .ok (.if_icmp .ge 23, 3) := by decide +kernel
theorem dX4_word_10 : decode cX4_word 10 = .ok (.aload_n 0, 1) := by decide +kernel
theorem dX4_word_11 : decode cX4_word 11 = .ok (.getfield 33, 3) := by decide +kernel
theorem dX4_word_14 : decode cX4_word 14 = .ok (.aload_n 0, 1) := by decide +kernel
theorem dX4_word_15 : decode cX4_word 15 = .ok (.getfield 40, 3) := by decide +kernel
theorem dX4_word_18 : decode cX4_word 18 = .ok (.iload_n 1, 1) := by decide +kernel
theorem dX4_word_19 : decode cX4_word 19 = .ok (.iastore, 1) := by decide +kernel
theorem dX4_word_20 : decode cX4_word 20 = .ok (.aload_n 0, 1) := by decide +kernel
theorem dX4_word_21 : decode cX4_word 21 = .ok (.dup, 1) := by decide +kernel
theorem dX4_word_22 : decode cX4_word 22 = .ok (.getfield 40, 3) := by decide +kernel
theorem dX4_word_25 : decode cX4_word 25 = .ok (.iconst 1, 1) := by decide +kernel
theorem dX4_word_26 : decode cX4_word 26 = .ok (.iadd, 1) := by decide +kernel
theorem dX4_word_27 : decode cX4_word 27 = .ok (.putfield 40, 3) := by decide +kernel
theorem dX4_word_30 : decode cX4_word 30 = .ok (.return_, 1) := by decide +kernel
theorem dX5_init_0 : decode cX5_init 0 = .ok (.aload_n 0, 1) := by decide +kernel
theorem dX5_init_1 : decode cX5_init 1 = .ok (.invokespecial 3, 3) := by decide +kernel
theorem dX5_init_4 : decode cX5_init 4 = .ok (.aload_n 0, 1) := by decide +kernel
theorem dX5_init_5 : decode cX5_init 5 = .ok (.new 9, 3) := by decide +kernel
theorem dX5_init_8 : decode cX5_init 8 = .ok (.dup, 1) := by decide +kernel
theorem dX5_init_9 : decode cX5_init 9 = .ok (.invokespecial 11, 3) := by decide +kernel
theorem dX5_init_12 : decode cX5_init 12 = .ok (.putfield 12, 3) := by decide +kernel
theorem dX5_init_15 : decode cX5_init 15 = .ok (.aload_n 0, 1) := by decide +kernel
theorem dX5_init_16 : decode cX5_init 16 = .ok (.iconst 0, 1) := by decide +kernel
theorem dX5_init_17 : decode cX5_init 17 = .ok (.putfield 18, 3) := by decide +kernel
theorem dX5_init_20 : decode cX5_init 20 = .ok (.aload_n 0, 1) := by decide +kernel
theorem dX5_init_21 : decode cX5_init 21 = .ok (.aconst_null, 1) := by decide +kernel
theorem dX5_init_22 : decode cX5_init 22 = .ok (.putfield 22, 3) := by decide +kernel
theorem dX5_init_25 : decode cX5_init 25 = .ok (.aload_n 0, 1) := by decide +kernel
theorem dX5_init_26 : decode cX5_init 26 = .ok (.iconst 0, 1) := by decide +kernel
theorem dX5_init_27 : decode cX5_init 27 = .ok (.putfield 26, 3) := by decide +kernel
theorem dX5_init_30 : decode cX5_init 30 = .ok (.aload_n 0, 1) := by decide +kernel
theorem dX5_init_31 : decode cX5_init 31 = .ok (.iconst 0, 1) := by decide +kernel
theorem dX5_init_32 : decode cX5_init 32 = .ok (.putfield 29, 3) := by decide +kernel
theorem dX5_init_35 : decode cX5_init 35 = .ok (.aload_n 0, 1) := by decide +kernel
theorem dX5_init_36 : decode cX5_init 36 = .ok (.iconst 0, 1) := by decide +kernel
theorem dX5_init_37 : decode cX5_init 37 = .ok (.putfield 32, 3) := by decide +kernel
theorem dX5_init_40 : decode cX5_init 40 = .ok (.aload_n 0, 1) := by decide +kernel
theorem dX5_init_41 : decode cX5_init 41 = .ok (.iconst 0, 1) := by decide +kernel
theorem dX5_init_42 : decode cX5_init 42 = .ok (.putfield 35, 3) := by decide +kernel
theorem dX5_init_45 : decode cX5_init 45 = .ok (.aload_n 0, 1) := by decide +kernel
theorem dX5_init_46 : decode cX5_init 46 = .ok (.iconst 0, 1) := by decide +kernel
theorem dX5_init_47 : decode cX5_init 47 = .ok (.putfield 38, 3) := by decide +kernel
theorem dX5_init_50 : decode cX5_init 50 = .ok (.aload_n 0, 1) := by decide +kernel
theorem dX5_init_51 : decode cX5_init 51 = .ok (.bipush 60, 2) := by decide +kernel
theorem dX5_init_53 : decode cX5_init 53 = .ok (.newarray .int, 2) := by decide +kernel
theorem dX5_init_55 : decode cX5_init 55 = .ok (.putfield 41, 3) := by decide +kernel
theorem dX5_init_58 : decode cX5_init 58 = .ok (.aload_n 0, 1) := by decide +kernel
theorem dX5_init_59 : decode cX5_init 59 = .ok (.iconst 0, 1) := by decide +kernel
theorem dX5_init_60 : decode cX5_init 60 = .ok (.putfield 44, 3) := by decide +kernel
theorem dX5_init_63 : decode cX5_init 63 = .ok (.aload_n 0, 1) := by decide +kernel
theorem dX5_init_64 : decode cX5_init 64 = .ok (.bipush 61, 2) := by decide +kernel
theorem dX5_init_66 : decode cX5_init 66 = .ok (.newarray .int, 2) := by decide +kernel
theorem dX5_init_68 : decode cX5_init 68 = .ok (.putfield 47, 3) := by decide +kernel
theorem dX5_init_71 : decode cX5_init 71 = .ok (.aload_n 0, 1) := by decide +kernel
theorem dX5_init_72 : decode cX5_init 72 = .ok (.bipush 61, 2) := by decide +kernel
theorem dX5_init_74 : decode cX5_init 74 = .ok (.newarray .int, 2) := by decide +kernel
theorem dX5_init_76 : decode cX5_init 76 = .ok (.putfield 50, 3) := by decide +kernel
theorem dX5_init_79 : decode cX5_init 79 = .ok (.aload_n 0, 1) := by decide +kernel
theorem dX5_init_80 : decode cX5_init 80 = .ok (.bipush 61, 2) := by decide +kernel
theorem dX5_init_82 : decode cX5_init 82 = .ok (.newarray .int, 2) := by decide +kernel
theorem dX5_init_84 : decode cX5_init 84 = .ok (.putfield 53, 3) := by decide +kernel
theorem dX5_init_87 : decode cX5_init 87 = .ok (.aload_n 0, 1) := by decide +kernel
theorem dX5_init_88 : decode cX5_init 88 = .ok (.bipush 61, 2) := by decide +kernel
theorem dX5_init_90 : decode cX5_init 90 = .ok (.newarray .int, 2) := by decide +kernel
theorem dX5_init_92 : decode cX5_init 92 = .ok (.putfield 56, 3) := by decide +kernel
theorem dX5_init_95 : decode cX5_init 95 = .ok (.aload_n 0, 1) := by decide +kernel
theorem dX5_init_96 : decode cX5_init 96 = .ok (.bipush 61, 2) := by decide +kernel
theorem dX5_init_98 : decode cX5_init 98 = .ok (.newarray .int, 2) := by decide +kernel
theorem dX5_init_100 : decode cX5_init 100 = .ok (.putfield 59, 3) := by decide +kernel
theorem dX5_init_103 : decode cX5_init 103 = .ok (.aload_n 0, 1) := by decide +kernel
theorem dX5_init_104 : decode cX5_init 104 = .ok (.bipush 61, 2) := by decide +kernel
theorem dX5_init_106 : decode cX5_init 106 = .ok (.newarray .int, 2) := by decide +kernel
theorem dX5_init_108 : decode cX5_init 108 = .ok (.putfield 62, 3) := by decide +kernel
theorem dX5_init_111 : decode cX5_init 111 = .ok (.return_, 1) := by decide +kernel
theorem dX5_parse_0 : decode cX5_parse 0 = .ok (.aload_n 0, 1) := by decide +kernel
theorem dX5_parse_1 : decode cX5_parse 1 = .ok (.aload_n 1, 1) := by decide +kernel
theorem dX5_parse_2 : decode cX5_parse 2 = .ok (.putfield 22, 3) := by decide +kernel
theorem dX5_parse_5 : decode cX5_parse 5 = .ok (.aload_n 0, 1) := by decide +kernel
theorem dX5_parse_6 : decode cX5_parse 6 = .ok (.iload_n 2, 1) := by decide +kernel
theorem dX5_parse_7 : decode cX5_parse 7 = .ok (.putfield 26, 3) := by decide +kernel
theorem dX5_parse_10 : decode cX5_parse 10 = .ok (.aload_n 0, 1) := by decide +kernel
theorem dX5_parse_11 : decode cX5_parse 11 = .ok (.iconst 0, 1) := by decide +kernel
theorem dX5_parse_12 : decode cX5_parse 12 = .ok (.putfield 18, 3) := by decide +kernel
theorem dX5_parse_15 : decode cX5_parse 15 = .ok (.aload_n 0, 1) := by decide +kernel
theorem dX5_parse_16 : decode cX5_parse 16 = .ok (.iconst 0, 1) := by decide +kernel
theorem dX5_parse_17 : decode cX5_parse 17 = .ok (.putfield 29, 3) := by decide +kernel
theorem dX5_parse_20 : decode cX5_parse 20 = .ok (.aload_n 0, 1) := by decide +kernel
theorem dX5_parse_21 : decode cX5_parse 21 = .ok (.iconst 0, 1) := by decide +kernel
theorem dX5_parse_22 : decode cX5_parse 22 = .ok (.putfield 32, 3) := by decide +kernel
theorem dX5_parse_25 : decode cX5_parse 25 = .ok (.aload_n 0, 1) := by decide +kernel
theorem dX5_parse_26 : decode cX5_parse 26 = .ok (.iconst 0, 1) := by decide +kernel
theorem dX5_parse_27 : decode cX5_parse 27 = .ok (.putfield 35, 3) := by decide +kernel
theorem dX5_parse_30 : decode cX5_parse 30 = .ok (.aload_n 0, 1) := by decide +kernel
theorem dX5_parse_31 : decode cX5_parse 31 = .ok (.iconst 0, 1) := by decide +kernel
theorem dX5_parse_32 : decode cX5_parse 32 = .ok (.putfield 38, 3) := by decide +kernel
theorem dX5_parse_35 : decode cX5_parse 35 = .ok (.aload_n 0, 1) := by decide +kernel
theorem dX5_parse_36 : decode cX5_parse 36 = .ok (.iconst 0, 1) := by decide +kernel
theorem dX5_parse_37 : decode cX5_parse 37 = .ok (.putfield 44, 3) := by decide +kernel
theorem dX5_parse_40 : decode cX5_parse 40 = .ok (.aload_n 0, 1) := by decide +kernel
theorem dX5_parse_41 : decode cX5_parse 41 = .ok (.iconst (-1), 1) := by decide +kernel
theorem dX5_parse_42 : decode cX5_parse 42 = .ok (.iconst (-1), 1) := by decide +kernel
theorem dX5_parse_43 : decode cX5_parse 43 = .ok (.iconst 0, 1) := by decide +kernel
theorem dX5_parse_44 : decode cX5_parse 44 = .ok (.iconst 0, 1) := by decide +kernel
theorem dX5_parse_45 : decode cX5_parse 45 = .ok (.invokevirtual 65, 3) := by decide +kernel
theorem dX5_parse_48 : decode cX5_parse 48 = .ok (.iconst 0, 1) := by decide +kernel
theorem dX5_parse_49 : decode cX5_parse 49 = .ok (.istore_n 3, 1) := by decide +kernel
theorem dX5_parse_50 : decode cX5_parse 50 = .ok (.iload_n 3, 1) := by decide +kernel
theorem dX5_parse_51 : decode cX5_parse 51 = .ok (.sipush 601, 3) := by decide +kernel
theorem dX5_parse_54 : decode cX5_parse 54 = .ok (.if_icmp .ge 63, 3) := by decide +kernel
theorem dX5_parse_57 : decode cX5_parse 57 = .ok (.aload_n 0, 1) := by decide +kernel
theorem dX5_parse_58 : decode cX5_parse 58 = .ok (.getfield 29, 3) := by decide +kernel
theorem dX5_parse_61 : decode cX5_parse 61 = .ok (.ifCond .ne 56, 3) := by decide +kernel
theorem dX5_parse_64 : decode cX5_parse 64 = .ok (.aload_n 0, 1) := by decide +kernel
theorem dX5_parse_65 : decode cX5_parse 65 = .ok (.getfield 44, 3) := by decide +kernel
theorem dX5_parse_68 : decode cX5_parse 68 = .ok (.ifCond .le 49, 3) := by decide +kernel
theorem dX5_parse_71 : decode cX5_parse 71 = .ok (.aload_n 0, 1) := by decide +kernel
theorem dX5_parse_72 : decode cX5_parse 72 = .ok (.getfield 47, 3) := by decide +kernel
theorem dX5_parse_75 : decode cX5_parse 75 = .ok (.aload_n 0, 1) := by decide +kernel
theorem dX5_parse_76 : decode cX5_parse 76 = .ok (.getfield 44, 3) := by decide +kernel
theorem dX5_parse_79 : decode cX5_parse 79 = .ok (.iconst 1, 1) := by decide +kernel
theorem dX5_parse_80 : decode cX5_parse 80 = .ok (.isub, 1) := by decide +kernel
theorem dX5_parse_81 : decode cX5_parse 81 = .ok (.iaload, 1) := by decide +kernel
theorem dX5_parse_82 : decode cX5_parse 82 = .ok (.ifCond .le 25, 3) := by decide +kernel
theorem dX5_parse_85 : decode cX5_parse 85 = .ok (.aload_n 0, 1) := by decide +kernel
theorem dX5_parse_86 : decode cX5_parse 86 = .ok (.getfield 47, 3) := by decide +kernel
theorem dX5_parse_89 : decode cX5_parse 89 = .ok (.aload_n 0, 1) := by decide +kernel
theorem dX5_parse_90 : decode cX5_parse 90 = .ok (.getfield 44, 3) := by decide +kernel
theorem dX5_parse_93 : decode cX5_parse 93 = .ok (.iconst 1, 1) := by decide +kernel
theorem dX5_parse_94 : decode cX5_parse 94 = .ok (.isub, 1) := by decide +kernel
theorem dX5_parse_95 : decode cX5_parse 95 = .ok (.dup2, 1) := by decide +kernel
theorem dX5_parse_96 : decode cX5_parse 96 = .ok (.iaload, 1) := by decide +kernel
theorem dX5_parse_97 : decode cX5_parse 97 = .ok (.iconst 1, 1) := by decide +kernel
theorem dX5_parse_98 : decode cX5_parse 98 = .ok (.isub, 1) := by decide +kernel
theorem dX5_parse_99 : decode cX5_parse 99 = .ok (.iastore, 1) := by decide +kernel
theorem dX5_parse_100 : decode cX5_parse 100 = .ok (.aload_n 0, 1) := by decide +kernel
theorem dX5_parse_101 : decode cX5_parse 101 = .ok (.invokevirtual 69, 3) := by decide +kernel
theorem dX5_parse_104 : decode cX5_parse 104 = .ok (.goto 7, 3) := by decide +kernel
theorem dX5_parse_107 : decode cX5_parse 107 = .ok (.aload_n 0, 1) := by decide +kernel
theorem dX5_parse_108 : decode cX5_parse 108 = .ok (.invokevirtual 72, 3) := by decide +kernel
theorem dX5_parse_111 : decode cX5_parse 111 = .ok (.iinc 3 1, 3) := by decide +kernel
theorem dX5_parse_114 : decode cX5_parse 114 = .ok (.goto (-64), 3) := by decide +kernel
theorem dX5_parse_117 : decode cX5_parse 117 = .ok (.aload_n 0, 1) := by decide +kernel
theorem dX5_parse_118 : decode cX5_parse 118 = .ok (.invokevirtual 75, 3) := by decide +kernel
theorem dX5_parse_121 : decode cX5_parse 121 = .ok (.aload_n 0, 1) := by decide +kernel
theorem dX5_parse_122 : decode cX5_parse 122 = .ok (.getfield 12, 3) := by decide +kernel
theorem dX5_parse_125 : decode cX5_parse 125 = .ok (.aload_n 0, 1) := by decide +kernel
theorem dX5_parse_126 : decode cX5_parse 126 = .ok (.getfield 32, 3) := by decide +kernel
theorem dX5_parse_129 : decode cX5_parse 129 = .ok (.bipush 60, 2) := by decide +kernel
theorem dX5_parse_131 : decode cX5_parse 131 = .ok (.invokestatic 78, 3) := by decide +kernel
theorem dX5_parse_134 : decode cX5_parse 134 = .ok (.putfield 84, 3) := by decide +kernel
theorem dX5_parse_137 : decode cX5_parse 137 = .ok (.aload_n 0, 1) := by decide +kernel
theorem dX5_parse_138 : decode cX5_parse 138 = .ok (.getfield 29, 3) := by decide +kernel
theorem dX5_parse_141 : decode cX5_parse 141 = .ok (.ireturn, 1) := by decide +kernel
theorem dX5_judgeAll_0 : decode cX5_judgeAll 0 = .ok (.aload_n 0, 1) := by decide +kernel
theorem dX5_judgeAll_1 : decode cX5_judgeAll 1 = .ok (.getfield 29, 3) := by decide +kernel
theorem dX5_judgeAll_4 : decode cX5_judgeAll 4 = .ok (.ifCond .eq 4, 3) := by decide +kernel
theorem dX5_judgeAll_7 : decode cX5_judgeAll 7 = .ok (.return_, 1) := by decide +kernel
theorem dX5_judgeAll_8 : decode cX5_judgeAll 8 = .ok (.aload_n 0, 1) := by decide +kernel
theorem dX5_judgeAll_9 : decode cX5_judgeAll 9 = .ok (.getfield 18, 3) := by decide +kernel
theorem dX5_judgeAll_12 : decode cX5_judgeAll 12 = .ok (.aload_n 0, 1) := by decide +kernel
theorem dX5_judgeAll_13 : decode cX5_judgeAll 13 = .ok (.getfield 26, 3) := by decide +kernel
theorem dX5_judgeAll_16 : decode cX5_judgeAll 16 = .ok (.if_icmp .ge 12, 3) := by decide +kernel
theorem dX5_judgeAll_19 : decode cX5_judgeAll 19 = .ok (.aload_n 0, 1) := by decide +kernel
theorem dX5_judgeAll_20 : decode cX5_judgeAll 20 = .ok (.bipush 7, 2) := by decide +kernel
theorem dX5_judgeAll_22 : decode cX5_judgeAll 22 = .ok (.putfield 29, 3) := by decide +kernel
theorem dX5_judgeAll_25 : decode cX5_judgeAll 25 = .ok (.goto 38, 3) := by decide +kernel
theorem dX5_judgeAll_28 : decode cX5_judgeAll 28 = .ok (.aload_n 0, 1) := by decide +kernel
theorem dX5_judgeAll_29 : decode cX5_judgeAll 29 = .ok (.getfield 32, 3) := by decide +kernel
theorem dX5_judgeAll_32 : decode cX5_judgeAll 32 = .ok (.bipush 60, 2) := by decide +kernel
theorem dX5_judgeAll_34 : decode cX5_judgeAll 34 = .ok (.if_icmp .le 12, 3) := by decide +kernel
theorem dX5_judgeAll_37 : decode cX5_judgeAll 37 = .ok (.aload_n 0, 1) := by decide +kernel
theorem dX5_judgeAll_38 : decode cX5_judgeAll 38 = .ok (.bipush 8, 2) := by decide +kernel
theorem dX5_judgeAll_40 : decode cX5_judgeAll 40 = .ok (.putfield 29, 3) := by decide +kernel
theorem dX5_judgeAll_43 : decode cX5_judgeAll 43 = .ok (.goto 20, 3) := by decide +kernel
theorem dX5_judgeAll_46 : decode cX5_judgeAll 46 = .ok (.aload_n 0, 1) := by decide +kernel
theorem dX5_judgeAll_47 : decode cX5_judgeAll 47 = .ok (.getfield 35, 3) := by decide +kernel
theorem dX5_judgeAll_50 : decode cX5_judgeAll 50 = .ok (.aload_n 0, 1) := by decide +kernel
theorem dX5_judgeAll_51 : decode cX5_judgeAll 51 = .ok (.getfield 32, 3) := by decide +kernel
theorem dX5_judgeAll_54 : decode cX5_judgeAll 54 = .ok (.if_icmp .le 9, 3) := by decide +kernel
theorem dX5_judgeAll_57 : decode cX5_judgeAll 57 = .ok (.aload_n 0, 1) := by decide +kernel
theorem dX5_judgeAll_58 : decode cX5_judgeAll 58 = .ok (.bipush 9, 2) := by decide +kernel
theorem dX5_judgeAll_60 : decode cX5_judgeAll 60 = .ok (.putfield 29, 3) := by decide +kernel
theorem dX5_judgeAll_63 : decode cX5_judgeAll 63 = .ok (.return_, 1) := by decide +kernel
theorem dX5_take_0 : decode cX5_take 0 = .ok (.aload_n 0, 1) := by decide +kernel
theorem dX5_take_1 : decode cX5_take 1 = .ok (.getfield 29, 3) := by decide +kernel
theorem dX5_take_4 : decode cX5_take 4 = .ok (.ifCond .eq 5, 3) := by decide +kernel
theorem dX5_take_7 : decode cX5_take 7 = .ok (.iconst 0, 1) := by decide +kernel
theorem dX5_take_8 : decode cX5_take 8 = .ok (.ireturn, 1) := by decide +kernel
theorem dX5_take_9 : decode cX5_take 9 = .ok (.aload_n 0, 1) := by decide +kernel
theorem dX5_take_10 : decode cX5_take 10 = .ok (.getfield 18, 3) := by decide +kernel
theorem dX5_take_13 : decode cX5_take 13 = .ok (.aload_n 0, 1) := by decide +kernel
theorem dX5_take_14 : decode cX5_take 14 = .ok (.getfield 26, 3) := by decide +kernel
theorem dX5_take_17 : decode cX5_take 17 = .ok (.if_icmp .ge 13, 3) := by decide +kernel
theorem dX5_take_20 : decode cX5_take 20 = .ok (.aload_n 0, 1) := by decide +kernel
theorem dX5_take_21 : decode cX5_take 21 = .ok (.getfield 18, 3) := by decide +kernel
theorem dX5_take_24 : decode cX5_take 24 = .ok (.sipush 300, 3) := by decide +kernel
theorem dX5_take_27 : decode cX5_take 27 = .ok (.if_icmp .lt 10, 3) := by decide +kernel
theorem dX5_take_30 : decode cX5_take 30 = .ok (.aload_n 0, 1) := by decide +kernel
theorem dX5_take_31 : decode cX5_take 31 = .ok (.iconst 1, 1) := by decide +kernel
theorem dX5_take_32 : decode cX5_take 32 = .ok (.putfield 29, 3) := by decide +kernel
theorem dX5_take_35 : decode cX5_take 35 = .ok (.iconst 0, 1) := by decide +kernel
theorem dX5_take_36 : decode cX5_take 36 = .ok (.ireturn, 1) := by decide +kernel
theorem dX5_take_37 : decode cX5_take 37 = .ok (.aload_n 0, 1) := by decide +kernel
theorem dX5_take_38 : decode cX5_take 38 = .ok (.getfield 22, 3) := by decide +kernel
theorem dX5_take_41 : decode cX5_take 41 = .ok (.aload_n 0, 1) := by decide +kernel
theorem dX5_take_42 : decode cX5_take 42 = .ok (.getfield 18, 3) := by decide +kernel
theorem dX5_take_45 : decode cX5_take 45 = .ok (.iaload, 1) := by decide +kernel
theorem dX5_take_46 : decode cX5_take 46 = .ok (.istore_n 1, 1) := by decide +kernel
theorem dX5_take_47 : decode cX5_take 47 = .ok (.aload_n 0, 1) := by decide +kernel
theorem dX5_take_48 : decode cX5_take 48 = .ok (.dup, 1) := by decide +kernel
theorem dX5_take_49 : decode cX5_take 49 = .ok (.getfield 18, 3) := by decide +kernel
theorem dX5_take_52 : decode cX5_take 52 = .ok (.iconst 1, 1) := by decide +kernel
theorem dX5_take_53 : decode cX5_take 53 = .ok (.iadd, 1) := by decide +kernel
theorem dX5_take_54 : decode cX5_take 54 = .ok (.putfield 18, 3) := by decide +kernel
theorem dX5_take_57 : decode cX5_take 57 = .ok (.iload_n 1, 1) := by decide +kernel
theorem dX5_take_58 : decode cX5_take 58 = .ok (.ireturn, 1) := by decide +kernel
theorem dX5_require_0 : decode cX5_require 0 = .ok (.iload_n 1, 1) := by decide +kernel
theorem dX5_require_1 : decode cX5_require 1 = .ok (.ifCond .ne 25, 3) := by decide +kernel
theorem dX5_require_4 : decode cX5_require 4 = .ok (.aload_n 0, 1) := by decide +kernel
theorem dX5_require_5 : decode cX5_require 5 = .ok (.getfield 29, 3) := by decide +kernel
theorem dX5_require_8 : decode cX5_require 8 = .ok (.ifCond .ne 18, 3) := by decide +kernel
theorem dX5_require_11 : decode cX5_require 11 = .ok (.aload_n 0, 1) := by decide +kernel
theorem dX5_require_12 : decode cX5_require 12 = .ok (.iload_n 2, 1) := by decide +kernel
theorem dX5_require_13 : decode cX5_require 13 = .ok (.putfield 29, 3) := by decide +kernel
theorem dX5_require_16 : decode cX5_require 16 = .ok (.aload_n 0, 1) := by decide +kernel
theorem dX5_require_17 : decode cX5_require 17 = .ok (.dup, 1) := by decide +kernel
theorem dX5_require_18 : decode cX5_require 18 = .ok (.getfield 18, 3) := by decide +kernel
theorem dX5_require_21 : decode cX5_require 21 = .ok (.iconst 1, 1) := by decide +kernel
theorem dX5_require_22 : decode cX5_require 22 = .ok (.isub, 1) := by decide +kernel
theorem dX5_require_23 : decode cX5_require 23 = .ok (.putfield 18, 3) := by decide +kernel
theorem dX5_require_26 : decode cX5_require 26 = .ok (.return_, 1) := by decide +kernel
theorem dX5_takeStatement_0 : decode cX5_takeStatement 0 = .ok (.aload_n 0, 1) := by decide +kernel
theorem dX5_takeStatement_1 : decode cX5_takeStatement 1 = .ok (.invokevirtual 87, 3) := by decide +kernel
theorem dX5_takeStatement_4 : decode cX5_takeStatement 4 = .ok (.istore_n 1, 1) := by decide +kernel
theorem dX5_takeStatement_5 : decode cX5_takeStatement 5 = .ok (.aload_n 0, 1) := by decide +kernel
theorem dX5_takeStatement_6 : decode cX5_takeStatement 6 = .ok (.iload_n 1, 1) := by decide +kernel
theorem dX5_takeStatement_7 : decode cX5_takeStatement 7 = .ok (.ifCond .lt 13, 3) := by decide +kernel
theorem dX5_takeStatement_10 : decode cX5_takeStatement 10 = .ok (.iload_n 1, 1) := by decide +kernel
theorem dX5_takeStatement_11 : decode cX5_takeStatement 11 = .ok (.bipush 11, 2) := by decide +kernel
theorem dX5_takeStatement_13 : decode cX5_takeStatement 13 = .ok (.if_icmp .gt 7, 3) := by decide +kernel
theorem dX5_takeStatement_16 : decode cX5_takeStatement 16 = .ok (.iconst 1, 1) := by decide +kernel
theorem dX5_takeStatement_17 : decode cX5_takeStatement 17 = .ok (.goto 4, 3) := by decide +kernel
theorem dX5_takeStatement_20 : decode cX5_takeStatement 20 = .ok (.iconst 0, 1) := by decide +kernel
theorem dX5_takeStatement_21 : decode cX5_takeStatement 21 = .ok (.iconst 2, 1) := by decide +kernel
theorem dX5_takeStatement_22 : decode cX5_takeStatement 22 = .ok (.invokevirtual 91, 3) := by decide +kernel
theorem dX5_takeStatement_25 : decode cX5_takeStatement 25 = .ok (.aload_n 0, 1) := by decide +kernel
theorem dX5_takeStatement_26 : decode cX5_takeStatement 26 = .ok (.getfield 29, 3) := by decide +kernel
theorem dX5_takeStatement_29 : decode cX5_takeStatement 29 = .ok (.ifCond .eq 4, 3) := by decide +kernel
theorem dX5_takeStatement_32 : decode cX5_takeStatement 32 = .ok (.return_, 1) := by decide +kernel
theorem dX5_takeStatement_33 : decode cX5_takeStatement 33 = .ok (.iload_n 1, 1) := by decide +kernel
theorem dX5_takeStatement_34 : decode cX5_takeStatement 34 = .ok (.tableswitch 74 0 5 #[38, 66, 66, 45, 66, 66], 38) := by decide +kernel
theorem dX5_takeStatement_72 : decode cX5_takeStatement 72 = .ok (.aload_n 0, 1) := by decide +kernel
theorem dX5_takeStatement_73 : decode cX5_takeStatement 73 = .ok (.invokevirtual 95, 3) := by decide +kernel
theorem dX5_takeStatement_76 : decode cX5_takeStatement 76 = .ok (.goto 37, 3) := by decide +kernel
theorem dX5_takeStatement_79 : decode cX5_takeStatement 79 = .ok (.aload_n 0, 1) := by decide +kernel
theorem dX5_takeStatement_80 : decode cX5_takeStatement 80 = .ok (.dup, 1) := by decide +kernel
theorem dX5_takeStatement_81 : decode cX5_takeStatement 81 = .ok (.getfield 38, 3) := by decide +kernel
theorem dX5_takeStatement_84 : decode cX5_takeStatement 84 = .ok (.iconst 1, 1) := by decide +kernel
theorem dX5_takeStatement_85 : decode cX5_takeStatement 85 = .ok (.iadd, 1) := by decide +kernel
theorem dX5_takeStatement_86 : decode cX5_takeStatement 86 = .ok (.putfield 38, 3) := by decide +kernel
theorem dX5_takeStatement_89 : decode cX5_takeStatement 89 = .ok (.aload_n 0, 1) := by decide +kernel
theorem dX5_takeStatement_90 : decode cX5_takeStatement 90 = .ok (.iconst 3, 1) := by decide +kernel
theorem dX5_takeStatement_91 : decode cX5_takeStatement 91 = .ok (.iconst (-1), 1) := by decide +kernel
theorem dX5_takeStatement_92 : decode cX5_takeStatement 92 = .ok (.iconst 0, 1) := by decide +kernel
theorem dX5_takeStatement_93 : decode cX5_takeStatement 93 = .ok (.iconst 0, 1) := by decide +kernel
theorem dX5_takeStatement_94 : decode cX5_takeStatement 94 = .ok (.invokevirtual 65, 3) := by decide +kernel
theorem dX5_takeStatement_97 : decode cX5_takeStatement 97 = .ok (.goto 16, 3) := by decide +kernel
theorem dX5_takeStatement_100 : decode cX5_takeStatement 100 = .ok (.aload_n 0, 1) := by decide +kernel
theorem dX5_takeStatement_101 : decode cX5_takeStatement 101 = .ok (.iload_n 1, 1) := by decide +kernel
theorem dX5_takeStatement_102 : decode cX5_takeStatement 102 = .ok (.invokevirtual 98, 3) := by decide +kernel
theorem dX5_takeStatement_105 : decode cX5_takeStatement 105 = .ok (.goto 8, 3) := by decide +kernel
theorem dX5_takeStatement_108 : decode cX5_takeStatement 108 = .ok (.aload_n 0, 1) := by decide +kernel
theorem dX5_takeStatement_109 : decode cX5_takeStatement 109 = .ok (.iload_n 1, 1) := by decide +kernel
theorem dX5_takeStatement_110 : decode cX5_takeStatement 110 = .ok (.invokevirtual 102, 3) := by decide +kernel
theorem dX5_takeStatement_113 : decode cX5_takeStatement 113 = .ok (.return_, 1) := by decide +kernel
theorem dX5_takeAct_0 : decode cX5_takeAct 0 = .ok (.aload_n 0, 1) := by decide +kernel
theorem dX5_takeAct_1 : decode cX5_takeAct 1 = .ok (.invokevirtual 87, 3) := by decide +kernel
theorem dX5_takeAct_4 : decode cX5_takeAct 4 = .ok (.istore_n 1, 1) := by decide +kernel
theorem dX5_takeAct_5 : decode cX5_takeAct 5 = .ok (.aload_n 0, 1) := by decide +kernel
theorem dX5_takeAct_6 : decode cX5_takeAct 6 = .ok (.iload_n 1, 1) := by decide +kernel
theorem dX5_takeAct_7 : decode cX5_takeAct 7 = .ok (.ifCond .lt 19, 3) := by decide +kernel
theorem dX5_takeAct_10 : decode cX5_takeAct 10 = .ok (.iload_n 1, 1) := by decide +kernel
theorem dX5_takeAct_11 : decode cX5_takeAct 11 = .ok (.iconst 5, 1) := by decide +kernel
theorem dX5_takeAct_12 : decode cX5_takeAct 12 = .ok (.if_icmp .gt 14, 3) := by decide +kernel
theorem dX5_takeAct_15 : decode cX5_takeAct 15 = .ok (.iload_n 1, 1) := by decide +kernel
theorem dX5_takeAct_16 : decode cX5_takeAct 16 = .ok (.invokestatic 105, 3) := by decide +kernel
theorem dX5_takeAct_19 : decode cX5_takeAct 19 = .ok (.ifCond .ne 7, 3) := by decide +kernel
theorem dX5_takeAct_22 : decode cX5_takeAct 22 = .ok (.iconst 1, 1) := by decide +kernel
theorem dX5_takeAct_23 : decode cX5_takeAct 23 = .ok (.goto 4, 3) := by decide +kernel
theorem dX5_takeAct_26 : decode cX5_takeAct 26 = .ok (.iconst 0, 1) := by decide +kernel
theorem dX5_takeAct_27 : decode cX5_takeAct 27 = .ok (.iconst 4, 1) := by decide +kernel
theorem dX5_takeAct_28 : decode cX5_takeAct 28 = .ok (.invokevirtual 91, 3) := by decide +kernel
theorem dX5_takeAct_31 : decode cX5_takeAct 31 = .ok (.aload_n 0, 1) := by decide +kernel
theorem dX5_takeAct_32 : decode cX5_takeAct 32 = .ok (.iload_n 1, 1) := by decide +kernel
theorem dX5_takeAct_33 : decode cX5_takeAct 33 = .ok (.invokevirtual 109, 3) := by decide +kernel
theorem dX5_takeAct_36 : decode cX5_takeAct 36 = .ok (.istore_n 2, 1) := by decide +kernel
theorem dX5_takeAct_37 : decode cX5_takeAct 37 = .ok (.aload_n 0, 1) := by decide +kernel
theorem dX5_takeAct_38 : decode cX5_takeAct 38 = .ok (.iload_n 1, 1) := by decide +kernel
theorem dX5_takeAct_39 : decode cX5_takeAct 39 = .ok (.invokevirtual 113, 3) := by decide +kernel
theorem dX5_takeAct_42 : decode cX5_takeAct 42 = .ok (.istore_n 3, 1) := by decide +kernel
theorem dX5_takeAct_43 : decode cX5_takeAct 43 = .ok (.aload_n 0, 1) := by decide +kernel
theorem dX5_takeAct_44 : decode cX5_takeAct 44 = .ok (.iload_n 1, 1) := by decide +kernel
theorem dX5_takeAct_45 : decode cX5_takeAct 45 = .ok (.iload_n 2, 1) := by decide +kernel
theorem dX5_takeAct_46 : decode cX5_takeAct 46 = .ok (.iload_n 3, 1) := by decide +kernel
theorem dX5_takeAct_47 : decode cX5_takeAct 47 = .ok (.iconst 0, 1) := by decide +kernel
theorem dX5_takeAct_48 : decode cX5_takeAct 48 = .ok (.invokevirtual 116, 3) := by decide +kernel
theorem dX5_takeAct_51 : decode cX5_takeAct 51 = .ok (.return_, 1) := by decide +kernel
theorem dX5_takeA_0 : decode cX5_takeA 0 = .ok (.aload_n 0, 1) := by decide +kernel
theorem dX5_takeA_1 : decode cX5_takeA 1 = .ok (.invokevirtual 87, 3) := by decide +kernel
theorem dX5_takeA_4 : decode cX5_takeA 4 = .ok (.istore_n 2, 1) := by decide +kernel
theorem dX5_takeA_5 : decode cX5_takeA 5 = .ok (.aload_n 0, 1) := by decide +kernel
theorem dX5_takeA_6 : decode cX5_takeA 6 = .ok (.iload_n 1, 1) := by decide +kernel
theorem dX5_takeA_7 : decode cX5_takeA 7 = .ok (.iload_n 2, 1) := by decide +kernel
theorem dX5_takeA_8 : decode cX5_takeA 8 = .ok (.invokestatic 119, 3) := by decide +kernel
theorem dX5_takeA_11 : decode cX5_takeA 11 = .ok (.iconst 4, 1) := by decide +kernel
theorem dX5_takeA_12 : decode cX5_takeA 12 = .ok (.invokevirtual 91, 3) := by decide +kernel
theorem dX5_takeA_15 : decode cX5_takeA 15 = .ok (.iload_n 2, 1) := by decide +kernel
theorem dX5_takeA_16 : decode cX5_takeA 16 = .ok (.ireturn, 1) := by decide +kernel
theorem dX5_takeB_0 : decode cX5_takeB 0 = .ok (.aload_n 0, 1) := by decide +kernel
theorem dX5_takeB_1 : decode cX5_takeB 1 = .ok (.invokevirtual 87, 3) := by decide +kernel
theorem dX5_takeB_4 : decode cX5_takeB 4 = .ok (.istore_n 2, 1) := by decide +kernel
theorem dX5_takeB_5 : decode cX5_takeB 5 = .ok (.aload_n 0, 1) := by decide +kernel
theorem dX5_takeB_6 : decode cX5_takeB 6 = .ok (.iload_n 1, 1) := by decide +kernel
theorem dX5_takeB_7 : decode cX5_takeB 7 = .ok (.iload_n 2, 1) := by decide +kernel
theorem dX5_takeB_8 : decode cX5_takeB 8 = .ok (.invokestatic 123, 3) := by decide +kernel
theorem dX5_takeB_11 : decode cX5_takeB 11 = .ok (.iconst 4, 1) := by decide +kernel
theorem dX5_takeB_12 : decode cX5_takeB 12 = .ok (.invokevirtual 91, 3) := by decide +kernel
theorem dX5_takeB_15 : decode cX5_takeB 15 = .ok (.iload_n 2, 1) := by decide +kernel
theorem dX5_takeB_16 : decode cX5_takeB 16 = .ok (.ireturn, 1) := by decide +kernel
theorem dX5_takePlace_0 : decode cX5_takePlace 0 = .ok (.aload_n 0, 1) := by decide +kernel
theorem dX5_takePlace_1 : decode cX5_takePlace 1 = .ok (.invokevirtual 87, 3) := by decide +kernel
theorem dX5_takePlace_4 : decode cX5_takePlace 4 = .ok (.istore_n 1, 1) := by decide +kernel
theorem dX5_takePlace_5 : decode cX5_takePlace 5 = .ok (.aload_n 0, 1) := by decide +kernel
theorem dX5_takePlace_6 : decode cX5_takePlace 6 = .ok (.iload_n 1, 1) := by decide +kernel
theorem dX5_takePlace_7 : decode cX5_takePlace 7 = .ok (.ifCond .lt 7, 3) := by decide +kernel
theorem dX5_takePlace_10 : decode cX5_takePlace 10 = .ok (.iconst 1, 1) := by decide +kernel
theorem dX5_takePlace_11 : decode cX5_takePlace 11 = .ok (.goto 4, 3) := by decide +kernel
theorem dX5_takePlace_14 : decode cX5_takePlace 14 = .ok (.iconst 0, 1) := by decide +kernel
theorem dX5_takePlace_15 : decode cX5_takePlace 15 = .ok (.bipush 6, 2) := by decide +kernel
theorem dX5_takePlace_17 : decode cX5_takePlace 17 = .ok (.invokevirtual 91, 3) := by decide +kernel
theorem dX5_takePlace_20 : decode cX5_takePlace 20 = .ok (.aload_n 0, 1) := by decide +kernel
theorem dX5_takePlace_21 : decode cX5_takePlace 21 = .ok (.aload_n 0, 1) := by decide +kernel
theorem dX5_takePlace_22 : decode cX5_takePlace 22 = .ok (.getfield 35, 3) := by decide +kernel
theorem dX5_takePlace_25 : decode cX5_takePlace 25 = .ok (.iload_n 1, 1) := by decide +kernel
theorem dX5_takePlace_26 : decode cX5_takePlace 26 = .ok (.invokestatic 126, 3) := by decide +kernel
theorem dX5_takePlace_29 : decode cX5_takePlace 29 = .ok (.putfield 35, 3) := by decide +kernel
theorem dX5_takePlace_32 : decode cX5_takePlace 32 = .ok (.iload_n 1, 1) := by decide +kernel
theorem dX5_takePlace_33 : decode cX5_takePlace 33 = .ok (.ireturn, 1) := by decide +kernel
theorem dX5_takeTested_0 : decode cX5_takeTested 0 = .ok (.aload_n 0, 1) := by decide +kernel
theorem dX5_takeTested_1 : decode cX5_takeTested 1 = .ok (.iconst 3, 1) := by decide +kernel
theorem dX5_takeTested_2 : decode cX5_takeTested 2 = .ok (.invokevirtual 109, 3) := by decide +kernel
theorem dX5_takeTested_5 : decode cX5_takeTested 5 = .ok (.istore_n 2, 1) := by decide +kernel
theorem dX5_takeTested_6 : decode cX5_takeTested 6 = .ok (.aload_n 0, 1) := by decide +kernel
theorem dX5_takeTested_7 : decode cX5_takeTested 7 = .ok (.iconst 3, 1) := by decide +kernel
theorem dX5_takeTested_8 : decode cX5_takeTested 8 = .ok (.invokevirtual 113, 3) := by decide +kernel
theorem dX5_takeTested_11 : decode cX5_takeTested 11 = .ok (.istore_n 3, 1) := by decide +kernel
theorem dX5_takeTested_12 : decode cX5_takeTested 12 = .ok (.iload_n 1, 1) := by decide +kernel
theorem dX5_takeTested_13 : decode cX5_takeTested 13 = .ok (.iconst 4, 1) := by decide +kernel
theorem dX5_takeTested_14 : decode cX5_takeTested 14 = .ok (.if_icmp .eq 8, 3) := by decide +kernel
theorem dX5_takeTested_17 : decode cX5_takeTested 17 = .ok (.iload_n 1, 1) := by decide +kernel
theorem dX5_takeTested_18 : decode cX5_takeTested 18 = .ok (.iconst 5, 1) := by decide +kernel
theorem dX5_takeTested_19 : decode cX5_takeTested 19 = .ok (.if_icmp .ne 13, 3) := by decide +kernel
theorem dX5_takeTested_22 : decode cX5_takeTested 22 = .ok (.aload_n 0, 1) := by decide +kernel
theorem dX5_takeTested_23 : decode cX5_takeTested 23 = .ok (.dup, 1) := by decide +kernel
theorem dX5_takeTested_24 : decode cX5_takeTested 24 = .ok (.getfield 38, 3) := by decide +kernel
theorem dX5_takeTested_27 : decode cX5_takeTested 27 = .ok (.iconst 1, 1) := by decide +kernel
theorem dX5_takeTested_28 : decode cX5_takeTested 28 = .ok (.iadd, 1) := by decide +kernel
theorem dX5_takeTested_29 : decode cX5_takeTested 29 = .ok (.putfield 38, 3) := by decide +kernel
theorem dX5_takeTested_32 : decode cX5_takeTested 32 = .ok (.iload_n 1, 1) := by decide +kernel
theorem dX5_takeTested_33 : decode cX5_takeTested 33 = .ok (.iconst 5, 1) := by decide +kernel
theorem dX5_takeTested_34 : decode cX5_takeTested 34 = .ok (.if_icmp .ne 12, 3) := by decide +kernel
theorem dX5_takeTested_37 : decode cX5_takeTested 37 = .ok (.aload_n 0, 1) := by decide +kernel
theorem dX5_takeTested_38 : decode cX5_takeTested 38 = .ok (.iconst 5, 1) := by decide +kernel
theorem dX5_takeTested_39 : decode cX5_takeTested 39 = .ok (.iconst (-1), 1) := by decide +kernel
theorem dX5_takeTested_40 : decode cX5_takeTested 40 = .ok (.iload_n 2, 1) := by decide +kernel
theorem dX5_takeTested_41 : decode cX5_takeTested 41 = .ok (.iload_n 3, 1) := by decide +kernel
theorem dX5_takeTested_42 : decode cX5_takeTested 42 = .ok (.invokevirtual 65, 3) := by decide +kernel
theorem dX5_takeTested_45 : decode cX5_takeTested 45 = .ok (.return_, 1) := by decide +kernel
theorem dX5_takeTested_46 : decode cX5_takeTested 46 = .ok (.aload_n 0, 1) := by decide +kernel
theorem dX5_takeTested_47 : decode cX5_takeTested 47 = .ok (.iload_n 1, 1) := by decide +kernel
theorem dX5_takeTested_48 : decode cX5_takeTested 48 = .ok (.aload_n 0, 1) := by decide +kernel
theorem dX5_takeTested_49 : decode cX5_takeTested 49 = .ok (.getfield 32, 3) := by decide +kernel
theorem dX5_takeTested_52 : decode cX5_takeTested 52 = .ok (.iload_n 2, 1) := by decide +kernel
theorem dX5_takeTested_53 : decode cX5_takeTested 53 = .ok (.iload_n 3, 1) := by decide +kernel
theorem dX5_takeTested_54 : decode cX5_takeTested 54 = .ok (.invokevirtual 65, 3) := by decide +kernel
theorem dX5_takeTested_57 : decode cX5_takeTested 57 = .ok (.aload_n 0, 1) := by decide +kernel
theorem dX5_takeTested_58 : decode cX5_takeTested 58 = .ok (.iconst 3, 1) := by decide +kernel
theorem dX5_takeTested_59 : decode cX5_takeTested 59 = .ok (.iload_n 2, 1) := by decide +kernel
theorem dX5_takeTested_60 : decode cX5_takeTested 60 = .ok (.iload_n 3, 1) := by decide +kernel
theorem dX5_takeTested_61 : decode cX5_takeTested 61 = .ok (.iconst 0, 1) := by decide +kernel
theorem dX5_takeTested_62 : decode cX5_takeTested 62 = .ok (.invokevirtual 116, 3) := by decide +kernel
theorem dX5_takeTested_65 : decode cX5_takeTested 65 = .ok (.return_, 1) := by decide +kernel
theorem dX5_takeLeap_0 : decode cX5_takeLeap 0 = .ok (.iload_n 1, 1) := by decide +kernel
theorem dX5_takeLeap_1 : decode cX5_takeLeap 1 = .ok (.bipush 9, 2) := by decide +kernel
theorem dX5_takeLeap_3 : decode cX5_takeLeap 3 = .ok (.if_icmp .lt 7, 3) := by decide +kernel
theorem dX5_takeLeap_6 : decode cX5_takeLeap 6 = .ok (.iconst 1, 1) := by decide +kernel
theorem dX5_takeLeap_7 : decode cX5_takeLeap 7 = .ok (.goto 4, 3) := by decide +kernel
theorem dX5_takeLeap_10 : decode cX5_takeLeap 10 = .ok (.iconst 0, 1) := by decide +kernel
theorem dX5_takeLeap_11 : decode cX5_takeLeap 11 = .ok (.istore_n 2, 1) := by decide +kernel
theorem dX5_takeLeap_12 : decode cX5_takeLeap 12 = .ok (.iload_n 2, 1) := by decide +kernel
theorem dX5_takeLeap_13 : decode cX5_takeLeap 13 = .ok (.ifCond .eq 13, 3) := by decide +kernel
theorem dX5_takeLeap_16 : decode cX5_takeLeap 16 = .ok (.iload_n 1, 1) := by decide +kernel
theorem dX5_takeLeap_17 : decode cX5_takeLeap 17 = .ok (.bipush 9, 2) := by decide +kernel
theorem dX5_takeLeap_19 : decode cX5_takeLeap 19 = .ok (.isub, 1) := by decide +kernel
theorem dX5_takeLeap_20 : decode cX5_takeLeap 20 = .ok (.bipush 6, 2) := by decide +kernel
theorem dX5_takeLeap_22 : decode cX5_takeLeap 22 = .ok (.iadd, 1) := by decide +kernel
theorem dX5_takeLeap_23 : decode cX5_takeLeap 23 = .ok (.goto 4, 3) := by decide +kernel
theorem dX5_takeLeap_26 : decode cX5_takeLeap 26 = .ok (.iload_n 1, 1) := by decide +kernel
theorem dX5_takeLeap_27 : decode cX5_takeLeap 27 = .ok (.istore_n 3, 1) := by decide +kernel
theorem dX5_takeLeap_28 : decode cX5_takeLeap 28 = .ok (.aload_n 0, 1) := by decide +kernel
theorem dX5_takeLeap_29 : decode cX5_takeLeap 29 = .ok (.iload_n 3, 1) := by decide +kernel
theorem dX5_takeLeap_30 : decode cX5_takeLeap 30 = .ok (.bipush 8, 2) := by decide +kernel
theorem dX5_takeLeap_32 : decode cX5_takeLeap 32 = .ok (.if_icmp .eq 10, 3) := by decide +kernel
theorem dX5_takeLeap_35 : decode cX5_takeLeap 35 = .ok (.aload_n 0, 1) := by decide +kernel
theorem dX5_takeLeap_36 : decode cX5_takeLeap 36 = .ok (.getfield 38, 3) := by decide +kernel
theorem dX5_takeLeap_39 : decode cX5_takeLeap 39 = .ok (.ifCond .le 7, 3) := by decide +kernel
theorem dX5_takeLeap_42 : decode cX5_takeLeap 42 = .ok (.iconst 1, 1) := by decide +kernel
theorem dX5_takeLeap_43 : decode cX5_takeLeap 43 = .ok (.goto 4, 3) := by decide +kernel
theorem dX5_takeLeap_46 : decode cX5_takeLeap 46 = .ok (.iconst 0, 1) := by decide +kernel
theorem dX5_takeLeap_47 : decode cX5_takeLeap 47 = .ok (.iconst 5, 1) := by decide +kernel
theorem dX5_takeLeap_48 : decode cX5_takeLeap 48 = .ok (.invokevirtual 91, 3) := by decide +kernel
theorem dX5_takeLeap_51 : decode cX5_takeLeap 51 = .ok (.iload_n 2, 1) := by decide +kernel
theorem dX5_takeLeap_52 : decode cX5_takeLeap 52 = .ok (.ifCond .eq 11, 3) := by decide +kernel
theorem dX5_takeLeap_55 : decode cX5_takeLeap 55 = .ok (.aload_n 0, 1) := by decide +kernel
theorem dX5_takeLeap_56 : decode cX5_takeLeap 56 = .ok (.iconst 3, 1) := by decide +kernel
theorem dX5_takeLeap_57 : decode cX5_takeLeap 57 = .ok (.invokevirtual 109, 3) := by decide +kernel
theorem dX5_takeLeap_60 : decode cX5_takeLeap 60 = .ok (.goto 4, 3) := by decide +kernel
theorem dX5_takeLeap_63 : decode cX5_takeLeap 63 = .ok (.iconst 0, 1) := by decide +kernel
theorem dX5_takeLeap_64 : decode cX5_takeLeap 64 = .ok (.istore 4, 2) := by decide +kernel
theorem dX5_takeLeap_66 : decode cX5_takeLeap 66 = .ok (.iload_n 2, 1) := by decide +kernel
theorem dX5_takeLeap_67 : decode cX5_takeLeap 67 = .ok (.ifCond .eq 11, 3) := by decide +kernel
theorem dX5_takeLeap_70 : decode cX5_takeLeap 70 = .ok (.aload_n 0, 1) := by decide +kernel
theorem dX5_takeLeap_71 : decode cX5_takeLeap 71 = .ok (.iconst 3, 1) := by decide +kernel
theorem dX5_takeLeap_72 : decode cX5_takeLeap 72 = .ok (.invokevirtual 113, 3) := by decide +kernel
theorem dX5_takeLeap_75 : decode cX5_takeLeap 75 = .ok (.goto 4, 3) := by decide +kernel
theorem dX5_takeLeap_78 : decode cX5_takeLeap 78 = .ok (.iconst 0, 1) := by decide +kernel
theorem dX5_takeLeap_79 : decode cX5_takeLeap 79 = .ok (.istore 5, 2) := by decide +kernel
theorem dX5_takeLeap_81 : decode cX5_takeLeap 81 = .ok (.iload_n 3, 1) := by decide +kernel
theorem dX5_takeLeap_82 : decode cX5_takeLeap 82 = .ok (.bipush 8, 2) := by decide +kernel
theorem dX5_takeLeap_84 : decode cX5_takeLeap 84 = .ok (.if_icmp .ne 10, 3) := by decide +kernel
theorem dX5_takeLeap_87 : decode cX5_takeLeap 87 = .ok (.aload_n 0, 1) := by decide +kernel
theorem dX5_takeLeap_88 : decode cX5_takeLeap 88 = .ok (.invokevirtual 129, 3) := by decide +kernel
theorem dX5_takeLeap_91 : decode cX5_takeLeap 91 = .ok (.goto 4, 3) := by decide +kernel
theorem dX5_takeLeap_94 : decode cX5_takeLeap 94 = .ok (.iconst 0, 1) := by decide +kernel
theorem dX5_takeLeap_95 : decode cX5_takeLeap 95 = .ok (.istore 6, 2) := by decide +kernel
theorem dX5_takeLeap_97 : decode cX5_takeLeap 97 = .ok (.aload_n 0, 1) := by decide +kernel
theorem dX5_takeLeap_98 : decode cX5_takeLeap 98 = .ok (.iload_n 2, 1) := by decide +kernel
theorem dX5_takeLeap_99 : decode cX5_takeLeap 99 = .ok (.ifCond .eq 7, 3) := by decide +kernel
theorem dX5_takeLeap_102 : decode cX5_takeLeap 102 = .ok (.iconst 3, 1) := by decide +kernel
theorem dX5_takeLeap_103 : decode cX5_takeLeap 103 = .ok (.goto 4, 3) := by decide +kernel
theorem dX5_takeLeap_106 : decode cX5_takeLeap 106 = .ok (.iconst 2, 1) := by decide +kernel
theorem dX5_takeLeap_107 : decode cX5_takeLeap 107 = .ok (.iload 4, 2) := by decide +kernel
theorem dX5_takeLeap_109 : decode cX5_takeLeap 109 = .ok (.iload 5, 2) := by decide +kernel
theorem dX5_takeLeap_111 : decode cX5_takeLeap 111 = .ok (.iload 6, 2) := by decide +kernel
theorem dX5_takeLeap_113 : decode cX5_takeLeap 113 = .ok (.invokevirtual 116, 3) := by decide +kernel
theorem dX5_takeLeap_116 : decode cX5_takeLeap 116 = .ok (.iload_n 3, 1) := by decide +kernel
theorem dX5_takeLeap_117 : decode cX5_takeLeap 117 = .ok (.bipush 8, 2) := by decide +kernel
theorem dX5_takeLeap_119 : decode cX5_takeLeap 119 = .ok (.if_icmp .eq 24, 3) := by decide +kernel
theorem dX5_takeLeap_122 : decode cX5_takeLeap 122 = .ok (.aload_n 0, 1) := by decide +kernel
theorem dX5_takeLeap_123 : decode cX5_takeLeap 123 = .ok (.getfield 32, 3) := by decide +kernel
theorem dX5_takeLeap_126 : decode cX5_takeLeap 126 = .ok (.bipush 60, 2) := by decide +kernel
theorem dX5_takeLeap_128 : decode cX5_takeLeap 128 = .ok (.if_icmp .gt 15, 3) := by decide +kernel
theorem dX5_takeLeap_131 : decode cX5_takeLeap 131 = .ok (.aload_n 0, 1) := by decide +kernel
theorem dX5_takeLeap_132 : decode cX5_takeLeap 132 = .ok (.getfield 41, 3) := by decide +kernel
theorem dX5_takeLeap_135 : decode cX5_takeLeap 135 = .ok (.aload_n 0, 1) := by decide +kernel
theorem dX5_takeLeap_136 : decode cX5_takeLeap 136 = .ok (.getfield 32, 3) := by decide +kernel
theorem dX5_takeLeap_139 : decode cX5_takeLeap 139 = .ok (.iconst 1, 1) := by decide +kernel
theorem dX5_takeLeap_140 : decode cX5_takeLeap 140 = .ok (.isub, 1) := by decide +kernel
theorem dX5_takeLeap_141 : decode cX5_takeLeap 141 = .ok (.iload_n 3, 1) := by decide +kernel
theorem dX5_takeLeap_142 : decode cX5_takeLeap 142 = .ok (.iastore, 1) := by decide +kernel
theorem dX5_takeLeap_143 : decode cX5_takeLeap 143 = .ok (.return_, 1) := by decide +kernel
theorem dX5_openBody_0 : decode cX5_openBody 0 = .ok (.aload_n 0, 1) := by decide +kernel
theorem dX5_openBody_1 : decode cX5_openBody 1 = .ok (.invokevirtual 87, 3) := by decide +kernel
theorem dX5_openBody_4 : decode cX5_openBody 4 = .ok (.istore 5, 2) := by decide +kernel
theorem dX5_openBody_6 : decode cX5_openBody 6 = .ok (.aload_n 0, 1) := by decide +kernel
theorem dX5_openBody_7 : decode cX5_openBody 7 = .ok (.aload_n 0, 1) := by decide +kernel
theorem dX5_openBody_8 : decode cX5_openBody 8 = .ok (.getfield 44, 3) := by decide +kernel
theorem dX5_openBody_11 : decode cX5_openBody 11 = .ok (.bipush 61, 2) := by decide +kernel
theorem dX5_openBody_13 : decode cX5_openBody 13 = .ok (.if_icmp .ge 7, 3) := by decide +kernel
theorem dX5_openBody_16 : decode cX5_openBody 16 = .ok (.iconst 1, 1) := by decide +kernel
theorem dX5_openBody_17 : decode cX5_openBody 17 = .ok (.goto 4, 3) := by decide +kernel
theorem dX5_openBody_20 : decode cX5_openBody 20 = .ok (.iconst 0, 1) := by decide +kernel
theorem dX5_openBody_21 : decode cX5_openBody 21 = .ok (.iconst 2, 1) := by decide +kernel
theorem dX5_openBody_22 : decode cX5_openBody 22 = .ok (.invokevirtual 91, 3) := by decide +kernel
theorem dX5_openBody_25 : decode cX5_openBody 25 = .ok (.aload_n 0, 1) := by decide +kernel
theorem dX5_openBody_26 : decode cX5_openBody 26 = .ok (.iload 5, 2) := by decide +kernel
theorem dX5_openBody_28 : decode cX5_openBody 28 = .ok (.ifCond .lt 7, 3) := by decide +kernel
theorem dX5_openBody_31 : decode cX5_openBody 31 = .ok (.iconst 1, 1) := by decide +kernel
theorem dX5_openBody_32 : decode cX5_openBody 32 = .ok (.goto 4, 3) := by decide +kernel
theorem dX5_openBody_35 : decode cX5_openBody 35 = .ok (.iconst 0, 1) := by decide +kernel
theorem dX5_openBody_36 : decode cX5_openBody 36 = .ok (.iconst 3, 1) := by decide +kernel
theorem dX5_openBody_37 : decode cX5_openBody 37 = .ok (.invokevirtual 91, 3) := by decide +kernel
theorem dX5_openBody_40 : decode cX5_openBody 40 = .ok (.aload_n 0, 1) := by decide +kernel
theorem dX5_openBody_41 : decode cX5_openBody 41 = .ok (.getfield 29, 3) := by decide +kernel
theorem dX5_openBody_44 : decode cX5_openBody 44 = .ok (.ifCond .eq 4, 3) := by decide +kernel
theorem dX5_openBody_47 : decode cX5_openBody 47 = .ok (.return_, 1) := by decide +kernel
theorem dX5_openBody_48 : decode cX5_openBody 48 = .ok (.aload_n 0, 1) := by decide +kernel
theorem dX5_openBody_49 : decode cX5_openBody 49 = .ok (.getfield 47, 3) := by decide +kernel
theorem dX5_openBody_52 : decode cX5_openBody 52 = .ok (.aload_n 0, 1) := by decide +kernel
theorem dX5_openBody_53 : decode cX5_openBody 53 = .ok (.getfield 44, 3) := by decide +kernel
theorem dX5_openBody_56 : decode cX5_openBody 56 = .ok (.iload 5, 2) := by decide +kernel
theorem dX5_openBody_58 : decode cX5_openBody 58 = .ok (.iastore, 1) := by decide +kernel
theorem dX5_openBody_59 : decode cX5_openBody 59 = .ok (.aload_n 0, 1) := by decide +kernel
theorem dX5_openBody_60 : decode cX5_openBody 60 = .ok (.getfield 50, 3) := by decide +kernel
theorem dX5_openBody_63 : decode cX5_openBody 63 = .ok (.aload_n 0, 1) := by decide +kernel
theorem dX5_openBody_64 : decode cX5_openBody 64 = .ok (.getfield 44, 3) := by decide +kernel
theorem dX5_openBody_67 : decode cX5_openBody 67 = .ok (.iload_n 1, 1) := by decide +kernel
theorem dX5_openBody_68 : decode cX5_openBody 68 = .ok (.iastore, 1) := by decide +kernel
theorem dX5_openBody_69 : decode cX5_openBody 69 = .ok (.aload_n 0, 1) := by decide +kernel
theorem dX5_openBody_70 : decode cX5_openBody 70 = .ok (.getfield 53, 3) := by decide +kernel
theorem dX5_openBody_73 : decode cX5_openBody 73 = .ok (.aload_n 0, 1) := by decide +kernel
theorem dX5_openBody_74 : decode cX5_openBody 74 = .ok (.getfield 44, 3) := by decide +kernel
theorem dX5_openBody_77 : decode cX5_openBody 77 = .ok (.aload_n 0, 1) := by decide +kernel
theorem dX5_openBody_78 : decode cX5_openBody 78 = .ok (.getfield 32, 3) := by decide +kernel
theorem dX5_openBody_81 : decode cX5_openBody 81 = .ok (.iastore, 1) := by decide +kernel
theorem dX5_openBody_82 : decode cX5_openBody 82 = .ok (.aload_n 0, 1) := by decide +kernel
theorem dX5_openBody_83 : decode cX5_openBody 83 = .ok (.getfield 56, 3) := by decide +kernel
theorem dX5_openBody_86 : decode cX5_openBody 86 = .ok (.aload_n 0, 1) := by decide +kernel
theorem dX5_openBody_87 : decode cX5_openBody 87 = .ok (.getfield 44, 3) := by decide +kernel
theorem dX5_openBody_90 : decode cX5_openBody 90 = .ok (.iload_n 2, 1) := by decide +kernel
theorem dX5_openBody_91 : decode cX5_openBody 91 = .ok (.iastore, 1) := by decide +kernel
theorem dX5_openBody_92 : decode cX5_openBody 92 = .ok (.aload_n 0, 1) := by decide +kernel
theorem dX5_openBody_93 : decode cX5_openBody 93 = .ok (.getfield 59, 3) := by decide +kernel
theorem dX5_openBody_96 : decode cX5_openBody 96 = .ok (.aload_n 0, 1) := by decide +kernel
theorem dX5_openBody_97 : decode cX5_openBody 97 = .ok (.getfield 44, 3) := by decide +kernel
theorem dX5_openBody_100 : decode cX5_openBody 100 = .ok (.iload_n 3, 1) := by decide +kernel
theorem dX5_openBody_101 : decode cX5_openBody 101 = .ok (.iastore, 1) := by decide +kernel
theorem dX5_openBody_102 : decode cX5_openBody 102 = .ok (.aload_n 0, 1) := by decide +kernel
theorem dX5_openBody_103 : decode cX5_openBody 103 = .ok (.getfield 62, 3) := by decide +kernel
theorem dX5_openBody_106 : decode cX5_openBody 106 = .ok (.aload_n 0, 1) := by decide +kernel
theorem dX5_openBody_107 : decode cX5_openBody 107 = .ok (.getfield 44, 3) := by decide +kernel
theorem dX5_openBody_110 : decode cX5_openBody 110 = .ok (.iload 4, 2) := by decide +kernel
theorem dX5_openBody_112 : decode cX5_openBody 112 = .ok (.iastore, 1) := by decide +kernel
theorem dX5_openBody_113 : decode cX5_openBody 113 = .ok (.aload_n 0, 1) := by decide +kernel
theorem dX5_openBody_114 : decode cX5_openBody 114 = .ok (.dup, 1) := by decide +kernel
theorem dX5_openBody_115 : decode cX5_openBody 115 = .ok (.getfield 44, 3) := by decide +kernel
theorem dX5_openBody_118 : decode cX5_openBody 118 = .ok (.iconst 1, 1) := by decide +kernel
theorem dX5_openBody_119 : decode cX5_openBody 119 = .ok (.iadd, 1) := by decide +kernel
theorem dX5_openBody_120 : decode cX5_openBody 120 = .ok (.putfield 44, 3) := by decide +kernel
theorem dX5_openBody_123 : decode cX5_openBody 123 = .ok (.return_, 1) := by decide +kernel
theorem dX5_closeBody_0 : decode cX5_closeBody 0 = .ok (.aload_n 0, 1) := by decide +kernel
theorem dX5_closeBody_1 : decode cX5_closeBody 1 = .ok (.dup, 1) := by decide +kernel
theorem dX5_closeBody_2 : decode cX5_closeBody 2 = .ok (.getfield 44, 3) := by decide +kernel
theorem dX5_closeBody_5 : decode cX5_closeBody 5 = .ok (.iconst 1, 1) := by decide +kernel
theorem dX5_closeBody_6 : decode cX5_closeBody 6 = .ok (.isub, 1) := by decide +kernel
theorem dX5_closeBody_7 : decode cX5_closeBody 7 = .ok (.putfield 44, 3) := by decide +kernel
theorem dX5_closeBody_10 : decode cX5_closeBody 10 = .ok (.aload_n 0, 1) := by decide +kernel
theorem dX5_closeBody_11 : decode cX5_closeBody 11 = .ok (.getfield 53, 3) := by decide +kernel
theorem dX5_closeBody_14 : decode cX5_closeBody 14 = .ok (.aload_n 0, 1) := by decide +kernel
theorem dX5_closeBody_15 : decode cX5_closeBody 15 = .ok (.getfield 44, 3) := by decide +kernel
theorem dX5_closeBody_18 : decode cX5_closeBody 18 = .ok (.iaload, 1) := by decide +kernel
theorem dX5_closeBody_19 : decode cX5_closeBody 19 = .ok (.istore_n 1, 1) := by decide +kernel
theorem dX5_closeBody_20 : decode cX5_closeBody 20 = .ok (.aload_n 0, 1) := by decide +kernel
theorem dX5_closeBody_21 : decode cX5_closeBody 21 = .ok (.getfield 50, 3) := by decide +kernel
theorem dX5_closeBody_24 : decode cX5_closeBody 24 = .ok (.aload_n 0, 1) := by decide +kernel
theorem dX5_closeBody_25 : decode cX5_closeBody 25 = .ok (.getfield 44, 3) := by decide +kernel
theorem dX5_closeBody_28 : decode cX5_closeBody 28 = .ok (.iaload, 1) := by decide +kernel
theorem dX5_closeBody_29 : decode cX5_closeBody 29 = .ok (.tableswitch 185 1 5 #[35, 55, 96, 113, 147], 35) := by decide +kernel
theorem dX5_closeBody_64 : decode cX5_closeBody 64 = .ok (.aload_n 0, 1) := by decide +kernel
theorem dX5_closeBody_65 : decode cX5_closeBody 65 = .ok (.aload_n 0, 1) := by decide +kernel
theorem dX5_closeBody_66 : decode cX5_closeBody 66 = .ok (.getfield 56, 3) := by decide +kernel
theorem dX5_closeBody_69 : decode cX5_closeBody 69 = .ok (.aload_n 0, 1) := by decide +kernel
theorem dX5_closeBody_70 : decode cX5_closeBody 70 = .ok (.getfield 44, 3) := by decide +kernel
theorem dX5_closeBody_73 : decode cX5_closeBody 73 = .ok (.iaload, 1) := by decide +kernel
theorem dX5_closeBody_74 : decode cX5_closeBody 74 = .ok (.aload_n 0, 1) := by decide +kernel
theorem dX5_closeBody_75 : decode cX5_closeBody 75 = .ok (.getfield 32, 3) := by decide +kernel
theorem dX5_closeBody_78 : decode cX5_closeBody 78 = .ok (.invokevirtual 132, 3) := by decide +kernel
theorem dX5_closeBody_81 : decode cX5_closeBody 81 = .ok (.goto 133, 3) := by decide +kernel
theorem dX5_closeBody_84 : decode cX5_closeBody 84 = .ok (.aload_n 0, 1) := by decide +kernel
theorem dX5_closeBody_85 : decode cX5_closeBody 85 = .ok (.iconst 2, 1) := by decide +kernel
theorem dX5_closeBody_86 : decode cX5_closeBody 86 = .ok (.iconst 0, 1) := by decide +kernel
theorem dX5_closeBody_87 : decode cX5_closeBody 87 = .ok (.iconst 0, 1) := by decide +kernel
theorem dX5_closeBody_88 : decode cX5_closeBody 88 = .ok (.iconst 0, 1) := by decide +kernel
theorem dX5_closeBody_89 : decode cX5_closeBody 89 = .ok (.invokevirtual 116, 3) := by decide +kernel
theorem dX5_closeBody_92 : decode cX5_closeBody 92 = .ok (.aload_n 0, 1) := by decide +kernel
theorem dX5_closeBody_93 : decode cX5_closeBody 93 = .ok (.aload_n 0, 1) := by decide +kernel
theorem dX5_closeBody_94 : decode cX5_closeBody 94 = .ok (.getfield 56, 3) := by decide +kernel
theorem dX5_closeBody_97 : decode cX5_closeBody 97 = .ok (.aload_n 0, 1) := by decide +kernel
theorem dX5_closeBody_98 : decode cX5_closeBody 98 = .ok (.getfield 44, 3) := by decide +kernel
theorem dX5_closeBody_101 : decode cX5_closeBody 101 = .ok (.iaload, 1) := by decide +kernel
theorem dX5_closeBody_102 : decode cX5_closeBody 102 = .ok (.aload_n 0, 1) := by decide +kernel
theorem dX5_closeBody_103 : decode cX5_closeBody 103 = .ok (.getfield 32, 3) := by decide +kernel
theorem dX5_closeBody_106 : decode cX5_closeBody 106 = .ok (.invokevirtual 132, 3) := by decide +kernel
theorem dX5_closeBody_109 : decode cX5_closeBody 109 = .ok (.aload_n 0, 1) := by decide +kernel
theorem dX5_closeBody_110 : decode cX5_closeBody 110 = .ok (.iconst 1, 1) := by decide +kernel
theorem dX5_closeBody_111 : decode cX5_closeBody 111 = .ok (.aload_n 0, 1) := by decide +kernel
theorem dX5_closeBody_112 : decode cX5_closeBody 112 = .ok (.getfield 32, 3) := by decide +kernel
theorem dX5_closeBody_115 : decode cX5_closeBody 115 = .ok (.iconst 1, 1) := by decide +kernel
theorem dX5_closeBody_116 : decode cX5_closeBody 116 = .ok (.isub, 1) := by decide +kernel
theorem dX5_closeBody_117 : decode cX5_closeBody 117 = .ok (.iconst 0, 1) := by decide +kernel
theorem dX5_closeBody_118 : decode cX5_closeBody 118 = .ok (.iconst 0, 1) := by decide +kernel
theorem dX5_closeBody_119 : decode cX5_closeBody 119 = .ok (.invokevirtual 65, 3) := by decide +kernel
theorem dX5_closeBody_122 : decode cX5_closeBody 122 = .ok (.goto 92, 3) := by decide +kernel
theorem dX5_closeBody_125 : decode cX5_closeBody 125 = .ok (.aload_n 0, 1) := by decide +kernel
theorem dX5_closeBody_126 : decode cX5_closeBody 126 = .ok (.iconst 2, 1) := by decide +kernel
theorem dX5_closeBody_127 : decode cX5_closeBody 127 = .ok (.iconst 0, 1) := by decide +kernel
theorem dX5_closeBody_128 : decode cX5_closeBody 128 = .ok (.iconst 0, 1) := by decide +kernel
theorem dX5_closeBody_129 : decode cX5_closeBody 129 = .ok (.iload_n 1, 1) := by decide +kernel
theorem dX5_closeBody_130 : decode cX5_closeBody 130 = .ok (.invokevirtual 116, 3) := by decide +kernel
theorem dX5_closeBody_133 : decode cX5_closeBody 133 = .ok (.aload_n 0, 1) := by decide +kernel
theorem dX5_closeBody_134 : decode cX5_closeBody 134 = .ok (.iload_n 1, 1) := by decide +kernel
theorem dX5_closeBody_135 : decode cX5_closeBody 135 = .ok (.iload_n 1, 1) := by decide +kernel
theorem dX5_closeBody_136 : decode cX5_closeBody 136 = .ok (.invokevirtual 136, 3) := by decide +kernel
theorem dX5_closeBody_139 : decode cX5_closeBody 139 = .ok (.goto 75, 3) := by decide +kernel
theorem dX5_closeBody_142 : decode cX5_closeBody 142 = .ok (.aload_n 0, 1) := by decide +kernel
theorem dX5_closeBody_143 : decode cX5_closeBody 143 = .ok (.iconst 2, 1) := by decide +kernel
theorem dX5_closeBody_144 : decode cX5_closeBody 144 = .ok (.iconst 0, 1) := by decide +kernel
theorem dX5_closeBody_145 : decode cX5_closeBody 145 = .ok (.iconst 0, 1) := by decide +kernel
theorem dX5_closeBody_146 : decode cX5_closeBody 146 = .ok (.iload_n 1, 1) := by decide +kernel
theorem dX5_closeBody_147 : decode cX5_closeBody 147 = .ok (.invokevirtual 116, 3) := by decide +kernel
theorem dX5_closeBody_150 : decode cX5_closeBody 150 = .ok (.aload_n 0, 1) := by decide +kernel
theorem dX5_closeBody_151 : decode cX5_closeBody 151 = .ok (.aload_n 0, 1) := by decide +kernel
theorem dX5_closeBody_152 : decode cX5_closeBody 152 = .ok (.getfield 56, 3) := by decide +kernel
theorem dX5_closeBody_155 : decode cX5_closeBody 155 = .ok (.aload_n 0, 1) := by decide +kernel
theorem dX5_closeBody_156 : decode cX5_closeBody 156 = .ok (.getfield 44, 3) := by decide +kernel
theorem dX5_closeBody_159 : decode cX5_closeBody 159 = .ok (.iaload, 1) := by decide +kernel
theorem dX5_closeBody_160 : decode cX5_closeBody 160 = .ok (.aload_n 0, 1) := by decide +kernel
theorem dX5_closeBody_161 : decode cX5_closeBody 161 = .ok (.getfield 32, 3) := by decide +kernel
theorem dX5_closeBody_164 : decode cX5_closeBody 164 = .ok (.invokevirtual 132, 3) := by decide +kernel
theorem dX5_closeBody_167 : decode cX5_closeBody 167 = .ok (.aload_n 0, 1) := by decide +kernel
theorem dX5_closeBody_168 : decode cX5_closeBody 168 = .ok (.iload_n 1, 1) := by decide +kernel
theorem dX5_closeBody_169 : decode cX5_closeBody 169 = .ok (.iload_n 1, 1) := by decide +kernel
theorem dX5_closeBody_170 : decode cX5_closeBody 170 = .ok (.invokevirtual 136, 3) := by decide +kernel
theorem dX5_closeBody_173 : decode cX5_closeBody 173 = .ok (.goto 41, 3) := by decide +kernel
theorem dX5_closeBody_176 : decode cX5_closeBody 176 = .ok (.aload_n 0, 1) := by decide +kernel
theorem dX5_closeBody_177 : decode cX5_closeBody 177 = .ok (.iconst 3, 1) := by decide +kernel
theorem dX5_closeBody_178 : decode cX5_closeBody 178 = .ok (.aload_n 0, 1) := by decide +kernel
theorem dX5_closeBody_179 : decode cX5_closeBody 179 = .ok (.getfield 59, 3) := by decide +kernel
theorem dX5_closeBody_182 : decode cX5_closeBody 182 = .ok (.aload_n 0, 1) := by decide +kernel
theorem dX5_closeBody_183 : decode cX5_closeBody 183 = .ok (.getfield 44, 3) := by decide +kernel
theorem dX5_closeBody_186 : decode cX5_closeBody 186 = .ok (.iaload, 1) := by decide +kernel
theorem dX5_closeBody_187 : decode cX5_closeBody 187 = .ok (.aload_n 0, 1) := by decide +kernel
theorem dX5_closeBody_188 : decode cX5_closeBody 188 = .ok (.getfield 62, 3) := by decide +kernel
theorem dX5_closeBody_191 : decode cX5_closeBody 191 = .ok (.aload_n 0, 1) := by decide +kernel
theorem dX5_closeBody_192 : decode cX5_closeBody 192 = .ok (.getfield 44, 3) := by decide +kernel
theorem dX5_closeBody_195 : decode cX5_closeBody 195 = .ok (.iaload, 1) := by decide +kernel
theorem dX5_closeBody_196 : decode cX5_closeBody 196 = .ok (.iload_n 1, 1) := by decide +kernel
theorem dX5_closeBody_197 : decode cX5_closeBody 197 = .ok (.invokevirtual 116, 3) := by decide +kernel
theorem dX5_closeBody_200 : decode cX5_closeBody 200 = .ok (.aload_n 0, 1) := by decide +kernel
theorem dX5_closeBody_201 : decode cX5_closeBody 201 = .ok (.iload_n 1, 1) := by decide +kernel
theorem dX5_closeBody_202 : decode cX5_closeBody 202 = .ok (.aload_n 0, 1) := by decide +kernel
theorem dX5_closeBody_203 : decode cX5_closeBody 203 = .ok (.getfield 32, 3) := by decide +kernel
theorem dX5_closeBody_206 : decode cX5_closeBody 206 = .ok (.iconst 1, 1) := by decide +kernel
theorem dX5_closeBody_207 : decode cX5_closeBody 207 = .ok (.isub, 1) := by decide +kernel
theorem dX5_closeBody_208 : decode cX5_closeBody 208 = .ok (.invokevirtual 136, 3) := by decide +kernel
theorem dX5_closeBody_211 : decode cX5_closeBody 211 = .ok (.goto 3, 3) := by decide +kernel
theorem dX5_closeBody_214 : decode cX5_closeBody 214 = .ok (.return_, 1) := by decide +kernel
theorem dX5_endLoop_0 : decode cX5_endLoop 0 = .ok (.aload_n 0, 1) := by decide +kernel
theorem dX5_endLoop_1 : decode cX5_endLoop 1 = .ok (.dup, 1) := by decide +kernel
theorem dX5_endLoop_2 : decode cX5_endLoop 2 = .ok (.getfield 38, 3) := by decide +kernel
theorem dX5_endLoop_5 : decode cX5_endLoop 5 = .ok (.iconst 1, 1) := by decide +kernel
theorem dX5_endLoop_6 : decode cX5_endLoop 6 = .ok (.isub, 1) := by decide +kernel
theorem dX5_endLoop_7 : decode cX5_endLoop 7 = .ok (.putfield 38, 3) := by decide +kernel
theorem dX5_endLoop_10 : decode cX5_endLoop 10 = .ok (.iload_n 1, 1) := by decide +kernel
theorem dX5_endLoop_11 : decode cX5_endLoop 11 = .ok (.istore_n 3, 1) := by decide +kernel
theorem dX5_endLoop_12 : decode cX5_endLoop 12 = .ok (.iload_n 3, 1) := by decide +kernel
theorem dX5_endLoop_13 : decode cX5_endLoop 13 = .ok (.aload_n 0, 1) := by decide +kernel
theorem dX5_endLoop_14 : decode cX5_endLoop 14 = .ok (.getfield 32, 3) := by decide +kernel
theorem dX5_endLoop_17 : decode cX5_endLoop 17 = .ok (.if_icmp .ge 56, 3) := by decide +kernel
theorem dX5_endLoop_20 : decode cX5_endLoop 20 = .ok (.iload_n 3, 1) := by decide +kernel
theorem dX5_endLoop_21 : decode cX5_endLoop 21 = .ok (.bipush 60, 2) := by decide +kernel
theorem dX5_endLoop_23 : decode cX5_endLoop 23 = .ok (.if_icmp .ge 50, 3) := by decide +kernel
theorem dX5_endLoop_26 : decode cX5_endLoop 26 = .ok (.aload_n 0, 1) := by decide +kernel
theorem dX5_endLoop_27 : decode cX5_endLoop 27 = .ok (.getfield 41, 3) := by decide +kernel
theorem dX5_endLoop_30 : decode cX5_endLoop 30 = .ok (.iload_n 3, 1) := by decide +kernel
theorem dX5_endLoop_31 : decode cX5_endLoop 31 = .ok (.iaload, 1) := by decide +kernel
theorem dX5_endLoop_32 : decode cX5_endLoop 32 = .ok (.iconst (-1), 1) := by decide +kernel
theorem dX5_endLoop_33 : decode cX5_endLoop 33 = .ok (.if_icmp .eq 34, 3) := by decide +kernel
theorem dX5_endLoop_36 : decode cX5_endLoop 36 = .ok (.aload_n 0, 1) := by decide +kernel
theorem dX5_endLoop_37 : decode cX5_endLoop 37 = .ok (.iload_n 3, 1) := by decide +kernel
theorem dX5_endLoop_38 : decode cX5_endLoop 38 = .ok (.aload_n 0, 1) := by decide +kernel
theorem dX5_endLoop_39 : decode cX5_endLoop 39 = .ok (.getfield 41, 3) := by decide +kernel
theorem dX5_endLoop_42 : decode cX5_endLoop 42 = .ok (.iload_n 3, 1) := by decide +kernel
theorem dX5_endLoop_43 : decode cX5_endLoop 43 = .ok (.iaload, 1) := by decide +kernel
theorem dX5_endLoop_44 : decode cX5_endLoop 44 = .ok (.bipush 6, 2) := by decide +kernel
theorem dX5_endLoop_46 : decode cX5_endLoop 46 = .ok (.if_icmp .ne 10, 3) := by decide +kernel
theorem dX5_endLoop_49 : decode cX5_endLoop 49 = .ok (.aload_n 0, 1) := by decide +kernel
theorem dX5_endLoop_50 : decode cX5_endLoop 50 = .ok (.getfield 32, 3) := by decide +kernel
theorem dX5_endLoop_53 : decode cX5_endLoop 53 = .ok (.goto 4, 3) := by decide +kernel
theorem dX5_endLoop_56 : decode cX5_endLoop 56 = .ok (.iload_n 2, 1) := by decide +kernel
theorem dX5_endLoop_57 : decode cX5_endLoop 57 = .ok (.invokevirtual 132, 3) := by decide +kernel
theorem dX5_endLoop_60 : decode cX5_endLoop 60 = .ok (.aload_n 0, 1) := by decide +kernel
theorem dX5_endLoop_61 : decode cX5_endLoop 61 = .ok (.getfield 41, 3) := by decide +kernel
theorem dX5_endLoop_64 : decode cX5_endLoop 64 = .ok (.iload_n 3, 1) := by decide +kernel
theorem dX5_endLoop_65 : decode cX5_endLoop 65 = .ok (.iconst (-1), 1) := by decide +kernel
theorem dX5_endLoop_66 : decode cX5_endLoop 66 = .ok (.iastore, 1) := by decide +kernel
theorem dX5_endLoop_67 : decode cX5_endLoop 67 = .ok (.iinc 3 1, 3) := by decide +kernel
theorem dX5_endLoop_70 : decode cX5_endLoop 70 = .ok (.goto (-58), 3) := by decide +kernel
theorem dX5_endLoop_73 : decode cX5_endLoop 73 = .ok (.return_, 1) := by decide +kernel
theorem dX5_aim_0 : decode cX5_aim 0 = .ok (.iload_n 1, 1) := by decide +kernel
theorem dX5_aim_1 : decode cX5_aim 1 = .ok (.ifCond .lt 19, 3) := by decide +kernel
theorem dX5_aim_4 : decode cX5_aim 4 = .ok (.iload_n 1, 1) := by decide +kernel
theorem dX5_aim_5 : decode cX5_aim 5 = .ok (.bipush 60, 2) := by decide +kernel
theorem dX5_aim_7 : decode cX5_aim 7 = .ok (.if_icmp .ge 13, 3) := by decide +kernel
theorem dX5_aim_10 : decode cX5_aim 10 = .ok (.aload_n 0, 1) := by decide +kernel
theorem dX5_aim_11 : decode cX5_aim 11 = .ok (.getfield 12, 3) := by decide +kernel
theorem dX5_aim_14 : decode cX5_aim 14 = .ok (.getfield 139, 3) := by decide +kernel
theorem dX5_aim_17 : decode cX5_aim 17 = .ok (.iload_n 1, 1) := by decide +kernel
theorem dX5_aim_18 : decode cX5_aim 18 = .ok (.iload_n 2, 1) := by decide +kernel
theorem dX5_aim_19 : decode cX5_aim 19 = .ok (.iastore, 1) := by decide +kernel
theorem dX5_aim_20 : decode cX5_aim 20 = .ok (.return_, 1) := by decide +kernel
theorem dX5_emit_0 : decode cX5_emit 0 = .ok (.aload_n 0, 1) := by decide +kernel
theorem dX5_emit_1 : decode cX5_emit 1 = .ok (.getfield 32, 3) := by decide +kernel
theorem dX5_emit_4 : decode cX5_emit 4 = .ok (.bipush 60, 2) := by decide +kernel
theorem dX5_emit_6 : decode cX5_emit 6 = .ok (.if_icmp .ge 29, 3) := by decide +kernel
theorem dX5_emit_9 : decode cX5_emit 9 = .ok (.aload_n 0, 1) := by decide +kernel
theorem dX5_emit_10 : decode cX5_emit 10 = .ok (.getfield 12, 3) := by decide +kernel
theorem dX5_emit_13 : decode cX5_emit 13 = .ok (.aload_n 0, 1) := by decide +kernel
theorem dX5_emit_14 : decode cX5_emit 14 = .ok (.getfield 32, 3) := by decide +kernel
theorem dX5_emit_17 : decode cX5_emit 17 = .ok (.iload_n 1, 1) := by decide +kernel
theorem dX5_emit_18 : decode cX5_emit 18 = .ok (.iload_n 2, 1) := by decide +kernel
theorem dX5_emit_19 : decode cX5_emit 19 = .ok (.iload_n 3, 1) := by decide +kernel
theorem dX5_emit_20 : decode cX5_emit 20 = .ok (.iload 4, 2) := by decide +kernel
theorem dX5_emit_22 : decode cX5_emit 22 = .ok (.invokevirtual 142, 3) := by decide +kernel
theorem dX5_emit_25 : decode cX5_emit 25 = .ok (.aload_n 0, 1) := by decide +kernel
theorem dX5_emit_26 : decode cX5_emit 26 = .ok (.getfield 41, 3) := by decide +kernel
theorem dX5_emit_29 : decode cX5_emit 29 = .ok (.aload_n 0, 1) := by decide +kernel
theorem dX5_emit_30 : decode cX5_emit 30 = .ok (.getfield 32, 3) := by decide +kernel
theorem dX5_emit_33 : decode cX5_emit 33 = .ok (.iconst (-1), 1) := by decide +kernel
theorem dX5_emit_34 : decode cX5_emit 34 = .ok (.iastore, 1) := by decide +kernel
theorem dX5_emit_35 : decode cX5_emit 35 = .ok (.aload_n 0, 1) := by decide +kernel
theorem dX5_emit_36 : decode cX5_emit 36 = .ok (.dup, 1) := by decide +kernel
theorem dX5_emit_37 : decode cX5_emit 37 = .ok (.getfield 32, 3) := by decide +kernel
theorem dX5_emit_40 : decode cX5_emit 40 = .ok (.iconst 1, 1) := by decide +kernel
theorem dX5_emit_41 : decode cX5_emit 41 = .ok (.iadd, 1) := by decide +kernel
theorem dX5_emit_42 : decode cX5_emit 42 = .ok (.putfield 32, 3) := by decide +kernel
theorem dX5_emit_45 : decode cX5_emit 45 = .ok (.return_, 1) := by decide +kernel
theorem dX6_init_0 : decode cX6_init 0 = .ok (.aload_n 0, 1) := by decide +kernel
theorem dX6_init_1 : decode cX6_init 1 = .ok (.invokespecial 3, 3) := by decide +kernel
theorem dX6_init_4 : decode cX6_init 4 = .ok (.aload_n 0, 1) := by decide +kernel
theorem dX6_init_5 : decode cX6_init 5 = .ok (.bipush 12, 2) := by decide +kernel
theorem dX6_init_7 : decode cX6_init 7 = .ok (.anewarray 9, 3) := by decide +kernel
theorem dX6_init_10 : decode cX6_init 10 = .ok (.putfield 11, 3) := by decide +kernel
theorem dX6_init_13 : decode cX6_init 13 = .ok (.aload_n 0, 1) := by decide +kernel
theorem dX6_init_14 : decode cX6_init 14 = .ok (.iconst 0, 1) := by decide +kernel
theorem dX6_init_15 : decode cX6_init 15 = .ok (.putfield 15, 3) := by decide +kernel
theorem dX6_init_18 : decode cX6_init 18 = .ok (.aload_n 0, 1) := by decide +kernel
theorem dX6_init_19 : decode cX6_init 19 = .ok (.new 19, 3) := by decide +kernel
theorem dX6_init_22 : decode cX6_init 22 = .ok (.dup, 1) := by decide +kernel
theorem dX6_init_23 : decode cX6_init 23 = .ok (.invokespecial 21, 3) := by decide +kernel
theorem dX6_init_26 : decode cX6_init 26 = .ok (.putfield 22, 3) := by decide +kernel
theorem dX6_init_29 : decode cX6_init 29 = .ok (.aload_n 0, 1) := by decide +kernel
theorem dX6_init_30 : decode cX6_init 30 = .ok (.iconst (-1), 1) := by decide +kernel
theorem dX6_init_31 : decode cX6_init 31 = .ok (.putfield 26, 3) := by decide +kernel
theorem dX6_init_34 : decode cX6_init 34 = .ok (.aload_n 0, 1) := by decide +kernel
theorem dX6_init_35 : decode cX6_init 35 = .ok (.new 29, 3) := by decide +kernel
theorem dX6_init_38 : decode cX6_init 38 = .ok (.dup, 1) := by decide +kernel
theorem dX6_init_39 : decode cX6_init 39 = .ok (.invokespecial 31, 3) := by decide +kernel
theorem dX6_init_42 : decode cX6_init 42 = .ok (.putfield 32, 3) := by decide +kernel
theorem dX6_init_45 : decode cX6_init 45 = .ok (.aload_n 0, 1) := by decide +kernel
theorem dX6_init_46 : decode cX6_init 46 = .ok (.sipush 300, 3) := by decide +kernel
theorem dX6_init_49 : decode cX6_init 49 = .ok (.newarray .int, 2) := by decide +kernel
theorem dX6_init_51 : decode cX6_init 51 = .ok (.putfield 36, 3) := by decide +kernel
theorem dX6_init_54 : decode cX6_init 54 = .ok (.aload_n 0, 1) := by decide +kernel
theorem dX6_init_55 : decode cX6_init 55 = .ok (.iconst 0, 1) := by decide +kernel
theorem dX6_init_56 : decode cX6_init 56 = .ok (.putfield 40, 3) := by decide +kernel
theorem dX6_init_59 : decode cX6_init 59 = .ok (.aload_n 0, 1) := by decide +kernel
theorem dX6_init_60 : decode cX6_init 60 = .ok (.new 43, 3) := by decide +kernel
theorem dX6_init_63 : decode cX6_init 63 = .ok (.dup, 1) := by decide +kernel
theorem dX6_init_64 : decode cX6_init 64 = .ok (.invokespecial 45, 3) := by decide +kernel
theorem dX6_init_67 : decode cX6_init 67 = .ok (.putfield 46, 3) := by decide +kernel
theorem dX6_init_70 : decode cX6_init 70 = .ok (.aload_n 0, 1) := by decide +kernel
theorem dX6_init_71 : decode cX6_init 71 = .ok (.iconst (-1), 1) := by decide +kernel
theorem dX6_init_72 : decode cX6_init 72 = .ok (.putfield 50, 3) := by decide +kernel
theorem dX6_init_75 : decode cX6_init 75 = .ok (.aload_n 0, 1) := by decide +kernel
theorem dX6_init_76 : decode cX6_init 76 = .ok (.iconst 4, 1) := by decide +kernel
theorem dX6_init_77 : decode cX6_init 77 = .ok (.newarray .int, 2) := by decide +kernel
theorem dX6_init_79 : decode cX6_init 79 = .ok (.putfield 53, 3) := by decide +kernel
theorem dX6_init_82 : decode cX6_init 82 = .ok (.aload_n 0, 1) := by decide +kernel
theorem dX6_init_83 : decode cX6_init 83 = .ok (.new 56, 3) := by decide +kernel
theorem dX6_init_86 : decode cX6_init 86 = .ok (.dup, 1) := by decide +kernel
theorem dX6_init_87 : decode cX6_init 87 = .ok (.invokespecial 58, 3) := by decide +kernel
theorem dX6_init_90 : decode cX6_init 90 = .ok (.putfield 59, 3) := by decide +kernel
theorem dX6_init_93 : decode cX6_init 93 = .ok (.return_, 1) := by decide +kernel
theorem dX6_routine_0 : decode cX6_routine 0 = .ok (.aload_n 0, 1) := by decide +kernel
theorem dX6_routine_1 : decode cX6_routine 1 = .ok (.getfield 15, 3) := by decide +kernel
theorem dX6_routine_4 : decode cX6_routine 4 = .ok (.bipush 12, 2) := by decide +kernel
theorem dX6_routine_6 : decode cX6_routine 6 = .ok (.if_icmp .lt 8, 3) := by decide +kernel
theorem dX6_routine_9 : decode cX6_routine 9 = .ok (.bipush (-4), 2) := by decide +kernel
theorem dX6_routine_11 : decode cX6_routine 11 = .ok (.goto 14, 3) := by decide +kernel
theorem dX6_routine_14 : decode cX6_routine 14 = .ok (.aload_n 0, 1) := by decide +kernel
theorem dX6_routine_15 : decode cX6_routine 15 = .ok (.new 9, 3) := by decide +kernel
theorem dX6_routine_18 : decode cX6_routine 18 = .ok (.dup, 1) := by decide +kernel
theorem dX6_routine_19 : decode cX6_routine 19 = .ok (.invokespecial 63, 3) := by decide +kernel
theorem dX6_routine_22 : decode cX6_routine 22 = .ok (.invokevirtual 64, 3) := by decide +kernel
theorem dX6_routine_25 : decode cX6_routine 25 = .ok (.ireturn, 1) := by decide +kernel
theorem dX6_act_0 : decode cX6_act 0 = .ok (.aload_n 0, 1) := by decide +kernel
theorem dX6_act_1 : decode cX6_act 1 = .ok (.iload_n 1, 1) := by decide +kernel
theorem dX6_act_2 : decode cX6_act 2 = .ok (.invokevirtual 68, 3) := by decide +kernel
theorem dX6_act_5 : decode cX6_act 5 = .ok (.astore 6, 2) := by decide +kernel
theorem dX6_act_7 : decode cX6_act 7 = .ok (.aload 6, 2) := by decide +kernel
theorem dX6_act_9 : decode cX6_act 9 = .ok (.ifnull 15, 3) := by decide +kernel
theorem dX6_act_12 : decode cX6_act 12 = .ok (.iload_n 2, 1) := by decide +kernel
theorem dX6_act_13 : decode cX6_act 13 = .ok (.iload_n 3, 1) := by decide +kernel
theorem dX6_act_14 : decode cX6_act 14 = .ok (.iload 4, 2) := by decide +kernel
theorem dX6_act_16 : decode cX6_act 16 = .ok (.iload 5, 2) := by decide +kernel
theorem dX6_act_18 : decode cX6_act 18 = .ok (.invokestatic 72, 3) := by decide +kernel
theorem dX6_act_21 : decode cX6_act 21 = .ok (.ifCond .ne 6, 3) := by decide +kernel
theorem dX6_act_24 : decode cX6_act 24 = .ok (.bipush (-2), 2) := by decide +kernel
theorem dX6_act_26 : decode cX6_act 26 = .ok (.ireturn, 1) := by decide +kernel
theorem dX6_act_27 : decode cX6_act 27 = .ok (.aload 6, 2) := by decide +kernel
theorem dX6_act_29 : decode cX6_act 29 = .ok (.getfield 76, 3) := by decide +kernel
theorem dX6_act_32 : decode cX6_act 32 = .ok (.istore 7, 2) := by decide +kernel
theorem dX6_act_34 : decode cX6_act 34 = .ok (.iload 7, 2) := by decide +kernel
theorem dX6_act_36 : decode cX6_act 36 = .ok (.bipush 60, 2) := by decide +kernel
theorem dX6_act_38 : decode cX6_act 38 = .ok (.if_icmp .lt 6, 3) := by decide +kernel
theorem dX6_act_41 : decode cX6_act 41 = .ok (.bipush (-4), 2) := by decide +kernel
theorem dX6_act_43 : decode cX6_act 43 = .ok (.ireturn, 1) := by decide +kernel
theorem dX6_act_44 : decode cX6_act 44 = .ok (.aload 6, 2) := by decide +kernel
theorem dX6_act_46 : decode cX6_act 46 = .ok (.iload 7, 2) := by decide +kernel
theorem dX6_act_48 : decode cX6_act 48 = .ok (.iconst 1, 1) := by decide +kernel
theorem dX6_act_49 : decode cX6_act 49 = .ok (.iadd, 1) := by decide +kernel
theorem dX6_act_50 : decode cX6_act 50 = .ok (.putfield 76, 3) := by decide +kernel
theorem dX6_act_53 : decode cX6_act 53 = .ok (.aload_n 0, 1) := by decide +kernel
theorem dX6_act_54 : decode cX6_act 54 = .ok (.aload 6, 2) := by decide +kernel
theorem dX6_act_56 : decode cX6_act 56 = .ok (.iload 7, 2) := by decide +kernel
theorem dX6_act_58 : decode cX6_act 58 = .ok (.iload_n 2, 1) := by decide +kernel
theorem dX6_act_59 : decode cX6_act 59 = .ok (.iload_n 3, 1) := by decide +kernel
theorem dX6_act_60 : decode cX6_act 60 = .ok (.iload 4, 2) := by decide +kernel
theorem dX6_act_62 : decode cX6_act 62 = .ok (.iload 5, 2) := by decide +kernel
theorem dX6_act_64 : decode cX6_act 64 = .ok (.invokevirtual 79, 3) := by decide +kernel
theorem dX6_act_67 : decode cX6_act 67 = .ok (.iload 7, 2) := by decide +kernel
theorem dX6_act_69 : decode cX6_act 69 = .ok (.ireturn, 1) := by decide +kernel
theorem dX6_alter_0 : decode cX6_alter 0 = .ok (.aload_n 0, 1) := by decide +kernel
theorem dX6_alter_1 : decode cX6_alter 1 = .ok (.iload_n 1, 1) := by decide +kernel
theorem dX6_alter_2 : decode cX6_alter 2 = .ok (.invokevirtual 68, 3) := by decide +kernel
theorem dX6_alter_5 : decode cX6_alter 5 = .ok (.astore 7, 2) := by decide +kernel
theorem dX6_alter_7 : decode cX6_alter 7 = .ok (.aload 7, 2) := by decide +kernel
theorem dX6_alter_9 : decode cX6_alter 9 = .ok (.ifnull 25, 3) := by decide +kernel
theorem dX6_alter_12 : decode cX6_alter 12 = .ok (.aload 7, 2) := by decide +kernel
theorem dX6_alter_14 : decode cX6_alter 14 = .ok (.iload_n 2, 1) := by decide +kernel
theorem dX6_alter_15 : decode cX6_alter 15 = .ok (.invokevirtual 83, 3) := by decide +kernel
theorem dX6_alter_18 : decode cX6_alter 18 = .ok (.ifCond .eq 16, 3) := by decide +kernel
theorem dX6_alter_21 : decode cX6_alter 21 = .ok (.iload_n 3, 1) := by decide +kernel
theorem dX6_alter_22 : decode cX6_alter 22 = .ok (.iload 4, 2) := by decide +kernel
theorem dX6_alter_24 : decode cX6_alter 24 = .ok (.iload 5, 2) := by decide +kernel
theorem dX6_alter_26 : decode cX6_alter 26 = .ok (.iload 6, 2) := by decide +kernel
theorem dX6_alter_28 : decode cX6_alter 28 = .ok (.invokestatic 72, 3) := by decide +kernel
theorem dX6_alter_31 : decode cX6_alter 31 = .ok (.ifCond .ne 6, 3) := by decide +kernel
theorem dX6_alter_34 : decode cX6_alter 34 = .ok (.bipush (-2), 2) := by decide +kernel
theorem dX6_alter_36 : decode cX6_alter 36 = .ok (.ireturn, 1) := by decide +kernel
theorem dX6_alter_37 : decode cX6_alter 37 = .ok (.aload_n 0, 1) := by decide +kernel
theorem dX6_alter_38 : decode cX6_alter 38 = .ok (.aload 7, 2) := by decide +kernel
theorem dX6_alter_40 : decode cX6_alter 40 = .ok (.iload_n 2, 1) := by decide +kernel
theorem dX6_alter_41 : decode cX6_alter 41 = .ok (.iload_n 3, 1) := by decide +kernel
theorem dX6_alter_42 : decode cX6_alter 42 = .ok (.iload 4, 2) := by decide +kernel
theorem dX6_alter_44 : decode cX6_alter 44 = .ok (.iload 5, 2) := by decide +kernel
theorem dX6_alter_46 : decode cX6_alter 46 = .ok (.iload 6, 2) := by decide +kernel
theorem dX6_alter_48 : decode cX6_alter 48 = .ok (.invokevirtual 79, 3) := by decide +kernel
theorem dX6_alter_51 : decode cX6_alter 51 = .ok (.iload_n 2, 1) := by decide +kernel
theorem dX6_alter_52 : decode cX6_alter 52 = .ok (.ireturn, 1) := by decide +kernel
theorem dX6_told_0 : decode cX6_told 0 = .ok (.aload_n 0, 1) := by decide +kernel
theorem dX6_told_1 : decode cX6_told 1 = .ok (.iload_n 1, 1) := by decide +kernel
theorem dX6_told_2 : decode cX6_told 2 = .ok (.invokevirtual 68, 3) := by decide +kernel
theorem dX6_told_5 : decode cX6_told 5 = .ok (.astore 4, 2) := by decide +kernel
theorem dX6_told_7 : decode cX6_told 7 = .ok (.aload 4, 2) := by decide +kernel
theorem dX6_told_9 : decode cX6_told 9 = .ok (.ifnull 12, 3) := by decide +kernel
theorem dX6_told_12 : decode cX6_told 12 = .ok (.aload 4, 2) := by decide +kernel
theorem dX6_told_14 : decode cX6_told 14 = .ok (.iload_n 2, 1) := by decide +kernel
theorem dX6_told_15 : decode cX6_told 15 = .ok (.invokevirtual 83, 3) := by decide +kernel
theorem dX6_told_18 : decode cX6_told 18 = .ok (.ifCond .ne 6, 3) := by decide +kernel
theorem dX6_told_21 : decode cX6_told 21 = .ok (.bipush (-2), 2) := by decide +kernel
theorem dX6_told_23 : decode cX6_told 23 = .ok (.ireturn, 1) := by decide +kernel
theorem dX6_told_24 : decode cX6_told 24 = .ok (.iload_n 3, 1) := by decide +kernel
theorem dX6_told_25 : decode cX6_told 25 = .ok (.tableswitch 116 0 5 #[39, 47, 55, 63, 71, 96], 39) := by decide +kernel
theorem dX6_told_64 : decode cX6_told 64 = .ok (.aload 4, 2) := by decide +kernel
theorem dX6_told_66 : decode cX6_told 66 = .ok (.getfield 87, 3) := by decide +kernel
theorem dX6_told_69 : decode cX6_told 69 = .ok (.iload_n 2, 1) := by decide +kernel
theorem dX6_told_70 : decode cX6_told 70 = .ok (.iaload, 1) := by decide +kernel
theorem dX6_told_71 : decode cX6_told 71 = .ok (.ireturn, 1) := by decide +kernel
theorem dX6_told_72 : decode cX6_told 72 = .ok (.aload 4, 2) := by decide +kernel
theorem dX6_told_74 : decode cX6_told 74 = .ok (.getfield 90, 3) := by decide +kernel
theorem dX6_told_77 : decode cX6_told 77 = .ok (.iload_n 2, 1) := by decide +kernel
theorem dX6_told_78 : decode cX6_told 78 = .ok (.iaload, 1) := by decide +kernel
theorem dX6_told_79 : decode cX6_told 79 = .ok (.ireturn, 1) := by decide +kernel
theorem dX6_told_80 : decode cX6_told 80 = .ok (.aload 4, 2) := by decide +kernel
theorem dX6_told_82 : decode cX6_told 82 = .ok (.getfield 93, 3) := by decide +kernel
theorem dX6_told_85 : decode cX6_told 85 = .ok (.iload_n 2, 1) := by decide +kernel
theorem dX6_told_86 : decode cX6_told 86 = .ok (.iaload, 1) := by decide +kernel
theorem dX6_told_87 : decode cX6_told 87 = .ok (.ireturn, 1) := by decide +kernel
theorem dX6_told_88 : decode cX6_told 88 = .ok (.aload 4, 2) := by decide +kernel
theorem dX6_told_90 : decode cX6_told 90 = .ok (.getfield 96, 3) := by decide +kernel
theorem dX6_told_93 : decode cX6_told 93 = .ok (.iload_n 2, 1) := by decide +kernel
theorem dX6_told_94 : decode cX6_told 94 = .ok (.iaload, 1) := by decide +kernel
theorem dX6_told_95 : decode cX6_told 95 = .ok (.ireturn, 1) := by decide +kernel
theorem dX6_told_96 : decode cX6_told 96 = .ok (.aload 4, 2) := by decide +kernel
theorem dX6_told_98 : decode cX6_told 98 = .ok (.getfield 99, 3) := by decide +kernel
theorem dX6_told_101 : decode cX6_told 101 = .ok (.ifCond .eq 18, 3) := by decide +kernel
theorem dX6_told_104 : decode cX6_told 104 = .ok (.aload_n 0, 1) := by decide +kernel
theorem dX6_told_105 : decode cX6_told 105 = .ok (.iload_n 1, 1) := by decide +kernel
theorem dX6_told_106 : decode cX6_told 106 = .ok (.aload 4, 2) := by decide +kernel
theorem dX6_told_108 : decode cX6_told 108 = .ok (.invokevirtual 103, 3) := by decide +kernel
theorem dX6_told_111 : decode cX6_told 111 = .ok (.getfield 107, 3) := by decide +kernel
theorem dX6_told_114 : decode cX6_told 114 = .ok (.iload_n 2, 1) := by decide +kernel
theorem dX6_told_115 : decode cX6_told 115 = .ok (.iaload, 1) := by decide +kernel
theorem dX6_told_116 : decode cX6_told 116 = .ok (.goto 4, 3) := by decide +kernel
theorem dX6_told_119 : decode cX6_told 119 = .ok (.iconst (-1), 1) := by decide +kernel
theorem dX6_told_120 : decode cX6_told 120 = .ok (.ireturn, 1) := by decide +kernel
theorem dX6_told_121 : decode cX6_told 121 = .ok (.aload 4, 2) := by decide +kernel
theorem dX6_told_123 : decode cX6_told 123 = .ok (.getfield 99, 3) := by decide +kernel
theorem dX6_told_126 : decode cX6_told 126 = .ok (.ifCond .eq 13, 3) := by decide +kernel
theorem dX6_told_129 : decode cX6_told 129 = .ok (.aload_n 0, 1) := by decide +kernel
theorem dX6_told_130 : decode cX6_told 130 = .ok (.aload 4, 2) := by decide +kernel
theorem dX6_told_132 : decode cX6_told 132 = .ok (.iload_n 2, 1) := by decide +kernel
theorem dX6_told_133 : decode cX6_told 133 = .ok (.invokevirtual 112, 3) := by decide +kernel
theorem dX6_told_136 : decode cX6_told 136 = .ok (.goto 4, 3) := by decide +kernel
theorem dX6_told_139 : decode cX6_told 139 = .ok (.iconst (-1), 1) := by decide +kernel
theorem dX6_told_140 : decode cX6_told 140 = .ok (.ireturn, 1) := by decide +kernel
theorem dX6_told_141 : decode cX6_told 141 = .ok (.bipush (-2), 2) := by decide +kernel
theorem dX6_told_143 : decode cX6_told 143 = .ok (.ireturn, 1) := by decide +kernel
theorem dX6_of_0 : decode cX6_of 0 = .ok (.aload_n 0, 1) := by decide +kernel
theorem dX6_of_1 : decode cX6_of 1 = .ok (.iload_n 1, 1) := by decide +kernel
theorem dX6_of_2 : decode cX6_of 2 = .ok (.invokevirtual 68, 3) := by decide +kernel
theorem dX6_of_5 : decode cX6_of 5 = .ok (.astore_n 3, 1) := by decide +kernel
theorem dX6_of_6 : decode cX6_of 6 = .ok (.aload_n 3, 1) := by decide +kernel
theorem dX6_of_7 : decode cX6_of 7 = .ok (.ifnull 13, 3) := by decide +kernel
theorem dX6_of_10 : decode cX6_of 10 = .ok (.iload_n 2, 1) := by decide +kernel
theorem dX6_of_11 : decode cX6_of 11 = .ok (.ifCond .lt 9, 3) := by decide +kernel
theorem dX6_of_14 : decode cX6_of 14 = .ok (.iload_n 2, 1) := by decide +kernel
theorem dX6_of_15 : decode cX6_of 15 = .ok (.bipush 7, 2) := by decide +kernel
theorem dX6_of_17 : decode cX6_of 17 = .ok (.if_icmp .le 6, 3) := by decide +kernel
theorem dX6_of_20 : decode cX6_of 20 = .ok (.bipush (-2), 2) := by decide +kernel
theorem dX6_of_22 : decode cX6_of 22 = .ok (.ireturn, 1) := by decide +kernel
theorem dX6_of_23 : decode cX6_of 23 = .ok (.iload_n 2, 1) := by decide +kernel
theorem dX6_of_24 : decode cX6_of 24 = .ok (.iconst 3, 1) := by decide +kernel
theorem dX6_of_25 : decode cX6_of 25 = .ok (.if_icmp .lt 12, 3) := by decide +kernel
theorem dX6_of_28 : decode cX6_of 28 = .ok (.aload_n 3, 1) := by decide +kernel
theorem dX6_of_29 : decode cX6_of 29 = .ok (.getfield 99, 3) := by decide +kernel
theorem dX6_of_32 : decode cX6_of 32 = .ok (.ifCond .ne 5, 3) := by decide +kernel
theorem dX6_of_35 : decode cX6_of 35 = .ok (.iconst (-1), 1) := by decide +kernel
theorem dX6_of_36 : decode cX6_of 36 = .ok (.ireturn, 1) := by decide +kernel
theorem dX6_of_37 : decode cX6_of 37 = .ok (.iload_n 2, 1) := by decide +kernel
theorem dX6_of_38 : decode cX6_of 38 = .ok (.tableswitch 103 0 6 #[42, 47, 60, 67, 77, 87, 93], 42) := by decide +kernel
theorem dX6_of_80 : decode cX6_of 80 = .ok (.aload_n 3, 1) := by decide +kernel
theorem dX6_of_81 : decode cX6_of 81 = .ok (.getfield 76, 3) := by decide +kernel
theorem dX6_of_84 : decode cX6_of 84 = .ok (.ireturn, 1) := by decide +kernel
theorem dX6_of_85 : decode cX6_of 85 = .ok (.aload_n 3, 1) := by decide +kernel
theorem dX6_of_86 : decode cX6_of 86 = .ok (.getfield 99, 3) := by decide +kernel
theorem dX6_of_89 : decode cX6_of 89 = .ok (.ifCond .eq 7, 3) := by decide +kernel
theorem dX6_of_92 : decode cX6_of 92 = .ok (.iconst 1, 1) := by decide +kernel
theorem dX6_of_93 : decode cX6_of 93 = .ok (.goto 4, 3) := by decide +kernel
theorem dX6_of_96 : decode cX6_of 96 = .ok (.iconst 0, 1) := by decide +kernel
theorem dX6_of_97 : decode cX6_of 97 = .ok (.ireturn, 1) := by decide +kernel
theorem dX6_of_98 : decode cX6_of 98 = .ok (.aload_n 0, 1) := by decide +kernel
theorem dX6_of_99 : decode cX6_of 99 = .ok (.iload_n 1, 1) := by decide +kernel
theorem dX6_of_100 : decode cX6_of 100 = .ok (.aload_n 3, 1) := by decide +kernel
theorem dX6_of_101 : decode cX6_of 101 = .ok (.invokevirtual 116, 3) := by decide +kernel
theorem dX6_of_104 : decode cX6_of 104 = .ok (.ireturn, 1) := by decide +kernel
theorem dX6_of_105 : decode cX6_of 105 = .ok (.aload_n 0, 1) := by decide +kernel
theorem dX6_of_106 : decode cX6_of 106 = .ok (.iload_n 1, 1) := by decide +kernel
theorem dX6_of_107 : decode cX6_of 107 = .ok (.aload_n 3, 1) := by decide +kernel
theorem dX6_of_108 : decode cX6_of 108 = .ok (.invokevirtual 103, 3) := by decide +kernel
theorem dX6_of_111 : decode cX6_of 111 = .ok (.getfield 120, 3) := by decide +kernel
theorem dX6_of_114 : decode cX6_of 114 = .ok (.ireturn, 1) := by decide +kernel
theorem dX6_of_115 : decode cX6_of 115 = .ok (.aload_n 0, 1) := by decide +kernel
theorem dX6_of_116 : decode cX6_of 116 = .ok (.iload_n 1, 1) := by decide +kernel
theorem dX6_of_117 : decode cX6_of 117 = .ok (.aload_n 3, 1) := by decide +kernel
theorem dX6_of_118 : decode cX6_of 118 = .ok (.invokevirtual 103, 3) := by decide +kernel
theorem dX6_of_121 : decode cX6_of 121 = .ok (.getfield 123, 3) := by decide +kernel
theorem dX6_of_124 : decode cX6_of 124 = .ok (.ireturn, 1) := by decide +kernel
theorem dX6_of_125 : decode cX6_of 125 = .ok (.aload_n 0, 1) := by decide +kernel
theorem dX6_of_126 : decode cX6_of 126 = .ok (.aload_n 3, 1) := by decide +kernel
theorem dX6_of_127 : decode cX6_of 127 = .ok (.invokevirtual 126, 3) := by decide +kernel
theorem dX6_of_130 : decode cX6_of 130 = .ok (.ireturn, 1) := by decide +kernel
theorem dX6_of_131 : decode cX6_of 131 = .ok (.aload_n 0, 1) := by decide +kernel
theorem dX6_of_132 : decode cX6_of 132 = .ok (.iload_n 1, 1) := by decide +kernel
theorem dX6_of_133 : decode cX6_of 133 = .ok (.aload_n 3, 1) := by decide +kernel
theorem dX6_of_134 : decode cX6_of 134 = .ok (.invokevirtual 103, 3) := by decide +kernel
theorem dX6_of_137 : decode cX6_of 137 = .ok (.getfield 129, 3) := by decide +kernel
theorem dX6_of_140 : decode cX6_of 140 = .ok (.ireturn, 1) := by decide +kernel
theorem dX6_of_141 : decode cX6_of 141 = .ok (.aload_n 0, 1) := by decide +kernel
theorem dX6_of_142 : decode cX6_of 142 = .ok (.iload_n 1, 1) := by decide +kernel
theorem dX6_of_143 : decode cX6_of 143 = .ok (.invokevirtual 132, 3) := by decide +kernel
theorem dX6_of_146 : decode cX6_of 146 = .ok (.ireturn, 1) := by decide +kernel
theorem dX6_statement_0 : decode cX6_statement 0 = .ok (.aload_n 0, 1) := by decide +kernel
theorem dX6_statement_1 : decode cX6_statement 1 = .ok (.iload_n 1, 1) := by decide +kernel
theorem dX6_statement_2 : decode cX6_statement 2 = .ok (.invokevirtual 68, 3) := by decide +kernel
theorem dX6_statement_5 : decode cX6_statement 5 = .ok (.astore 4, 2) := by decide +kernel
theorem dX6_statement_7 : decode cX6_statement 7 = .ok (.aload 4, 2) := by decide +kernel
theorem dX6_statement_9 : decode cX6_statement 9 = .ok (.ifnull 12, 3) := by decide +kernel
theorem dX6_statement_12 : decode cX6_statement 12 = .ok (.iload_n 3, 1) := by decide +kernel
theorem dX6_statement_13 : decode cX6_statement 13 = .ok (.ifCond .lt 8, 3) := by decide +kernel
theorem dX6_statement_16 : decode cX6_statement 16 = .ok (.iload_n 3, 1) := by decide +kernel
theorem dX6_statement_17 : decode cX6_statement 17 = .ok (.iconst 5, 1) := by decide +kernel
theorem dX6_statement_18 : decode cX6_statement 18 = .ok (.if_icmp .le 6, 3) := by decide +kernel
theorem dX6_statement_21 : decode cX6_statement 21 = .ok (.bipush (-2), 2) := by decide +kernel
theorem dX6_statement_23 : decode cX6_statement 23 = .ok (.ireturn, 1) := by decide +kernel
theorem dX6_statement_24 : decode cX6_statement 24 = .ok (.aload 4, 2) := by decide +kernel
theorem dX6_statement_26 : decode cX6_statement 26 = .ok (.getfield 99, 3) := by decide +kernel
theorem dX6_statement_29 : decode cX6_statement 29 = .ok (.ifCond .ne 6, 3) := by decide +kernel
theorem dX6_statement_32 : decode cX6_statement 32 = .ok (.bipush (-3), 2) := by decide +kernel
theorem dX6_statement_34 : decode cX6_statement 34 = .ok (.ireturn, 1) := by decide +kernel
theorem dX6_statement_35 : decode cX6_statement 35 = .ok (.aload_n 0, 1) := by decide +kernel
theorem dX6_statement_36 : decode cX6_statement 36 = .ok (.iload_n 1, 1) := by decide +kernel
theorem dX6_statement_37 : decode cX6_statement 37 = .ok (.aload 4, 2) := by decide +kernel
theorem dX6_statement_39 : decode cX6_statement 39 = .ok (.invokevirtual 103, 3) := by decide +kernel
theorem dX6_statement_42 : decode cX6_statement 42 = .ok (.astore 5, 2) := by decide +kernel
theorem dX6_statement_44 : decode cX6_statement 44 = .ok (.aload 5, 2) := by decide +kernel
theorem dX6_statement_46 : decode cX6_statement 46 = .ok (.iload_n 2, 1) := by decide +kernel
theorem dX6_statement_47 : decode cX6_statement 47 = .ok (.invokevirtual 136, 3) := by decide +kernel
theorem dX6_statement_50 : decode cX6_statement 50 = .ok (.ifCond .eq 13, 3) := by decide +kernel
theorem dX6_statement_53 : decode cX6_statement 53 = .ok (.aload 5, 2) := by decide +kernel
theorem dX6_statement_55 : decode cX6_statement 55 = .ok (.iload_n 2, 1) := by decide +kernel
theorem dX6_statement_56 : decode cX6_statement 56 = .ok (.iload_n 3, 1) := by decide +kernel
theorem dX6_statement_57 : decode cX6_statement 57 = .ok (.invokevirtual 137, 3) := by decide +kernel
theorem dX6_statement_60 : decode cX6_statement 60 = .ok (.goto 5, 3) := by decide +kernel
theorem dX6_statement_63 : decode cX6_statement 63 = .ok (.bipush (-2), 2) := by decide +kernel
theorem dX6_statement_65 : decode cX6_statement 65 = .ok (.ireturn, 1) := by decide +kernel
theorem dX6_text_0 : decode cX6_text 0 = .ok (.aload_n 0, 1) := by decide +kernel
theorem dX6_text_1 : decode cX6_text 1 = .ok (.iload_n 1, 1) := by decide +kernel
theorem dX6_text_2 : decode cX6_text 2 = .ok (.invokevirtual 68, 3) := by decide +kernel
theorem dX6_text_5 : decode cX6_text 5 = .ok (.astore_n 3, 1) := by decide +kernel
theorem dX6_text_6 : decode cX6_text 6 = .ok (.aload_n 3, 1) := by decide +kernel
theorem dX6_text_7 : decode cX6_text 7 = .ok (.ifnull 8, 3) := by decide +kernel
theorem dX6_text_10 : decode cX6_text 10 = .ok (.iload_n 2, 1) := by decide +kernel
theorem dX6_text_11 : decode cX6_text 11 = .ok (.iconst (-1), 1) := by decide +kernel
theorem dX6_text_12 : decode cX6_text 12 = .ok (.if_icmp .ge 6, 3) := by decide +kernel
theorem dX6_text_15 : decode cX6_text 15 = .ok (.bipush (-2), 2) := by decide +kernel
theorem dX6_text_17 : decode cX6_text 17 = .ok (.ireturn, 1) := by decide +kernel
theorem dX6_text_18 : decode cX6_text 18 = .ok (.aload_n 3, 1) := by decide +kernel
theorem dX6_text_19 : decode cX6_text 19 = .ok (.getfield 99, 3) := by decide +kernel
theorem dX6_text_22 : decode cX6_text 22 = .ok (.ifCond .ne 6, 3) := by decide +kernel
theorem dX6_text_25 : decode cX6_text 25 = .ok (.bipush (-3), 2) := by decide +kernel
theorem dX6_text_27 : decode cX6_text 27 = .ok (.ireturn, 1) := by decide +kernel
theorem dX6_text_28 : decode cX6_text 28 = .ok (.aload_n 0, 1) := by decide +kernel
theorem dX6_text_29 : decode cX6_text 29 = .ok (.iload_n 1, 1) := by decide +kernel
theorem dX6_text_30 : decode cX6_text 30 = .ok (.aload_n 3, 1) := by decide +kernel
theorem dX6_text_31 : decode cX6_text 31 = .ok (.invokevirtual 103, 3) := by decide +kernel
theorem dX6_text_34 : decode cX6_text 34 = .ok (.astore 4, 2) := by decide +kernel
theorem dX6_text_36 : decode cX6_text 36 = .ok (.iload_n 2, 1) := by decide +kernel
theorem dX6_text_37 : decode cX6_text 37 = .ok (.iconst (-1), 1) := by decide +kernel
theorem dX6_text_38 : decode cX6_text 38 = .ok (.if_icmp .ne 9, 3) := by decide +kernel
theorem dX6_text_41 : decode cX6_text 41 = .ok (.aload 4, 2) := by decide +kernel
theorem dX6_text_43 : decode cX6_text 43 = .ok (.getfield 141, 3) := by decide +kernel
theorem dX6_text_46 : decode cX6_text 46 = .ok (.ireturn, 1) := by decide +kernel
theorem dX6_text_47 : decode cX6_text 47 = .ok (.iload_n 2, 1) := by decide +kernel
theorem dX6_text_48 : decode cX6_text 48 = .ok (.aload 4, 2) := by decide +kernel
theorem dX6_text_50 : decode cX6_text 50 = .ok (.getfield 141, 3) := by decide +kernel
theorem dX6_text_53 : decode cX6_text 53 = .ok (.if_icmp .ge 13, 3) := by decide +kernel
theorem dX6_text_56 : decode cX6_text 56 = .ok (.aload 4, 2) := by decide +kernel
theorem dX6_text_58 : decode cX6_text 58 = .ok (.getfield 144, 3) := by decide +kernel
theorem dX6_text_61 : decode cX6_text 61 = .ok (.iload_n 2, 1) := by decide +kernel
theorem dX6_text_62 : decode cX6_text 62 = .ok (.iaload, 1) := by decide +kernel
theorem dX6_text_63 : decode cX6_text 63 = .ok (.goto 5, 3) := by decide +kernel
theorem dX6_text_66 : decode cX6_text 66 = .ok (.bipush (-2), 2) := by decide +kernel
theorem dX6_text_68 : decode cX6_text 68 = .ok (.ireturn, 1) := by decide +kernel
theorem dX6_feed_0 : decode cX6_feed 0 = .ok (.aload_n 0, 1) := by decide +kernel
theorem dX6_feed_1 : decode cX6_feed 1 = .ok (.getfield 40, 3) := by decide +kernel
theorem dX6_feed_4 : decode cX6_feed 4 = .ok (.sipush 300, 3) := by decide +kernel
theorem dX6_feed_7 : decode cX6_feed 7 = .ok (.if_icmp .lt 6, 3) := by decide +kernel
theorem dX6_feed_10 : decode cX6_feed 10 = .ok (.bipush (-4), 2) := by decide +kernel
theorem dX6_feed_12 : decode cX6_feed 12 = .ok (.ireturn, 1) := by decide +kernel
theorem dX6_feed_13 : decode cX6_feed 13 = .ok (.aload_n 0, 1) := by decide +kernel
theorem dX6_feed_14 : decode cX6_feed 14 = .ok (.getfield 36, 3) := by decide +kernel
theorem dX6_feed_17 : decode cX6_feed 17 = .ok (.aload_n 0, 1) := by decide +kernel
theorem dX6_feed_18 : decode cX6_feed 18 = .ok (.getfield 40, 3) := by decide +kernel
theorem dX6_feed_21 : decode cX6_feed 21 = .ok (.iload_n 1, 1) := by decide +kernel
theorem dX6_feed_22 : decode cX6_feed 22 = .ok (.iastore, 1) := by decide +kernel
theorem dX6_feed_23 : decode cX6_feed 23 = .ok (.aload_n 0, 1) := by decide +kernel
theorem dX6_feed_24 : decode cX6_feed 24 = .ok (.dup, 1) := by decide +kernel
theorem dX6_feed_25 : decode cX6_feed 25 = .ok (.getfield 40, 3) := by decide +kernel
theorem dX6_feed_28 : decode cX6_feed 28 = .ok (.iconst 1, 1) := by decide +kernel
theorem dX6_feed_29 : decode cX6_feed 29 = .ok (.iadd, 1) := by decide +kernel
theorem dX6_feed_30 : decode cX6_feed 30 = .ok (.putfield 40, 3) := by decide +kernel
theorem dX6_feed_33 : decode cX6_feed 33 = .ok (.aload_n 0, 1) := by decide +kernel
theorem dX6_feed_34 : decode cX6_feed 34 = .ok (.getfield 40, 3) := by decide +kernel
theorem dX6_feed_37 : decode cX6_feed 37 = .ok (.ireturn, 1) := by decide +kernel
theorem dX6_copy_0 : decode cX6_copy 0 = .ok (.aload_n 0, 1) := by decide +kernel
theorem dX6_copy_1 : decode cX6_copy 1 = .ok (.iload_n 1, 1) := by decide +kernel
theorem dX6_copy_2 : decode cX6_copy 2 = .ok (.invokevirtual 68, 3) := by decide +kernel
theorem dX6_copy_5 : decode cX6_copy 5 = .ok (.astore_n 2, 1) := by decide +kernel
theorem dX6_copy_6 : decode cX6_copy 6 = .ok (.aload_n 2, 1) := by decide +kernel
theorem dX6_copy_7 : decode cX6_copy 7 = .ok (.ifnonnull 6, 3) := by decide +kernel
theorem dX6_copy_10 : decode cX6_copy 10 = .ok (.bipush (-2), 2) := by decide +kernel
theorem dX6_copy_12 : decode cX6_copy 12 = .ok (.ireturn, 1) := by decide +kernel
theorem dX6_copy_13 : decode cX6_copy 13 = .ok (.aload_n 2, 1) := by decide +kernel
theorem dX6_copy_14 : decode cX6_copy 14 = .ok (.getfield 99, 3) := by decide +kernel
theorem dX6_copy_17 : decode cX6_copy 17 = .ok (.ifCond .ne 6, 3) := by decide +kernel
theorem dX6_copy_20 : decode cX6_copy 20 = .ok (.bipush (-3), 2) := by decide +kernel
theorem dX6_copy_22 : decode cX6_copy 22 = .ok (.ireturn, 1) := by decide +kernel
theorem dX6_copy_23 : decode cX6_copy 23 = .ok (.aload_n 0, 1) := by decide +kernel
theorem dX6_copy_24 : decode cX6_copy 24 = .ok (.iload_n 1, 1) := by decide +kernel
theorem dX6_copy_25 : decode cX6_copy 25 = .ok (.aload_n 2, 1) := by decide +kernel
theorem dX6_copy_26 : decode cX6_copy 26 = .ok (.invokevirtual 103, 3) := by decide +kernel
theorem dX6_copy_29 : decode cX6_copy 29 = .ok (.astore_n 3, 1) := by decide +kernel
theorem dX6_copy_30 : decode cX6_copy 30 = .ok (.aload_n 3, 1) := by decide +kernel
theorem dX6_copy_31 : decode cX6_copy 31 = .ok (.getfield 141, 3) := by decide +kernel
theorem dX6_copy_34 : decode cX6_copy 34 = .ok (.sipush 300, 3) := by decide +kernel
theorem dX6_copy_37 : decode cX6_copy 37 = .ok (.aload_n 0, 1) := by decide +kernel
theorem dX6_copy_38 : decode cX6_copy 38 = .ok (.getfield 40, 3) := by decide +kernel
theorem dX6_copy_41 : decode cX6_copy 41 = .ok (.isub, 1) := by decide +kernel
theorem dX6_copy_42 : decode cX6_copy 42 = .ok (.if_icmp .le 6, 3) := by decide +kernel
theorem dX6_copy_45 : decode cX6_copy 45 = .ok (.bipush (-4), 2) := by decide +kernel
theorem dX6_copy_47 : decode cX6_copy 47 = .ok (.ireturn, 1) := by decide +kernel
theorem dX6_copy_48 : decode cX6_copy 48 = .ok (.aload_n 3, 1) := by decide +kernel
theorem dX6_copy_49 : decode cX6_copy 49 = .ok (.getfield 144, 3) := by decide +kernel
theorem dX6_copy_52 : decode cX6_copy 52 = .ok (.iconst 0, 1) := by decide +kernel
theorem dX6_copy_53 : decode cX6_copy 53 = .ok (.aload_n 0, 1) := by decide +kernel
theorem dX6_copy_54 : decode cX6_copy 54 = .ok (.getfield 36, 3) := by decide +kernel
theorem dX6_copy_57 : decode cX6_copy 57 = .ok (.aload_n 0, 1) := by decide +kernel
theorem dX6_copy_58 : decode cX6_copy 58 = .ok (.getfield 40, 3) := by decide +kernel
theorem dX6_copy_61 : decode cX6_copy 61 = .ok (.aload_n 3, 1) := by decide +kernel
theorem dX6_copy_62 : decode cX6_copy 62 = .ok (.getfield 141, 3) := by decide +kernel
theorem dX6_copy_65 : decode cX6_copy 65 = .ok (.invokestatic 147, 3) := by decide +kernel
theorem dX6_copy_68 : decode cX6_copy 68 = .ok (.aload_n 0, 1) := by decide +kernel
theorem dX6_copy_69 : decode cX6_copy 69 = .ok (.dup, 1) := by decide +kernel
theorem dX6_copy_70 : decode cX6_copy 70 = .ok (.getfield 40, 3) := by decide +kernel
theorem dX6_copy_73 : decode cX6_copy 73 = .ok (.aload_n 3, 1) := by decide +kernel
theorem dX6_copy_74 : decode cX6_copy 74 = .ok (.getfield 141, 3) := by decide +kernel
theorem dX6_copy_77 : decode cX6_copy 77 = .ok (.iadd, 1) := by decide +kernel
theorem dX6_copy_78 : decode cX6_copy 78 = .ok (.putfield 40, 3) := by decide +kernel
theorem dX6_copy_81 : decode cX6_copy 81 = .ok (.aload_n 0, 1) := by decide +kernel
theorem dX6_copy_82 : decode cX6_copy 82 = .ok (.getfield 40, 3) := by decide +kernel
theorem dX6_copy_85 : decode cX6_copy 85 = .ok (.ireturn, 1) := by decide +kernel
theorem dX6_write_0 : decode cX6_write 0 = .ok (.aload_n 0, 1) := by decide +kernel
theorem dX6_write_1 : decode cX6_write 1 = .ok (.getfield 15, 3) := by decide +kernel
theorem dX6_write_4 : decode cX6_write 4 = .ok (.bipush 12, 2) := by decide +kernel
theorem dX6_write_6 : decode cX6_write 6 = .ok (.if_icmp .lt 6, 3) := by decide +kernel
theorem dX6_write_9 : decode cX6_write 9 = .ok (.bipush (-4), 2) := by decide +kernel
theorem dX6_write_11 : decode cX6_write 11 = .ok (.ireturn, 1) := by decide +kernel
theorem dX6_write_12 : decode cX6_write 12 = .ok (.aload_n 0, 1) := by decide +kernel
theorem dX6_write_13 : decode cX6_write 13 = .ok (.getfield 46, 3) := by decide +kernel
theorem dX6_write_16 : decode cX6_write 16 = .ok (.aload_n 0, 1) := by decide +kernel
theorem dX6_write_17 : decode cX6_write 17 = .ok (.getfield 36, 3) := by decide +kernel
theorem dX6_write_20 : decode cX6_write 20 = .ok (.aload_n 0, 1) := by decide +kernel
theorem dX6_write_21 : decode cX6_write 21 = .ok (.getfield 40, 3) := by decide +kernel
theorem dX6_write_24 : decode cX6_write 24 = .ok (.invokevirtual 153, 3) := by decide +kernel
theorem dX6_write_27 : decode cX6_write 27 = .ok (.istore_n 1, 1) := by decide +kernel
theorem dX6_write_28 : decode cX6_write 28 = .ok (.aload_n 0, 1) := by decide +kernel
theorem dX6_write_29 : decode cX6_write 29 = .ok (.iconst 0, 1) := by decide +kernel
theorem dX6_write_30 : decode cX6_write 30 = .ok (.putfield 40, 3) := by decide +kernel
theorem dX6_write_33 : decode cX6_write 33 = .ok (.iload_n 1, 1) := by decide +kernel
theorem dX6_write_34 : decode cX6_write 34 = .ok (.ifCond .eq 19, 3) := by decide +kernel
theorem dX6_write_37 : decode cX6_write 37 = .ok (.aload_n 0, 1) := by decide +kernel
theorem dX6_write_38 : decode cX6_write 38 = .ok (.aload_n 0, 1) := by decide +kernel
theorem dX6_write_39 : decode cX6_write 39 = .ok (.getfield 46, 3) := by decide +kernel
theorem dX6_write_42 : decode cX6_write 42 = .ok (.getfield 157, 3) := by decide +kernel
theorem dX6_write_45 : decode cX6_write 45 = .ok (.putfield 50, 3) := by decide +kernel
theorem dX6_write_48 : decode cX6_write 48 = .ok (.bipush (-10), 2) := by decide +kernel
theorem dX6_write_50 : decode cX6_write 50 = .ok (.iload_n 1, 1) := by decide +kernel
theorem dX6_write_51 : decode cX6_write 51 = .ok (.isub, 1) := by decide +kernel
theorem dX6_write_52 : decode cX6_write 52 = .ok (.ireturn, 1) := by decide +kernel
theorem dX6_write_53 : decode cX6_write 53 = .ok (.new 9, 3) := by decide +kernel
theorem dX6_write_56 : decode cX6_write 56 = .ok (.dup, 1) := by decide +kernel
theorem dX6_write_57 : decode cX6_write 57 = .ok (.invokespecial 63, 3) := by decide +kernel
theorem dX6_write_60 : decode cX6_write 60 = .ok (.astore_n 2, 1) := by decide +kernel
theorem dX6_write_61 : decode cX6_write 61 = .ok (.aload_n 2, 1) := by decide +kernel
theorem dX6_write_62 : decode cX6_write 62 = .ok (.aload_n 0, 1) := by decide +kernel
theorem dX6_write_63 : decode cX6_write 63 = .ok (.getfield 46, 3) := by decide +kernel
theorem dX6_write_66 : decode cX6_write 66 = .ok (.getfield 160, 3) := by decide +kernel
theorem dX6_write_69 : decode cX6_write 69 = .ok (.invokevirtual 164, 3) := by decide +kernel
theorem dX6_write_72 : decode cX6_write 72 = .ok (.aload_n 0, 1) := by decide +kernel
theorem dX6_write_73 : decode cX6_write 73 = .ok (.aload_n 2, 1) := by decide +kernel
theorem dX6_write_74 : decode cX6_write 74 = .ok (.invokevirtual 64, 3) := by decide +kernel
theorem dX6_write_77 : decode cX6_write 77 = .ok (.ireturn, 1) := by decide +kernel
theorem dX6_fault_0 : decode cX6_fault 0 = .ok (.aload_n 0, 1) := by decide +kernel
theorem dX6_fault_1 : decode cX6_fault 1 = .ok (.getfield 50, 3) := by decide +kernel
theorem dX6_fault_4 : decode cX6_fault 4 = .ok (.ireturn, 1) := by decide +kernel
theorem dX6_clear_0 : decode cX6_clear 0 = .ok (.aload_n 0, 1) := by decide +kernel
theorem dX6_clear_1 : decode cX6_clear 1 = .ok (.getfield 40, 3) := by decide +kernel
theorem dX6_clear_4 : decode cX6_clear 4 = .ok (.istore_n 1, 1) := by decide +kernel
theorem dX6_clear_5 : decode cX6_clear 5 = .ok (.aload_n 0, 1) := by decide +kernel
theorem dX6_clear_6 : decode cX6_clear 6 = .ok (.iconst 0, 1) := by decide +kernel
theorem dX6_clear_7 : decode cX6_clear 7 = .ok (.putfield 40, 3) := by decide +kernel
theorem dX6_clear_10 : decode cX6_clear 10 = .ok (.iload_n 1, 1) := by decide +kernel
theorem dX6_clear_11 : decode cX6_clear 11 = .ok (.ireturn, 1) := by decide +kernel
theorem dX6_like_0 : decode cX6_like 0 = .ok (.aload_n 0, 1) := by decide +kernel
theorem dX6_like_1 : decode cX6_like 1 = .ok (.iload_n 1, 1) := by decide +kernel
theorem dX6_like_2 : decode cX6_like 2 = .ok (.invokevirtual 68, 3) := by decide +kernel
theorem dX6_like_5 : decode cX6_like 5 = .ok (.astore_n 3, 1) := by decide +kernel
theorem dX6_like_6 : decode cX6_like 6 = .ok (.aload_n 0, 1) := by decide +kernel
theorem dX6_like_7 : decode cX6_like 7 = .ok (.iload_n 2, 1) := by decide +kernel
theorem dX6_like_8 : decode cX6_like 8 = .ok (.invokevirtual 68, 3) := by decide +kernel
theorem dX6_like_11 : decode cX6_like 11 = .ok (.astore 4, 2) := by decide +kernel
theorem dX6_like_13 : decode cX6_like 13 = .ok (.aload_n 3, 1) := by decide +kernel
theorem dX6_like_14 : decode cX6_like 14 = .ok (.ifnull 8, 3) := by decide +kernel
theorem dX6_like_17 : decode cX6_like 17 = .ok (.aload 4, 2) := by decide +kernel
theorem dX6_like_19 : decode cX6_like 19 = .ok (.ifnonnull 6, 3) := by decide +kernel
theorem dX6_like_22 : decode cX6_like 22 = .ok (.bipush (-2), 2) := by decide +kernel
theorem dX6_like_24 : decode cX6_like 24 = .ok (.ireturn, 1) := by decide +kernel
theorem dX6_like_25 : decode cX6_like 25 = .ok (.aload_n 3, 1) := by decide +kernel
theorem dX6_like_26 : decode cX6_like 26 = .ok (.aload 4, 2) := by decide +kernel
theorem dX6_like_28 : decode cX6_like 28 = .ok (.invokevirtual 168, 3) := by decide +kernel
theorem dX6_like_31 : decode cX6_like 31 = .ok (.ifCond .eq 7, 3) := by decide +kernel
theorem dX6_like_34 : decode cX6_like 34 = .ok (.iconst 1, 1) := by decide +kernel
theorem dX6_like_35 : decode cX6_like 35 = .ok (.goto 4, 3) := by decide +kernel
theorem dX6_like_38 : decode cX6_like 38 = .ok (.iconst 0, 1) := by decide +kernel
theorem dX6_like_39 : decode cX6_like 39 = .ok (.ireturn, 1) := by decide +kernel
theorem dX6_set_0 : decode cX6_set 0 = .ok (.iload_n 1, 1) := by decide +kernel
theorem dX6_set_1 : decode cX6_set 1 = .ok (.ifCond .lt 8, 3) := by decide +kernel
theorem dX6_set_4 : decode cX6_set 4 = .ok (.iload_n 1, 1) := by decide +kernel
theorem dX6_set_5 : decode cX6_set 5 = .ok (.iconst 4, 1) := by decide +kernel
theorem dX6_set_6 : decode cX6_set 6 = .ok (.if_icmp .lt 6, 3) := by decide +kernel
theorem dX6_set_9 : decode cX6_set 9 = .ok (.bipush (-2), 2) := by decide +kernel
theorem dX6_set_11 : decode cX6_set 11 = .ok (.ireturn, 1) := by decide +kernel
theorem dX6_set_12 : decode cX6_set 12 = .ok (.aload_n 0, 1) := by decide +kernel
theorem dX6_set_13 : decode cX6_set 13 = .ok (.getfield 53, 3) := by decide +kernel
theorem dX6_set_16 : decode cX6_set 16 = .ok (.iload_n 1, 1) := by decide +kernel
theorem dX6_set_17 : decode cX6_set 17 = .ok (.iaload, 1) := by decide +kernel
theorem dX6_set_18 : decode cX6_set 18 = .ok (.istore_n 3, 1) := by decide +kernel
theorem dX6_set_19 : decode cX6_set 19 = .ok (.aload_n 0, 1) := by decide +kernel
theorem dX6_set_20 : decode cX6_set 20 = .ok (.getfield 53, 3) := by decide +kernel
theorem dX6_set_23 : decode cX6_set 23 = .ok (.iload_n 1, 1) := by decide +kernel
theorem dX6_set_24 : decode cX6_set 24 = .ok (.iload_n 2, 1) := by decide +kernel
theorem dX6_set_25 : decode cX6_set 25 = .ok (.iastore, 1) := by decide +kernel
theorem dX6_set_26 : decode cX6_set 26 = .ok (.iload_n 3, 1) := by decide +kernel
theorem dX6_set_27 : decode cX6_set 27 = .ok (.ireturn, 1) := by decide +kernel
