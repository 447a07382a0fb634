theorem lkc_X6_routine : Cond.code yX6_routine cX6_routine 1 (some .int) ∈ x_TB := x_in 316 (by decide +kernel) (by decide +kernel)
theorem kv_XL_13 : x_V RL 13 RX6 yX6_routine cX6_routine 1 (some .int) 0 := ⟨lkc_X6_routine, x_in 313 (by decide +kernel) (by decide +kernel), x_in 314 (by decide +kernel) (by decide +kernel), x_in 315 (by decide +kernel) (by decide +kernel), x_in 1 (by decide +kernel) (by decide +kernel), rfl, by decide +kernel, by decide +kernel, by decide +kernel⟩
theorem lkc_X7_routine : Cond.code yX7_routine cX7_routine 1 (some .int) ∈ x_TB := x_in 831 (by decide +kernel) (by decide +kernel)
theorem kv_XL_17 : x_V RL 17 RX7 yX7_routine cX7_routine 1 (some .int) 0 := ⟨lkc_X7_routine, x_in 828 (by decide +kernel) (by decide +kernel), x_in 829 (by decide +kernel) (by decide +kernel), x_in 830 (by decide +kernel) (by decide +kernel), x_in 8 (by decide +kernel) (by decide +kernel), rfl, by decide +kernel, by decide +kernel, by decide +kernel⟩
theorem lkc_X6_act : Cond.code yX6_act cX6_act 8 (some .int) ∈ x_TB := x_in 325 (by decide +kernel) (by decide +kernel)
theorem kv_XL_18 : x_V RL 18 RX6 yX6_act cX6_act 8 (some .int) 5 := ⟨lkc_X6_act, x_in 322 (by decide +kernel) (by decide +kernel), x_in 323 (by decide +kernel) (by decide +kernel), x_in 324 (by decide +kernel) (by decide +kernel), x_in 1 (by decide +kernel) (by decide +kernel), rfl, by decide +kernel, by decide +kernel, by decide +kernel⟩
theorem lkc_X7_act : Cond.code yX7_act cX7_act 6 (some .int) ∈ x_TB := x_in 835 (by decide +kernel) (by decide +kernel)
theorem kv_XL_22 : x_V RL 22 RX7 yX7_act cX7_act 6 (some .int) 5 := ⟨lkc_X7_act, x_in 832 (by decide +kernel) (by decide +kernel), x_in 833 (by decide +kernel) (by decide +kernel), x_in 834 (by decide +kernel) (by decide +kernel), x_in 8 (by decide +kernel) (by decide +kernel), rfl, by decide +kernel, by decide +kernel, by decide +kernel⟩
theorem lkc_X6_alter : Cond.code yX6_alter cX6_alter 8 (some .int) ∈ x_TB := x_in 366 (by decide +kernel) (by decide +kernel)
theorem kv_XL_23 : x_V RL 23 RX6 yX6_alter cX6_alter 8 (some .int) 6 := ⟨lkc_X6_alter, x_in 363 (by decide +kernel) (by decide +kernel), x_in 364 (by decide +kernel) (by decide +kernel), x_in 365 (by decide +kernel) (by decide +kernel), x_in 1 (by decide +kernel) (by decide +kernel), rfl, by decide +kernel, by decide +kernel, by decide +kernel⟩
theorem lkc_X7_alter : Cond.code yX7_alter cX7_alter 7 (some .int) ∈ x_TB := x_in 853 (by decide +kernel) (by decide +kernel)
theorem kv_XL_27 : x_V RL 27 RX7 yX7_alter cX7_alter 7 (some .int) 6 := ⟨lkc_X7_alter, x_in 850 (by decide +kernel) (by decide +kernel), x_in 851 (by decide +kernel) (by decide +kernel), x_in 852 (by decide +kernel) (by decide +kernel), x_in 8 (by decide +kernel) (by decide +kernel), rfl, by decide +kernel, by decide +kernel, by decide +kernel⟩
theorem lkc_X6_told : Cond.code yX6_told cX6_told 5 (some .int) ∈ x_TB := x_in 374 (by decide +kernel) (by decide +kernel)
theorem kv_XL_28 : x_V RL 28 RX6 yX6_told cX6_told 5 (some .int) 3 := ⟨lkc_X6_told, x_in 371 (by decide +kernel) (by decide +kernel), x_in 372 (by decide +kernel) (by decide +kernel), x_in 373 (by decide +kernel) (by decide +kernel), x_in 1 (by decide +kernel) (by decide +kernel), rfl, by decide +kernel, by decide +kernel, by decide +kernel⟩
theorem lkc_X7_told : Cond.code yX7_told cX7_told 10 (some .int) ∈ x_TB := x_in 857 (by decide +kernel) (by decide +kernel)
theorem kv_XL_32 : x_V RL 32 RX7 yX7_told cX7_told 10 (some .int) 3 := ⟨lkc_X7_told, x_in 854 (by decide +kernel) (by decide +kernel), x_in 855 (by decide +kernel) (by decide +kernel), x_in 856 (by decide +kernel) (by decide +kernel), x_in 8 (by decide +kernel) (by decide +kernel), rfl, by decide +kernel, by decide +kernel, by decide +kernel⟩
theorem lkc_X6_of : Cond.code yX6_of cX6_of 4 (some .int) ∈ x_TB := x_in 472 (by decide +kernel) (by decide +kernel)
theorem kv_XL_33 : x_V RL 33 RX6 yX6_of cX6_of 4 (some .int) 2 := ⟨lkc_X6_of, x_in 469 (by decide +kernel) (by decide +kernel), x_in 470 (by decide +kernel) (by decide +kernel), x_in 471 (by decide +kernel) (by decide +kernel), x_in 1 (by decide +kernel) (by decide +kernel), rfl, by decide +kernel, by decide +kernel, by decide +kernel⟩
theorem lkc_X7_of : Cond.code yX7_of cX7_of 6 (some .int) ∈ x_TB := x_in 901 (by decide +kernel) (by decide +kernel)
theorem kv_XL_37 : x_V RL 37 RX7 yX7_of cX7_of 6 (some .int) 2 := ⟨lkc_X7_of, x_in 898 (by decide +kernel) (by decide +kernel), x_in 899 (by decide +kernel) (by decide +kernel), x_in 900 (by decide +kernel) (by decide +kernel), x_in 8 (by decide +kernel) (by decide +kernel), rfl, by decide +kernel, by decide +kernel, by decide +kernel⟩
theorem lkc_X6_statement : Cond.code yX6_statement cX6_statement 6 (some .int) ∈ x_TB := x_in 496 (by decide +kernel) (by decide +kernel)
theorem kv_XL_38 : x_V RL 38 RX6 yX6_statement cX6_statement 6 (some .int) 3 := ⟨lkc_X6_statement, x_in 493 (by decide +kernel) (by decide +kernel), x_in 494 (by decide +kernel) (by decide +kernel), x_in 495 (by decide +kernel) (by decide +kernel), x_in 1 (by decide +kernel) (by decide +kernel), rfl, by decide +kernel, by decide +kernel, by decide +kernel⟩
theorem lkc_X7_statement : Cond.code yX7_statement cX7_statement 6 (some .int) ∈ x_TB := x_in 917 (by decide +kernel) (by decide +kernel)
theorem kv_XL_41 : x_V RL 41 RX7 yX7_statement cX7_statement 6 (some .int) 3 := ⟨lkc_X7_statement, x_in 914 (by decide +kernel) (by decide +kernel), x_in 915 (by decide +kernel) (by decide +kernel), x_in 916 (by decide +kernel) (by decide +kernel), x_in 8 (by decide +kernel) (by decide +kernel), rfl, by decide +kernel, by decide +kernel, by decide +kernel⟩
theorem lkc_X6_text : Cond.code yX6_text cX6_text 5 (some .int) ∈ x_TB := x_in 508 (by decide +kernel) (by decide +kernel)
theorem kv_XL_42 : x_V RL 42 RX6 yX6_text cX6_text 5 (some .int) 2 := ⟨lkc_X6_text, x_in 505 (by decide +kernel) (by decide +kernel), x_in 506 (by decide +kernel) (by decide +kernel), x_in 507 (by decide +kernel) (by decide +kernel), x_in 1 (by decide +kernel) (by decide +kernel), rfl, by decide +kernel, by decide +kernel, by decide +kernel⟩
theorem lkc_X7_text : Cond.code yX7_text cX7_text 3 (some .int) ∈ x_TB := x_in 925 (by decide +kernel) (by decide +kernel)
theorem kv_XL_45 : x_V RL 45 RX7 yX7_text cX7_text 3 (some .int) 2 := ⟨lkc_X7_text, x_in 922 (by decide +kernel) (by decide +kernel), x_in 923 (by decide +kernel) (by decide +kernel), x_in 924 (by decide +kernel) (by decide +kernel), x_in 8 (by decide +kernel) (by decide +kernel), rfl, by decide +kernel, by decide +kernel, by decide +kernel⟩
theorem lkc_X6_feed : Cond.code yX6_feed cX6_feed 2 (some .int) ∈ x_TB := x_in 512 (by decide +kernel) (by decide +kernel)
theorem kv_XL_46 : x_V RL 46 RX6 yX6_feed cX6_feed 2 (some .int) 1 := ⟨lkc_X6_feed, x_in 509 (by decide +kernel) (by decide +kernel), x_in 510 (by decide +kernel) (by decide +kernel), x_in 511 (by decide +kernel) (by decide +kernel), x_in 1 (by decide +kernel) (by decide +kernel), rfl, by decide +kernel, by decide +kernel, by decide +kernel⟩
theorem lkc_X7_feed : Cond.code yX7_feed cX7_feed 2 (some .int) ∈ x_TB := x_in 945 (by decide +kernel) (by decide +kernel)
theorem kv_XL_50 : x_V RL 50 RX7 yX7_feed cX7_feed 2 (some .int) 1 := ⟨lkc_X7_feed, x_in 942 (by decide +kernel) (by decide +kernel), x_in 943 (by decide +kernel) (by decide +kernel), x_in 944 (by decide +kernel) (by decide +kernel), x_in 8 (by decide +kernel) (by decide +kernel), rfl, by decide +kernel, by decide +kernel, by decide +kernel⟩
theorem lkc_X6_copy : Cond.code yX6_copy cX6_copy 4 (some .int) ∈ x_TB := x_in 516 (by decide +kernel) (by decide +kernel)
theorem kv_XL_51 : x_V RL 51 RX6 yX6_copy cX6_copy 4 (some .int) 1 := ⟨lkc_X6_copy, x_in 513 (by decide +kernel) (by decide +kernel), x_in 514 (by decide +kernel) (by decide +kernel), x_in 515 (by decide +kernel) (by decide +kernel), x_in 1 (by decide +kernel) (by decide +kernel), rfl, by decide +kernel, by decide +kernel, by decide +kernel⟩
theorem lkc_X7_copy : Cond.code yX7_copy cX7_copy 3 (some .int) ∈ x_TB := x_in 949 (by decide +kernel) (by decide +kernel)
theorem kv_XL_54 : x_V RL 54 RX7 yX7_copy cX7_copy 3 (some .int) 1 := ⟨lkc_X7_copy, x_in 946 (by decide +kernel) (by decide +kernel), x_in 947 (by decide +kernel) (by decide +kernel), x_in 948 (by decide +kernel) (by decide +kernel), x_in 8 (by decide +kernel) (by decide +kernel), rfl, by decide +kernel, by decide +kernel, by decide +kernel⟩
theorem lkc_X6_write : Cond.code yX6_write cX6_write 3 (some .int) ∈ x_TB := x_in 523 (by decide +kernel) (by decide +kernel)
theorem kv_XL_55 : x_V RL 55 RX6 yX6_write cX6_write 3 (some .int) 0 := ⟨lkc_X6_write, x_in 520 (by decide +kernel) (by decide +kernel), x_in 521 (by decide +kernel) (by decide +kernel), x_in 522 (by decide +kernel) (by decide +kernel), x_in 1 (by decide +kernel) (by decide +kernel), rfl, by decide +kernel, by decide +kernel, by decide +kernel⟩
theorem lkc_X7_write : Cond.code yX7_write cX7_write 3 (some .int) ∈ x_TB := x_in 957 (by decide +kernel) (by decide +kernel)
theorem kv_XL_58 : x_V RL 58 RX7 yX7_write cX7_write 3 (some .int) 0 := ⟨lkc_X7_write, x_in 954 (by decide +kernel) (by decide +kernel), x_in 955 (by decide +kernel) (by decide +kernel), x_in 956 (by decide +kernel) (by decide +kernel), x_in 8 (by decide +kernel) (by decide +kernel), rfl, by decide +kernel, by decide +kernel, by decide +kernel⟩
theorem lkc_X6_fault : Cond.code yX6_fault cX6_fault 1 (some .int) ∈ x_TB := x_in 605 (by decide +kernel) (by decide +kernel)
theorem kv_XL_59 : x_V RL 59 RX6 yX6_fault cX6_fault 1 (some .int) 0 := ⟨lkc_X6_fault, x_in 602 (by decide +kernel) (by decide +kernel), x_in 603 (by decide +kernel) (by decide +kernel), x_in 604 (by decide +kernel) (by decide +kernel), x_in 1 (by decide +kernel) (by decide +kernel), rfl, by decide +kernel, by decide +kernel, by decide +kernel⟩
theorem lkc_X7_fault : Cond.code yX7_fault cX7_fault 1 (some .int) ∈ x_TB := x_in 1005 (by decide +kernel) (by decide +kernel)
theorem kv_XL_62 : x_V RL 62 RX7 yX7_fault cX7_fault 1 (some .int) 0 := ⟨lkc_X7_fault, x_in 1002 (by decide +kernel) (by decide +kernel), x_in 1003 (by decide +kernel) (by decide +kernel), x_in 1004 (by decide +kernel) (by decide +kernel), x_in 8 (by decide +kernel) (by decide +kernel), rfl, by decide +kernel, by decide +kernel, by decide +kernel⟩
theorem lkc_X6_clear : Cond.code yX6_clear cX6_clear 2 (some .int) ∈ x_TB := x_in 609 (by decide +kernel) (by decide +kernel)
theorem kv_XL_63 : x_V RL 63 RX6 yX6_clear cX6_clear 2 (some .int) 0 := ⟨lkc_X6_clear, x_in 606 (by decide +kernel) (by decide +kernel), x_in 607 (by decide +kernel) (by decide +kernel), x_in 608 (by decide +kernel) (by decide +kernel), x_in 1 (by decide +kernel) (by decide +kernel), rfl, by decide +kernel, by decide +kernel, by decide +kernel⟩
theorem lkc_X7_clear : Cond.code yX7_clear cX7_clear 2 (some .int) ∈ x_TB := x_in 953 (by decide +kernel) (by decide +kernel)
theorem kv_XL_66 : x_V RL 66 RX7 yX7_clear cX7_clear 2 (some .int) 0 := ⟨lkc_X7_clear, x_in 950 (by decide +kernel) (by decide +kernel), x_in 951 (by decide +kernel) (by decide +kernel), x_in 952 (by decide +kernel) (by decide +kernel), x_in 8 (by decide +kernel) (by decide +kernel), rfl, by decide +kernel, by decide +kernel, by decide +kernel⟩
theorem lkc_X6_like : Cond.code yX6_like cX6_like 5 (some .int) ∈ x_TB := x_in 613 (by decide +kernel) (by decide +kernel)
theorem kv_XL_67 : x_V RL 67 RX6 yX6_like cX6_like 5 (some .int) 2 := ⟨lkc_X6_like, x_in 610 (by decide +kernel) (by decide +kernel), x_in 611 (by decide +kernel) (by decide +kernel), x_in 612 (by decide +kernel) (by decide +kernel), x_in 1 (by decide +kernel) (by decide +kernel), rfl, by decide +kernel, by decide +kernel, by decide +kernel⟩
theorem lkc_X7_like : Cond.code yX7_like cX7_like 3 (some .int) ∈ x_TB := x_in 1009 (by decide +kernel) (by decide +kernel)
theorem kv_XL_70 : x_V RL 70 RX7 yX7_like cX7_like 3 (some .int) 2 := ⟨lkc_X7_like, x_in 1006 (by decide +kernel) (by decide +kernel), x_in 1007 (by decide +kernel) (by decide +kernel), x_in 1008 (by decide +kernel) (by decide +kernel), x_in 8 (by decide +kernel) (by decide +kernel), rfl, by decide +kernel, by decide +kernel, by decide +kernel⟩
theorem lkc_X6_set : Cond.code yX6_set cX6_set 4 (some .int) ∈ x_TB := x_in 617 (by decide +kernel) (by decide +kernel)
theorem kv_XL_71 : x_V RL 71 RX6 yX6_set cX6_set 4 (some .int) 2 := ⟨lkc_X6_set, x_in 614 (by decide +kernel) (by decide +kernel), x_in 615 (by decide +kernel) (by decide +kernel), x_in 616 (by decide +kernel) (by decide +kernel), x_in 1 (by decide +kernel) (by decide +kernel), rfl, by decide +kernel, by decide +kernel, by decide +kernel⟩
theorem lkc_X7_set : Cond.code yX7_set cX7_set 4 (some .int) ∈ x_TB := x_in 1013 (by decide +kernel) (by decide +kernel)
theorem kv_XL_74 : x_V RL 74 RX7 yX7_set cX7_set 4 (some .int) 2 := ⟨lkc_X7_set, x_in 1010 (by decide +kernel) (by decide +kernel), x_in 1011 (by decide +kernel) (by decide +kernel), x_in 1012 (by decide +kernel) (by decide +kernel), x_in 8 (by decide +kernel) (by decide +kernel), rfl, by decide +kernel, by decide +kernel, by decide +kernel⟩
theorem lkc_X6_run : Cond.code yX6_run cX6_run 4 (some .int) ∈ x_TB := x_in 621 (by decide +kernel) (by decide +kernel)
theorem kv_XL_75 : x_V RL 75 RX6 yX6_run cX6_run 4 (some .int) 2 := ⟨lkc_X6_run, x_in 618 (by decide +kernel) (by decide +kernel), x_in 619 (by decide +kernel) (by decide +kernel), x_in 620 (by decide +kernel) (by decide +kernel), x_in 1 (by decide +kernel) (by decide +kernel), rfl, by decide +kernel, by decide +kernel, by decide +kernel⟩
theorem lkc_X7_run : Cond.code yX7_run cX7_run 7 (some .int) ∈ x_TB := x_in 1017 (by decide +kernel) (by decide +kernel)
theorem kv_XL_78 : x_V RL 78 RX7 yX7_run cX7_run 7 (some .int) 2 := ⟨lkc_X7_run, x_in 1014 (by decide +kernel) (by decide +kernel), x_in 1015 (by decide +kernel) (by decide +kernel), x_in 1016 (by decide +kernel) (by decide +kernel), x_in 8 (by decide +kernel) (by decide +kernel), rfl, by decide +kernel, by decide +kernel, by decide +kernel⟩
theorem lkc_X6_ran : Cond.code yX6_ran cX6_ran 2 (some .int) ∈ x_TB := x_in 653 (by decide +kernel) (by decide +kernel)
theorem kv_XL_79 : x_V RL 79 RX6 yX6_ran cX6_ran 2 (some .int) 1 := ⟨lkc_X6_ran, x_in 650 (by decide +kernel) (by decide +kernel), x_in 651 (by decide +kernel) (by decide +kernel), x_in 652 (by decide +kernel) (by decide +kernel), x_in 1 (by decide +kernel) (by decide +kernel), rfl, by decide +kernel, by decide +kernel, by decide +kernel⟩
theorem lkc_X7_ran : Cond.code yX7_ran cX7_ran 2 (some .int) ∈ x_TB := x_in 1024 (by decide +kernel) (by decide +kernel)
theorem kv_XL_82 : x_V RL 82 RX7 yX7_ran cX7_ran 2 (some .int) 1 := ⟨lkc_X7_ran, x_in 1021 (by decide +kernel) (by decide +kernel), x_in 1022 (by decide +kernel) (by decide +kernel), x_in 1023 (by decide +kernel) (by decide +kernel), x_in 8 (by decide +kernel) (by decide +kernel), rfl, by decide +kernel, by decide +kernel, by decide +kernel⟩
theorem lkc_X6_out : Cond.code yX6_out cX6_out 2 (some .int) ∈ x_TB := x_in 657 (by decide +kernel) (by decide +kernel)
theorem kv_XL_83 : x_V RL 83 RX6 yX6_out cX6_out 2 (some .int) 1 := ⟨lkc_X6_out, x_in 654 (by decide +kernel) (by decide +kernel), x_in 655 (by decide +kernel) (by decide +kernel), x_in 656 (by decide +kernel) (by decide +kernel), x_in 1 (by decide +kernel) (by decide +kernel), rfl, by decide +kernel, by decide +kernel, by decide +kernel⟩
theorem lkc_X7_out : Cond.code yX7_out cX7_out 2 (some .int) ∈ x_TB := x_in 1028 (by decide +kernel) (by decide +kernel)
theorem kv_XL_86 : x_V RL 86 RX7 yX7_out cX7_out 2 (some .int) 1 := ⟨lkc_X7_out, x_in 1025 (by decide +kernel) (by decide +kernel), x_in 1026 (by decide +kernel) (by decide +kernel), x_in 1027 (by decide +kernel) (by decide +kernel), x_in 8 (by decide +kernel) (by decide +kernel), rfl, by decide +kernel, by decide +kernel, by decide +kernel⟩
/-! THE CLAIM OUT OF ONE WALK OF THE LAW'S BODY. Your part is whole_start (and what it stands on); all else here is the same for every law, but numbers. -/
def R_law : String := "StoryDecompileLaw"
def lw_P (b : Addr) (xs : List Int32) (args : Array Value) (s : State) : Prop := args = #[.ref b] ∧ s.IntsAt b xs ∧ xs.length ≤ 3584 ∧ (Jvm.Cond.and given_1 narrow_1).before args s = true
def lw_Q (_ : Array Value) (s : State) (o : Outcome) (t : State) : Prop := o = .returned (some (.int 1)) ∧ Framed s o t [] 600000 7302250
def lw_Z (below : List Frame) (a : Array Value) (s : State) : State → Prop := fun t => ∃ o, t.status = .running ∧ Ended t below o ∧ lw_Q a s o t
/-- the law's own end, with 1 on the stack, nothing written that was there before, its room as the claim has it -/
theorem lw_ret {p : Program} {l : Launch} {e : Env} {s : State} {m : MethodId} {below : List Frame} {meth : Method} {c : Code} {b : Nat} (hx : p.tables.exec = Jvm.exec) (hb : c.code = code) (hr : meth.sig.returnType = ret) (hlocks : meth.locks = false) {pc : Nat} {H : Heap} {ls : Array Slot} (hdg : decode code pc = .ok (.ireturn, 1)) : W p l e room_1 s m #[Value.ref b] below meth c H [] 600000 7302250 (lw_Z below #[Value.ref b] s) (F0 m pc ls [.int 1]) := by
  intro T hT X
  obtain ⟨fs, hret, hrun, hended, hW, hframe⟩ := X.leave (v := some (.int 1)) (hlocks := hlocks) (fun h => by rw [hr] at h; cases h)
  have hmeth' : T.vm.method? m = some meth := X.method'
  refine ⟨T.setFrames fs, ?_, .returned (some (.int 1)), hrun, hended, rfl, ⟨_, rfl⟩, hW, hframe⟩
  jvm_step X.here [X.here.top, hx, hb, hdg, hmeth', hr, ret, narrow_b1]
  (try refine ⟨rfl, ?_⟩); (try refine ⟨rfl, ?_⟩)
  first | (intro acts; rw [hret _ acts rfl rfl rfl]) | rw [hret _ _ rfl rfl rfl]
  exact Steps.refl _
/-- what holds at the law's entry: the machine, the code, the tables' words (any of lw_tbl by 'hts w (by decide +kernel)'), the script of L ints xs at the cell b, what the Statement gives of the start (any of its parts by flat_of_before) -/
def lw_At (p : Program) (s : State) (m : MethodId) (meth : Method) (c : Code) (b L : Nat) (xs : Nat → Int32) : Prop :=
  p.tables.exec = Jvm.exec ∧ c.code = code ∧ meth.sig.returnType = ret ∧ c.maxLocals = 4 ∧ s.vm.findClass R_law = some m.cls ∧ (∀ w ∈ lw_tbl, w.before #[Value.ref b] s = true) ∧ va_X b L xs s s.heap ∧ b < s.heap.size ∧ meth.locks = false ∧ (Jvm.Cond.and given_1 narrow_1).before #[Value.ref b] s = true
/-! the law's loop: at its head, with t calls done, the class and the reference stand to each other as INV says -/
def x_2_routine (INV : x_S → x_S → Prop) (n : Nat) : Prop := ∀ (Sc Sm : x_S), INV Sc Sm → ∃ (v : Int32) (Sc1 Sm1 : x_S), f_X6_routine n Sc = some (v, Sc1) ∧ f_X7_routine n Sm = some (v, Sm1) ∧ INV Sc1 Sm1
def x_2_act (INV : x_S → x_S → Prop) (n : Nat) : Prop := ∀ (Sc Sm : x_S) (a0 a1 a2 a3 a4 : Int32), INV Sc Sm → ∃ (v : Int32) (Sc1 Sm1 : x_S), f_X6_act n Sc a0 a1 a2 a3 a4 = some (v, Sc1) ∧ f_X7_act n Sm a0 a1 a2 a3 a4 = some (v, Sm1) ∧ INV Sc1 Sm1
def x_2_alter (INV : x_S → x_S → Prop) (n : Nat) : Prop := ∀ (Sc Sm : x_S) (a0 a1 a2 a3 a4 a5 : Int32), INV Sc Sm → ∃ (v : Int32) (Sc1 Sm1 : x_S), f_X6_alter n Sc a0 a1 a2 a3 a4 a5 = some (v, Sc1) ∧ f_X7_alter n Sm a0 a1 a2 a3 a4 a5 = some (v, Sm1) ∧ INV Sc1 Sm1
def x_2_told (INV : x_S → x_S → Prop) (n : Nat) : Prop := ∀ (Sc Sm : x_S) (a0 a1 a2 : Int32), INV Sc Sm → ∃ (v : Int32) (Sc1 Sm1 : x_S), f_X6_told n Sc a0 a1 a2 = some (v, Sc1) ∧ f_X7_told n Sm a0 a1 a2 = some (v, Sm1) ∧ INV Sc1 Sm1
def x_2_of (INV : x_S → x_S → Prop) (n : Nat) : Prop := ∀ (Sc Sm : x_S) (a0 a1 : Int32), INV Sc Sm → ∃ (v : Int32) (Sc1 Sm1 : x_S), f_X6_of n Sc a0 a1 = some (v, Sc1) ∧ f_X7_of n Sm a0 a1 = some (v, Sm1) ∧ INV Sc1 Sm1
def x_2_statement (INV : x_S → x_S → Prop) (n : Nat) : Prop := ∀ (Sc Sm : x_S) (a0 a1 a2 : Int32), INV Sc Sm → ∃ (v : Int32) (Sc1 Sm1 : x_S), f_X6_statement n Sc a0 a1 a2 = some (v, Sc1) ∧ f_X7_statement n Sm a0 a1 a2 = some (v, Sm1) ∧ INV Sc1 Sm1
def x_2_text (INV : x_S → x_S → Prop) (n : Nat) : Prop := ∀ (Sc Sm : x_S) (a0 a1 : Int32), INV Sc Sm → ∃ (v : Int32) (Sc1 Sm1 : x_S), f_X6_text n Sc a0 a1 = some (v, Sc1) ∧ f_X7_text n Sm a0 a1 = some (v, Sm1) ∧ INV Sc1 Sm1
def x_2_feed (INV : x_S → x_S → Prop) (n : Nat) : Prop := ∀ (Sc Sm : x_S) (a0 : Int32), INV Sc Sm → ∃ (v : Int32) (Sc1 Sm1 : x_S), f_X6_feed n Sc a0 = some (v, Sc1) ∧ f_X7_feed n Sm a0 = some (v, Sm1) ∧ INV Sc1 Sm1
def x_2_copy (INV : x_S → x_S → Prop) (n : Nat) : Prop := ∀ (Sc Sm : x_S) (a0 : Int32), INV Sc Sm → ∃ (v : Int32) (Sc1 Sm1 : x_S), f_X6_copy n Sc a0 = some (v, Sc1) ∧ f_X7_copy n Sm a0 = some (v, Sm1) ∧ INV Sc1 Sm1
def x_2_write (INV : x_S → x_S → Prop) (n : Nat) : Prop := ∀ (Sc Sm : x_S), INV Sc Sm → ∃ (v : Int32) (Sc1 Sm1 : x_S), f_X6_write n Sc = some (v, Sc1) ∧ f_X7_write n Sm = some (v, Sm1) ∧ INV Sc1 Sm1
def x_2_fault (INV : x_S → x_S → Prop) (n : Nat) : Prop := ∀ (Sc Sm : x_S), INV Sc Sm → ∃ (v : Int32) (Sc1 Sm1 : x_S), f_X6_fault n Sc = some (v, Sc1) ∧ f_X7_fault n Sm = some (v, Sm1) ∧ INV Sc1 Sm1
def x_2_clear (INV : x_S → x_S → Prop) (n : Nat) : Prop := ∀ (Sc Sm : x_S), INV Sc Sm → ∃ (v : Int32) (Sc1 Sm1 : x_S), f_X6_clear n Sc = some (v, Sc1) ∧ f_X7_clear n Sm = some (v, Sm1) ∧ INV Sc1 Sm1
def x_2_like (INV : x_S → x_S → Prop) (n : Nat) : Prop := ∀ (Sc Sm : x_S) (a0 a1 : Int32), INV Sc Sm → ∃ (v : Int32) (Sc1 Sm1 : x_S), f_X6_like n Sc a0 a1 = some (v, Sc1) ∧ f_X7_like n Sm a0 a1 = some (v, Sm1) ∧ INV Sc1 Sm1
def x_2_set (INV : x_S → x_S → Prop) (n : Nat) : Prop := ∀ (Sc Sm : x_S) (a0 a1 : Int32), INV Sc Sm → ∃ (v : Int32) (Sc1 Sm1 : x_S), f_X6_set n Sc a0 a1 = some (v, Sc1) ∧ f_X7_set n Sm a0 a1 = some (v, Sm1) ∧ INV Sc1 Sm1
def x_2_run (INV : x_S → x_S → Prop) (n : Nat) : Prop := ∀ (Sc Sm : x_S) (a0 a1 : Int32), INV Sc Sm → ∃ (v : Int32) (Sc1 Sm1 : x_S), f_X6_run n Sc a0 a1 = some (v, Sc1) ∧ f_X7_run n Sm a0 a1 = some (v, Sm1) ∧ INV Sc1 Sm1
def x_2_ran (INV : x_S → x_S → Prop) (n : Nat) : Prop := ∀ (Sc Sm : x_S) (a0 : Int32), INV Sc Sm → ∃ (v : Int32) (Sc1 Sm1 : x_S), f_X6_ran n Sc a0 = some (v, Sc1) ∧ f_X7_ran n Sm a0 = some (v, Sm1) ∧ INV Sc1 Sm1
def x_2_out (INV : x_S → x_S → Prop) (n : Nat) : Prop := ∀ (Sc Sm : x_S) (a0 : Int32), INV Sc Sm → ∃ (v : Int32) (Sc1 Sm1 : x_S), f_X6_out n Sc a0 = some (v, Sc1) ∧ f_X7_out n Sm a0 = some (v, Sm1) ∧ INV Sc1 Sm1
def x_2_cl (INV : x_S → x_S → Prop) (n : Nat) : Prop := ∀ Sc Sm : x_S, INV Sc Sm → x_cl Sc ∧ ∀ (v3 : Int32) (S2 : x_S), f_X5_parse n Sc (g_sc Sc 606) = some (v3, S2) → x_cl S2
def x_L2 (INV : x_S → x_S → Prop) (n : Nat) : Prop := x_2_cl INV n ∧ x_2_routine INV n ∧ x_2_act INV n ∧ x_2_alter INV n ∧ x_2_told INV n ∧ x_2_of INV n ∧ x_2_statement INV n ∧ x_2_text INV n ∧ x_2_feed INV n ∧ x_2_copy INV n ∧ x_2_write INV n ∧ x_2_fault INV n ∧ x_2_clear INV n ∧ x_2_like INV n ∧ x_2_set INV n ∧ x_2_run INV n ∧ x_2_ran INV n ∧ x_2_out INV n
section
variable {p : Program} {l : Launch} {e : Env} {s : State} {m : MethodId} {below : List Frame} {meth : Method} {c : Code} {E : x_E} {ad ad2 : Nat → Nat} {b L n : Nat} {xs : Nat → Int32} {INV : x_S → x_S → Prop}

set_option maxHeartbeats 8000000 in
set_option maxRecDepth 100000 in
theorem law_loop (hL : L ≤ 3584) (hC : x_C p s m #[Value.ref b] meth c cL_law 4 RL E (fun q => s.heap.size ≤ q)) (hr : meth.sig.returnType = ret) (hlocks : meth.locks = false) (hX : va_X b L xs s s.heap) (hbl : b < s.heap.size) (h2 : x_L2 INV n) : ∀ (f t : Nat), 7 * t ≤ L → L < 7 * t + f → ∀ (iv : Int32), iv = nI (7 * t) → ∀ (Sc Sm : x_S) (ap : Nat → Nat → Nat) (H : Heap) (locs : List Loc) (ls : Array Slot), INV Sc Sm → x_I E (fun q => s.heap.size ≤ q) s.heap (mw E ad2 Sm ++ cw E ad ap Sc) H locs → lv_has ls 4 [(0, .ref b), (1, .ref (ad 699)), (2, .ref (ad2 799)), (3, .int iv)] → W p l e room_1 s m #[Value.ref b] below meth c H locs (82 + 5 * t) (12730 + 246 * t) (lw_Z below #[Value.ref b] s) (F0 m 18 ls []) := by
  obtain ⟨hx, hb, hml, hown, hts, hK, hN, hA⟩ := id hC
  obtain ⟨h2_cl, h2_routine, h2_act, h2_alter, h2_told, h2_of, h2_statement, h2_text, h2_feed, h2_copy, h2_write, h2_fault, h2_clear, h2_like, h2_set, h2_run, h2_ran, h2_out⟩ := h2
  have hbA : ¬ (fun q : Nat => s.heap.size ≤ q) b := Nat.not_le.mpr hbl
  intro f
  induction f with
  | zero => intro t h1 h2; omega
  | succ f ih =>
    intro t ht hf iv hiv Sc Sm ap H locs ls hinv hI hl
    refine lv_iload_n hx hb dL_law_18 rfl (lv_at hl 3 rfl) ?_
    refine lv_aload_n hx hb dL_law_19 rfl (lv_at hl 0 rfl) ?_
    refine va_slen hx hb hX hbl hbA hI.2.2 dL_law_20 ?_
    refine lv_bipush (v := (7 : Int32)) hx hb dL_law_21 (by decide) ?_
    refine lv_isub hx hb dL_law_23 ?_
    have e7 : (Int32.ofNat L - 7).toInt = (L : Int) - 7 := pk_sub_toInt (a := L) (b := 7) (by omega) (by decide)
    have ei : iv.toInt = ((7 * t : Nat) : Int) := by rw [hiv]; exact nI_toInt (by omega)
    refine lv_icmp_gt (tgt := 655) hx hb dL_law_24 (by decide) (fun c1 => ?_) (fun c1 => ?_)
    · refine lv_iconst (v := 1) hx hb dL_law_655 (by decide) ?_
      refine va_forget (fun q hq => hI.2.2.2.2 q hq) ?_
      refine W.widen (k := 600000) (n := 7302250) (by omega) (by omega) ?_
      exact lw_ret hx hb hr hlocks dL_law_656
    · have hin : 7 * t + 7 ≤ L := by
        rw [Int32.lt_iff_toInt_lt, e7, ei] at c1
        omega
      have hk : ∀ j : Nat, j < 7 → vp_in (nI (7 * t) + nI j) L := fun j hj => by rw [nI_add]; exact vp_in_nI (by omega) (by omega)
      rw [← hiv] at hk
      have hin0 : vp_in iv L := by rw [hiv]; exact vp_in_nI (by omega) (by omega)
      have hin1 : vp_in (iv + (1 : Int32)) L := hk 1 (by decide)
      have hin2 : vp_in (iv + (2 : Int32)) L := hk 2 (by decide)
      have hin3 : vp_in (iv + (3 : Int32)) L := hk 3 (by decide)
      have hin4 : vp_in (iv + (4 : Int32)) L := hk 4 (by decide)
      have hin5 : vp_in (iv + (5 : Int32)) L := hk 5 (by decide)
      have hin6 : vp_in (iv + (6 : Int32)) L := hk 6 (by decide)
      have hback : ∀ (Sc Sm : x_S) (ap : Nat → Nat → Nat) (H : Heap) (locs : List Loc) (cs ss : Nat), INV Sc Sm → x_I E (fun q => s.heap.size ≤ q) s.heap (mw E ad2 Sm ++ cw E ad ap Sc) H locs → cs ≤ 82 + 5 * t + 5 → ss ≤ 12730 + 246 * t + 246 → W p l e room_1 s m #[Value.ref b] below meth c H locs cs ss (lw_Z below #[Value.ref b] s) (F0 m 649 ls []) := by
        intro Sc Sm ap H locs cs ss hinv hI hc hs
        refine lv_iinc (v := iv + 7) (lv' := [(3, .int (iv + 7)), (0, .ref b), (1, .ref (ad 699)), (2, .ref (ad2 799))]) hx hb dL_law_649 hl (k := 3) rfl rfl (by decide) rfl (fun ls hl => ?_)
        refine lv_goto (tgt := 18) hx hb dL_law_652 (by decide) ?_
        refine W.widen (k := 82 + 5 * (t + 1)) (n := 12730 + 246 * (t + 1)) (by omega) (by omega) ?_
        exact ih (t + 1) (by omega) (by omega) (iv + 7) (by rw [hiv]; exact nI_add (7 * t) 7) Sc Sm ap H locs ls hinv hI (lv_sub hl [1, 2, 3, 0] rfl)
      refine lv_aload_n hx hb dL_law_27 rfl (lv_at hl 0 rfl) ?_
      refine lv_iload_n hx hb dL_law_28 rfl (lv_at hl 3 rfl) ?_
      refine va_sld hx hb hX hbl hbA hI.2.2 hin0 dL_law_29 ?_
      refine lv_bipush (v := (31 : Int32)) hx hb dL_law_30 (by decide) ?_
      refine lv_iand hx hb dL_law_32 ?_
      refine lv_topi (fun sw _ => ?_)
      by_cases q0 : sw = 0
      · refine lv_tableIn (tgt := 116) hx hb dL_law_33 (by rw [q0]; decide) (by rw [q0]; decide) (by rw [q0]; rfl) (by decide) ?_
        obtain ⟨v, Sc1, Sm1, g1, g2, g3⟩ := h2_routine Sc Sm hinv
        refine lv_aload_n hx hb dL_law_116 rfl (lv_at hl 1 rfl) ?_
        refine x_callVM (X := mw E ad2 Sm) hC hI (c_X6_routine (h2_cl Sc Sm hinv).1 g1) 0 6 rfl rfl kv_XL_13 rfl ⟨Nat.le_of_ble_eq_true rfl, Nat.le_of_ble_eq_true rfl⟩ (show _ ≤ 600000 ∧ _ ≤ 7302250 from ⟨by omega, by omega⟩) hl.1 rfl (Nat.le_of_ble_eq_true rfl) dL_law_117 (fun rv w1 H locs hpost hI => ?_)
        obtain ⟨rfl, ap, rfl⟩ := hpost
        have hI := hI.comm
        refine lv_aload_n hx hb dL_law_120 rfl (lv_at hl 2 rfl) ?_
        refine x_callVM (X := cw E ad ap Sc1) hC hI (c_X7_routine (ad := ad2) g2).toMa 0 7 rfl rfl kv_XL_17 rfl ⟨Nat.le_of_ble_eq_true rfl, Nat.le_of_ble_eq_true rfl⟩ (show _ ≤ 600000 ∧ _ ≤ 7302250 from ⟨by omega, by omega⟩) hl.1 rfl (Nat.le_of_ble_eq_true rfl) dL_law_121 (fun rv w1 H locs hpost hI => ?_)
        obtain ⟨rfl, rfl⟩ := hpost
        have hI := hI.comm
        refine lv_icmp_eq (tgt := 649) hx hb dL_law_124 (by decide) (fun _ => ?_) (fun h9 => absurd rfl h9)
        exact hback Sc1 Sm1 ap H locs _ _ g3 hI (by omega) (by omega)
      by_cases q1 : sw = 1
      · refine lv_tableIn (tgt := 129) hx hb dL_law_33 (by rw [q1]; decide) (by rw [q1]; decide) (by rw [q1]; rfl) (by decide) ?_
        obtain ⟨v, Sc1, Sm1, g1, g2, g3⟩ := h2_act Sc Sm (xs (iv + (1 : Int32)).toNatClampNeg) (xs (iv + (2 : Int32)).toNatClampNeg) (xs (iv + (3 : Int32)).toNatClampNeg) (xs (iv + (4 : Int32)).toNatClampNeg) (xs (iv + (5 : Int32)).toNatClampNeg) hinv
        refine lv_aload_n hx hb dL_law_129 rfl (lv_at hl 1 rfl) ?_
        refine lv_aload_n hx hb dL_law_130 rfl (lv_at hl 0 rfl) ?_
        refine lv_iload_n hx hb dL_law_131 rfl (lv_at hl 3 rfl) ?_
        refine lv_iconst (v := (1 : Int32)) hx hb dL_law_132 (by decide) ?_
        refine lv_iadd hx hb dL_law_133 ?_
        refine va_sld hx hb hX hbl hbA hI.2.2 hin1 dL_law_134 ?_
        refine lv_aload_n hx hb dL_law_135 rfl (lv_at hl 0 rfl) ?_
        refine lv_iload_n hx hb dL_law_136 rfl (lv_at hl 3 rfl) ?_
        refine lv_iconst (v := (2 : Int32)) hx hb dL_law_137 (by decide) ?_
        refine lv_iadd hx hb dL_law_138 ?_
        refine va_sld hx hb hX hbl hbA hI.2.2 hin2 dL_law_139 ?_
        refine lv_aload_n hx hb dL_law_140 rfl (lv_at hl 0 rfl) ?_
        refine lv_iload_n hx hb dL_law_141 rfl (lv_at hl 3 rfl) ?_
        refine lv_iconst (v := (3 : Int32)) hx hb dL_law_142 (by decide) ?_
        refine lv_iadd hx hb dL_law_143 ?_
        refine va_sld hx hb hX hbl hbA hI.2.2 hin3 dL_law_144 ?_
        refine lv_aload_n hx hb dL_law_145 rfl (lv_at hl 0 rfl) ?_
        refine lv_iload_n hx hb dL_law_146 rfl (lv_at hl 3 rfl) ?_
        refine lv_iconst (v := (4 : Int32)) hx hb dL_law_147 (by decide) ?_
        refine lv_iadd hx hb dL_law_148 ?_
        refine va_sld hx hb hX hbl hbA hI.2.2 hin4 dL_law_149 ?_
        refine lv_aload_n hx hb dL_law_150 rfl (lv_at hl 0 rfl) ?_
        refine lv_iload_n hx hb dL_law_151 rfl (lv_at hl 3 rfl) ?_
        refine lv_iconst (v := (5 : Int32)) hx hb dL_law_152 (by decide) ?_
        refine lv_iadd hx hb dL_law_153 ?_
        refine va_sld hx hb hX hbl hbA hI.2.2 hin5 dL_law_154 ?_
        refine x_callVM (X := mw E ad2 Sm) hC hI (c_X6_act (ad := ad) (ap := ap) g1).toMa 0 6 rfl rfl kv_XL_18 rfl ⟨Nat.le_of_ble_eq_true rfl, Nat.le_of_ble_eq_true rfl⟩ (show _ ≤ 600000 ∧ _ ≤ 7302250 from ⟨by omega, by omega⟩) hl.1 rfl (Nat.le_of_ble_eq_true rfl) dL_law_155 (fun rv w1 H locs hpost hI => ?_)
        obtain ⟨rfl, rfl⟩ := hpost
        have hI := hI.comm
        refine lv_aload_n hx hb dL_law_158 rfl (lv_at hl 2 rfl) ?_
        refine lv_aload_n hx hb dL_law_159 rfl (lv_at hl 0 rfl) ?_
        refine lv_iload_n hx hb dL_law_160 rfl (lv_at hl 3 rfl) ?_
        refine lv_iconst (v := (1 : Int32)) hx hb dL_law_161 (by decide) ?_
        refine lv_iadd hx hb dL_law_162 ?_
        refine va_sld hx hb hX hbl hbA hI.2.2 hin1 dL_law_163 ?_
        refine lv_aload_n hx hb dL_law_164 rfl (lv_at hl 0 rfl) ?_
        refine lv_iload_n hx hb dL_law_165 rfl (lv_at hl 3 rfl) ?_
        refine lv_iconst (v := (2 : Int32)) hx hb dL_law_166 (by decide) ?_
        refine lv_iadd hx hb dL_law_167 ?_
        refine va_sld hx hb hX hbl hbA hI.2.2 hin2 dL_law_168 ?_
        refine lv_aload_n hx hb dL_law_169 rfl (lv_at hl 0 rfl) ?_
        refine lv_iload_n hx hb dL_law_170 rfl (lv_at hl 3 rfl) ?_
        refine lv_iconst (v := (3 : Int32)) hx hb dL_law_171 (by decide) ?_
        refine lv_iadd hx hb dL_law_172 ?_
        refine va_sld hx hb hX hbl hbA hI.2.2 hin3 dL_law_173 ?_
        refine lv_aload_n hx hb dL_law_174 rfl (lv_at hl 0 rfl) ?_
        refine lv_iload_n hx hb dL_law_175 rfl (lv_at hl 3 rfl) ?_
        refine lv_iconst (v := (4 : Int32)) hx hb dL_law_176 (by decide) ?_
        refine lv_iadd hx hb dL_law_177 ?_
        refine va_sld hx hb hX hbl hbA hI.2.2 hin4 dL_law_178 ?_
        refine lv_aload_n hx hb dL_law_179 rfl (lv_at hl 0 rfl) ?_
        refine lv_iload_n hx hb dL_law_180 rfl (lv_at hl 3 rfl) ?_
        refine lv_iconst (v := (5 : Int32)) hx hb dL_law_181 (by decide) ?_
        refine lv_iadd hx hb dL_law_182 ?_
        refine va_sld hx hb hX hbl hbA hI.2.2 hin5 dL_law_183 ?_
        refine x_callVM (X := cw E ad ap Sc1) hC hI (c_X7_act (ad := ad2) g2).toMa 0 7 rfl rfl kv_XL_22 rfl ⟨Nat.le_of_ble_eq_true rfl, Nat.le_of_ble_eq_true rfl⟩ (show _ ≤ 600000 ∧ _ ≤ 7302250 from ⟨by omega, by omega⟩) hl.1 rfl (Nat.le_of_ble_eq_true rfl) dL_law_184 (fun rv w1 H locs hpost hI => ?_)
        obtain ⟨rfl, rfl⟩ := hpost
        have hI := hI.comm
        refine lv_icmp_eq (tgt := 649) hx hb dL_law_187 (by decide) (fun _ => ?_) (fun h9 => absurd rfl h9)
        exact hback Sc1 Sm1 ap H locs _ _ g3 hI (by omega) (by omega)
      by_cases q2 : sw = 2
      · refine lv_tableIn (tgt := 192) hx hb dL_law_33 (by rw [q2]; decide) (by rw [q2]; decide) (by rw [q2]; rfl) (by decide) ?_
        obtain ⟨v, Sc1, Sm1, g1, g2, g3⟩ := h2_alter Sc Sm (xs (iv + (1 : Int32)).toNatClampNeg) (xs (iv + (2 : Int32)).toNatClampNeg) (xs (iv + (3 : Int32)).toNatClampNeg) (xs (iv + (4 : Int32)).toNatClampNeg) (xs (iv + (5 : Int32)).toNatClampNeg) (xs (iv + (6 : Int32)).toNatClampNeg) hinv
        refine lv_aload_n hx hb dL_law_192 rfl (lv_at hl 1 rfl) ?_
        refine lv_aload_n hx hb dL_law_193 rfl (lv_at hl 0 rfl) ?_
        refine lv_iload_n hx hb dL_law_194 rfl (lv_at hl 3 rfl) ?_
        refine lv_iconst (v := (1 : Int32)) hx hb dL_law_195 (by decide) ?_
        refine lv_iadd hx hb dL_law_196 ?_
        refine va_sld hx hb hX hbl hbA hI.2.2 hin1 dL_law_197 ?_
        refine lv_aload_n hx hb dL_law_198 rfl (lv_at hl 0 rfl) ?_
        refine lv_iload_n hx hb dL_law_199 rfl (lv_at hl 3 rfl) ?_
        refine lv_iconst (v := (2 : Int32)) hx hb dL_law_200 (by decide) ?_
        refine lv_iadd hx hb dL_law_201 ?_
        refine va_sld hx hb hX hbl hbA hI.2.2 hin2 dL_law_202 ?_
        refine lv_aload_n hx hb dL_law_203 rfl (lv_at hl 0 rfl) ?_
        refine lv_iload_n hx hb dL_law_204 rfl (lv_at hl 3 rfl) ?_
        refine lv_iconst (v := (3 : Int32)) hx hb dL_law_205 (by decide) ?_
        refine lv_iadd hx hb dL_law_206 ?_
        refine va_sld hx hb hX hbl hbA hI.2.2 hin3 dL_law_207 ?_
        refine lv_aload_n hx hb dL_law_208 rfl (lv_at hl 0 rfl) ?_
        refine lv_iload_n hx hb dL_law_209 rfl (lv_at hl 3 rfl) ?_
        refine lv_iconst (v := (4 : Int32)) hx hb dL_law_210 (by decide) ?_
        refine lv_iadd hx hb dL_law_211 ?_
        refine va_sld hx hb hX hbl hbA hI.2.2 hin4 dL_law_212 ?_
        refine lv_aload_n hx hb dL_law_213 rfl (lv_at hl 0 rfl) ?_
        refine lv_iload_n hx hb dL_law_214 rfl (lv_at hl 3 rfl) ?_
        refine lv_iconst (v := (5 : Int32)) hx hb dL_law_215 (by decide) ?_
        refine lv_iadd hx hb dL_law_216 ?_
        refine va_sld hx hb hX hbl hbA hI.2.2 hin5 dL_law_217 ?_
        refine lv_aload_n hx hb dL_law_218 rfl (lv_at hl 0 rfl) ?_
        refine lv_iload_n hx hb dL_law_219 rfl (lv_at hl 3 rfl) ?_
        refine lv_bipush (v := (6 : Int32)) hx hb dL_law_220 (by decide) ?_
        refine lv_iadd hx hb dL_law_222 ?_
        refine va_sld hx hb hX hbl hbA hI.2.2 hin6 dL_law_223 ?_
        refine x_callVM (X := mw E ad2 Sm) hC hI (c_X6_alter (ad := ad) (ap := ap) g1).toMa 0 6 rfl rfl kv_XL_23 rfl ⟨Nat.le_of_ble_eq_true rfl, Nat.le_of_ble_eq_true rfl⟩ (show _ ≤ 600000 ∧ _ ≤ 7302250 from ⟨by omega, by omega⟩) hl.1 rfl (Nat.le_of_ble_eq_true rfl) dL_law_224 (fun rv w1 H locs hpost hI => ?_)
        obtain ⟨rfl, rfl⟩ := hpost
        have hI := hI.comm
        refine lv_aload_n hx hb dL_law_227 rfl (lv_at hl 2 rfl) ?_
        refine lv_aload_n hx hb dL_law_228 rfl (lv_at hl 0 rfl) ?_
        refine lv_iload_n hx hb dL_law_229 rfl (lv_at hl 3 rfl) ?_
        refine lv_iconst (v := (1 : Int32)) hx hb dL_law_230 (by decide) ?_
        refine lv_iadd hx hb dL_law_231 ?_
        refine va_sld hx hb hX hbl hbA hI.2.2 hin1 dL_law_232 ?_
        refine lv_aload_n hx hb dL_law_233 rfl (lv_at hl 0 rfl) ?_
        refine lv_iload_n hx hb dL_law_234 rfl (lv_at hl 3 rfl) ?_
        refine lv_iconst (v := (2 : Int32)) hx hb dL_law_235 (by decide) ?_
        refine lv_iadd hx hb dL_law_236 ?_
        refine va_sld hx hb hX hbl hbA hI.2.2 hin2 dL_law_237 ?_
        refine lv_aload_n hx hb dL_law_238 rfl (lv_at hl 0 rfl) ?_
        refine lv_iload_n hx hb dL_law_239 rfl (lv_at hl 3 rfl) ?_
        refine lv_iconst (v := (3 : Int32)) hx hb dL_law_240 (by decide) ?_
        refine lv_iadd hx hb dL_law_241 ?_
        refine va_sld hx hb hX hbl hbA hI.2.2 hin3 dL_law_242 ?_
        refine lv_aload_n hx hb dL_law_243 rfl (lv_at hl 0 rfl) ?_
        refine lv_iload_n hx hb dL_law_244 rfl (lv_at hl 3 rfl) ?_
        refine lv_iconst (v := (4 : Int32)) hx hb dL_law_245 (by decide) ?_
        refine lv_iadd hx hb dL_law_246 ?_
        refine va_sld hx hb hX hbl hbA hI.2.2 hin4 dL_law_247 ?_
        refine lv_aload_n hx hb dL_law_248 rfl (lv_at hl 0 rfl) ?_
        refine lv_iload_n hx hb dL_law_249 rfl (lv_at hl 3 rfl) ?_
        refine lv_iconst (v := (5 : Int32)) hx hb dL_law_250 (by decide) ?_
        refine lv_iadd hx hb dL_law_251 ?_
        refine va_sld hx hb hX hbl hbA hI.2.2 hin5 dL_law_252 ?_
        refine lv_aload_n hx hb dL_law_253 rfl (lv_at hl 0 rfl) ?_
        refine lv_iload_n hx hb dL_law_254 rfl (lv_at hl 3 rfl) ?_
        refine lv_bipush (v := (6 : Int32)) hx hb dL_law_255 (by decide) ?_
        refine lv_iadd hx hb dL_law_257 ?_
        refine va_sld hx hb hX hbl hbA hI.2.2 hin6 dL_law_258 ?_
        refine x_callVM (X := cw E ad ap Sc1) hC hI (c_X7_alter (ad := ad2) g2).toMa 0 7 rfl rfl kv_XL_27 rfl ⟨Nat.le_of_ble_eq_true rfl, Nat.le_of_ble_eq_true rfl⟩ (show _ ≤ 600000 ∧ _ ≤ 7302250 from ⟨by omega, by omega⟩) hl.1 rfl (Nat.le_of_ble_eq_true rfl) dL_law_259 (fun rv w1 H locs hpost hI => ?_)
        obtain ⟨rfl, rfl⟩ := hpost
        have hI := hI.comm
        refine lv_icmp_eq (tgt := 649) hx hb dL_law_262 (by decide) (fun _ => ?_) (fun h9 => absurd rfl h9)
        exact hback Sc1 Sm1 ap H locs _ _ g3 hI (by omega) (by omega)
      by_cases q3 : sw = 3
      · refine lv_tableIn (tgt := 267) hx hb dL_law_33 (by rw [q3]; decide) (by rw [q3]; decide) (by rw [q3]; rfl) (by decide) ?_
        obtain ⟨v, Sc1, Sm1, g1, g2, g3⟩ := h2_told Sc Sm (xs (iv + (1 : Int32)).toNatClampNeg) (xs (iv + (2 : Int32)).toNatClampNeg) (xs (iv + (3 : Int32)).toNatClampNeg) hinv
        refine lv_aload_n hx hb dL_law_267 rfl (lv_at hl 1 rfl) ?_
        refine lv_aload_n hx hb dL_law_268 rfl (lv_at hl 0 rfl) ?_
        refine lv_iload_n hx hb dL_law_269 rfl (lv_at hl 3 rfl) ?_
        refine lv_iconst (v := (1 : Int32)) hx hb dL_law_270 (by decide) ?_
        refine lv_iadd hx hb dL_law_271 ?_
        refine va_sld hx hb hX hbl hbA hI.2.2 hin1 dL_law_272 ?_
        refine lv_aload_n hx hb dL_law_273 rfl (lv_at hl 0 rfl) ?_
        refine lv_iload_n hx hb dL_law_274 rfl (lv_at hl 3 rfl) ?_
        refine lv_iconst (v := (2 : Int32)) hx hb dL_law_275 (by decide) ?_
        refine lv_iadd hx hb dL_law_276 ?_
        refine va_sld hx hb hX hbl hbA hI.2.2 hin2 dL_law_277 ?_
        refine lv_aload_n hx hb dL_law_278 rfl (lv_at hl 0 rfl) ?_
        refine lv_iload_n hx hb dL_law_279 rfl (lv_at hl 3 rfl) ?_
        refine lv_iconst (v := (3 : Int32)) hx hb dL_law_280 (by decide) ?_
        refine lv_iadd hx hb dL_law_281 ?_
        refine va_sld hx hb hX hbl hbA hI.2.2 hin3 dL_law_282 ?_
        refine x_callVM (X := mw E ad2 Sm) hC hI (c_X6_told (ad := ad) (ap := ap) g1).toMa 0 6 rfl rfl kv_XL_28 rfl ⟨Nat.le_of_ble_eq_true rfl, Nat.le_of_ble_eq_true rfl⟩ (show _ ≤ 600000 ∧ _ ≤ 7302250 from ⟨by omega, by omega⟩) hl.1 rfl (Nat.le_of_ble_eq_true rfl) dL_law_283 (fun rv w1 H locs hpost hI => ?_)
        obtain ⟨rfl, rfl⟩ := hpost
        have hI := hI.comm
        refine lv_aload_n hx hb dL_law_286 rfl (lv_at hl 2 rfl) ?_
        refine lv_aload_n hx hb dL_law_287 rfl (lv_at hl 0 rfl) ?_
        refine lv_iload_n hx hb dL_law_288 rfl (lv_at hl 3 rfl) ?_
        refine lv_iconst (v := (1 : Int32)) hx hb dL_law_289 (by decide) ?_
        refine lv_iadd hx hb dL_law_290 ?_
        refine va_sld hx hb hX hbl hbA hI.2.2 hin1 dL_law_291 ?_
        refine lv_aload_n hx hb dL_law_292 rfl (lv_at hl 0 rfl) ?_
        refine lv_iload_n hx hb dL_law_293 rfl (lv_at hl 3 rfl) ?_
        refine lv_iconst (v := (2 : Int32)) hx hb dL_law_294 (by decide) ?_
        refine lv_iadd hx hb dL_law_295 ?_
        refine va_sld hx hb hX hbl hbA hI.2.2 hin2 dL_law_296 ?_
        refine lv_aload_n hx hb dL_law_297 rfl (lv_at hl 0 rfl) ?_
        refine lv_iload_n hx hb dL_law_298 rfl (lv_at hl 3 rfl) ?_
        refine lv_iconst (v := (3 : Int32)) hx hb dL_law_299 (by decide) ?_
        refine lv_iadd hx hb dL_law_300 ?_
        refine va_sld hx hb hX hbl hbA hI.2.2 hin3 dL_law_301 ?_
        refine x_callVM (X := cw E ad ap Sc1) hC hI (c_X7_told (ad := ad2) g2).toMa 0 7 rfl rfl kv_XL_32 rfl ⟨Nat.le_of_ble_eq_true rfl, Nat.le_of_ble_eq_true rfl⟩ (show _ ≤ 600000 ∧ _ ≤ 7302250 from ⟨by omega, by omega⟩) hl.1 rfl (Nat.le_of_ble_eq_true rfl) dL_law_302 (fun rv w1 H locs hpost hI => ?_)
        obtain ⟨rfl, rfl⟩ := hpost
        have hI := hI.comm
        refine lv_icmp_eq (tgt := 649) hx hb dL_law_305 (by decide) (fun _ => ?_) (fun h9 => absurd rfl h9)
        exact hback Sc1 Sm1 ap H locs _ _ g3 hI (by omega) (by omega)
      by_cases q4 : sw = 4
      · refine lv_tableIn (tgt := 310) hx hb dL_law_33 (by rw [q4]; decide) (by rw [q4]; decide) (by rw [q4]; rfl) (by decide) ?_
        obtain ⟨v, Sc1, Sm1, g1, g2, g3⟩ := h2_of Sc Sm (xs (iv + (1 : Int32)).toNatClampNeg) (xs (iv + (2 : Int32)).toNatClampNeg) hinv
        refine lv_aload_n hx hb dL_law_310 rfl (lv_at hl 1 rfl) ?_
        refine lv_aload_n hx hb dL_law_311 rfl (lv_at hl 0 rfl) ?_
        refine lv_iload_n hx hb dL_law_312 rfl (lv_at hl 3 rfl) ?_
        refine lv_iconst (v := (1 : Int32)) hx hb dL_law_313 (by decide) ?_
        refine lv_iadd hx hb dL_law_314 ?_
        refine va_sld hx hb hX hbl hbA hI.2.2 hin1 dL_law_315 ?_
        refine lv_aload_n hx hb dL_law_316 rfl (lv_at hl 0 rfl) ?_
        refine lv_iload_n hx hb dL_law_317 rfl (lv_at hl 3 rfl) ?_
        refine lv_iconst (v := (2 : Int32)) hx hb dL_law_318 (by decide) ?_
        refine lv_iadd hx hb dL_law_319 ?_
        refine va_sld hx hb hX hbl hbA hI.2.2 hin2 dL_law_320 ?_
        refine x_callVM (X := mw E ad2 Sm) hC hI (c_X6_of (ad := ad) (ap := ap) g1).toMa 0 6 rfl rfl kv_XL_33 rfl ⟨Nat.le_of_ble_eq_true rfl, Nat.le_of_ble_eq_true rfl⟩ (show _ ≤ 600000 ∧ _ ≤ 7302250 from ⟨by omega, by omega⟩) hl.1 rfl (Nat.le_of_ble_eq_true rfl) dL_law_321 (fun rv w1 H locs hpost hI => ?_)
        obtain ⟨rfl, rfl⟩ := hpost
        have hI := hI.comm
        refine lv_aload_n hx hb dL_law_324 rfl (lv_at hl 2 rfl) ?_
        refine lv_aload_n hx hb dL_law_325 rfl (lv_at hl 0 rfl) ?_
        refine lv_iload_n hx hb dL_law_326 rfl (lv_at hl 3 rfl) ?_
        refine lv_iconst (v := (1 : Int32)) hx hb dL_law_327 (by decide) ?_
        refine lv_iadd hx hb dL_law_328 ?_
        refine va_sld hx hb hX hbl hbA hI.2.2 hin1 dL_law_329 ?_
        refine lv_aload_n hx hb dL_law_330 rfl (lv_at hl 0 rfl) ?_
        refine lv_iload_n hx hb dL_law_331 rfl (lv_at hl 3 rfl) ?_
        refine lv_iconst (v := (2 : Int32)) hx hb dL_law_332 (by decide) ?_
        refine lv_iadd hx hb dL_law_333 ?_
        refine va_sld hx hb hX hbl hbA hI.2.2 hin2 dL_law_334 ?_
        refine x_callVM (X := cw E ad ap Sc1) hC hI (c_X7_of (ad := ad2) g2).toMa 0 7 rfl rfl kv_XL_37 rfl ⟨Nat.le_of_ble_eq_true rfl, Nat.le_of_ble_eq_true rfl⟩ (show _ ≤ 600000 ∧ _ ≤ 7302250 from ⟨by omega, by omega⟩) hl.1 rfl (Nat.le_of_ble_eq_true rfl) dL_law_335 (fun rv w1 H locs hpost hI => ?_)
        obtain ⟨rfl, rfl⟩ := hpost
        have hI := hI.comm
        refine lv_icmp_eq (tgt := 649) hx hb dL_law_338 (by decide) (fun _ => ?_) (fun h9 => absurd rfl h9)
        exact hback Sc1 Sm1 ap H locs _ _ g3 hI (by omega) (by omega)
      by_cases q5 : sw = 5
      · refine lv_tableIn (tgt := 343) hx hb dL_law_33 (by rw [q5]; decide) (by rw [q5]; decide) (by rw [q5]; rfl) (by decide) ?_
        obtain ⟨v, Sc1, Sm1, g1, g2, g3⟩ := h2_statement Sc Sm (xs (iv + (1 : Int32)).toNatClampNeg) (xs (iv + (2 : Int32)).toNatClampNeg) (xs (iv + (3 : Int32)).toNatClampNeg) hinv
        refine lv_aload_n hx hb dL_law_343 rfl (lv_at hl 1 rfl) ?_
        refine lv_aload_n hx hb dL_law_344 rfl (lv_at hl 0 rfl) ?_
        refine lv_iload_n hx hb dL_law_345 rfl (lv_at hl 3 rfl) ?_
        refine lv_iconst (v := (1 : Int32)) hx hb dL_law_346 (by decide) ?_
        refine lv_iadd hx hb dL_law_347 ?_
        refine va_sld hx hb hX hbl hbA hI.2.2 hin1 dL_law_348 ?_
        refine lv_aload_n hx hb dL_law_349 rfl (lv_at hl 0 rfl) ?_
        refine lv_iload_n hx hb dL_law_350 rfl (lv_at hl 3 rfl) ?_
        refine lv_iconst (v := (2 : Int32)) hx hb dL_law_351 (by decide) ?_
        refine lv_iadd hx hb dL_law_352 ?_
        refine va_sld hx hb hX hbl hbA hI.2.2 hin2 dL_law_353 ?_
        refine lv_aload_n hx hb dL_law_354 rfl (lv_at hl 0 rfl) ?_
        refine lv_iload_n hx hb dL_law_355 rfl (lv_at hl 3 rfl) ?_
        refine lv_iconst (v := (3 : Int32)) hx hb dL_law_356 (by decide) ?_
        refine lv_iadd hx hb dL_law_357 ?_
        refine va_sld hx hb hX hbl hbA hI.2.2 hin3 dL_law_358 ?_
        refine x_callVM (X := mw E ad2 Sm) hC hI (c_X6_statement (ad := ad) (ap := ap) g1).toMa 0 6 rfl rfl kv_XL_38 rfl ⟨Nat.le_of_ble_eq_true rfl, Nat.le_of_ble_eq_true rfl⟩ (show _ ≤ 600000 ∧ _ ≤ 7302250 from ⟨by omega, by omega⟩) hl.1 rfl (Nat.le_of_ble_eq_true rfl) dL_law_359 (fun rv w1 H locs hpost hI => ?_)
        obtain ⟨rfl, rfl⟩ := hpost
        have hI := hI.comm
        refine lv_aload_n hx hb dL_law_362 rfl (lv_at hl 2 rfl) ?_
        refine lv_aload_n hx hb dL_law_363 rfl (lv_at hl 0 rfl) ?_
        refine lv_iload_n hx hb dL_law_364 rfl (lv_at hl 3 rfl) ?_
        refine lv_iconst (v := (1 : Int32)) hx hb dL_law_365 (by decide) ?_
        refine lv_iadd hx hb dL_law_366 ?_
        refine va_sld hx hb hX hbl hbA hI.2.2 hin1 dL_law_367 ?_
        refine lv_aload_n hx hb dL_law_368 rfl (lv_at hl 0 rfl) ?_
        refine lv_iload_n hx hb dL_law_369 rfl (lv_at hl 3 rfl) ?_
        refine lv_iconst (v := (2 : Int32)) hx hb dL_law_370 (by decide) ?_
        refine lv_iadd hx hb dL_law_371 ?_
        refine va_sld hx hb hX hbl hbA hI.2.2 hin2 dL_law_372 ?_
        refine lv_aload_n hx hb dL_law_373 rfl (lv_at hl 0 rfl) ?_
        refine lv_iload_n hx hb dL_law_374 rfl (lv_at hl 3 rfl) ?_
        refine lv_iconst (v := (3 : Int32)) hx hb dL_law_375 (by decide) ?_
        refine lv_iadd hx hb dL_law_376 ?_
        refine va_sld hx hb hX hbl hbA hI.2.2 hin3 dL_law_377 ?_
        refine x_callVM (X := cw E ad ap Sc1) hC hI (c_X7_statement (ad := ad2) g2).toMa 0 7 rfl rfl kv_XL_41 rfl ⟨Nat.le_of_ble_eq_true rfl, Nat.le_of_ble_eq_true rfl⟩ (show _ ≤ 600000 ∧ _ ≤ 7302250 from ⟨by omega, by omega⟩) hl.1 rfl (Nat.le_of_ble_eq_true rfl) dL_law_378 (fun rv w1 H locs hpost hI => ?_)
        obtain ⟨rfl, rfl⟩ := hpost
        have hI := hI.comm
        refine lv_icmp_eq (tgt := 649) hx hb dL_law_381 (by decide) (fun _ => ?_) (fun h9 => absurd rfl h9)
        exact hback Sc1 Sm1 ap H locs _ _ g3 hI (by omega) (by omega)
      by_cases q6 : sw = 6
      · refine lv_tableIn (tgt := 386) hx hb dL_law_33 (by rw [q6]; decide) (by rw [q6]; decide) (by rw [q6]; rfl) (by decide) ?_
        obtain ⟨v, Sc1, Sm1, g1, g2, g3⟩ := h2_text Sc Sm (xs (iv + (1 : Int32)).toNatClampNeg) (xs (iv + (2 : Int32)).toNatClampNeg) hinv
        refine lv_aload_n hx hb dL_law_386 rfl (lv_at hl 1 rfl) ?_
        refine lv_aload_n hx hb dL_law_387 rfl (lv_at hl 0 rfl) ?_
        refine lv_iload_n hx hb dL_law_388 rfl (lv_at hl 3 rfl) ?_
        refine lv_iconst (v := (1 : Int32)) hx hb dL_law_389 (by decide) ?_
        refine lv_iadd hx hb dL_law_390 ?_
        refine va_sld hx hb hX hbl hbA hI.2.2 hin1 dL_law_391 ?_
        refine lv_aload_n hx hb dL_law_392 rfl (lv_at hl 0 rfl) ?_
        refine lv_iload_n hx hb dL_law_393 rfl (lv_at hl 3 rfl) ?_
        refine lv_iconst (v := (2 : Int32)) hx hb dL_law_394 (by decide) ?_
        refine lv_iadd hx hb dL_law_395 ?_
        refine va_sld hx hb hX hbl hbA hI.2.2 hin2 dL_law_396 ?_
        refine x_callVM (X := mw E ad2 Sm) hC hI (c_X6_text (ad := ad) (ap := ap) g1).toMa 0 6 rfl rfl kv_XL_42 rfl ⟨Nat.le_of_ble_eq_true rfl, Nat.le_of_ble_eq_true rfl⟩ (show _ ≤ 600000 ∧ _ ≤ 7302250 from ⟨by omega, by omega⟩) hl.1 rfl (Nat.le_of_ble_eq_true rfl) dL_law_397 (fun rv w1 H locs hpost hI => ?_)
        obtain ⟨rfl, rfl⟩ := hpost
        have hI := hI.comm
        refine lv_aload_n hx hb dL_law_400 rfl (lv_at hl 2 rfl) ?_
        refine lv_aload_n hx hb dL_law_401 rfl (lv_at hl 0 rfl) ?_
        refine lv_iload_n hx hb dL_law_402 rfl (lv_at hl 3 rfl) ?_
        refine lv_iconst (v := (1 : Int32)) hx hb dL_law_403 (by decide) ?_
        refine lv_iadd hx hb dL_law_404 ?_
        refine va_sld hx hb hX hbl hbA hI.2.2 hin1 dL_law_405 ?_
        refine lv_aload_n hx hb dL_law_406 rfl (lv_at hl 0 rfl) ?_
        refine lv_iload_n hx hb dL_law_407 rfl (lv_at hl 3 rfl) ?_
        refine lv_iconst (v := (2 : Int32)) hx hb dL_law_408 (by decide) ?_
        refine lv_iadd hx hb dL_law_409 ?_
        refine va_sld hx hb hX hbl hbA hI.2.2 hin2 dL_law_410 ?_
        refine x_callVM (X := cw E ad ap Sc1) hC hI (c_X7_text (ad := ad2) g2).toMa 0 7 rfl rfl kv_XL_45 rfl ⟨Nat.le_of_ble_eq_true rfl, Nat.le_of_ble_eq_true rfl⟩ (show _ ≤ 600000 ∧ _ ≤ 7302250 from ⟨by omega, by omega⟩) hl.1 rfl (Nat.le_of_ble_eq_true rfl) dL_law_411 (fun rv w1 H locs hpost hI => ?_)
        obtain ⟨rfl, rfl⟩ := hpost
        have hI := hI.comm
        refine lv_icmp_eq (tgt := 649) hx hb dL_law_414 (by decide) (fun _ => ?_) (fun h9 => absurd rfl h9)
        exact hback Sc1 Sm1 ap H locs _ _ g3 hI (by omega) (by omega)
      by_cases q7 : sw = 7
      · refine lv_tableIn (tgt := 419) hx hb dL_law_33 (by rw [q7]; decide) (by rw [q7]; decide) (by rw [q7]; rfl) (by decide) ?_
        obtain ⟨v, Sc1, Sm1, g1, g2, g3⟩ := h2_feed Sc Sm (xs (iv + (1 : Int32)).toNatClampNeg) hinv
        refine lv_aload_n hx hb dL_law_419 rfl (lv_at hl 1 rfl) ?_
        refine lv_aload_n hx hb dL_law_420 rfl (lv_at hl 0 rfl) ?_
        refine lv_iload_n hx hb dL_law_421 rfl (lv_at hl 3 rfl) ?_
        refine lv_iconst (v := (1 : Int32)) hx hb dL_law_422 (by decide) ?_
        refine lv_iadd hx hb dL_law_423 ?_
        refine va_sld hx hb hX hbl hbA hI.2.2 hin1 dL_law_424 ?_
        refine x_callVM (X := mw E ad2 Sm) hC hI (c_X6_feed (ad := ad) (ap := ap) g1).toMa 0 6 rfl rfl kv_XL_46 rfl ⟨Nat.le_of_ble_eq_true rfl, Nat.le_of_ble_eq_true rfl⟩ (show _ ≤ 600000 ∧ _ ≤ 7302250 from ⟨by omega, by omega⟩) hl.1 rfl (Nat.le_of_ble_eq_true rfl) dL_law_425 (fun rv w1 H locs hpost hI => ?_)
        obtain ⟨rfl, rfl⟩ := hpost
        have hI := hI.comm
        refine lv_aload_n hx hb dL_law_428 rfl (lv_at hl 2 rfl) ?_
        refine lv_aload_n hx hb dL_law_429 rfl (lv_at hl 0 rfl) ?_
        refine lv_iload_n hx hb dL_law_430 rfl (lv_at hl 3 rfl) ?_
        refine lv_iconst (v := (1 : Int32)) hx hb dL_law_431 (by decide) ?_
        refine lv_iadd hx hb dL_law_432 ?_
        refine va_sld hx hb hX hbl hbA hI.2.2 hin1 dL_law_433 ?_
        refine x_callVM (X := cw E ad ap Sc1) hC hI (c_X7_feed (ad := ad2) g2).toMa 0 7 rfl rfl kv_XL_50 rfl ⟨Nat.le_of_ble_eq_true rfl, Nat.le_of_ble_eq_true rfl⟩ (show _ ≤ 600000 ∧ _ ≤ 7302250 from ⟨by omega, by omega⟩) hl.1 rfl (Nat.le_of_ble_eq_true rfl) dL_law_434 (fun rv w1 H locs hpost hI => ?_)
        obtain ⟨rfl, rfl⟩ := hpost
        have hI := hI.comm
        refine lv_icmp_eq (tgt := 649) hx hb dL_law_437 (by decide) (fun _ => ?_) (fun h9 => absurd rfl h9)
        exact hback Sc1 Sm1 ap H locs _ _ g3 hI (by omega) (by omega)
      by_cases q8 : sw = 8
      · refine lv_tableIn (tgt := 442) hx hb dL_law_33 (by rw [q8]; decide) (by rw [q8]; decide) (by rw [q8]; rfl) (by decide) ?_
        obtain ⟨v, Sc1, Sm1, g1, g2, g3⟩ := h2_copy Sc Sm (xs (iv + (1 : Int32)).toNatClampNeg) hinv
        refine lv_aload_n hx hb dL_law_442 rfl (lv_at hl 1 rfl) ?_
        refine lv_aload_n hx hb dL_law_443 rfl (lv_at hl 0 rfl) ?_
        refine lv_iload_n hx hb dL_law_444 rfl (lv_at hl 3 rfl) ?_
        refine lv_iconst (v := (1 : Int32)) hx hb dL_law_445 (by decide) ?_
        refine lv_iadd hx hb dL_law_446 ?_
        refine va_sld hx hb hX hbl hbA hI.2.2 hin1 dL_law_447 ?_
        refine x_callVM (X := mw E ad2 Sm) hC hI (c_X6_copy (ad := ad) (ap := ap) g1).toMa 0 6 rfl rfl kv_XL_51 rfl ⟨Nat.le_of_ble_eq_true rfl, Nat.le_of_ble_eq_true rfl⟩ (show _ ≤ 600000 ∧ _ ≤ 7302250 from ⟨by omega, by omega⟩) hl.1 rfl (Nat.le_of_ble_eq_true rfl) dL_law_448 (fun rv w1 H locs hpost hI => ?_)
        obtain ⟨rfl, rfl⟩ := hpost
        have hI := hI.comm
        refine lv_aload_n hx hb dL_law_451 rfl (lv_at hl 2 rfl) ?_
        refine lv_aload_n hx hb dL_law_452 rfl (lv_at hl 0 rfl) ?_
        refine lv_iload_n hx hb dL_law_453 rfl (lv_at hl 3 rfl) ?_
        refine lv_iconst (v := (1 : Int32)) hx hb dL_law_454 (by decide) ?_
        refine lv_iadd hx hb dL_law_455 ?_
        refine va_sld hx hb hX hbl hbA hI.2.2 hin1 dL_law_456 ?_
        refine x_callVM (X := cw E ad ap Sc1) hC hI (c_X7_copy (ad := ad2) g2).toMa 0 7 rfl rfl kv_XL_54 rfl ⟨Nat.le_of_ble_eq_true rfl, Nat.le_of_ble_eq_true rfl⟩ (show _ ≤ 600000 ∧ _ ≤ 7302250 from ⟨by omega, by omega⟩) hl.1 rfl (Nat.le_of_ble_eq_true rfl) dL_law_457 (fun rv w1 H locs hpost hI => ?_)
        obtain ⟨rfl, rfl⟩ := hpost
        have hI := hI.comm
        refine lv_icmp_eq (tgt := 649) hx hb dL_law_460 (by decide) (fun _ => ?_) (fun h9 => absurd rfl h9)
        exact hback Sc1 Sm1 ap H locs _ _ g3 hI (by omega) (by omega)
      by_cases q9 : sw = 9
      · refine lv_tableIn (tgt := 465) hx hb dL_law_33 (by rw [q9]; decide) (by rw [q9]; decide) (by rw [q9]; rfl) (by decide) ?_
        obtain ⟨v, Sc1, Sm1, g1, g2, g3⟩ := h2_write Sc Sm hinv
        refine lv_aload_n hx hb dL_law_465 rfl (lv_at hl 1 rfl) ?_
        refine x_callVM (X := mw E ad2 Sm) hC hI (c_X6_write (h2_cl Sc Sm hinv).2 g1) 0 6 rfl rfl kv_XL_55 rfl ⟨Nat.le_of_ble_eq_true rfl, Nat.le_of_ble_eq_true rfl⟩ (show _ ≤ 600000 ∧ _ ≤ 7302250 from ⟨by omega, by omega⟩) hl.1 rfl (Nat.le_of_ble_eq_true rfl) dL_law_466 (fun rv w1 H locs hpost hI => ?_)
        obtain ⟨rfl, ap, rfl⟩ := hpost
        have hI := hI.comm
        refine lv_aload_n hx hb dL_law_469 rfl (lv_at hl 2 rfl) ?_
        refine x_callVM (X := cw E ad ap Sc1) hC hI (c_X7_write (ad := ad2) g2).toMa 0 7 rfl rfl kv_XL_58 rfl ⟨Nat.le_of_ble_eq_true rfl, Nat.le_of_ble_eq_true rfl⟩ (show _ ≤ 600000 ∧ _ ≤ 7302250 from ⟨by omega, by omega⟩) hl.1 rfl (Nat.le_of_ble_eq_true rfl) dL_law_470 (fun rv w1 H locs hpost hI => ?_)
        obtain ⟨rfl, rfl⟩ := hpost
        have hI := hI.comm
        refine lv_icmp_eq (tgt := 649) hx hb dL_law_473 (by decide) (fun _ => ?_) (fun h9 => absurd rfl h9)
        exact hback Sc1 Sm1 ap H locs _ _ g3 hI (by omega) (by omega)
      by_cases q10 : sw = 10
      · refine lv_tableIn (tgt := 478) hx hb dL_law_33 (by rw [q10]; decide) (by rw [q10]; decide) (by rw [q10]; rfl) (by decide) ?_
        obtain ⟨v, Sc1, Sm1, g1, g2, g3⟩ := h2_fault Sc Sm hinv
        refine lv_aload_n hx hb dL_law_478 rfl (lv_at hl 1 rfl) ?_
        refine x_callVM (X := mw E ad2 Sm) hC hI (c_X6_fault (ad := ad) (ap := ap) g1).toMa 0 6 rfl rfl kv_XL_59 rfl ⟨Nat.le_of_ble_eq_true rfl, Nat.le_of_ble_eq_true rfl⟩ (show _ ≤ 600000 ∧ _ ≤ 7302250 from ⟨by omega, by omega⟩) hl.1 rfl (Nat.le_of_ble_eq_true rfl) dL_law_479 (fun rv w1 H locs hpost hI => ?_)
        obtain ⟨rfl, rfl⟩ := hpost
        have hI := hI.comm
        refine lv_aload_n hx hb dL_law_482 rfl (lv_at hl 2 rfl) ?_
        refine x_callVM (X := cw E ad ap Sc1) hC hI (c_X7_fault (ad := ad2) g2).toMa 0 7 rfl rfl kv_XL_62 rfl ⟨Nat.le_of_ble_eq_true rfl, Nat.le_of_ble_eq_true rfl⟩ (show _ ≤ 600000 ∧ _ ≤ 7302250 from ⟨by omega, by omega⟩) hl.1 rfl (Nat.le_of_ble_eq_true rfl) dL_law_483 (fun rv w1 H locs hpost hI => ?_)
        obtain ⟨rfl, rfl⟩ := hpost
        have hI := hI.comm
        refine lv_icmp_eq (tgt := 649) hx hb dL_law_486 (by decide) (fun _ => ?_) (fun h9 => absurd rfl h9)
        exact hback Sc1 Sm1 ap H locs _ _ g3 hI (by omega) (by omega)
      by_cases q11 : sw = 11
      · refine lv_tableIn (tgt := 491) hx hb dL_law_33 (by rw [q11]; decide) (by rw [q11]; decide) (by rw [q11]; rfl) (by decide) ?_
        obtain ⟨v, Sc1, Sm1, g1, g2, g3⟩ := h2_clear Sc Sm hinv
        refine lv_aload_n hx hb dL_law_491 rfl (lv_at hl 1 rfl) ?_
        refine x_callVM (X := mw E ad2 Sm) hC hI (c_X6_clear (ad := ad) (ap := ap) g1).toMa 0 6 rfl rfl kv_XL_63 rfl ⟨Nat.le_of_ble_eq_true rfl, Nat.le_of_ble_eq_true rfl⟩ (show _ ≤ 600000 ∧ _ ≤ 7302250 from ⟨by omega, by omega⟩) hl.1 rfl (Nat.le_of_ble_eq_true rfl) dL_law_492 (fun rv w1 H locs hpost hI => ?_)
        obtain ⟨rfl, rfl⟩ := hpost
        have hI := hI.comm
        refine lv_aload_n hx hb dL_law_495 rfl (lv_at hl 2 rfl) ?_
        refine x_callVM (X := cw E ad ap Sc1) hC hI (c_X7_clear (ad := ad2) g2).toMa 0 7 rfl rfl kv_XL_66 rfl ⟨Nat.le_of_ble_eq_true rfl, Nat.le_of_ble_eq_true rfl⟩ (show _ ≤ 600000 ∧ _ ≤ 7302250 from ⟨by omega, by omega⟩) hl.1 rfl (Nat.le_of_ble_eq_true rfl) dL_law_496 (fun rv w1 H locs hpost hI => ?_)
        obtain ⟨rfl, rfl⟩ := hpost
        have hI := hI.comm
        refine lv_icmp_eq (tgt := 649) hx hb dL_law_499 (by decide) (fun _ => ?_) (fun h9 => absurd rfl h9)
        exact hback Sc1 Sm1 ap H locs _ _ g3 hI (by omega) (by omega)
      by_cases q12 : sw = 12
      · refine lv_tableIn (tgt := 504) hx hb dL_law_33 (by rw [q12]; decide) (by rw [q12]; decide) (by rw [q12]; rfl) (by decide) ?_
        obtain ⟨v, Sc1, Sm1, g1, g2, g3⟩ := h2_like Sc Sm (xs (iv + (1 : Int32)).toNatClampNeg) (xs (iv + (2 : Int32)).toNatClampNeg) hinv
        refine lv_aload_n hx hb dL_law_504 rfl (lv_at hl 1 rfl) ?_
        refine lv_aload_n hx hb dL_law_505 rfl (lv_at hl 0 rfl) ?_
        refine lv_iload_n hx hb dL_law_506 rfl (lv_at hl 3 rfl) ?_
        refine lv_iconst (v := (1 : Int32)) hx hb dL_law_507 (by decide) ?_
        refine lv_iadd hx hb dL_law_508 ?_
        refine va_sld hx hb hX hbl hbA hI.2.2 hin1 dL_law_509 ?_
        refine lv_aload_n hx hb dL_law_510 rfl (lv_at hl 0 rfl) ?_
        refine lv_iload_n hx hb dL_law_511 rfl (lv_at hl 3 rfl) ?_
        refine lv_iconst (v := (2 : Int32)) hx hb dL_law_512 (by decide) ?_
        refine lv_iadd hx hb dL_law_513 ?_
        refine va_sld hx hb hX hbl hbA hI.2.2 hin2 dL_law_514 ?_
        refine x_callVM (X := mw E ad2 Sm) hC hI (c_X6_like (ad := ad) (ap := ap) g1).toMa 0 6 rfl rfl kv_XL_67 rfl ⟨Nat.le_of_ble_eq_true rfl, Nat.le_of_ble_eq_true rfl⟩ (show _ ≤ 600000 ∧ _ ≤ 7302250 from ⟨by omega, by omega⟩) hl.1 rfl (Nat.le_of_ble_eq_true rfl) dL_law_515 (fun rv w1 H locs hpost hI => ?_)
        obtain ⟨rfl, rfl⟩ := hpost
        have hI := hI.comm
        refine lv_aload_n hx hb dL_law_518 rfl (lv_at hl 2 rfl) ?_
        refine lv_aload_n hx hb dL_law_519 rfl (lv_at hl 0 rfl) ?_
        refine lv_iload_n hx hb dL_law_520 rfl (lv_at hl 3 rfl) ?_
        refine lv_iconst (v := (1 : Int32)) hx hb dL_law_521 (by decide) ?_
        refine lv_iadd hx hb dL_law_522 ?_
        refine va_sld hx hb hX hbl hbA hI.2.2 hin1 dL_law_523 ?_
        refine lv_aload_n hx hb dL_law_524 rfl (lv_at hl 0 rfl) ?_
        refine lv_iload_n hx hb dL_law_525 rfl (lv_at hl 3 rfl) ?_
        refine lv_iconst (v := (2 : Int32)) hx hb dL_law_526 (by decide) ?_
        refine lv_iadd hx hb dL_law_527 ?_
        refine va_sld hx hb hX hbl hbA hI.2.2 hin2 dL_law_528 ?_
        refine x_callVM (X := cw E ad ap Sc1) hC hI (c_X7_like (ad := ad2) g2).toMa 0 7 rfl rfl kv_XL_70 rfl ⟨Nat.le_of_ble_eq_true rfl, Nat.le_of_ble_eq_true rfl⟩ (show _ ≤ 600000 ∧ _ ≤ 7302250 from ⟨by omega, by omega⟩) hl.1 rfl (Nat.le_of_ble_eq_true rfl) dL_law_529 (fun rv w1 H locs hpost hI => ?_)
        obtain ⟨rfl, rfl⟩ := hpost
        have hI := hI.comm
        refine lv_icmp_eq (tgt := 649) hx hb dL_law_532 (by decide) (fun _ => ?_) (fun h9 => absurd rfl h9)
        exact hback Sc1 Sm1 ap H locs _ _ g3 hI (by omega) (by omega)
      by_cases q13 : sw = 13
      · refine lv_tableIn (tgt := 537) hx hb dL_law_33 (by rw [q13]; decide) (by rw [q13]; decide) (by rw [q13]; rfl) (by decide) ?_
        obtain ⟨v, Sc1, Sm1, g1, g2, g3⟩ := h2_set Sc Sm (xs (iv + (1 : Int32)).toNatClampNeg) (xs (iv + (2 : Int32)).toNatClampNeg) hinv
        refine lv_aload_n hx hb dL_law_537 rfl (lv_at hl 1 rfl) ?_
        refine lv_aload_n hx hb dL_law_538 rfl (lv_at hl 0 rfl) ?_
        refine lv_iload_n hx hb dL_law_539 rfl (lv_at hl 3 rfl) ?_
        refine lv_iconst (v := (1 : Int32)) hx hb dL_law_540 (by decide) ?_
        refine lv_iadd hx hb dL_law_541 ?_
        refine va_sld hx hb hX hbl hbA hI.2.2 hin1 dL_law_542 ?_
        refine lv_aload_n hx hb dL_law_543 rfl (lv_at hl 0 rfl) ?_
        refine lv_iload_n hx hb dL_law_544 rfl (lv_at hl 3 rfl) ?_
        refine lv_iconst (v := (2 : Int32)) hx hb dL_law_545 (by decide) ?_
        refine lv_iadd hx hb dL_law_546 ?_
        refine va_sld hx hb hX hbl hbA hI.2.2 hin2 dL_law_547 ?_
        refine x_callVM (X := mw E ad2 Sm) hC hI (c_X6_set (ad := ad) (ap := ap) g1).toMa 0 6 rfl rfl kv_XL_71 rfl ⟨Nat.le_of_ble_eq_true rfl, Nat.le_of_ble_eq_true rfl⟩ (show _ ≤ 600000 ∧ _ ≤ 7302250 from ⟨by omega, by omega⟩) hl.1 rfl (Nat.le_of_ble_eq_true rfl) dL_law_548 (fun rv w1 H locs hpost hI => ?_)
        obtain ⟨rfl, rfl⟩ := hpost
        have hI := hI.comm
        refine lv_aload_n hx hb dL_law_551 rfl (lv_at hl 2 rfl) ?_
        refine lv_aload_n hx hb dL_law_552 rfl (lv_at hl 0 rfl) ?_
        refine lv_iload_n hx hb dL_law_553 rfl (lv_at hl 3 rfl) ?_
        refine lv_iconst (v := (1 : Int32)) hx hb dL_law_554 (by decide) ?_
        refine lv_iadd hx hb dL_law_555 ?_
        refine va_sld hx hb hX hbl hbA hI.2.2 hin1 dL_law_556 ?_
        refine lv_aload_n hx hb dL_law_557 rfl (lv_at hl 0 rfl) ?_
        refine lv_iload_n hx hb dL_law_558 rfl (lv_at hl 3 rfl) ?_
        refine lv_iconst (v := (2 : Int32)) hx hb dL_law_559 (by decide) ?_
        refine lv_iadd hx hb dL_law_560 ?_
        refine va_sld hx hb hX hbl hbA hI.2.2 hin2 dL_law_561 ?_
        refine x_callVM (X := cw E ad ap Sc1) hC hI (c_X7_set (ad := ad2) g2).toMa 0 7 rfl rfl kv_XL_74 rfl ⟨Nat.le_of_ble_eq_true rfl, Nat.le_of_ble_eq_true rfl⟩ (show _ ≤ 600000 ∧ _ ≤ 7302250 from ⟨by omega, by omega⟩) hl.1 rfl (Nat.le_of_ble_eq_true rfl) dL_law_562 (fun rv w1 H locs hpost hI => ?_)
        obtain ⟨rfl, rfl⟩ := hpost
        have hI := hI.comm
        refine lv_icmp_eq (tgt := 649) hx hb dL_law_565 (by decide) (fun _ => ?_) (fun h9 => absurd rfl h9)
        exact hback Sc1 Sm1 ap H locs _ _ g3 hI (by omega) (by omega)
      by_cases q14 : sw = 14
      · refine lv_tableIn (tgt := 570) hx hb dL_law_33 (by rw [q14]; decide) (by rw [q14]; decide) (by rw [q14]; rfl) (by decide) ?_
        obtain ⟨v, Sc1, Sm1, g1, g2, g3⟩ := h2_run Sc Sm (xs (iv + (1 : Int32)).toNatClampNeg) (xs (iv + (2 : Int32)).toNatClampNeg) hinv
        refine lv_aload_n hx hb dL_law_570 rfl (lv_at hl 1 rfl) ?_
        refine lv_aload_n hx hb dL_law_571 rfl (lv_at hl 0 rfl) ?_
        refine lv_iload_n hx hb dL_law_572 rfl (lv_at hl 3 rfl) ?_
        refine lv_iconst (v := (1 : Int32)) hx hb dL_law_573 (by decide) ?_
        refine lv_iadd hx hb dL_law_574 ?_
        refine va_sld hx hb hX hbl hbA hI.2.2 hin1 dL_law_575 ?_
        refine lv_aload_n hx hb dL_law_576 rfl (lv_at hl 0 rfl) ?_
        refine lv_iload_n hx hb dL_law_577 rfl (lv_at hl 3 rfl) ?_
        refine lv_iconst (v := (2 : Int32)) hx hb dL_law_578 (by decide) ?_
        refine lv_iadd hx hb dL_law_579 ?_
        refine va_sld hx hb hX hbl hbA hI.2.2 hin2 dL_law_580 ?_
        refine x_callVM (X := mw E ad2 Sm) hC hI (c_X6_run (ad := ad) (ap := ap) g1).toMa 0 6 rfl rfl kv_XL_75 rfl ⟨Nat.le_of_ble_eq_true rfl, Nat.le_of_ble_eq_true rfl⟩ (show _ ≤ 600000 ∧ _ ≤ 7302250 from ⟨by omega, by omega⟩) hl.1 rfl (Nat.le_of_ble_eq_true rfl) dL_law_581 (fun rv w1 H locs hpost hI => ?_)
        obtain ⟨rfl, rfl⟩ := hpost
        have hI := hI.comm
        refine lv_aload_n hx hb dL_law_584 rfl (lv_at hl 2 rfl) ?_
        refine lv_aload_n hx hb dL_law_585 rfl (lv_at hl 0 rfl) ?_
        refine lv_iload_n hx hb dL_law_586 rfl (lv_at hl 3 rfl) ?_
        refine lv_iconst (v := (1 : Int32)) hx hb dL_law_587 (by decide) ?_
        refine lv_iadd hx hb dL_law_588 ?_
        refine va_sld hx hb hX hbl hbA hI.2.2 hin1 dL_law_589 ?_
        refine lv_aload_n hx hb dL_law_590 rfl (lv_at hl 0 rfl) ?_
        refine lv_iload_n hx hb dL_law_591 rfl (lv_at hl 3 rfl) ?_
        refine lv_iconst (v := (2 : Int32)) hx hb dL_law_592 (by decide) ?_
        refine lv_iadd hx hb dL_law_593 ?_
        refine va_sld hx hb hX hbl hbA hI.2.2 hin2 dL_law_594 ?_
        refine x_callVM (X := cw E ad ap Sc1) hC hI (c_X7_run (ad := ad2) g2).toMa 0 7 rfl rfl kv_XL_78 rfl ⟨Nat.le_of_ble_eq_true rfl, Nat.le_of_ble_eq_true rfl⟩ (show _ ≤ 600000 ∧ _ ≤ 7302250 from ⟨by omega, by omega⟩) hl.1 rfl (Nat.le_of_ble_eq_true rfl) dL_law_595 (fun rv w1 H locs hpost hI => ?_)
        obtain ⟨rfl, rfl⟩ := hpost
        have hI := hI.comm
        refine lv_icmp_eq (tgt := 649) hx hb dL_law_598 (by decide) (fun _ => ?_) (fun h9 => absurd rfl h9)
        exact hback Sc1 Sm1 ap H locs _ _ g3 hI (by omega) (by omega)
      by_cases q15 : sw = 15
      · refine lv_tableIn (tgt := 603) hx hb dL_law_33 (by rw [q15]; decide) (by rw [q15]; decide) (by rw [q15]; rfl) (by decide) ?_
        obtain ⟨v, Sc1, Sm1, g1, g2, g3⟩ := h2_ran Sc Sm (xs (iv + (1 : Int32)).toNatClampNeg) hinv
        refine lv_aload_n hx hb dL_law_603 rfl (lv_at hl 1 rfl) ?_
        refine lv_aload_n hx hb dL_law_604 rfl (lv_at hl 0 rfl) ?_
        refine lv_iload_n hx hb dL_law_605 rfl (lv_at hl 3 rfl) ?_
        refine lv_iconst (v := (1 : Int32)) hx hb dL_law_606 (by decide) ?_
        refine lv_iadd hx hb dL_law_607 ?_
        refine va_sld hx hb hX hbl hbA hI.2.2 hin1 dL_law_608 ?_
        refine x_callVM (X := mw E ad2 Sm) hC hI (c_X6_ran (ad := ad) (ap := ap) g1).toMa 0 6 rfl rfl kv_XL_79 rfl ⟨Nat.le_of_ble_eq_true rfl, Nat.le_of_ble_eq_true rfl⟩ (show _ ≤ 600000 ∧ _ ≤ 7302250 from ⟨by omega, by omega⟩) hl.1 rfl (Nat.le_of_ble_eq_true rfl) dL_law_609 (fun rv w1 H locs hpost hI => ?_)
        obtain ⟨rfl, rfl⟩ := hpost
        have hI := hI.comm
        refine lv_aload_n hx hb dL_law_612 rfl (lv_at hl 2 rfl) ?_
        refine lv_aload_n hx hb dL_law_613 rfl (lv_at hl 0 rfl) ?_
        refine lv_iload_n hx hb dL_law_614 rfl (lv_at hl 3 rfl) ?_
        refine lv_iconst (v := (1 : Int32)) hx hb dL_law_615 (by decide) ?_
        refine lv_iadd hx hb dL_law_616 ?_
        refine va_sld hx hb hX hbl hbA hI.2.2 hin1 dL_law_617 ?_
        refine x_callVM (X := cw E ad ap Sc1) hC hI (c_X7_ran (ad := ad2) g2).toMa 0 7 rfl rfl kv_XL_82 rfl ⟨Nat.le_of_ble_eq_true rfl, Nat.le_of_ble_eq_true rfl⟩ (show _ ≤ 600000 ∧ _ ≤ 7302250 from ⟨by omega, by omega⟩) hl.1 rfl (Nat.le_of_ble_eq_true rfl) dL_law_618 (fun rv w1 H locs hpost hI => ?_)
        obtain ⟨rfl, rfl⟩ := hpost
        have hI := hI.comm
        refine lv_icmp_eq (tgt := 649) hx hb dL_law_621 (by decide) (fun _ => ?_) (fun h9 => absurd rfl h9)
        exact hback Sc1 Sm1 ap H locs _ _ g3 hI (by omega) (by omega)
      by_cases q16 : sw = 16
      · refine lv_tableIn (tgt := 626) hx hb dL_law_33 (by rw [q16]; decide) (by rw [q16]; decide) (by rw [q16]; rfl) (by decide) ?_
        obtain ⟨v, Sc1, Sm1, g1, g2, g3⟩ := h2_out Sc Sm (xs (iv + (1 : Int32)).toNatClampNeg) hinv
        refine lv_aload_n hx hb dL_law_626 rfl (lv_at hl 1 rfl) ?_
        refine lv_aload_n hx hb dL_law_627 rfl (lv_at hl 0 rfl) ?_
        refine lv_iload_n hx hb dL_law_628 rfl (lv_at hl 3 rfl) ?_
        refine lv_iconst (v := (1 : Int32)) hx hb dL_law_629 (by decide) ?_
        refine lv_iadd hx hb dL_law_630 ?_
        refine va_sld hx hb hX hbl hbA hI.2.2 hin1 dL_law_631 ?_
        refine x_callVM (X := mw E ad2 Sm) hC hI (c_X6_out (ad := ad) (ap := ap) g1).toMa 0 6 rfl rfl kv_XL_83 rfl ⟨Nat.le_of_ble_eq_true rfl, Nat.le_of_ble_eq_true rfl⟩ (show _ ≤ 600000 ∧ _ ≤ 7302250 from ⟨by omega, by omega⟩) hl.1 rfl (Nat.le_of_ble_eq_true rfl) dL_law_632 (fun rv w1 H locs hpost hI => ?_)
        obtain ⟨rfl, rfl⟩ := hpost
        have hI := hI.comm
        refine lv_aload_n hx hb dL_law_635 rfl (lv_at hl 2 rfl) ?_
        refine lv_aload_n hx hb dL_law_636 rfl (lv_at hl 0 rfl) ?_
        refine lv_iload_n hx hb dL_law_637 rfl (lv_at hl 3 rfl) ?_
        refine lv_iconst (v := (1 : Int32)) hx hb dL_law_638 (by decide) ?_
        refine lv_iadd hx hb dL_law_639 ?_
        refine va_sld hx hb hX hbl hbA hI.2.2 hin1 dL_law_640 ?_
        refine x_callVM (X := cw E ad ap Sc1) hC hI (c_X7_out (ad := ad2) g2).toMa 0 7 rfl rfl kv_XL_86 rfl ⟨Nat.le_of_ble_eq_true rfl, Nat.le_of_ble_eq_true rfl⟩ (show _ ≤ 600000 ∧ _ ≤ 7302250 from ⟨by omega, by omega⟩) hl.1 rfl (Nat.le_of_ble_eq_true rfl) dL_law_641 (fun rv w1 H locs hpost hI => ?_)
        obtain ⟨rfl, rfl⟩ := hpost
        have hI := hI.comm
        refine lv_icmp_eq (tgt := 649) hx hb dL_law_644 (by decide) (fun _ => ?_) (fun h9 => absurd rfl h9)
        exact hback Sc1 Sm1 ap H locs _ _ g3 hI (by omega) (by omega)
      refine lv_tableOut (tgt := 649) hx hb dL_law_33 (by have z0 := lv_neT (a := 0) q0 (by decide); have z1 := lv_neT (a := 1) q1 (by decide); have z2 := lv_neT (a := 2) q2 (by decide); have z3 := lv_neT (a := 3) q3 (by decide); have z4 := lv_neT (a := 4) q4 (by decide); have z5 := lv_neT (a := 5) q5 (by decide); have z6 := lv_neT (a := 6) q6 (by decide); have z7 := lv_neT (a := 7) q7 (by decide); have z8 := lv_neT (a := 8) q8 (by decide); have z9 := lv_neT (a := 9) q9 (by decide); have z10 := lv_neT (a := 10) q10 (by decide); have z11 := lv_neT (a := 11) q11 (by decide); have z12 := lv_neT (a := 12) q12 (by decide); have z13 := lv_neT (a := 13) q13 (by decide); have z14 := lv_neT (a := 14) q14 (by decide); have z15 := lv_neT (a := 15) q15 (by decide); have z16 := lv_neT (a := 16) q16 (by decide); omega) (by decide) ?_
      exact hback Sc Sm ap H locs _ _ hinv hI (by omega) (by omega)
end
