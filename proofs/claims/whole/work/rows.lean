section
-- ===== PART A: goes FIRST, ahead of the names: the tables' words, and 'selects' of the private methods out of them =====
/-- a private method of a class that the tables say can be made, by its rows of tables_1 -/
def lw_okq (q : MethodName × Nat) : Prop := (q.1.cls ≠ "java/lang/invoke/MethodHandle" ∧ q.1.cls ≠ "java/lang/invoke/VarHandle") ∧ Cond.instantiable q.1.cls q.2 ∈ tables_1 ∧ Cond.privateMethod q.1 ∈ tables_1 ∧ Cond.instanceMethod q.1 ∈ tables_1
theorem lw_p0 : lw_okq (⟨"StoryDecompile", "addRoutine", "(LStoryDecompile$Routine;)I"⟩, 11) := ⟨⟨by decide +kernel, by decide +kernel⟩, List.mem_of_getElem? (i := 12) (by decide +kernel), List.mem_of_getElem? (i := 319) (by decide +kernel), List.mem_of_getElem? (i := 320) (by decide +kernel)⟩
theorem lw_p1 : lw_okq (⟨"StoryDecompile", "find", "(I)LStoryDecompile$Routine;"⟩, 11) := ⟨⟨by decide +kernel, by decide +kernel⟩, List.mem_of_getElem? (i := 12) (by decide +kernel), List.mem_of_getElem? (i := 327) (by decide +kernel), List.mem_of_getElem? (i := 328) (by decide +kernel)⟩
theorem lw_p2 : lw_okq (⟨"StoryDecompile", "change", "(LStoryDecompile$Routine;IIIII)V"⟩, 11) := ⟨⟨by decide +kernel, by decide +kernel⟩, List.mem_of_getElem? (i := 12) (by decide +kernel), List.mem_of_getElem? (i := 349) (by decide +kernel), List.mem_of_getElem? (i := 350) (by decide +kernel)⟩
theorem lw_p3 : lw_okq (⟨"StoryDecompile", "treeOf", "(ILStoryDecompile$Routine;)LStoryDecompile$Tree;"⟩, 11) := ⟨⟨by decide +kernel, by decide +kernel⟩, List.mem_of_getElem? (i := 12) (by decide +kernel), List.mem_of_getElem? (i := 376) (by decide +kernel), List.mem_of_getElem? (i := 377) (by decide +kernel)⟩
theorem lw_p4 : lw_okq (⟨"StoryDecompile$Reader", "openBody", "(IIIII)V"⟩, 9) := ⟨⟨by decide +kernel, by decide +kernel⟩, List.mem_of_getElem? (i := 22) (by decide +kernel), List.mem_of_getElem? (i := 388) (by decide +kernel), List.mem_of_getElem? (i := 389) (by decide +kernel)⟩
theorem lw_p5 : lw_okq (⟨"StoryDecompile$Reader", "readStatement", "(I)I"⟩, 9) := ⟨⟨by decide +kernel, by decide +kernel⟩, List.mem_of_getElem? (i := 22) (by decide +kernel), List.mem_of_getElem? (i := 399) (by decide +kernel), List.mem_of_getElem? (i := 400) (by decide +kernel)⟩
theorem lw_p6 : lw_okq (⟨"StoryDecompile$Reader", "isLoopBegun", "(I)Z"⟩, 9) := ⟨⟨by decide +kernel, by decide +kernel⟩, List.mem_of_getElem? (i := 22) (by decide +kernel), List.mem_of_getElem? (i := 403) (by decide +kernel), List.mem_of_getElem? (i := 404) (by decide +kernel)⟩
theorem lw_p7 : lw_okq (⟨"StoryDecompile$Reader", "readLoop", "(II)I"⟩, 9) := ⟨⟨by decide +kernel, by decide +kernel⟩, List.mem_of_getElem? (i := 22) (by decide +kernel), List.mem_of_getElem? (i := 411) (by decide +kernel), List.mem_of_getElem? (i := 412) (by decide +kernel)⟩
theorem lw_p8 : lw_okq (⟨"StoryDecompile$Reader", "begin", "(IIII)I"⟩, 9) := ⟨⟨by decide +kernel, by decide +kernel⟩, List.mem_of_getElem? (i := 22) (by decide +kernel), List.mem_of_getElem? (i := 415) (by decide +kernel), List.mem_of_getElem? (i := 416) (by decide +kernel)⟩
theorem lw_p9 : lw_okq (⟨"StoryDecompile$Reader", "wordTest", "(I)V"⟩, 9) := ⟨⟨by decide +kernel, by decide +kernel⟩, List.mem_of_getElem? (i := 22) (by decide +kernel), List.mem_of_getElem? (i := 419) (by decide +kernel), List.mem_of_getElem? (i := 420) (by decide +kernel)⟩
theorem lw_p10 : lw_okq (⟨"StoryDecompile$Reader", "readTest", "(I)I"⟩, 9) := ⟨⟨by decide +kernel, by decide +kernel⟩, List.mem_of_getElem? (i := 22) (by decide +kernel), List.mem_of_getElem? (i := 423) (by decide +kernel), List.mem_of_getElem? (i := 424) (by decide +kernel)⟩
theorem lw_p11 : lw_okq (⟨"StoryDecompile$Reader", "readIf", "(II)I"⟩, 9) := ⟨⟨by decide +kernel, by decide +kernel⟩, List.mem_of_getElem? (i := 22) (by decide +kernel), List.mem_of_getElem? (i := 427) (by decide +kernel), List.mem_of_getElem? (i := 428) (by decide +kernel)⟩
theorem lw_p12 : lw_okq (⟨"StoryDecompile$Reader", "elseEnd", "(II)I"⟩, 9) := ⟨⟨by decide +kernel, by decide +kernel⟩, List.mem_of_getElem? (i := 22) (by decide +kernel), List.mem_of_getElem? (i := 431) (by decide +kernel), List.mem_of_getElem? (i := 432) (by decide +kernel)⟩
theorem lw_p13 : lw_okq (⟨"StoryDecompile$Reader", "readGo", "(I)I"⟩, 9) := ⟨⟨by decide +kernel, by decide +kernel⟩, List.mem_of_getElem? (i := 22) (by decide +kernel), List.mem_of_getElem? (i := 435) (by decide +kernel), List.mem_of_getElem? (i := 436) (by decide +kernel)⟩
theorem lw_p14 : lw_okq (⟨"StoryDecompile$Reader", "readAct", "(I)I"⟩, 9) := ⟨⟨by decide +kernel, by decide +kernel⟩, List.mem_of_getElem? (i := 22) (by decide +kernel), List.mem_of_getElem? (i := 439) (by decide +kernel), List.mem_of_getElem? (i := 440) (by decide +kernel)⟩
theorem lw_p15 : lw_okq (⟨"StoryDecompile$Reader", "closeBody", "(I)I"⟩, 9) := ⟨⟨by decide +kernel, by decide +kernel⟩, List.mem_of_getElem? (i := 22) (by decide +kernel), List.mem_of_getElem? (i := 443) (by decide +kernel), List.mem_of_getElem? (i := 444) (by decide +kernel)⟩
def lw_privs_1 : List (MethodName × Nat) := [(⟨"StoryDecompile", "addRoutine", "(LStoryDecompile$Routine;)I"⟩, 11), (⟨"StoryDecompile", "find", "(I)LStoryDecompile$Routine;"⟩, 11), (⟨"StoryDecompile", "change", "(LStoryDecompile$Routine;IIIII)V"⟩, 11), (⟨"StoryDecompile", "treeOf", "(ILStoryDecompile$Routine;)LStoryDecompile$Tree;"⟩, 11), (⟨"StoryDecompile$Reader", "openBody", "(IIIII)V"⟩, 9), (⟨"StoryDecompile$Reader", "readStatement", "(I)I"⟩, 9), (⟨"StoryDecompile$Reader", "isLoopBegun", "(I)Z"⟩, 9), (⟨"StoryDecompile$Reader", "readLoop", "(II)I"⟩, 9), (⟨"StoryDecompile$Reader", "begin", "(IIII)I"⟩, 9), (⟨"StoryDecompile$Reader", "wordTest", "(I)V"⟩, 9), (⟨"StoryDecompile$Reader", "readTest", "(I)I"⟩, 9), (⟨"StoryDecompile$Reader", "readIf", "(II)I"⟩, 9), (⟨"StoryDecompile$Reader", "elseEnd", "(II)I"⟩, 9), (⟨"StoryDecompile$Reader", "readGo", "(I)I"⟩, 9), (⟨"StoryDecompile$Reader", "readAct", "(I)I"⟩, 9), (⟨"StoryDecompile$Reader", "closeBody", "(I)I"⟩, 9)]
theorem lw_r1 : ∀ q ∈ lw_privs_1, lw_okq q := List.forall_mem_cons.mpr ⟨lw_p0, List.forall_mem_cons.mpr ⟨lw_p1, List.forall_mem_cons.mpr ⟨lw_p2, List.forall_mem_cons.mpr ⟨lw_p3, List.forall_mem_cons.mpr ⟨lw_p4, List.forall_mem_cons.mpr ⟨lw_p5, List.forall_mem_cons.mpr ⟨lw_p6, List.forall_mem_cons.mpr ⟨lw_p7, List.forall_mem_cons.mpr ⟨lw_p8, List.forall_mem_cons.mpr ⟨lw_p9, List.forall_mem_cons.mpr ⟨lw_p10, List.forall_mem_cons.mpr ⟨lw_p11, List.forall_mem_cons.mpr ⟨lw_p12, List.forall_mem_cons.mpr ⟨lw_p13, List.forall_mem_cons.mpr ⟨lw_p14, List.forall_mem_cons.mpr ⟨lw_p15, fun _ h => absurd h List.not_mem_nil⟩⟩⟩⟩⟩⟩⟩⟩⟩⟩⟩⟩⟩⟩⟩⟩
theorem lw_p16 : lw_okq (⟨"StoryDecompile", "cameTo", "(LStoryDecompile$Routine;I)I"⟩, 11) := ⟨⟨by decide +kernel, by decide +kernel⟩, List.mem_of_getElem? (i := 12) (by decide +kernel), List.mem_of_getElem? (i := 447) (by decide +kernel), List.mem_of_getElem? (i := 448) (by decide +kernel)⟩
theorem lw_p17 : lw_okq (⟨"StoryDecompile$Reach", "meet", "(LStoryDecompile$Routine;I)V"⟩, 4) := ⟨⟨by decide +kernel, by decide +kernel⟩, List.mem_of_getElem? (i := 119) (by decide +kernel), List.mem_of_getElem? (i := 455) (by decide +kernel), List.mem_of_getElem? (i := 456) (by decide +kernel)⟩
theorem lw_p18 : lw_okq (⟨"StoryDecompile$Reach", "follow", "(LStoryDecompile$Routine;I)V"⟩, 4) := ⟨⟨by decide +kernel, by decide +kernel⟩, List.mem_of_getElem? (i := 119) (by decide +kernel), List.mem_of_getElem? (i := 460) (by decide +kernel), List.mem_of_getElem? (i := 461) (by decide +kernel)⟩
theorem lw_p19 : lw_okq (⟨"StoryDecompile", "leastAlike", "(ILStoryDecompile$Routine;)I"⟩, 11) := ⟨⟨by decide +kernel, by decide +kernel⟩, List.mem_of_getElem? (i := 12) (by decide +kernel), List.mem_of_getElem? (i := 469) (by decide +kernel), List.mem_of_getElem? (i := 470) (by decide +kernel)⟩
theorem lw_p20 : lw_okq (⟨"StoryDecompile", "ofWhole", "(ILStoryDecompile$Routine;I)I"⟩, 11) := ⟨⟨by decide +kernel, by decide +kernel⟩, List.mem_of_getElem? (i := 12) (by decide +kernel), List.mem_of_getElem? (i := 477) (by decide +kernel), List.mem_of_getElem? (i := 478) (by decide +kernel)⟩
theorem lw_p21 : lw_okq (⟨"StoryDecompile", "callersOf", "(I)I"⟩, 11) := ⟨⟨by decide +kernel, by decide +kernel⟩, List.mem_of_getElem? (i := 12) (by decide +kernel), List.mem_of_getElem? (i := 481) (by decide +kernel), List.mem_of_getElem? (i := 482) (by decide +kernel)⟩
theorem lw_p22 : lw_okq (⟨"StoryDecompile$Writer", "openBody", "(IIII)V"⟩, 16) := ⟨⟨by decide +kernel, by decide +kernel⟩, List.mem_of_getElem? (i := 140) (by decide +kernel), List.mem_of_getElem? (i := 524) (by decide +kernel), List.mem_of_getElem? (i := 525) (by decide +kernel)⟩
theorem lw_p23 : lw_okq (⟨"StoryDecompile$Writer", "take", "()I"⟩, 16) := ⟨⟨by decide +kernel, by decide +kernel⟩, List.mem_of_getElem? (i := 140) (by decide +kernel), List.mem_of_getElem? (i := 528) (by decide +kernel), List.mem_of_getElem? (i := 529) (by decide +kernel)⟩
theorem lw_p24 : lw_okq (⟨"StoryDecompile$Writer", "require", "(ZI)V"⟩, 16) := ⟨⟨by decide +kernel, by decide +kernel⟩, List.mem_of_getElem? (i := 140) (by decide +kernel), List.mem_of_getElem? (i := 532) (by decide +kernel), List.mem_of_getElem? (i := 533) (by decide +kernel)⟩
theorem lw_p25 : lw_okq (⟨"StoryDecompile$Writer", "takeStatement", "()V"⟩, 16) := ⟨⟨by decide +kernel, by decide +kernel⟩, List.mem_of_getElem? (i := 140) (by decide +kernel), List.mem_of_getElem? (i := 536) (by decide +kernel), List.mem_of_getElem? (i := 537) (by decide +kernel)⟩
theorem lw_p26 : lw_okq (⟨"StoryDecompile$Writer", "takeAct", "()V"⟩, 16) := ⟨⟨by decide +kernel, by decide +kernel⟩, List.mem_of_getElem? (i := 140) (by decide +kernel), List.mem_of_getElem? (i := 540) (by decide +kernel), List.mem_of_getElem? (i := 541) (by decide +kernel)⟩
theorem lw_p27 : lw_okq (⟨"StoryDecompile$Writer", "takeA", "(I)I"⟩, 16) := ⟨⟨by decide +kernel, by decide +kernel⟩, List.mem_of_getElem? (i := 140) (by decide +kernel), List.mem_of_getElem? (i := 545) (by decide +kernel), List.mem_of_getElem? (i := 546) (by decide +kernel)⟩
theorem lw_p28 : lw_okq (⟨"StoryDecompile$Writer", "takeB", "(I)I"⟩, 16) := ⟨⟨by decide +kernel, by decide +kernel⟩, List.mem_of_getElem? (i := 140) (by decide +kernel), List.mem_of_getElem? (i := 550) (by decide +kernel), List.mem_of_getElem? (i := 551) (by decide +kernel)⟩
theorem lw_p29 : lw_okq (⟨"StoryDecompile$Writer", "emit", "(IIII)V"⟩, 16) := ⟨⟨by decide +kernel, by decide +kernel⟩, List.mem_of_getElem? (i := 140) (by decide +kernel), List.mem_of_getElem? (i := 555) (by decide +kernel), List.mem_of_getElem? (i := 556) (by decide +kernel)⟩
theorem lw_p30 : lw_okq (⟨"StoryDecompile$Writer", "takeTested", "(I)V"⟩, 16) := ⟨⟨by decide +kernel, by decide +kernel⟩, List.mem_of_getElem? (i := 140) (by decide +kernel), List.mem_of_getElem? (i := 560) (by decide +kernel), List.mem_of_getElem? (i := 561) (by decide +kernel)⟩
theorem lw_p31 : lw_okq (⟨"StoryDecompile$Writer", "takeLeap", "(I)V"⟩, 16) := ⟨⟨by decide +kernel, by decide +kernel⟩, List.mem_of_getElem? (i := 140) (by decide +kernel), List.mem_of_getElem? (i := 564) (by decide +kernel), List.mem_of_getElem? (i := 565) (by decide +kernel)⟩
def lw_privs_2 : List (MethodName × Nat) := [(⟨"StoryDecompile", "cameTo", "(LStoryDecompile$Routine;I)I"⟩, 11), (⟨"StoryDecompile$Reach", "meet", "(LStoryDecompile$Routine;I)V"⟩, 4), (⟨"StoryDecompile$Reach", "follow", "(LStoryDecompile$Routine;I)V"⟩, 4), (⟨"StoryDecompile", "leastAlike", "(ILStoryDecompile$Routine;)I"⟩, 11), (⟨"StoryDecompile", "ofWhole", "(ILStoryDecompile$Routine;I)I"⟩, 11), (⟨"StoryDecompile", "callersOf", "(I)I"⟩, 11), (⟨"StoryDecompile$Writer", "openBody", "(IIII)V"⟩, 16), (⟨"StoryDecompile$Writer", "take", "()I"⟩, 16), (⟨"StoryDecompile$Writer", "require", "(ZI)V"⟩, 16), (⟨"StoryDecompile$Writer", "takeStatement", "()V"⟩, 16), (⟨"StoryDecompile$Writer", "takeAct", "()V"⟩, 16), (⟨"StoryDecompile$Writer", "takeA", "(I)I"⟩, 16), (⟨"StoryDecompile$Writer", "takeB", "(I)I"⟩, 16), (⟨"StoryDecompile$Writer", "emit", "(IIII)V"⟩, 16), (⟨"StoryDecompile$Writer", "takeTested", "(I)V"⟩, 16), (⟨"StoryDecompile$Writer", "takeLeap", "(I)V"⟩, 16)]
theorem lw_r2 : ∀ q ∈ lw_privs_2, lw_okq q := List.forall_mem_cons.mpr ⟨lw_p16, List.forall_mem_cons.mpr ⟨lw_p17, List.forall_mem_cons.mpr ⟨lw_p18, List.forall_mem_cons.mpr ⟨lw_p19, List.forall_mem_cons.mpr ⟨lw_p20, List.forall_mem_cons.mpr ⟨lw_p21, List.forall_mem_cons.mpr ⟨lw_p22, List.forall_mem_cons.mpr ⟨lw_p23, List.forall_mem_cons.mpr ⟨lw_p24, List.forall_mem_cons.mpr ⟨lw_p25, List.forall_mem_cons.mpr ⟨lw_p26, List.forall_mem_cons.mpr ⟨lw_p27, List.forall_mem_cons.mpr ⟨lw_p28, List.forall_mem_cons.mpr ⟨lw_p29, List.forall_mem_cons.mpr ⟨lw_p30, List.forall_mem_cons.mpr ⟨lw_p31, fun _ h => absurd h List.not_mem_nil⟩⟩⟩⟩⟩⟩⟩⟩⟩⟩⟩⟩⟩⟩⟩⟩
theorem lw_p32 : lw_okq (⟨"StoryDecompile$Writer", "takePlace", "()I"⟩, 16) := ⟨⟨by decide +kernel, by decide +kernel⟩, List.mem_of_getElem? (i := 140) (by decide +kernel), List.mem_of_getElem? (i := 568) (by decide +kernel), List.mem_of_getElem? (i := 569) (by decide +kernel)⟩
theorem lw_p33 : lw_okq (⟨"StoryDecompile$Writer", "closeBody", "()V"⟩, 16) := ⟨⟨by decide +kernel, by decide +kernel⟩, List.mem_of_getElem? (i := 140) (by decide +kernel), List.mem_of_getElem? (i := 573) (by decide +kernel), List.mem_of_getElem? (i := 574) (by decide +kernel)⟩
theorem lw_p34 : lw_okq (⟨"StoryDecompile$Writer", "aim", "(II)V"⟩, 16) := ⟨⟨by decide +kernel, by decide +kernel⟩, List.mem_of_getElem? (i := 140) (by decide +kernel), List.mem_of_getElem? (i := 577) (by decide +kernel), List.mem_of_getElem? (i := 578) (by decide +kernel)⟩
theorem lw_p35 : lw_okq (⟨"StoryDecompile$Writer", "endLoop", "(II)V"⟩, 16) := ⟨⟨by decide +kernel, by decide +kernel⟩, List.mem_of_getElem? (i := 140) (by decide +kernel), List.mem_of_getElem? (i := 581) (by decide +kernel), List.mem_of_getElem? (i := 582) (by decide +kernel)⟩
theorem lw_p36 : lw_okq (⟨"StoryDecompile$Writer", "judgeAll", "()V"⟩, 16) := ⟨⟨by decide +kernel, by decide +kernel⟩, List.mem_of_getElem? (i := 140) (by decide +kernel), List.mem_of_getElem? (i := 585) (by decide +kernel), List.mem_of_getElem? (i := 586) (by decide +kernel)⟩
theorem lw_p37 : lw_okq (⟨"StoryDecompile$Runner", "enter", "(LStoryDecompile$Routine;)V"⟩, 8) := ⟨⟨by decide +kernel, by decide +kernel⟩, List.mem_of_getElem? (i := 243) (by decide +kernel), List.mem_of_getElem? (i := 623) (by decide +kernel), List.mem_of_getElem? (i := 624) (by decide +kernel)⟩
theorem lw_p38 : lw_okq (⟨"StoryDecompile$Runner", "turn", "([LStoryDecompile$Routine;I)I"⟩, 8) := ⟨⟨by decide +kernel, by decide +kernel⟩, List.mem_of_getElem? (i := 243) (by decide +kernel), List.mem_of_getElem? (i := 627) (by decide +kernel), List.mem_of_getElem? (i := 628) (by decide +kernel)⟩
theorem lw_p39 : lw_okq (⟨"StoryDecompile$Runner", "perform", "([LStoryDecompile$Routine;LStoryDecompile$Routine;I)I"⟩, 8) := ⟨⟨by decide +kernel, by decide +kernel⟩, List.mem_of_getElem? (i := 243) (by decide +kernel), List.mem_of_getElem? (i := 631) (by decide +kernel), List.mem_of_getElem? (i := 632) (by decide +kernel)⟩
theorem lw_p40 : lw_okq (⟨"StoryDecompile$Runner", "say", "(I)I"⟩, 8) := ⟨⟨by decide +kernel, by decide +kernel⟩, List.mem_of_getElem? (i := 243) (by decide +kernel), List.mem_of_getElem? (i := 635) (by decide +kernel), List.mem_of_getElem? (i := 636) (by decide +kernel)⟩
theorem lw_p41 : lw_okq (⟨"StoryDecompile$Runner", "callOf", "(LStoryDecompile$Routine;)I"⟩, 8) := ⟨⟨by decide +kernel, by decide +kernel⟩, List.mem_of_getElem? (i := 243) (by decide +kernel), List.mem_of_getElem? (i := 642) (by decide +kernel), List.mem_of_getElem? (i := 643) (by decide +kernel)⟩
theorem lw_p42 : lw_okq (⟨"StoryDecompileModel", "isRoutine", "(I)Z"⟩, 54) := ⟨⟨by decide +kernel, by decide +kernel⟩, List.mem_of_getElem? (i := 654) (by decide +kernel), List.mem_of_getElem? (i := 832) (by decide +kernel), List.mem_of_getElem? (i := 833) (by decide +kernel)⟩
theorem lw_p43 : lw_okq (⟨"StoryDecompileModel", "put", "(IIIIII)V"⟩, 54) := ⟨⟨by decide +kernel, by decide +kernel⟩, List.mem_of_getElem? (i := 654) (by decide +kernel), List.mem_of_getElem? (i := 842) (by decide +kernel), List.mem_of_getElem? (i := 843) (by decide +kernel)⟩
theorem lw_p44 : lw_okq (⟨"StoryDecompileModel", "isWhole", "(I)Z"⟩, 54) := ⟨⟨by decide +kernel, by decide +kernel⟩, List.mem_of_getElem? (i := 654) (by decide +kernel), List.mem_of_getElem? (i := 854) (by decide +kernel), List.mem_of_getElem? (i := 855) (by decide +kernel)⟩
theorem lw_p45 : lw_okq (⟨"StoryDecompileModel", "leads", "(I)Z"⟩, 54) := ⟨⟨by decide +kernel, by decide +kernel⟩, List.mem_of_getElem? (i := 654) (by decide +kernel), List.mem_of_getElem? (i := 858) (by decide +kernel), List.mem_of_getElem? (i := 859) (by decide +kernel)⟩
theorem lw_p46 : lw_okq (⟨"StoryDecompileModel", "come", "(I)V"⟩, 54) := ⟨⟨by decide +kernel, by decide +kernel⟩, List.mem_of_getElem? (i := 654) (by decide +kernel), List.mem_of_getElem? (i := 862) (by decide +kernel), List.mem_of_getElem? (i := 863) (by decide +kernel)⟩
theorem lw_p47 : lw_okq (⟨"StoryDecompileModel", "read", "(I)V"⟩, 54) := ⟨⟨by decide +kernel, by decide +kernel⟩, List.mem_of_getElem? (i := 654) (by decide +kernel), List.mem_of_getElem? (i := 866) (by decide +kernel), List.mem_of_getElem? (i := 867) (by decide +kernel)⟩
def lw_privs_3 : List (MethodName × Nat) := [(⟨"StoryDecompile$Writer", "takePlace", "()I"⟩, 16), (⟨"StoryDecompile$Writer", "closeBody", "()V"⟩, 16), (⟨"StoryDecompile$Writer", "aim", "(II)V"⟩, 16), (⟨"StoryDecompile$Writer", "endLoop", "(II)V"⟩, 16), (⟨"StoryDecompile$Writer", "judgeAll", "()V"⟩, 16), (⟨"StoryDecompile$Runner", "enter", "(LStoryDecompile$Routine;)V"⟩, 8), (⟨"StoryDecompile$Runner", "turn", "([LStoryDecompile$Routine;I)I"⟩, 8), (⟨"StoryDecompile$Runner", "perform", "([LStoryDecompile$Routine;LStoryDecompile$Routine;I)I"⟩, 8), (⟨"StoryDecompile$Runner", "say", "(I)I"⟩, 8), (⟨"StoryDecompile$Runner", "callOf", "(LStoryDecompile$Routine;)I"⟩, 8), (⟨"StoryDecompileModel", "isRoutine", "(I)Z"⟩, 54), (⟨"StoryDecompileModel", "put", "(IIIIII)V"⟩, 54), (⟨"StoryDecompileModel", "isWhole", "(I)Z"⟩, 54), (⟨"StoryDecompileModel", "leads", "(I)Z"⟩, 54), (⟨"StoryDecompileModel", "come", "(I)V"⟩, 54), (⟨"StoryDecompileModel", "read", "(I)V"⟩, 54)]
theorem lw_r3 : ∀ q ∈ lw_privs_3, lw_okq q := List.forall_mem_cons.mpr ⟨lw_p32, List.forall_mem_cons.mpr ⟨lw_p33, List.forall_mem_cons.mpr ⟨lw_p34, List.forall_mem_cons.mpr ⟨lw_p35, List.forall_mem_cons.mpr ⟨lw_p36, List.forall_mem_cons.mpr ⟨lw_p37, List.forall_mem_cons.mpr ⟨lw_p38, List.forall_mem_cons.mpr ⟨lw_p39, List.forall_mem_cons.mpr ⟨lw_p40, List.forall_mem_cons.mpr ⟨lw_p41, List.forall_mem_cons.mpr ⟨lw_p42, List.forall_mem_cons.mpr ⟨lw_p43, List.forall_mem_cons.mpr ⟨lw_p44, List.forall_mem_cons.mpr ⟨lw_p45, List.forall_mem_cons.mpr ⟨lw_p46, List.forall_mem_cons.mpr ⟨lw_p47, fun _ h => absurd h List.not_mem_nil⟩⟩⟩⟩⟩⟩⟩⟩⟩⟩⟩⟩⟩⟩⟩⟩
theorem lw_p48 : lw_okq (⟨"StoryDecompileModel", "range", "(IIIIII)V"⟩, 54) := ⟨⟨by decide +kernel, by decide +kernel⟩, List.mem_of_getElem? (i := 654) (by decide +kernel), List.mem_of_getElem? (i := 870) (by decide +kernel), List.mem_of_getElem? (i := 871) (by decide +kernel)⟩
theorem lw_p49 : lw_okq (⟨"StoryDecompileModel", "readAt", "(II)V"⟩, 54) := ⟨⟨by decide +kernel, by decide +kernel⟩, List.mem_of_getElem? (i := 654) (by decide +kernel), List.mem_of_getElem? (i := 874) (by decide +kernel), List.mem_of_getElem? (i := 875) (by decide +kernel)⟩
theorem lw_p50 : lw_okq (⟨"StoryDecompileModel", "isBeingRead", "(I)Z"⟩, 54) := ⟨⟨by decide +kernel, by decide +kernel⟩, List.mem_of_getElem? (i := 654) (by decide +kernel), List.mem_of_getElem? (i := 878) (by decide +kernel), List.mem_of_getElem? (i := 879) (by decide +kernel)⟩
theorem lw_p51 : lw_okq (⟨"StoryDecompileModel", "readLoop", "(III)V"⟩, 54) := ⟨⟨by decide +kernel, by decide +kernel⟩, List.mem_of_getElem? (i := 654) (by decide +kernel), List.mem_of_getElem? (i := 882) (by decide +kernel), List.mem_of_getElem? (i := 883) (by decide +kernel)⟩
theorem lw_p52 : lw_okq (⟨"StoryDecompileModel", "state", "(IIIIII)I"⟩, 54) := ⟨⟨by decide +kernel, by decide +kernel⟩, List.mem_of_getElem? (i := 654) (by decide +kernel), List.mem_of_getElem? (i := 886) (by decide +kernel), List.mem_of_getElem? (i := 887) (by decide +kernel)⟩
theorem lw_p53 : lw_okq (⟨"StoryDecompileModel", "readIf", "(III)V"⟩, 54) := ⟨⟨by decide +kernel, by decide +kernel⟩, List.mem_of_getElem? (i := 654) (by decide +kernel), List.mem_of_getElem? (i := 890) (by decide +kernel), List.mem_of_getElem? (i := 891) (by decide +kernel)⟩
theorem lw_p54 : lw_okq (⟨"StoryDecompileModel", "areLike", "(II)Z"⟩, 54) := ⟨⟨by decide +kernel, by decide +kernel⟩, List.mem_of_getElem? (i := 654) (by decide +kernel), List.mem_of_getElem? (i := 898) (by decide +kernel), List.mem_of_getElem? (i := 899) (by decide +kernel)⟩
theorem lw_p55 : lw_okq (⟨"StoryDecompileModel", "depthOf", "(I)I"⟩, 54) := ⟨⟨by decide +kernel, by decide +kernel⟩, List.mem_of_getElem? (i := 654) (by decide +kernel), List.mem_of_getElem? (i := 902) (by decide +kernel), List.mem_of_getElem? (i := 903) (by decide +kernel)⟩
theorem lw_p56 : lw_okq (⟨"StoryDecompileModel", "doesCall", "(II)Z"⟩, 54) := ⟨⟨by decide +kernel, by decide +kernel⟩, List.mem_of_getElem? (i := 654) (by decide +kernel), List.mem_of_getElem? (i := 906) (by decide +kernel), List.mem_of_getElem? (i := 907) (by decide +kernel)⟩
theorem lw_p57 : lw_okq (⟨"StoryDecompileModel", "isWithin", "(II)Z"⟩, 54) := ⟨⟨by decide +kernel, by decide +kernel⟩, List.mem_of_getElem? (i := 654) (by decide +kernel), List.mem_of_getElem? (i := 914) (by decide +kernel), List.mem_of_getElem? (i := 915) (by decide +kernel)⟩
theorem lw_p58 : lw_okq (⟨"StoryDecompileModel", "tellAll", "()V"⟩, 54) := ⟨⟨by decide +kernel, by decide +kernel⟩, List.mem_of_getElem? (i := 654) (by decide +kernel), List.mem_of_getElem? (i := 922) (by decide +kernel), List.mem_of_getElem? (i := 923) (by decide +kernel)⟩
theorem lw_p59 : lw_okq (⟨"StoryDecompileModel", "countIn", "(II)I"⟩, 54) := ⟨⟨by decide +kernel, by decide +kernel⟩, List.mem_of_getElem? (i := 654) (by decide +kernel), List.mem_of_getElem? (i := 926) (by decide +kernel), List.mem_of_getElem? (i := 927) (by decide +kernel)⟩
theorem lw_p60 : lw_okq (⟨"StoryDecompileModel", "tell", "(I)V"⟩, 54) := ⟨⟨by decide +kernel, by decide +kernel⟩, List.mem_of_getElem? (i := 654) (by decide +kernel), List.mem_of_getElem? (i := 930) (by decide +kernel), List.mem_of_getElem? (i := 931) (by decide +kernel)⟩
theorem lw_p61 : lw_okq (⟨"StoryDecompileModel", "closeBodies", "(I)V"⟩, 54) := ⟨⟨by decide +kernel, by decide +kernel⟩, List.mem_of_getElem? (i := 654) (by decide +kernel), List.mem_of_getElem? (i := 934) (by decide +kernel), List.mem_of_getElem? (i := 935) (by decide +kernel)⟩
theorem lw_p62 : lw_okq (⟨"StoryDecompileModel", "beginBody", "(IIII)V"⟩, 54) := ⟨⟨by decide +kernel, by decide +kernel⟩, List.mem_of_getElem? (i := 654) (by decide +kernel), List.mem_of_getElem? (i := 954) (by decide +kernel), List.mem_of_getElem? (i := 955) (by decide +kernel)⟩
theorem lw_p63 : lw_okq (⟨"StoryDecompileModel", "next", "()I"⟩, 54) := ⟨⟨by decide +kernel, by decide +kernel⟩, List.mem_of_getElem? (i := 654) (by decide +kernel), List.mem_of_getElem? (i := 958) (by decide +kernel), List.mem_of_getElem? (i := 959) (by decide +kernel)⟩
def lw_privs_4 : List (MethodName × Nat) := [(⟨"StoryDecompileModel", "range", "(IIIIII)V"⟩, 54), (⟨"StoryDecompileModel", "readAt", "(II)V"⟩, 54), (⟨"StoryDecompileModel", "isBeingRead", "(I)Z"⟩, 54), (⟨"StoryDecompileModel", "readLoop", "(III)V"⟩, 54), (⟨"StoryDecompileModel", "state", "(IIIIII)I"⟩, 54), (⟨"StoryDecompileModel", "readIf", "(III)V"⟩, 54), (⟨"StoryDecompileModel", "areLike", "(II)Z"⟩, 54), (⟨"StoryDecompileModel", "depthOf", "(I)I"⟩, 54), (⟨"StoryDecompileModel", "doesCall", "(II)Z"⟩, 54), (⟨"StoryDecompileModel", "isWithin", "(II)Z"⟩, 54), (⟨"StoryDecompileModel", "tellAll", "()V"⟩, 54), (⟨"StoryDecompileModel", "countIn", "(II)I"⟩, 54), (⟨"StoryDecompileModel", "tell", "(I)V"⟩, 54), (⟨"StoryDecompileModel", "closeBodies", "(I)V"⟩, 54), (⟨"StoryDecompileModel", "beginBody", "(IIII)V"⟩, 54), (⟨"StoryDecompileModel", "next", "()I"⟩, 54)]
theorem lw_r4 : ∀ q ∈ lw_privs_4, lw_okq q := List.forall_mem_cons.mpr ⟨lw_p48, List.forall_mem_cons.mpr ⟨lw_p49, List.forall_mem_cons.mpr ⟨lw_p50, List.forall_mem_cons.mpr ⟨lw_p51, List.forall_mem_cons.mpr ⟨lw_p52, List.forall_mem_cons.mpr ⟨lw_p53, List.forall_mem_cons.mpr ⟨lw_p54, List.forall_mem_cons.mpr ⟨lw_p55, List.forall_mem_cons.mpr ⟨lw_p56, List.forall_mem_cons.mpr ⟨lw_p57, List.forall_mem_cons.mpr ⟨lw_p58, List.forall_mem_cons.mpr ⟨lw_p59, List.forall_mem_cons.mpr ⟨lw_p60, List.forall_mem_cons.mpr ⟨lw_p61, List.forall_mem_cons.mpr ⟨lw_p62, List.forall_mem_cons.mpr ⟨lw_p63, fun _ h => absurd h List.not_mem_nil⟩⟩⟩⟩⟩⟩⟩⟩⟩⟩⟩⟩⟩⟩⟩⟩
theorem lw_p64 : lw_okq (⟨"StoryDecompileModel", "wrong", "(I)V"⟩, 54) := ⟨⟨by decide +kernel, by decide +kernel⟩, List.mem_of_getElem? (i := 654) (by decide +kernel), List.mem_of_getElem? (i := 962) (by decide +kernel), List.mem_of_getElem? (i := 963) (by decide +kernel)⟩
theorem lw_p65 : lw_okq (⟨"StoryDecompileModel", "writeStatement", "()V"⟩, 54) := ⟨⟨by decide +kernel, by decide +kernel⟩, List.mem_of_getElem? (i := 654) (by decide +kernel), List.mem_of_getElem? (i := 966) (by decide +kernel), List.mem_of_getElem? (i := 967) (by decide +kernel)⟩
theorem lw_p66 : lw_okq (⟨"StoryDecompileModel", "innermost", "()I"⟩, 54) := ⟨⟨by decide +kernel, by decide +kernel⟩, List.mem_of_getElem? (i := 654) (by decide +kernel), List.mem_of_getElem? (i := 970) (by decide +kernel), List.mem_of_getElem? (i := 971) (by decide +kernel)⟩
theorem lw_p67 : lw_okq (⟨"StoryDecompileModel", "writeAct", "()V"⟩, 54) := ⟨⟨by decide +kernel, by decide +kernel⟩, List.mem_of_getElem? (i := 654) (by decide +kernel), List.mem_of_getElem? (i := 974) (by decide +kernel), List.mem_of_getElem? (i := 975) (by decide +kernel)⟩
theorem lw_p68 : lw_okq (⟨"StoryDecompileModel", "make", "(IIII)V"⟩, 54) := ⟨⟨by decide +kernel, by decide +kernel⟩, List.mem_of_getElem? (i := 654) (by decide +kernel), List.mem_of_getElem? (i := 978) (by decide +kernel), List.mem_of_getElem? (i := 979) (by decide +kernel)⟩
theorem lw_p69 : lw_okq (⟨"StoryDecompileModel", "testing", "(I)I"⟩, 54) := ⟨⟨by decide +kernel, by decide +kernel⟩, List.mem_of_getElem? (i := 654) (by decide +kernel), List.mem_of_getElem? (i := 982) (by decide +kernel), List.mem_of_getElem? (i := 983) (by decide +kernel)⟩
theorem lw_p70 : lw_okq (⟨"StoryDecompileModel", "leave", "(IZII)V"⟩, 54) := ⟨⟨by decide +kernel, by decide +kernel⟩, List.mem_of_getElem? (i := 654) (by decide +kernel), List.mem_of_getElem? (i := 986) (by decide +kernel), List.mem_of_getElem? (i := 987) (by decide +kernel)⟩
theorem lw_p71 : lw_okq (⟨"StoryDecompileModel", "endBody", "()V"⟩, 54) := ⟨⟨by decide +kernel, by decide +kernel⟩, List.mem_of_getElem? (i := 654) (by decide +kernel), List.mem_of_getElem? (i := 990) (by decide +kernel), List.mem_of_getElem? (i := 991) (by decide +kernel)⟩
theorem lw_p72 : lw_okq (⟨"StoryDecompileModel", "close", "(II)V"⟩, 54) := ⟨⟨by decide +kernel, by decide +kernel⟩, List.mem_of_getElem? (i := 654) (by decide +kernel), List.mem_of_getElem? (i := 994) (by decide +kernel), List.mem_of_getElem? (i := 995) (by decide +kernel)⟩
def lw_privs_5 : List (MethodName × Nat) := [(⟨"StoryDecompileModel", "wrong", "(I)V"⟩, 54), (⟨"StoryDecompileModel", "writeStatement", "()V"⟩, 54), (⟨"StoryDecompileModel", "innermost", "()I"⟩, 54), (⟨"StoryDecompileModel", "writeAct", "()V"⟩, 54), (⟨"StoryDecompileModel", "make", "(IIII)V"⟩, 54), (⟨"StoryDecompileModel", "testing", "(I)I"⟩, 54), (⟨"StoryDecompileModel", "leave", "(IZII)V"⟩, 54), (⟨"StoryDecompileModel", "endBody", "()V"⟩, 54), (⟨"StoryDecompileModel", "close", "(II)V"⟩, 54)]
theorem lw_r5 : ∀ q ∈ lw_privs_5, lw_okq q := List.forall_mem_cons.mpr ⟨lw_p64, List.forall_mem_cons.mpr ⟨lw_p65, List.forall_mem_cons.mpr ⟨lw_p66, List.forall_mem_cons.mpr ⟨lw_p67, List.forall_mem_cons.mpr ⟨lw_p68, List.forall_mem_cons.mpr ⟨lw_p69, List.forall_mem_cons.mpr ⟨lw_p70, List.forall_mem_cons.mpr ⟨lw_p71, List.forall_mem_cons.mpr ⟨lw_p72, fun _ h => absurd h List.not_mem_nil⟩⟩⟩⟩⟩⟩⟩⟩⟩
def lw_privs : List (MethodName × Nat) := lw_privs_1 ++ (lw_privs_2 ++ (lw_privs_3 ++ (lw_privs_4 ++ (lw_privs_5))))
def lw_tbl : List Cond := k2_sels lw_privs ++ tables_1
theorem lw_privs_ok : ∀ q ∈ lw_privs, lw_okq q := by
  show ∀ q ∈ lw_privs_1 ++ (lw_privs_2 ++ (lw_privs_3 ++ (lw_privs_4 ++ (lw_privs_5)))), lw_okq q
  exact List.forall_mem_append.mpr ⟨lw_r1, List.forall_mem_append.mpr ⟨lw_r2, List.forall_mem_append.mpr ⟨lw_r3, List.forall_mem_append.mpr ⟨lw_r4, lw_r5⟩⟩⟩⟩
end
section
def RX0 : String := "StoryDecompile$Reach"
def TX0 : u_T := fun k => match k with
  | 0 => ("StoryDecompile$Reach", "met", "[I", true)
  | 1 => ("StoryDecompile$Reach", "waiting", "[I", true)
  | 2 => ("StoryDecompile$Reach", "waitingCount", "I", false)
  | _ => ("StoryDecompile$Reach", "metCount", "I", false)
def tyX0 : Nat → FieldType := fun k => match k with
  | 0 => .array .int
  | 1 => .array .int
  | 2 => .int
  | _ => .int
abbrev wsX00 : List Cond := u_ws RX0 TX0 4
theorem nmX0 : ∀ a, a < 4 → ∀ b, b < 4 → a ≠ b → (TX0 a).2.1 ≠ (TX0 b).2.1 := by decide +kernel
theorem tyX0_ok : ∀ k, k < 4 → parseFieldDescriptor (TX0 k).2.2.1 = some (tyX0 k) := by decide +kernel
abbrev cX0_init : ByteArray := prog_2_method_1_code
def yX0_init : MethodName := ⟨RX0, "<init>", "()V"⟩
abbrev cX0_explore : ByteArray := prog_2_method_2_code
def yX0_explore : MethodName := ⟨RX0, "explore", "(LStoryDecompile$Routine;)V"⟩
abbrev cX0_follow : ByteArray := prog_2_method_3_code
def yX0_follow : MethodName := ⟨RX0, "follow", "(LStoryDecompile$Routine;I)V"⟩
abbrev cX0_meet : ByteArray := prog_2_method_4_code
def yX0_meet : MethodName := ⟨RX0, "meet", "(LStoryDecompile$Routine;I)V"⟩
def RX1 : String := "StoryDecompile$Reader"
def TX1 : u_T := fun k => match k with
  | 0 => ("StoryDecompile$Reader", "tree", "LStoryDecompile$Tree;", true)
  | 1 => ("StoryDecompile$Reader", "source", "LStoryDecompile$Routine;", false)
  | 2 => ("StoryDecompile$Reader", "depth", "I", false)
  | 3 => ("StoryDecompile$Reader", "ends", "[I", true)
  | 4 => ("StoryDecompile$Reader", "breaks", "[I", true)
  | 5 => ("StoryDecompile$Reader", "agains", "[I", true)
  | 6 => ("StoryDecompile$Reader", "owners", "[I", true)
  | 7 => ("StoryDecompile$Reader", "sides", "[I", true)
  | _ => ("StoryDecompile$Reader", "slots", "[I", true)
def tyX1 : Nat → FieldType := fun k => match k with
  | 0 => .object "StoryDecompile$Tree"
  | 1 => .object "StoryDecompile$Routine"
  | 2 => .int
  | 3 => .array .int
  | 4 => .array .int
  | 5 => .array .int
  | 6 => .array .int
  | 7 => .array .int
  | _ => .array .int
abbrev wsX10 : List Cond := u_ws RX1 TX1 9
theorem nmX1 : ∀ a, a < 9 → ∀ b, b < 9 → a ≠ b → (TX1 a).2.1 ≠ (TX1 b).2.1 := by decide +kernel
theorem tyX1_ok : ∀ k, k < 9 → parseFieldDescriptor (TX1 k).2.2.1 = some (tyX1 k) := by decide +kernel
abbrev cX1_init : ByteArray := prog_3_method_1_code
def yX1_init : MethodName := ⟨RX1, "<init>", "()V"⟩
abbrev cX1_readWhole : ByteArray := prog_3_method_2_code
def yX1_readWhole : MethodName := ⟨RX1, "readWhole", "(LStoryDecompile$Routine;)V"⟩
abbrev cX1_openBody : ByteArray := prog_3_method_3_code
def yX1_openBody : MethodName := ⟨RX1, "openBody", "(IIIII)V"⟩
abbrev cX1_closeBody : ByteArray := prog_3_method_4_code
def yX1_closeBody : MethodName := ⟨RX1, "closeBody", "(I)I"⟩
abbrev cX1_readStatement : ByteArray := prog_3_method_5_code
def yX1_readStatement : MethodName := ⟨RX1, "readStatement", "(I)I"⟩
abbrev cX1_isLoopBegun : ByteArray := prog_3_method_6_code
def yX1_isLoopBegun : MethodName := ⟨RX1, "isLoopBegun", "(I)Z"⟩
abbrev cX1_readLoop : ByteArray := prog_3_method_7_code
def yX1_readLoop : MethodName := ⟨RX1, "readLoop", "(II)I"⟩
abbrev cX1_readTest : ByteArray := prog_3_method_8_code
def yX1_readTest : MethodName := ⟨RX1, "readTest", "(I)I"⟩
abbrev cX1_readIf : ByteArray := prog_3_method_9_code
def yX1_readIf : MethodName := ⟨RX1, "readIf", "(II)I"⟩
abbrev cX1_elseEnd : ByteArray := prog_3_method_10_code
def yX1_elseEnd : MethodName := ⟨RX1, "elseEnd", "(II)I"⟩
abbrev cX1_readGo : ByteArray := prog_3_method_11_code
def yX1_readGo : MethodName := ⟨RX1, "readGo", "(I)I"⟩
abbrev cX1_readAct : ByteArray := prog_3_method_12_code
def yX1_readAct : MethodName := ⟨RX1, "readAct", "(I)I"⟩
abbrev cX1_begin : ByteArray := prog_3_method_13_code
def yX1_begin : MethodName := ⟨RX1, "begin", "(IIII)I"⟩
abbrev cX1_wordTest : ByteArray := prog_3_method_14_code
def yX1_wordTest : MethodName := ⟨RX1, "wordTest", "(I)V"⟩
def RX2 : String := "StoryDecompile$Routine"
def TX2 : u_T := fun k => match k with
  | 0 => ("StoryDecompile$Routine", "kinds", "[I", true)
  | 1 => ("StoryDecompile$Routine", "as", "[I", true)
  | 2 => ("StoryDecompile$Routine", "bs", "[I", true)
  | 3 => ("StoryDecompile$Routine", "cs", "[I", true)
  | 4 => ("StoryDecompile$Routine", "length", "I", false)
  | _ => ("StoryDecompile$Routine", "whole", "Z", false)
def tyX2 : Nat → FieldType := fun k => match k with
  | 0 => .array .int
  | 1 => .array .int
  | 2 => .array .int
  | 3 => .array .int
  | 4 => .int
  | _ => .boolean
abbrev wsX20 : List Cond := u_ws RX2 TX2 6
theorem nmX2 : ∀ a, a < 6 → ∀ b, b < 6 → a ≠ b → (TX2 a).2.1 ≠ (TX2 b).2.1 := by decide +kernel
theorem tyX2_ok : ∀ k, k < 6 → parseFieldDescriptor (TX2 k).2.2.1 = some (tyX2 k) := by decide +kernel
abbrev cX2_init : ByteArray := prog_4_method_1_code
def yX2_init : MethodName := ⟨RX2, "<init>", "()V"⟩
abbrev cX2_has : ByteArray := prog_4_method_2_code
def yX2_has : MethodName := ⟨RX2, "has", "(I)Z"⟩
abbrev cX2_put : ByteArray := prog_4_method_3_code
def yX2_put : MethodName := ⟨RX2, "put", "(IIIII)V"⟩
abbrev cX2_judgeWhole : ByteArray := prog_4_method_4_code
def yX2_judgeWhole : MethodName := ⟨RX2, "judgeWhole", "()V"⟩
abbrev cX2_takeOver : ByteArray := prog_4_method_5_code
def yX2_takeOver : MethodName := ⟨RX2, "takeOver", "(LStoryDecompile$Routine;)V"⟩
abbrev cX2_isAlike : ByteArray := prog_4_method_6_code
def yX2_isAlike : MethodName := ⟨RX2, "isAlike", "(LStoryDecompile$Routine;)Z"⟩
abbrev cX2_hasCallOf : ByteArray := prog_4_method_7_code
def yX2_hasCallOf : MethodName := ⟨RX2, "hasCallOf", "(I)Z"⟩
abbrev cX2_lastJumpTo : ByteArray := prog_4_method_8_code
def yX2_lastJumpTo : MethodName := ⟨RX2, "lastJumpTo", "(II)I"⟩
def RX3 : String := "StoryDecompile$Runner"
def TX3 : u_T := fun k => match k with
  | 0 => ("StoryDecompile$Runner", "steps", "I", false)
  | 1 => ("StoryDecompile$Runner", "calls", "I", false)
  | 2 => ("StoryDecompile$Runner", "saidCount", "I", false)
  | 3 => ("StoryDecompile$Runner", "said", "[I", true)
  | 4 => ("StoryDecompile$Runner", "registers", "[I", true)
  | 5 => ("StoryDecompile$Runner", "depth", "I", false)
  | 6 => ("StoryDecompile$Runner", "open", "[LStoryDecompile$Routine;", true)
  | _ => ("StoryDecompile$Runner", "places", "[I", true)
def tyX3 : Nat → FieldType := fun k => match k with
  | 0 => .int
  | 1 => .int
  | 2 => .int
  | 3 => .array .int
  | 4 => .array .int
  | 5 => .int
  | 6 => .array (.object "StoryDecompile$Routine")
  | _ => .array .int
abbrev wsX30 : List Cond := u_ws RX3 TX3 8
theorem nmX3 : ∀ a, a < 8 → ∀ b, b < 8 → a ≠ b → (TX3 a).2.1 ≠ (TX3 b).2.1 := by decide +kernel
theorem tyX3_ok : ∀ k, k < 8 → parseFieldDescriptor (TX3 k).2.2.1 = some (tyX3 k) := by decide +kernel
abbrev cX3_init : ByteArray := prog_5_method_1_code
def yX3_init : MethodName := ⟨RX3, "<init>", "()V"⟩
abbrev cX3_start : ByteArray := prog_5_method_2_code
def yX3_start : MethodName := ⟨RX3, "start", "([LStoryDecompile$Routine;LStoryDecompile$Routine;[II)I"⟩
abbrev cX3_enter : ByteArray := prog_5_method_3_code
def yX3_enter : MethodName := ⟨RX3, "enter", "(LStoryDecompile$Routine;)V"⟩
abbrev cX3_turn : ByteArray := prog_5_method_4_code
def yX3_turn : MethodName := ⟨RX3, "turn", "([LStoryDecompile$Routine;I)I"⟩
abbrev cX3_perform : ByteArray := prog_5_method_5_code
def yX3_perform : MethodName := ⟨RX3, "perform", "([LStoryDecompile$Routine;LStoryDecompile$Routine;I)I"⟩
abbrev cX3_say : ByteArray := prog_5_method_6_code
def yX3_say : MethodName := ⟨RX3, "say", "(I)I"⟩
abbrev cX3_callOf : ByteArray := prog_5_method_7_code
def yX3_callOf : MethodName := ⟨RX3, "callOf", "(LStoryDecompile$Routine;)I"⟩
abbrev cX3_holds : ByteArray := prog_5_method_8_code
def yX3_holds : MethodName := ⟨RX3, "holds", "(II)Z"⟩
def RX4 : String := "StoryDecompile$Tree"
def TX4 : u_T := fun k => match k with
  | 0 => ("StoryDecompile$Tree", "kinds", "[I", true)
  | 1 => ("StoryDecompile$Tree", "begins", "[I", true)
  | 2 => ("StoryDecompile$Tree", "behinds", "[I", true)
  | 3 => ("StoryDecompile$Tree", "parents", "[I", true)
  | 4 => ("StoryDecompile$Tree", "bodies", "[I", true)
  | 5 => ("StoryDecompile$Tree", "inners", "[I", true)
  | 6 => ("StoryDecompile$Tree", "statementOf", "[I", true)
  | 7 => ("StoryDecompile$Tree", "words", "[I", true)
  | 8 => ("StoryDecompile$Tree", "count", "I", false)
  | 9 => ("StoryDecompile$Tree", "wordCount", "I", false)
  | 10 => ("StoryDecompile$Tree", "jumpCount", "I", false)
  | _ => ("StoryDecompile$Tree", "deepest", "I", false)
def tyX4 : Nat → FieldType := fun k => match k with
  | 0 => .array .int
  | 1 => .array .int
  | 2 => .array .int
  | 3 => .array .int
  | 4 => .array .int
  | 5 => .array .int
  | 6 => .array .int
  | 7 => .array .int
  | 8 => .int
  | 9 => .int
  | 10 => .int
  | _ => .int
abbrev wsX40 : List Cond := u_ws RX4 TX4 12
theorem nmX4 : ∀ a, a < 12 → ∀ b, b < 12 → a ≠ b → (TX4 a).2.1 ≠ (TX4 b).2.1 := by decide +kernel
theorem tyX4_ok : ∀ k, k < 12 → parseFieldDescriptor (TX4 k).2.2.1 = some (tyX4 k) := by decide +kernel
abbrev cX4_init : ByteArray := prog_6_method_1_code
def yX4_init : MethodName := ⟨RX4, "<init>", "()V"⟩
abbrev cX4_empty : ByteArray := prog_6_method_2_code
def yX4_empty : MethodName := ⟨RX4, "empty", "()V"⟩
abbrev cX4_has : ByteArray := prog_6_method_3_code
def yX4_has : MethodName := ⟨RX4, "has", "(I)Z"⟩
abbrev cX4_tell : ByteArray := prog_6_method_4_code
def yX4_tell : MethodName := ⟨RX4, "tell", "(II)I"⟩
abbrev cX4_word : ByteArray := prog_6_method_5_code
def yX4_word : MethodName := ⟨RX4, "word", "(I)V"⟩
def RX5 : String := "StoryDecompile$Writer"
def TX5 : u_T := fun k => match k with
  | 0 => ("StoryDecompile$Writer", "made", "LStoryDecompile$Routine;", true)
  | 1 => ("StoryDecompile$Writer", "place", "I", false)
  | 2 => ("StoryDecompile$Writer", "numbers", "[I", false)
  | 3 => ("StoryDecompile$Writer", "numberCount", "I", false)
  | 4 => ("StoryDecompile$Writer", "found", "I", false)
  | 5 => ("StoryDecompile$Writer", "actCount", "I", false)
  | 6 => ("StoryDecompile$Writer", "highestPlace", "I", false)
  | 7 => ("StoryDecompile$Writer", "loops", "I", false)
  | 8 => ("StoryDecompile$Writer", "awaited", "[I", true)
  | 9 => ("StoryDecompile$Writer", "depth", "I", false)
  | 10 => ("StoryDecompile$Writer", "left", "[I", true)
  | 11 => ("StoryDecompile$Writer", "kinds", "[I", true)
  | 12 => ("StoryDecompile$Writer", "begins", "[I", true)
  | 13 => ("StoryDecompile$Writer", "skips", "[I", true)
  | 14 => ("StoryDecompile$Writer", "testAs", "[I", true)
  | _ => ("StoryDecompile$Writer", "testBs", "[I", true)
def tyX5 : Nat → FieldType := fun k => match k with
  | 0 => .object "StoryDecompile$Routine"
  | 1 => .int
  | 2 => .array .int
  | 3 => .int
  | 4 => .int
  | 5 => .int
  | 6 => .int
  | 7 => .int
  | 8 => .array .int
  | 9 => .int
  | 10 => .array .int
  | 11 => .array .int
  | 12 => .array .int
  | 13 => .array .int
  | 14 => .array .int
  | _ => .array .int
abbrev wsX50 : List Cond := u_ws RX5 TX5 16
theorem nmX5 : ∀ a, a < 16 → ∀ b, b < 16 → a ≠ b → (TX5 a).2.1 ≠ (TX5 b).2.1 := by decide +kernel
theorem tyX5_ok : ∀ k, k < 16 → parseFieldDescriptor (TX5 k).2.2.1 = some (tyX5 k) := by decide +kernel
abbrev cX5_init : ByteArray := prog_7_method_1_code
def yX5_init : MethodName := ⟨RX5, "<init>", "()V"⟩
abbrev cX5_parse : ByteArray := prog_7_method_2_code
def yX5_parse : MethodName := ⟨RX5, "parse", "([II)I"⟩
abbrev cX5_judgeAll : ByteArray := prog_7_method_3_code
def yX5_judgeAll : MethodName := ⟨RX5, "judgeAll", "()V"⟩
abbrev cX5_take : ByteArray := prog_7_method_4_code
def yX5_take : MethodName := ⟨RX5, "take", "()I"⟩
abbrev cX5_require : ByteArray := prog_7_method_5_code
def yX5_require : MethodName := ⟨RX5, "require", "(ZI)V"⟩
abbrev cX5_takeStatement : ByteArray := prog_7_method_6_code
def yX5_takeStatement : MethodName := ⟨RX5, "takeStatement", "()V"⟩
abbrev cX5_takeAct : ByteArray := prog_7_method_7_code
def yX5_takeAct : MethodName := ⟨RX5, "takeAct", "()V"⟩
abbrev cX5_takeA : ByteArray := prog_7_method_8_code
def yX5_takeA : MethodName := ⟨RX5, "takeA", "(I)I"⟩
abbrev cX5_takeB : ByteArray := prog_7_method_9_code
def yX5_takeB : MethodName := ⟨RX5, "takeB", "(I)I"⟩
abbrev cX5_takePlace : ByteArray := prog_7_method_10_code
def yX5_takePlace : MethodName := ⟨RX5, "takePlace", "()I"⟩
abbrev cX5_takeTested : ByteArray := prog_7_method_11_code
def yX5_takeTested : MethodName := ⟨RX5, "takeTested", "(I)V"⟩
abbrev cX5_takeLeap : ByteArray := prog_7_method_12_code
def yX5_takeLeap : MethodName := ⟨RX5, "takeLeap", "(I)V"⟩
abbrev cX5_openBody : ByteArray := prog_7_method_13_code
def yX5_openBody : MethodName := ⟨RX5, "openBody", "(IIII)V"⟩
abbrev cX5_closeBody : ByteArray := prog_7_method_14_code
def yX5_closeBody : MethodName := ⟨RX5, "closeBody", "()V"⟩
abbrev cX5_endLoop : ByteArray := prog_7_method_15_code
def yX5_endLoop : MethodName := ⟨RX5, "endLoop", "(II)V"⟩
abbrev cX5_aim : ByteArray := prog_7_method_16_code
def yX5_aim : MethodName := ⟨RX5, "aim", "(II)V"⟩
abbrev cX5_emit : ByteArray := prog_7_method_17_code
def yX5_emit : MethodName := ⟨RX5, "emit", "(IIII)V"⟩
def RX6 : String := "StoryDecompile"
def TX6 : u_T := fun k => match k with
  | 0 => ("StoryDecompile", "routines", "[LStoryDecompile$Routine;", true)
  | 1 => ("StoryDecompile", "routineCount", "I", false)
  | 2 => ("StoryDecompile", "reader", "LStoryDecompile$Reader;", true)
  | 3 => ("StoryDecompile", "readRoutine", "I", false)
  | 4 => ("StoryDecompile", "reach", "LStoryDecompile$Reach;", true)
  | 5 => ("StoryDecompile", "tape", "[I", true)
  | 6 => ("StoryDecompile", "tapeLength", "I", false)
  | 7 => ("StoryDecompile", "writer", "LStoryDecompile$Writer;", true)
  | 8 => ("StoryDecompile", "faultPlace", "I", false)
  | 9 => ("StoryDecompile", "firstRegisters", "[I", true)
  | _ => ("StoryDecompile", "runner", "LStoryDecompile$Runner;", true)
def tyX6 : Nat → FieldType := fun k => match k with
  | 0 => .array (.object "StoryDecompile$Routine")
  | 1 => .int
  | 2 => .object "StoryDecompile$Reader"
  | 3 => .int
  | 4 => .object "StoryDecompile$Reach"
  | 5 => .array .int
  | 6 => .int
  | 7 => .object "StoryDecompile$Writer"
  | 8 => .int
  | 9 => .array .int
  | _ => .object "StoryDecompile$Runner"
abbrev wsX60 : List Cond := u_ws RX6 TX6 11
theorem nmX6 : ∀ a, a < 11 → ∀ b, b < 11 → a ≠ b → (TX6 a).2.1 ≠ (TX6 b).2.1 := by decide +kernel
theorem tyX6_ok : ∀ k, k < 11 → parseFieldDescriptor (TX6 k).2.2.1 = some (tyX6 k) := by decide +kernel
abbrev cX6_init : ByteArray := prog_1_method_1_code
def yX6_init : MethodName := ⟨RX6, "<init>", "()V"⟩
abbrev cX6_routine : ByteArray := prog_1_method_2_code
def yX6_routine : MethodName := ⟨RX6, "routine", "()I"⟩
abbrev cX6_act : ByteArray := prog_1_method_3_code
def yX6_act : MethodName := ⟨RX6, "act", "(IIIII)I"⟩
abbrev cX6_alter : ByteArray := prog_1_method_4_code
def yX6_alter : MethodName := ⟨RX6, "alter", "(IIIIII)I"⟩
abbrev cX6_told : ByteArray := prog_1_method_5_code
def yX6_told : MethodName := ⟨RX6, "told", "(III)I"⟩
abbrev cX6_of : ByteArray := prog_1_method_6_code
def yX6_of : MethodName := ⟨RX6, "of", "(II)I"⟩
abbrev cX6_statement : ByteArray := prog_1_method_7_code
def yX6_statement : MethodName := ⟨RX6, "statement", "(III)I"⟩
abbrev cX6_text : ByteArray := prog_1_method_8_code
def yX6_text : MethodName := ⟨RX6, "text", "(II)I"⟩
abbrev cX6_feed : ByteArray := prog_1_method_9_code
def yX6_feed : MethodName := ⟨RX6, "feed", "(I)I"⟩
abbrev cX6_copy : ByteArray := prog_1_method_10_code
def yX6_copy : MethodName := ⟨RX6, "copy", "(I)I"⟩
abbrev cX6_write : ByteArray := prog_1_method_11_code
def yX6_write : MethodName := ⟨RX6, "write", "()I"⟩
abbrev cX6_fault : ByteArray := prog_1_method_12_code
def yX6_fault : MethodName := ⟨RX6, "fault", "()I"⟩
abbrev cX6_clear : ByteArray := prog_1_method_13_code
def yX6_clear : MethodName := ⟨RX6, "clear", "()I"⟩
abbrev cX6_like : ByteArray := prog_1_method_14_code
def yX6_like : MethodName := ⟨RX6, "like", "(II)I"⟩
abbrev cX6_set : ByteArray := prog_1_method_15_code
def yX6_set : MethodName := ⟨RX6, "set", "(II)I"⟩
abbrev cX6_run : ByteArray := prog_1_method_16_code
def yX6_run : MethodName := ⟨RX6, "run", "(II)I"⟩
abbrev cX6_ran : ByteArray := prog_1_method_17_code
def yX6_ran : MethodName := ⟨RX6, "ran", "(I)I"⟩
abbrev cX6_out : ByteArray := prog_1_method_18_code
def yX6_out : MethodName := ⟨RX6, "out", "(I)I"⟩
abbrev cX6_find : ByteArray := prog_1_method_19_code
def yX6_find : MethodName := ⟨RX6, "find", "(I)LStoryDecompile$Routine;"⟩
abbrev cX6_addRoutine : ByteArray := prog_1_method_20_code
def yX6_addRoutine : MethodName := ⟨RX6, "addRoutine", "(LStoryDecompile$Routine;)I"⟩
abbrev cX6_change : ByteArray := prog_1_method_21_code
def yX6_change : MethodName := ⟨RX6, "change", "(LStoryDecompile$Routine;IIIII)V"⟩
abbrev cX6_treeOf : ByteArray := prog_1_method_22_code
def yX6_treeOf : MethodName := ⟨RX6, "treeOf", "(ILStoryDecompile$Routine;)LStoryDecompile$Tree;"⟩
abbrev cX6_cameTo : ByteArray := prog_1_method_23_code
def yX6_cameTo : MethodName := ⟨RX6, "cameTo", "(LStoryDecompile$Routine;I)I"⟩
abbrev cX6_leastAlike : ByteArray := prog_1_method_24_code
def yX6_leastAlike : MethodName := ⟨RX6, "leastAlike", "(ILStoryDecompile$Routine;)I"⟩
abbrev cX6_ofWhole : ByteArray := prog_1_method_25_code
def yX6_ofWhole : MethodName := ⟨RX6, "ofWhole", "(ILStoryDecompile$Routine;I)I"⟩
abbrev cX6_callersOf : ByteArray := prog_1_method_26_code
def yX6_callersOf : MethodName := ⟨RX6, "callersOf", "(I)I"⟩
abbrev cX6_isJump : ByteArray := prog_1_method_27_code
def yX6_isJump : MethodName := ⟨RX6, "isJump", "(I)Z"⟩
abbrev cX6_isAct : ByteArray := prog_1_method_28_code
def yX6_isAct : MethodName := ⟨RX6, "isAct", "(IIII)Z"⟩
abbrev cX6_usesA : ByteArray := prog_1_method_29_code
def yX6_usesA : MethodName := ⟨RX6, "usesA", "(I)Z"⟩
abbrev cX6_usesB : ByteArray := prog_1_method_30_code
def yX6_usesB : MethodName := ⟨RX6, "usesB", "(I)Z"⟩
abbrev cX6_mayHaveA : ByteArray := prog_1_method_31_code
def yX6_mayHaveA : MethodName := ⟨RX6, "mayHaveA", "(II)Z"⟩
abbrev cX6_mayHaveB : ByteArray := prog_1_method_32_code
def yX6_mayHaveB : MethodName := ⟨RX6, "mayHaveB", "(II)Z"⟩
def RX7 : String := "StoryDecompileModel"
def TX7 : u_T := fun k => match k with
  | 0 => ("StoryDecompileModel", "routines", "I", false)
  | 1 => ("StoryDecompileModel", "many", "[I", true)
  | 2 => ("StoryDecompileModel", "kind", "[I", true)
  | 3 => ("StoryDecompileModel", "a", "[I", true)
  | 4 => ("StoryDecompileModel", "b", "[I", true)
  | 5 => ("StoryDecompileModel", "c", "[I", true)
  | 6 => ("StoryDecompileModel", "begins", "[I", true)
  | 7 => ("StoryDecompileModel", "tape", "[I", true)
  | 8 => ("StoryDecompileModel", "tapeMany", "I", false)
  | 9 => ("StoryDecompileModel", "faultPlace", "I", false)
  | 10 => ("StoryDecompileModel", "steps", "I", false)
  | 11 => ("StoryDecompileModel", "calls", "I", false)
  | 12 => ("StoryDecompileModel", "outMany", "I", false)
  | 13 => ("StoryDecompileModel", "out", "[I", true)
  | 14 => ("StoryDecompileModel", "register", "[I", true)
  | 15 => ("StoryDecompileModel", "statements", "I", false)
  | 16 => ("StoryDecompileModel", "sort", "[I", true)
  | 17 => ("StoryDecompileModel", "from", "[I", true)
  | 18 => ("StoryDecompileModel", "behind", "[I", true)
  | 19 => ("StoryDecompileModel", "within", "[I", true)
  | 20 => ("StoryDecompileModel", "body", "[I", true)
  | 21 => ("StoryDecompileModel", "testA", "[I", true)
  | 22 => ("StoryDecompileModel", "testB", "[I", true)
  | 23 => ("StoryDecompileModel", "goal", "[I", true)
  | 24 => ("StoryDecompileModel", "pile", "I", false)
  | 25 => ("StoryDecompileModel", "rangeK", "[I", true)
  | 26 => ("StoryDecompileModel", "rangeJ", "[I", true)
  | 27 => ("StoryDecompileModel", "rangeB", "[I", true)
  | 28 => ("StoryDecompileModel", "rangeC", "[I", true)
  | 29 => ("StoryDecompileModel", "rangeIn", "[I", true)
  | 30 => ("StoryDecompileModel", "rangeBody", "[I", true)
  | 31 => ("StoryDecompileModel", "row", "[I", true)
  | 32 => ("StoryDecompileModel", "rowMany", "I", false)
  | 33 => ("StoryDecompileModel", "isCome", "[Z", true)
  | 34 => ("StoryDecompileModel", "open", "I", false)
  | 35 => ("StoryDecompileModel", "opened", "[I", true)
  | 36 => ("StoryDecompileModel", "place", "I", false)
  | 37 => ("StoryDecompileModel", "code", "I", false)
  | 38 => ("StoryDecompileModel", "made", "I", false)
  | 39 => ("StoryDecompileModel", "madeKind", "[I", true)
  | 40 => ("StoryDecompileModel", "madeA", "[I", true)
  | 41 => ("StoryDecompileModel", "madeB", "[I", true)
  | 42 => ("StoryDecompileModel", "madeC", "[I", true)
  | 43 => ("StoryDecompileModel", "madeFor", "[I", true)
  | 44 => ("StoryDecompileModel", "madeTo", "[I", true)
  | 45 => ("StoryDecompileModel", "bodies", "I", false)
  | 46 => ("StoryDecompileModel", "left", "[I", true)
  | 47 => ("StoryDecompileModel", "owner", "[I", true)
  | 48 => ("StoryDecompileModel", "start", "[I", true)
  | 49 => ("StoryDecompileModel", "ownA", "[I", true)
  | 50 => ("StoryDecompileModel", "ownB", "[I", true)
  | 51 => ("StoryDecompileModel", "test", "[I", true)
  | 52 => ("StoryDecompileModel", "callR", "[I", true)
  | _ => ("StoryDecompileModel", "callAt", "[I", true)
def tyX7 : Nat → FieldType := fun k => match k with
  | 0 => .int
  | 1 => .array .int
  | 2 => .array .int
  | 3 => .array .int
  | 4 => .array .int
  | 5 => .array .int
  | 6 => .array .int
  | 7 => .array .int
  | 8 => .int
  | 9 => .int
  | 10 => .int
  | 11 => .int
  | 12 => .int
  | 13 => .array .int
  | 14 => .array .int
  | 15 => .int
  | 16 => .array .int
  | 17 => .array .int
  | 18 => .array .int
  | 19 => .array .int
  | 20 => .array .int
  | 21 => .array .int
  | 22 => .array .int
  | 23 => .array .int
  | 24 => .int
  | 25 => .array .int
  | 26 => .array .int
  | 27 => .array .int
  | 28 => .array .int
  | 29 => .array .int
  | 30 => .array .int
  | 31 => .array .int
  | 32 => .int
  | 33 => .array .boolean
  | 34 => .int
  | 35 => .array .int
  | 36 => .int
  | 37 => .int
  | 38 => .int
  | 39 => .array .int
  | 40 => .array .int
  | 41 => .array .int
  | 42 => .array .int
  | 43 => .array .int
  | 44 => .array .int
  | 45 => .int
  | 46 => .array .int
  | 47 => .array .int
  | 48 => .array .int
  | 49 => .array .int
  | 50 => .array .int
  | 51 => .array .int
  | 52 => .array .int
  | _ => .array .int
abbrev wsX70 : List Cond := u_ws RX7 TX7 54
theorem nmX7 : ∀ a, a < 54 → ∀ b, b < 54 → a ≠ b → (TX7 a).2.1 ≠ (TX7 b).2.1 := by decide +kernel
theorem tyX7_ok : ∀ k, k < 54 → parseFieldDescriptor (TX7 k).2.2.1 = some (tyX7 k) := by decide +kernel
abbrev cX7_init : ByteArray := prog_9_method_1_code
def yX7_init : MethodName := ⟨RX7, "<init>", "()V"⟩
abbrev cX7_in : ByteArray := prog_9_method_2_code
def yX7_in : MethodName := ⟨RX7, "in", "(III)Z"⟩
abbrev cX7_isRoutine : ByteArray := prog_9_method_3_code
def yX7_isRoutine : MethodName := ⟨RX7, "isRoutine", "(I)Z"⟩
abbrev cX7_routine : ByteArray := prog_9_method_4_code
def yX7_routine : MethodName := ⟨RX7, "routine", "()I"⟩
abbrev cX7_isAct : ByteArray := prog_9_method_5_code
def yX7_isAct : MethodName := ⟨RX7, "isAct", "(IIII)Z"⟩
abbrev cX7_put : ByteArray := prog_9_method_6_code
def yX7_put : MethodName := ⟨RX7, "put", "(IIIIII)V"⟩
abbrev cX7_act : ByteArray := prog_9_method_7_code
def yX7_act : MethodName := ⟨RX7, "act", "(IIIII)I"⟩
abbrev cX7_alter : ByteArray := prog_9_method_8_code
def yX7_alter : MethodName := ⟨RX7, "alter", "(IIIIII)I"⟩
abbrev cX7_leads : ByteArray := prog_9_method_9_code
def yX7_leads : MethodName := ⟨RX7, "leads", "(I)Z"⟩
abbrev cX7_isWhole : ByteArray := prog_9_method_10_code
def yX7_isWhole : MethodName := ⟨RX7, "isWhole", "(I)Z"⟩
abbrev cX7_range : ByteArray := prog_9_method_11_code
def yX7_range : MethodName := ⟨RX7, "range", "(IIIIII)V"⟩
abbrev cX7_state : ByteArray := prog_9_method_12_code
def yX7_state : MethodName := ⟨RX7, "state", "(IIIIII)I"⟩
abbrev cX7_isBeingRead : ByteArray := prog_9_method_13_code
def yX7_isBeingRead : MethodName := ⟨RX7, "isBeingRead", "(I)Z"⟩
abbrev cX7_read : ByteArray := prog_9_method_14_code
def yX7_read : MethodName := ⟨RX7, "read", "(I)V"⟩
abbrev cX7_readAt : ByteArray := prog_9_method_15_code
def yX7_readAt : MethodName := ⟨RX7, "readAt", "(II)V"⟩
abbrev cX7_readIf : ByteArray := prog_9_method_16_code
def yX7_readIf : MethodName := ⟨RX7, "readIf", "(III)V"⟩
abbrev cX7_readLoop : ByteArray := prog_9_method_17_code
def yX7_readLoop : MethodName := ⟨RX7, "readLoop", "(III)V"⟩
abbrev cX7_come : ByteArray := prog_9_method_18_code
def yX7_come : MethodName := ⟨RX7, "come", "(I)V"⟩
abbrev cX7_told : ByteArray := prog_9_method_19_code
def yX7_told : MethodName := ⟨RX7, "told", "(III)I"⟩
abbrev cX7_areLike : ByteArray := prog_9_method_20_code
def yX7_areLike : MethodName := ⟨RX7, "areLike", "(II)Z"⟩
abbrev cX7_doesCall : ByteArray := prog_9_method_21_code
def yX7_doesCall : MethodName := ⟨RX7, "doesCall", "(II)Z"⟩
abbrev cX7_depthOf : ByteArray := prog_9_method_22_code
def yX7_depthOf : MethodName := ⟨RX7, "depthOf", "(I)I"⟩
abbrev cX7_of : ByteArray := prog_9_method_23_code
def yX7_of : MethodName := ⟨RX7, "of", "(II)I"⟩
abbrev cX7_isWithin : ByteArray := prog_9_method_24_code
def yX7_isWithin : MethodName := ⟨RX7, "isWithin", "(II)Z"⟩
abbrev cX7_statement : ByteArray := prog_9_method_25_code
def yX7_statement : MethodName := ⟨RX7, "statement", "(III)I"⟩
abbrev cX7_countIn : ByteArray := prog_9_method_26_code
def yX7_countIn : MethodName := ⟨RX7, "countIn", "(II)I"⟩
abbrev cX7_tell : ByteArray := prog_9_method_27_code
def yX7_tell : MethodName := ⟨RX7, "tell", "(I)V"⟩
abbrev cX7_tellAll : ByteArray := prog_9_method_28_code
def yX7_tellAll : MethodName := ⟨RX7, "tellAll", "()V"⟩
abbrev cX7_closeBodies : ByteArray := prog_9_method_29_code
def yX7_closeBodies : MethodName := ⟨RX7, "closeBodies", "(I)V"⟩
abbrev cX7_text : ByteArray := prog_9_method_30_code
def yX7_text : MethodName := ⟨RX7, "text", "(II)I"⟩
abbrev cX7_feed : ByteArray := prog_9_method_31_code
def yX7_feed : MethodName := ⟨RX7, "feed", "(I)I"⟩
abbrev cX7_copy : ByteArray := prog_9_method_32_code
def yX7_copy : MethodName := ⟨RX7, "copy", "(I)I"⟩
abbrev cX7_clear : ByteArray := prog_9_method_33_code
def yX7_clear : MethodName := ⟨RX7, "clear", "()I"⟩
abbrev cX7_next : ByteArray := prog_9_method_34_code
def yX7_next : MethodName := ⟨RX7, "next", "()I"⟩
abbrev cX7_wrong : ByteArray := prog_9_method_35_code
def yX7_wrong : MethodName := ⟨RX7, "wrong", "(I)V"⟩
abbrev cX7_make : ByteArray := prog_9_method_36_code
def yX7_make : MethodName := ⟨RX7, "make", "(IIII)V"⟩
abbrev cX7_testing : ByteArray := prog_9_method_37_code
def yX7_testing : MethodName := ⟨RX7, "testing", "(I)I"⟩
abbrev cX7_beginBody : ByteArray := prog_9_method_38_code
def yX7_beginBody : MethodName := ⟨RX7, "beginBody", "(IIII)V"⟩
abbrev cX7_innermost : ByteArray := prog_9_method_39_code
def yX7_innermost : MethodName := ⟨RX7, "innermost", "()I"⟩
abbrev cX7_leave : ByteArray := prog_9_method_40_code
def yX7_leave : MethodName := ⟨RX7, "leave", "(IZII)V"⟩
abbrev cX7_writeAct : ByteArray := prog_9_method_41_code
def yX7_writeAct : MethodName := ⟨RX7, "writeAct", "()V"⟩
abbrev cX7_writeStatement : ByteArray := prog_9_method_42_code
def yX7_writeStatement : MethodName := ⟨RX7, "writeStatement", "()V"⟩
abbrev cX7_close : ByteArray := prog_9_method_43_code
def yX7_close : MethodName := ⟨RX7, "close", "(II)V"⟩
abbrev cX7_endBody : ByteArray := prog_9_method_44_code
def yX7_endBody : MethodName := ⟨RX7, "endBody", "()V"⟩
abbrev cX7_write : ByteArray := prog_9_method_45_code
def yX7_write : MethodName := ⟨RX7, "write", "()I"⟩
abbrev cX7_fault : ByteArray := prog_9_method_46_code
def yX7_fault : MethodName := ⟨RX7, "fault", "()I"⟩
abbrev cX7_like : ByteArray := prog_9_method_47_code
def yX7_like : MethodName := ⟨RX7, "like", "(II)I"⟩
abbrev cX7_set : ByteArray := prog_9_method_48_code
def yX7_set : MethodName := ⟨RX7, "set", "(II)I"⟩
abbrev cX7_isSo : ByteArray := prog_9_method_49_code
def yX7_isSo : MethodName := ⟨RX7, "isSo", "(II)Z"⟩
abbrev cX7_run : ByteArray := prog_9_method_50_code
def yX7_run : MethodName := ⟨RX7, "run", "(II)I"⟩
abbrev cX7_ran : ByteArray := prog_9_method_51_code
def yX7_ran : MethodName := ⟨RX7, "ran", "(I)I"⟩
abbrev cX7_out : ByteArray := prog_9_method_52_code
def yX7_out : MethodName := ⟨RX7, "out", "(I)I"⟩
def RL : String := "StoryDecompileLaw"
abbrev cL_law : ByteArray := code
def yL_law : MethodName := ⟨RL, "law", "([I)Z"⟩
abbrev vwCl : List vw_C := [(RX0, TX0, 4), (RX1, TX1, 9), (RX2, TX2, 6), (RX3, TX3, 8), (RX4, TX4, 12), (RX5, TX5, 16), (RX6, TX6, 11), (RX7, TX7, 54)]
end
section
theorem dX0_init_0 : decode cX0_init 0 = .ok (.aload_n 0, 1) := by decide +kernel
theorem dX0_init_1 : decode cX0_init 1 = .ok (.invokespecial 3, 3) := by decide +kernel
theorem dX0_init_4 : decode cX0_init 4 = .ok (.aload_n 0, 1) := by decide +kernel
theorem dX0_init_5 : decode cX0_init 5 = .ok (.bipush 60, 2) := by decide +kernel
theorem dX0_init_7 : decode cX0_init 7 = .ok (.newarray .int, 2) := by decide +kernel
theorem dX0_init_9 : decode cX0_init 9 = .ok (.putfield 9, 3) := by decide +kernel
theorem dX0_init_12 : decode cX0_init 12 = .ok (.aload_n 0, 1) := by decide +kernel
theorem dX0_init_13 : decode cX0_init 13 = .ok (.bipush 60, 2) := by decide +kernel
theorem dX0_init_15 : decode cX0_init 15 = .ok (.newarray .int, 2) := by decide +kernel
theorem dX0_init_17 : decode cX0_init 17 = .ok (.putfield 15, 3) := by decide +kernel
theorem dX0_init_20 : decode cX0_init 20 = .ok (.aload_n 0, 1) := by decide +kernel
theorem dX0_init_21 : decode cX0_init 21 = .ok (.iconst 0, 1) := by decide +kernel
theorem dX0_init_22 : decode cX0_init 22 = .ok (.putfield 18, 3) := by decide +kernel
theorem dX0_init_25 : decode cX0_init 25 = .ok (.aload_n 0, 1) := by decide +kernel
theorem dX0_init_26 : decode cX0_init 26 = .ok (.iconst 0, 1) := by decide +kernel
theorem dX0_init_27 : decode cX0_init 27 = .ok (.putfield 22, 3) := by decide +kernel
theorem dX0_init_30 : decode cX0_init 30 = .ok (.return_, 1) := by decide +kernel
theorem dX0_explore_0 : decode cX0_explore 0 = .ok (.iconst 0, 1) := by decide +kernel
theorem dX0_explore_1 : decode cX0_explore 1 = .ok (.istore_n 2, 1) := by decide +kernel
theorem dX0_explore_2 : decode cX0_explore 2 = .ok (.iload_n 2, 1) := by decide +kernel
theorem dX0_explore_3 : decode cX0_explore 3 = .ok (.bipush 60, 2) := by decide +kernel
theorem dX0_explore_5 : decode cX0_explore 5 = .ok (.if_icmp .ge 16, 3) := by decide +kernel
theorem dX0_explore_8 : decode cX0_explore 8 = .ok (.aload_n 0, 1) := by decide +kernel
theorem dX0_explore_9 : decode cX0_explore 9 = .ok (.getfield 9, 3) := by decide +kernel
theorem dX0_explore_12 : decode cX0_explore 12 = .ok (.iload_n 2, 1) := by decide +kernel
theorem dX0_explore_13 : decode cX0_explore 13 = .ok (.iconst 0, 1) := by decide +kernel
theorem dX0_explore_14 : decode cX0_explore 14 = .ok (.iastore, 1) := by decide +kernel
theorem dX0_explore_15 : decode cX0_explore 15 = .ok (.iinc 2 1, 3) := by decide +kernel
theorem dX0_explore_18 : decode cX0_explore 18 = .ok (.goto (-16), 3) := by decide +kernel
theorem dX0_explore_21 : decode cX0_explore 21 = .ok (.aload_n 0, 1) := by decide +kernel
theorem dX0_explore_22 : decode cX0_explore 22 = .ok (.iconst 0, 1) := by decide +kernel
theorem dX0_explore_23 : decode cX0_explore 23 = .ok (.putfield 18, 3) := by decide +kernel
theorem dX0_explore_26 : decode cX0_explore 26 = .ok (.aload_n 0, 1) := by decide +kernel
theorem dX0_explore_27 : decode cX0_explore 27 = .ok (.iconst 0, 1) := by decide +kernel
theorem dX0_explore_28 : decode cX0_explore 28 = .ok (.putfield 22, 3) := by decide +kernel
theorem dX0_explore_31 : decode cX0_explore 31 = .ok (.aload_n 0, 1) := by decide +kernel
theorem dX0_explore_32 : decode cX0_explore 32 = .ok (.aload_n 1, 1) := by decide +kernel
theorem dX0_explore_33 : decode cX0_explore 33 = .ok (.iconst 0, 1) := by decide +kernel
theorem dX0_explore_34 : decode cX0_explore 34 = .ok (.invokevirtual 25, 3) := by decide +kernel
theorem dX0_explore_37 : decode cX0_explore 37 = .ok (.iconst 0, 1) := by decide +kernel
theorem dX0_explore_38 : decode cX0_explore 38 = .ok (.istore_n 2, 1) := by decide +kernel
theorem dX0_explore_39 : decode cX0_explore 39 = .ok (.iload_n 2, 1) := by decide +kernel
theorem dX0_explore_40 : decode cX0_explore 40 = .ok (.bipush 60, 2) := by decide +kernel
theorem dX0_explore_42 : decode cX0_explore 42 = .ok (.if_icmp .ge 40, 3) := by decide +kernel
theorem dX0_explore_45 : decode cX0_explore 45 = .ok (.aload_n 0, 1) := by decide +kernel
theorem dX0_explore_46 : decode cX0_explore 46 = .ok (.getfield 18, 3) := by decide +kernel
theorem dX0_explore_49 : decode cX0_explore 49 = .ok (.ifCond .le 33, 3) := by decide +kernel
theorem dX0_explore_52 : decode cX0_explore 52 = .ok (.aload_n 0, 1) := by decide +kernel
theorem dX0_explore_53 : decode cX0_explore 53 = .ok (.dup, 1) := by decide +kernel
theorem dX0_explore_54 : decode cX0_explore 54 = .ok (.getfield 18, 3) := by decide +kernel
theorem dX0_explore_57 : decode cX0_explore 57 = .ok (.iconst 1, 1) := by decide +kernel
theorem dX0_explore_58 : decode cX0_explore 58 = .ok (.isub, 1) := by decide +kernel
theorem dX0_explore_59 : decode cX0_explore 59 = .ok (.putfield 18, 3) := by decide +kernel
theorem dX0_explore_62 : decode cX0_explore 62 = .ok (.aload_n 0, 1) := by decide +kernel
theorem dX0_explore_63 : decode cX0_explore 63 = .ok (.aload_n 1, 1) := by decide +kernel
theorem dX0_explore_64 : decode cX0_explore 64 = .ok (.aload_n 0, 1) := by decide +kernel
theorem dX0_explore_65 : decode cX0_explore 65 = .ok (.getfield 15, 3) := by decide +kernel
theorem dX0_explore_68 : decode cX0_explore 68 = .ok (.aload_n 0, 1) := by decide +kernel
theorem dX0_explore_69 : decode cX0_explore 69 = .ok (.getfield 18, 3) := by decide +kernel
theorem dX0_explore_72 : decode cX0_explore 72 = .ok (.iaload, 1) := by decide +kernel
theorem dX0_explore_73 : decode cX0_explore 73 = .ok (.invokevirtual 29, 3) := by decide +kernel
theorem dX0_explore_76 : decode cX0_explore 76 = .ok (.iinc 2 1, 3) := by decide +kernel
theorem dX0_explore_79 : decode cX0_explore 79 = .ok (.goto (-40), 3) := by decide +kernel
theorem dX0_explore_82 : decode cX0_explore 82 = .ok (.return_, 1) := by decide +kernel
theorem dX0_follow_0 : decode cX0_follow 0 = .ok (.aload_n 1, 1) := by decide +kernel
theorem dX0_follow_1 : decode cX0_follow 1 = .ok (.getfield 32, 3) := by decide +kernel
theorem dX0_follow_4 : decode cX0_follow 4 = .ok (.iload_n 2, 1) := by decide +kernel
theorem dX0_follow_5 : decode cX0_follow 5 = .ok (.iaload, 1) := by decide +kernel
theorem dX0_follow_6 : decode cX0_follow 6 = .ok (.istore_n 3, 1) := by decide +kernel
theorem dX0_follow_7 : decode cX0_follow 7 = .ok (.iload_n 3, 1) := by decide +kernel
theorem dX0_follow_8 : decode cX0_follow 8 = .ok (.invokestatic 37, 3) := by decide +kernel
theorem dX0_follow_11 : decode cX0_follow 11 = .ok (.ifCond .eq 14, 3) := by decide +kernel
theorem dX0_follow_14 : decode cX0_follow 14 = .ok (.aload_n 0, 1) := by decide +kernel
theorem dX0_follow_15 : decode cX0_follow 15 = .ok (.aload_n 1, 1) := by decide +kernel
theorem dX0_follow_16 : decode cX0_follow 16 = .ok (.aload_n 1, 1) := by decide +kernel
theorem dX0_follow_17 : decode cX0_follow 17 = .ok (.getfield 41, 3) := by decide +kernel
theorem dX0_follow_20 : decode cX0_follow 20 = .ok (.iload_n 2, 1) := by decide +kernel
theorem dX0_follow_21 : decode cX0_follow 21 = .ok (.iaload, 1) := by decide +kernel
theorem dX0_follow_22 : decode cX0_follow 22 = .ok (.invokevirtual 25, 3) := by decide +kernel
theorem dX0_follow_25 : decode cX0_follow 25 = .ok (.iload_n 3, 1) := by decide +kernel
theorem dX0_follow_26 : decode cX0_follow 26 = .ok (.iconst 2, 1) := by decide +kernel
theorem dX0_follow_27 : decode cX0_follow 27 = .ok (.if_icmp .eq 16, 3) := by decide +kernel
theorem dX0_follow_30 : decode cX0_follow 30 = .ok (.iload_n 3, 1) := by decide +kernel
theorem dX0_follow_31 : decode cX0_follow 31 = .ok (.iconst 4, 1) := by decide +kernel
theorem dX0_follow_32 : decode cX0_follow 32 = .ok (.if_icmp .eq 11, 3) := by decide +kernel
theorem dX0_follow_35 : decode cX0_follow 35 = .ok (.aload_n 0, 1) := by decide +kernel
theorem dX0_follow_36 : decode cX0_follow 36 = .ok (.aload_n 1, 1) := by decide +kernel
theorem dX0_follow_37 : decode cX0_follow 37 = .ok (.iload_n 2, 1) := by decide +kernel
theorem dX0_follow_38 : decode cX0_follow 38 = .ok (.iconst 1, 1) := by decide +kernel
theorem dX0_follow_39 : decode cX0_follow 39 = .ok (.iadd, 1) := by decide +kernel
theorem dX0_follow_40 : decode cX0_follow 40 = .ok (.invokevirtual 25, 3) := by decide +kernel
theorem dX0_follow_43 : decode cX0_follow 43 = .ok (.return_, 1) := by decide +kernel
theorem dX0_meet_0 : decode cX0_meet 0 = .ok (.aload_n 1, 1) := by decide +kernel
theorem dX0_meet_1 : decode cX0_meet 1 = .ok (.iload_n 2, 1) := by decide +kernel
theorem dX0_meet_2 : decode cX0_meet 2 = .ok (.invokevirtual 44, 3) := by decide +kernel
theorem dX0_meet_5 : decode cX0_meet 5 = .ok (.ifCond .eq 49, 3) := by decide +kernel
theorem dX0_meet_8 : decode cX0_meet 8 = .ok (.aload_n 0, 1) := by decide +kernel
theorem dX0_meet_9 : decode cX0_meet 9 = .ok (.getfield 9, 3) := by decide +kernel
theorem dX0_meet_12 : decode cX0_meet 12 = .ok (.iload_n 2, 1) := by decide +kernel
theorem dX0_meet_13 : decode cX0_meet 13 = .ok (.iaload, 1) := by decide +kernel
theorem dX0_meet_14 : decode cX0_meet 14 = .ok (.ifCond .ne 40, 3) := by decide +kernel
theorem dX0_meet_17 : decode cX0_meet 17 = .ok (.aload_n 0, 1) := by decide +kernel
theorem dX0_meet_18 : decode cX0_meet 18 = .ok (.getfield 9, 3) := by decide +kernel
theorem dX0_meet_21 : decode cX0_meet 21 = .ok (.iload_n 2, 1) := by decide +kernel
theorem dX0_meet_22 : decode cX0_meet 22 = .ok (.iconst 1, 1) := by decide +kernel
theorem dX0_meet_23 : decode cX0_meet 23 = .ok (.iastore, 1) := by decide +kernel
theorem dX0_meet_24 : decode cX0_meet 24 = .ok (.aload_n 0, 1) := by decide +kernel
theorem dX0_meet_25 : decode cX0_meet 25 = .ok (.dup, 1) := by decide +kernel
theorem dX0_meet_26 : decode cX0_meet 26 = .ok (.getfield 22, 3) := by decide +kernel
theorem dX0_meet_29 : decode cX0_meet 29 = .ok (.iconst 1, 1) := by decide +kernel
theorem dX0_meet_30 : decode cX0_meet 30 = .ok (.iadd, 1) := by decide +kernel
theorem dX0_meet_31 : decode cX0_meet 31 = .ok (.putfield 22, 3) := by decide +kernel
theorem dX0_meet_34 : decode cX0_meet 34 = .ok (.aload_n 0, 1) := by decide +kernel
theorem dX0_meet_35 : decode cX0_meet 35 = .ok (.getfield 15, 3) := by decide +kernel
theorem dX0_meet_38 : decode cX0_meet 38 = .ok (.aload_n 0, 1) := by decide +kernel
theorem dX0_meet_39 : decode cX0_meet 39 = .ok (.getfield 18, 3) := by decide +kernel
theorem dX0_meet_42 : decode cX0_meet 42 = .ok (.iload_n 2, 1) := by decide +kernel
theorem dX0_meet_43 : decode cX0_meet 43 = .ok (.iastore, 1) := by decide +kernel
theorem dX0_meet_44 : decode cX0_meet 44 = .ok (.aload_n 0, 1) := by decide +kernel
theorem dX0_meet_45 : decode cX0_meet 45 = .ok (.dup, 1) := by decide +kernel
theorem dX0_meet_46 : decode cX0_meet 46 = .ok (.getfield 18, 3) := by decide +kernel
theorem dX0_meet_49 : decode cX0_meet 49 = .ok (.iconst 1, 1) := by decide +kernel
theorem dX0_meet_50 : decode cX0_meet 50 = .ok (.iadd, 1) := by decide +kernel
theorem dX0_meet_51 : decode cX0_meet 51 = .ok (.putfield 18, 3) := by decide +kernel
theorem dX0_meet_54 : decode cX0_meet 54 = .ok (.return_, 1) := by decide +kernel
theorem dX1_init_0 : decode cX1_init 0 = .ok (.aload_n 0, 1) := by decide +kernel
theorem dX1_init_1 : decode cX1_init 1 = .ok (.invokespecial 3, 3) := by decide +kernel
theorem dX1_init_4 : decode cX1_init 4 = .ok (.aload_n 0, 1) := by decide +kernel
theorem dX1_init_5 : decode cX1_init 5 = .ok (.new 9, 3) := by decide +kernel
theorem dX1_init_8 : decode cX1_init 8 = .ok (.dup, 1) := by decide +kernel
theorem dX1_init_9 : decode cX1_init 9 = .ok (.invokespecial 11, 3) := by decide +kernel
theorem dX1_init_12 : decode cX1_init 12 = .ok (.putfield 12, 3) := by decide +kernel
theorem dX1_init_15 : decode cX1_init 15 = .ok (.aload_n 0, 1) := by decide +kernel
theorem dX1_init_16 : decode cX1_init 16 = .ok (.aconst_null, 1) := by decide +kernel
theorem dX1_init_17 : decode cX1_init 17 = .ok (.putfield 18, 3) := by decide +kernel
theorem dX1_init_20 : decode cX1_init 20 = .ok (.aload_n 0, 1) := by decide +kernel
theorem dX1_init_21 : decode cX1_init 21 = .ok (.iconst 0, 1) := by decide +kernel
theorem dX1_init_22 : decode cX1_init 22 = .ok (.putfield 22, 3) := by decide +kernel
theorem dX1_init_25 : decode cX1_init 25 = .ok (.aload_n 0, 1) := by decide +kernel
theorem dX1_init_26 : decode cX1_init 26 = .ok (.bipush 61, 2) := by decide +kernel
theorem dX1_init_28 : decode cX1_init 28 = .ok (.newarray .int, 2) := by decide +kernel
theorem dX1_init_30 : decode cX1_init 30 = .ok (.putfield 26, 3) := by decide +kernel
theorem dX1_init_33 : decode cX1_init 33 = .ok (.aload_n 0, 1) := by decide +kernel
theorem dX1_init_34 : decode cX1_init 34 = .ok (.bipush 61, 2) := by decide +kernel
theorem dX1_init_36 : decode cX1_init 36 = .ok (.newarray .int, 2) := by decide +kernel
theorem dX1_init_38 : decode cX1_init 38 = .ok (.putfield 30, 3) := by decide +kernel
theorem dX1_init_41 : decode cX1_init 41 = .ok (.aload_n 0, 1) := by decide +kernel
theorem dX1_init_42 : decode cX1_init 42 = .ok (.bipush 61, 2) := by decide +kernel
theorem dX1_init_44 : decode cX1_init 44 = .ok (.newarray .int, 2) := by decide +kernel
theorem dX1_init_46 : decode cX1_init 46 = .ok (.putfield 33, 3) := by decide +kernel
theorem dX1_init_49 : decode cX1_init 49 = .ok (.aload_n 0, 1) := by decide +kernel
theorem dX1_init_50 : decode cX1_init 50 = .ok (.bipush 61, 2) := by decide +kernel
theorem dX1_init_52 : decode cX1_init 52 = .ok (.newarray .int, 2) := by decide +kernel
theorem dX1_init_54 : decode cX1_init 54 = .ok (.putfield 36, 3) := by decide +kernel
theorem dX1_init_57 : decode cX1_init 57 = .ok (.aload_n 0, 1) := by decide +kernel
theorem dX1_init_58 : decode cX1_init 58 = .ok (.bipush 61, 2) := by decide +kernel
theorem dX1_init_60 : decode cX1_init 60 = .ok (.newarray .int, 2) := by decide +kernel
theorem dX1_init_62 : decode cX1_init 62 = .ok (.putfield 39, 3) := by decide +kernel
theorem dX1_init_65 : decode cX1_init 65 = .ok (.aload_n 0, 1) := by decide +kernel
theorem dX1_init_66 : decode cX1_init 66 = .ok (.bipush 61, 2) := by decide +kernel
theorem dX1_init_68 : decode cX1_init 68 = .ok (.newarray .int, 2) := by decide +kernel
theorem dX1_init_70 : decode cX1_init 70 = .ok (.putfield 42, 3) := by decide +kernel
theorem dX1_init_73 : decode cX1_init 73 = .ok (.return_, 1) := by decide +kernel
theorem dX1_readWhole_0 : decode cX1_readWhole 0 = .ok (.aload_n 0, 1) := by decide +kernel
theorem dX1_readWhole_1 : decode cX1_readWhole 1 = .ok (.aload_n 1, 1) := by decide +kernel
theorem dX1_readWhole_2 : decode cX1_readWhole 2 = .ok (.putfield 18, 3) := by decide +kernel
theorem dX1_readWhole_5 : decode cX1_readWhole 5 = .ok (.aload_n 0, 1) := by decide +kernel
theorem dX1_readWhole_6 : decode cX1_readWhole 6 = .ok (.getfield 12, 3) := by decide +kernel
theorem dX1_readWhole_9 : decode cX1_readWhole 9 = .ok (.invokevirtual 45, 3) := by decide +kernel
theorem dX1_readWhole_12 : decode cX1_readWhole 12 = .ok (.aload_n 0, 1) := by decide +kernel
theorem dX1_readWhole_13 : decode cX1_readWhole 13 = .ok (.iconst 0, 1) := by decide +kernel
theorem dX1_readWhole_14 : decode cX1_readWhole 14 = .ok (.putfield 22, 3) := by decide +kernel
theorem dX1_readWhole_17 : decode cX1_readWhole 17 = .ok (.aload_n 0, 1) := by decide +kernel
theorem dX1_readWhole_18 : decode cX1_readWhole 18 = .ok (.iconst (-1), 1) := by decide +kernel
theorem dX1_readWhole_19 : decode cX1_readWhole 19 = .ok (.iconst (-1), 1) := by decide +kernel
theorem dX1_readWhole_20 : decode cX1_readWhole 20 = .ok (.aload_n 1, 1) := by decide +kernel
theorem dX1_readWhole_21 : decode cX1_readWhole 21 = .ok (.getfield 48, 3) := by decide +kernel
theorem dX1_readWhole_24 : decode cX1_readWhole 24 = .ok (.iconst (-1), 1) := by decide +kernel
theorem dX1_readWhole_25 : decode cX1_readWhole 25 = .ok (.iconst (-1), 1) := by decide +kernel
theorem dX1_readWhole_26 : decode cX1_readWhole 26 = .ok (.invokevirtual 53, 3) := by decide +kernel
theorem dX1_readWhole_29 : decode cX1_readWhole 29 = .ok (.iconst 0, 1) := by decide +kernel
theorem dX1_readWhole_30 : decode cX1_readWhole 30 = .ok (.istore_n 2, 1) := by decide +kernel
theorem dX1_readWhole_31 : decode cX1_readWhole 31 = .ok (.iconst 0, 1) := by decide +kernel
theorem dX1_readWhole_32 : decode cX1_readWhole 32 = .ok (.istore_n 3, 1) := by decide +kernel
theorem dX1_readWhole_33 : decode cX1_readWhole 33 = .ok (.iload_n 3, 1) := by decide +kernel
theorem dX1_readWhole_34 : decode cX1_readWhole 34 = .ok (.sipush 181, 3) := by decide +kernel
theorem dX1_readWhole_37 : decode cX1_readWhole 37 = .ok (.if_icmp .ge 45, 3) := by decide +kernel
theorem dX1_readWhole_40 : decode cX1_readWhole 40 = .ok (.aload_n 0, 1) := by decide +kernel
theorem dX1_readWhole_41 : decode cX1_readWhole 41 = .ok (.getfield 22, 3) := by decide +kernel
theorem dX1_readWhole_44 : decode cX1_readWhole 44 = .ok (.ifCond .le 38, 3) := by decide +kernel
theorem dX1_readWhole_47 : decode cX1_readWhole 47 = .ok (.iload_n 2, 1) := by decide +kernel
theorem dX1_readWhole_48 : decode cX1_readWhole 48 = .ok (.aload_n 0, 1) := by decide +kernel
theorem dX1_readWhole_49 : decode cX1_readWhole 49 = .ok (.getfield 26, 3) := by decide +kernel
theorem dX1_readWhole_52 : decode cX1_readWhole 52 = .ok (.aload_n 0, 1) := by decide +kernel
theorem dX1_readWhole_53 : decode cX1_readWhole 53 = .ok (.getfield 22, 3) := by decide +kernel
theorem dX1_readWhole_56 : decode cX1_readWhole 56 = .ok (.iconst 1, 1) := by decide +kernel
theorem dX1_readWhole_57 : decode cX1_readWhole 57 = .ok (.isub, 1) := by decide +kernel
theorem dX1_readWhole_58 : decode cX1_readWhole 58 = .ok (.iaload, 1) := by decide +kernel
theorem dX1_readWhole_59 : decode cX1_readWhole 59 = .ok (.if_icmp .ge 11, 3) := by decide +kernel
theorem dX1_readWhole_62 : decode cX1_readWhole 62 = .ok (.aload_n 0, 1) := by decide +kernel
theorem dX1_readWhole_63 : decode cX1_readWhole 63 = .ok (.iload_n 2, 1) := by decide +kernel
theorem dX1_readWhole_64 : decode cX1_readWhole 64 = .ok (.invokevirtual 57, 3) := by decide +kernel
theorem dX1_readWhole_67 : decode cX1_readWhole 67 = .ok (.goto 8, 3) := by decide +kernel
theorem dX1_readWhole_70 : decode cX1_readWhole 70 = .ok (.aload_n 0, 1) := by decide +kernel
theorem dX1_readWhole_71 : decode cX1_readWhole 71 = .ok (.iload_n 2, 1) := by decide +kernel
theorem dX1_readWhole_72 : decode cX1_readWhole 72 = .ok (.invokevirtual 61, 3) := by decide +kernel
theorem dX1_readWhole_75 : decode cX1_readWhole 75 = .ok (.istore_n 2, 1) := by decide +kernel
theorem dX1_readWhole_76 : decode cX1_readWhole 76 = .ok (.iinc 3 1, 3) := by decide +kernel
theorem dX1_readWhole_79 : decode cX1_readWhole 79 = .ok (.goto (-46), 3) := by decide +kernel
theorem dX1_readWhole_82 : decode cX1_readWhole 82 = .ok (.return_, 1) := by decide +kernel
theorem dX1_openBody_0 : decode cX1_openBody 0 = .ok (.aload_n 0, 1) := by decide +kernel
theorem dX1_openBody_1 : decode cX1_openBody 1 = .ok (.getfield 22, 3) := by decide +kernel
theorem dX1_openBody_4 : decode cX1_openBody 4 = .ok (.bipush 61, 2) := by decide +kernel
theorem dX1_openBody_6 : decode cX1_openBody 6 = .ok (.if_icmp .lt 4, 3) := by decide +kernel
theorem dX1_openBody_9 : decode cX1_openBody 9 = .ok (.return_, 1) := by decide +kernel
theorem dX1_openBody_10 : decode cX1_openBody 10 = .ok (.aload_n 0, 1) := by decide +kernel
theorem dX1_openBody_11 : decode cX1_openBody 11 = .ok (.getfield 36, 3) := by decide +kernel
theorem dX1_openBody_14 : decode cX1_openBody 14 = .ok (.aload_n 0, 1) := by decide +kernel
theorem dX1_openBody_15 : decode cX1_openBody 15 = .ok (.getfield 22, 3) := by decide +kernel
theorem dX1_openBody_18 : decode cX1_openBody 18 = .ok (.iload_n 1, 1) := by decide +kernel
theorem dX1_openBody_19 : decode cX1_openBody 19 = .ok (.iastore, 1) := by decide +kernel
theorem dX1_openBody_20 : decode cX1_openBody 20 = .ok (.aload_n 0, 1) := by decide +kernel
theorem dX1_openBody_21 : decode cX1_openBody 21 = .ok (.getfield 39, 3) := by decide +kernel
theorem dX1_openBody_24 : decode cX1_openBody 24 = .ok (.aload_n 0, 1) := by decide +kernel
theorem dX1_openBody_25 : decode cX1_openBody 25 = .ok (.getfield 22, 3) := by decide +kernel
theorem dX1_openBody_28 : decode cX1_openBody 28 = .ok (.iload_n 2, 1) := by decide +kernel
theorem dX1_openBody_29 : decode cX1_openBody 29 = .ok (.iastore, 1) := by decide +kernel
theorem dX1_openBody_30 : decode cX1_openBody 30 = .ok (.aload_n 0, 1) := by decide +kernel
theorem dX1_openBody_31 : decode cX1_openBody 31 = .ok (.getfield 26, 3) := by decide +kernel
theorem dX1_openBody_34 : decode cX1_openBody 34 = .ok (.aload_n 0, 1) := by decide +kernel
theorem dX1_openBody_35 : decode cX1_openBody 35 = .ok (.getfield 22, 3) := by decide +kernel
theorem dX1_openBody_38 : decode cX1_openBody 38 = .ok (.iload_n 3, 1) := by decide +kernel
theorem dX1_openBody_39 : decode cX1_openBody 39 = .ok (.iastore, 1) := by decide +kernel
theorem dX1_openBody_40 : decode cX1_openBody 40 = .ok (.aload_n 0, 1) := by decide +kernel
theorem dX1_openBody_41 : decode cX1_openBody 41 = .ok (.getfield 30, 3) := by decide +kernel
theorem dX1_openBody_44 : decode cX1_openBody 44 = .ok (.aload_n 0, 1) := by decide +kernel
theorem dX1_openBody_45 : decode cX1_openBody 45 = .ok (.getfield 22, 3) := by decide +kernel
theorem dX1_openBody_48 : decode cX1_openBody 48 = .ok (.iload 4, 2) := by decide +kernel
theorem dX1_openBody_50 : decode cX1_openBody 50 = .ok (.iastore, 1) := by decide +kernel
theorem dX1_openBody_51 : decode cX1_openBody 51 = .ok (.aload_n 0, 1) := by decide +kernel
theorem dX1_openBody_52 : decode cX1_openBody 52 = .ok (.getfield 33, 3) := by decide +kernel
theorem dX1_openBody_55 : decode cX1_openBody 55 = .ok (.aload_n 0, 1) := by decide +kernel
theorem dX1_openBody_56 : decode cX1_openBody 56 = .ok (.getfield 22, 3) := by decide +kernel
theorem dX1_openBody_59 : decode cX1_openBody 59 = .ok (.iload 5, 2) := by decide +kernel
theorem dX1_openBody_61 : decode cX1_openBody 61 = .ok (.iastore, 1) := by decide +kernel
theorem dX1_openBody_62 : decode cX1_openBody 62 = .ok (.aload_n 0, 1) := by decide +kernel
theorem dX1_openBody_63 : decode cX1_openBody 63 = .ok (.getfield 42, 3) := by decide +kernel
theorem dX1_openBody_66 : decode cX1_openBody 66 = .ok (.aload_n 0, 1) := by decide +kernel
theorem dX1_openBody_67 : decode cX1_openBody 67 = .ok (.getfield 22, 3) := by decide +kernel
theorem dX1_openBody_70 : decode cX1_openBody 70 = .ok (.aload_n 0, 1) := by decide +kernel
theorem dX1_openBody_71 : decode cX1_openBody 71 = .ok (.getfield 12, 3) := by decide +kernel
theorem dX1_openBody_74 : decode cX1_openBody 74 = .ok (.getfield 64, 3) := by decide +kernel
theorem dX1_openBody_77 : decode cX1_openBody 77 = .ok (.iastore, 1) := by decide +kernel
theorem dX1_openBody_78 : decode cX1_openBody 78 = .ok (.aload_n 0, 1) := by decide +kernel
theorem dX1_openBody_79 : decode cX1_openBody 79 = .ok (.getfield 12, 3) := by decide +kernel
theorem dX1_openBody_82 : decode cX1_openBody 82 = .ok (.iconst 0, 1) := by decide +kernel
theorem dX1_openBody_83 : decode cX1_openBody 83 = .ok (.invokevirtual 67, 3) := by decide +kernel
theorem dX1_openBody_86 : decode cX1_openBody 86 = .ok (.aload_n 0, 1) := by decide +kernel
theorem dX1_openBody_87 : decode cX1_openBody 87 = .ok (.dup, 1) := by decide +kernel
theorem dX1_openBody_88 : decode cX1_openBody 88 = .ok (.getfield 22, 3) := by decide +kernel
theorem dX1_openBody_91 : decode cX1_openBody 91 = .ok (.iconst 1, 1) := by decide +kernel
theorem dX1_openBody_92 : decode cX1_openBody 92 = .ok (.iadd, 1) := by decide +kernel
theorem dX1_openBody_93 : decode cX1_openBody 93 = .ok (.putfield 22, 3) := by decide +kernel
theorem dX1_openBody_96 : decode cX1_openBody 96 = .ok (.aload_n 0, 1) := by decide +kernel
theorem dX1_openBody_97 : decode cX1_openBody 97 = .ok (.getfield 12, 3) := by decide +kernel
theorem dX1_openBody_100 : decode cX1_openBody 100 = .ok (.aload_n 0, 1) := by decide +kernel
theorem dX1_openBody_101 : decode cX1_openBody 101 = .ok (.getfield 12, 3) := by decide +kernel
theorem dX1_openBody_104 : decode cX1_openBody 104 = .ok (.getfield 71, 3) := by decide +kernel
theorem dX1_openBody_107 : decode cX1_openBody 107 = .ok (.aload_n 0, 1) := by decide +kernel
theorem dX1_openBody_108 : decode cX1_openBody 108 = .ok (.getfield 22, 3) := by decide +kernel
theorem dX1_openBody_111 : decode cX1_openBody 111 = .ok (.invokestatic 74, 3) := by decide +kernel
theorem dX1_openBody_114 : decode cX1_openBody 114 = .ok (.putfield 71, 3) := by decide +kernel
theorem dX1_openBody_117 : decode cX1_openBody 117 = .ok (.return_, 1) := by decide +kernel
theorem dX1_closeBody_0 : decode cX1_closeBody 0 = .ok (.aload_n 0, 1) := by decide +kernel
theorem dX1_closeBody_1 : decode cX1_closeBody 1 = .ok (.dup, 1) := by decide +kernel
theorem dX1_closeBody_2 : decode cX1_closeBody 2 = .ok (.getfield 22, 3) := by decide +kernel
theorem dX1_closeBody_5 : decode cX1_closeBody 5 = .ok (.iconst 1, 1) := by decide +kernel
theorem dX1_closeBody_6 : decode cX1_closeBody 6 = .ok (.isub, 1) := by decide +kernel
theorem dX1_closeBody_7 : decode cX1_closeBody 7 = .ok (.putfield 22, 3) := by decide +kernel
theorem dX1_closeBody_10 : decode cX1_closeBody 10 = .ok (.aload_n 0, 1) := by decide +kernel
theorem dX1_closeBody_11 : decode cX1_closeBody 11 = .ok (.getfield 36, 3) := by decide +kernel
theorem dX1_closeBody_14 : decode cX1_closeBody 14 = .ok (.aload_n 0, 1) := by decide +kernel
theorem dX1_closeBody_15 : decode cX1_closeBody 15 = .ok (.getfield 22, 3) := by decide +kernel
theorem dX1_closeBody_18 : decode cX1_closeBody 18 = .ok (.iaload, 1) := by decide +kernel
theorem dX1_closeBody_19 : decode cX1_closeBody 19 = .ok (.istore_n 2, 1) := by decide +kernel
theorem dX1_closeBody_20 : decode cX1_closeBody 20 = .ok (.iload_n 2, 1) := by decide +kernel
theorem dX1_closeBody_21 : decode cX1_closeBody 21 = .ok (.iconst (-1), 1) := by decide +kernel
theorem dX1_closeBody_22 : decode cX1_closeBody 22 = .ok (.if_icmp .ne 5, 3) := by decide +kernel
theorem dX1_closeBody_25 : decode cX1_closeBody 25 = .ok (.iload_n 1, 1) := by decide +kernel
theorem dX1_closeBody_26 : decode cX1_closeBody 26 = .ok (.ireturn, 1) := by decide +kernel
theorem dX1_closeBody_27 : decode cX1_closeBody 27 = .ok (.aload_n 0, 1) := by decide +kernel
theorem dX1_closeBody_28 : decode cX1_closeBody 28 = .ok (.getfield 12, 3) := by decide +kernel
theorem dX1_closeBody_31 : decode cX1_closeBody 31 = .ok (.getfield 80, 3) := by decide +kernel
theorem dX1_closeBody_34 : decode cX1_closeBody 34 = .ok (.iload_n 2, 1) := by decide +kernel
theorem dX1_closeBody_35 : decode cX1_closeBody 35 = .ok (.iaload, 1) := by decide +kernel
theorem dX1_closeBody_36 : decode cX1_closeBody 36 = .ok (.iconst 2, 1) := by decide +kernel
theorem dX1_closeBody_37 : decode cX1_closeBody 37 = .ok (.if_icmp .ne 52, 3) := by decide +kernel
theorem dX1_closeBody_40 : decode cX1_closeBody 40 = .ok (.aload_n 0, 1) := by decide +kernel
theorem dX1_closeBody_41 : decode cX1_closeBody 41 = .ok (.getfield 39, 3) := by decide +kernel
theorem dX1_closeBody_44 : decode cX1_closeBody 44 = .ok (.aload_n 0, 1) := by decide +kernel
theorem dX1_closeBody_45 : decode cX1_closeBody 45 = .ok (.getfield 22, 3) := by decide +kernel
theorem dX1_closeBody_48 : decode cX1_closeBody 48 = .ok (.iaload, 1) := by decide +kernel
theorem dX1_closeBody_49 : decode cX1_closeBody 49 = .ok (.ifCond .ne 40, 3) := by decide +kernel
theorem dX1_closeBody_52 : decode cX1_closeBody 52 = .ok (.aload_n 0, 1) := by decide +kernel
theorem dX1_closeBody_53 : decode cX1_closeBody 53 = .ok (.iload_n 2, 1) := by decide +kernel
theorem dX1_closeBody_54 : decode cX1_closeBody 54 = .ok (.iconst 1, 1) := by decide +kernel
theorem dX1_closeBody_55 : decode cX1_closeBody 55 = .ok (.aload_n 0, 1) := by decide +kernel
theorem dX1_closeBody_56 : decode cX1_closeBody 56 = .ok (.getfield 12, 3) := by decide +kernel
theorem dX1_closeBody_59 : decode cX1_closeBody 59 = .ok (.getfield 83, 3) := by decide +kernel
theorem dX1_closeBody_62 : decode cX1_closeBody 62 = .ok (.iload_n 2, 1) := by decide +kernel
theorem dX1_closeBody_63 : decode cX1_closeBody 63 = .ok (.iaload, 1) := by decide +kernel
theorem dX1_closeBody_64 : decode cX1_closeBody 64 = .ok (.aload_n 0, 1) := by decide +kernel
theorem dX1_closeBody_65 : decode cX1_closeBody 65 = .ok (.getfield 30, 3) := by decide +kernel
theorem dX1_closeBody_68 : decode cX1_closeBody 68 = .ok (.aload_n 0, 1) := by decide +kernel
theorem dX1_closeBody_69 : decode cX1_closeBody 69 = .ok (.getfield 22, 3) := by decide +kernel
theorem dX1_closeBody_72 : decode cX1_closeBody 72 = .ok (.iaload, 1) := by decide +kernel
theorem dX1_closeBody_73 : decode cX1_closeBody 73 = .ok (.aload_n 0, 1) := by decide +kernel
theorem dX1_closeBody_74 : decode cX1_closeBody 74 = .ok (.getfield 33, 3) := by decide +kernel
theorem dX1_closeBody_77 : decode cX1_closeBody 77 = .ok (.aload_n 0, 1) := by decide +kernel
theorem dX1_closeBody_78 : decode cX1_closeBody 78 = .ok (.getfield 22, 3) := by decide +kernel
theorem dX1_closeBody_81 : decode cX1_closeBody 81 = .ok (.iaload, 1) := by decide +kernel
theorem dX1_closeBody_82 : decode cX1_closeBody 82 = .ok (.invokevirtual 53, 3) := by decide +kernel
theorem dX1_closeBody_85 : decode cX1_closeBody 85 = .ok (.iload_n 1, 1) := by decide +kernel
theorem dX1_closeBody_86 : decode cX1_closeBody 86 = .ok (.iconst 1, 1) := by decide +kernel
theorem dX1_closeBody_87 : decode cX1_closeBody 87 = .ok (.iadd, 1) := by decide +kernel
theorem dX1_closeBody_88 : decode cX1_closeBody 88 = .ok (.ireturn, 1) := by decide +kernel
theorem dX1_closeBody_89 : decode cX1_closeBody 89 = .ok (.aload_n 0, 1) := by decide +kernel
theorem dX1_closeBody_90 : decode cX1_closeBody 90 = .ok (.getfield 12, 3) := by decide +kernel
theorem dX1_closeBody_93 : decode cX1_closeBody 93 = .ok (.getfield 86, 3) := by decide +kernel
theorem dX1_closeBody_96 : decode cX1_closeBody 96 = .ok (.iload_n 2, 1) := by decide +kernel
theorem dX1_closeBody_97 : decode cX1_closeBody 97 = .ok (.aload_n 0, 1) := by decide +kernel
theorem dX1_closeBody_98 : decode cX1_closeBody 98 = .ok (.getfield 12, 3) := by decide +kernel
theorem dX1_closeBody_101 : decode cX1_closeBody 101 = .ok (.getfield 89, 3) := by decide +kernel
theorem dX1_closeBody_104 : decode cX1_closeBody 104 = .ok (.iload_n 2, 1) := by decide +kernel
theorem dX1_closeBody_105 : decode cX1_closeBody 105 = .ok (.isub, 1) := by decide +kernel
theorem dX1_closeBody_106 : decode cX1_closeBody 106 = .ok (.iconst 1, 1) := by decide +kernel
theorem dX1_closeBody_107 : decode cX1_closeBody 107 = .ok (.isub, 1) := by decide +kernel
theorem dX1_closeBody_108 : decode cX1_closeBody 108 = .ok (.iastore, 1) := by decide +kernel
theorem dX1_closeBody_109 : decode cX1_closeBody 109 = .ok (.aload_n 0, 1) := by decide +kernel
theorem dX1_closeBody_110 : decode cX1_closeBody 110 = .ok (.getfield 12, 3) := by decide +kernel
theorem dX1_closeBody_113 : decode cX1_closeBody 113 = .ok (.getfield 83, 3) := by decide +kernel
theorem dX1_closeBody_116 : decode cX1_closeBody 116 = .ok (.iload_n 2, 1) := by decide +kernel
theorem dX1_closeBody_117 : decode cX1_closeBody 117 = .ok (.iaload, 1) := by decide +kernel
theorem dX1_closeBody_118 : decode cX1_closeBody 118 = .ok (.ireturn, 1) := by decide +kernel
theorem dX1_readStatement_0 : decode cX1_readStatement 0 = .ok (.aload_n 0, 1) := by decide +kernel
theorem dX1_readStatement_1 : decode cX1_readStatement 1 = .ok (.iload_n 1, 1) := by decide +kernel
theorem dX1_readStatement_2 : decode cX1_readStatement 2 = .ok (.invokevirtual 92, 3) := by decide +kernel
theorem dX1_readStatement_5 : decode cX1_readStatement 5 = .ok (.ifCond .eq 7, 3) := by decide +kernel
theorem dX1_readStatement_8 : decode cX1_readStatement 8 = .ok (.iconst (-1), 1) := by decide +kernel
theorem dX1_readStatement_9 : decode cX1_readStatement 9 = .ok (.goto 22, 3) := by decide +kernel
theorem dX1_readStatement_12 : decode cX1_readStatement 12 = .ok (.aload_n 0, 1) := by decide +kernel
theorem dX1_readStatement_13 : decode cX1_readStatement 13 = .ok (.getfield 18, 3) := by decide +kernel
theorem dX1_readStatement_16 : decode cX1_readStatement 16 = .ok (.iload_n 1, 1) := by decide +kernel
theorem dX1_readStatement_17 : decode cX1_readStatement 17 = .ok (.aload_n 0, 1) := by decide +kernel
theorem dX1_readStatement_18 : decode cX1_readStatement 18 = .ok (.getfield 26, 3) := by decide +kernel
theorem dX1_readStatement_21 : decode cX1_readStatement 21 = .ok (.aload_n 0, 1) := by decide +kernel
theorem dX1_readStatement_22 : decode cX1_readStatement 22 = .ok (.getfield 22, 3) := by decide +kernel
theorem dX1_readStatement_25 : decode cX1_readStatement 25 = .ok (.iconst 1, 1) := by decide +kernel
theorem dX1_readStatement_26 : decode cX1_readStatement 26 = .ok (.isub, 1) := by decide +kernel
theorem dX1_readStatement_27 : decode cX1_readStatement 27 = .ok (.iaload, 1) := by decide +kernel
theorem dX1_readStatement_28 : decode cX1_readStatement 28 = .ok (.invokevirtual 96, 3) := by decide +kernel
theorem dX1_readStatement_31 : decode cX1_readStatement 31 = .ok (.istore_n 2, 1) := by decide +kernel
theorem dX1_readStatement_32 : decode cX1_readStatement 32 = .ok (.iload_n 2, 1) := by decide +kernel
theorem dX1_readStatement_33 : decode cX1_readStatement 33 = .ok (.iconst (-1), 1) := by decide +kernel
theorem dX1_readStatement_34 : decode cX1_readStatement 34 = .ok (.if_icmp .eq 10, 3) := by decide +kernel
theorem dX1_readStatement_37 : decode cX1_readStatement 37 = .ok (.aload_n 0, 1) := by decide +kernel
theorem dX1_readStatement_38 : decode cX1_readStatement 38 = .ok (.iload_n 1, 1) := by decide +kernel
theorem dX1_readStatement_39 : decode cX1_readStatement 39 = .ok (.iload_n 2, 1) := by decide +kernel
theorem dX1_readStatement_40 : decode cX1_readStatement 40 = .ok (.invokevirtual 99, 3) := by decide +kernel
theorem dX1_readStatement_43 : decode cX1_readStatement 43 = .ok (.ireturn, 1) := by decide +kernel
theorem dX1_readStatement_44 : decode cX1_readStatement 44 = .ok (.aload_n 0, 1) := by decide +kernel
theorem dX1_readStatement_45 : decode cX1_readStatement 45 = .ok (.getfield 18, 3) := by decide +kernel
theorem dX1_readStatement_48 : decode cX1_readStatement 48 = .ok (.getfield 102, 3) := by decide +kernel
theorem dX1_readStatement_51 : decode cX1_readStatement 51 = .ok (.iload_n 1, 1) := by decide +kernel
theorem dX1_readStatement_52 : decode cX1_readStatement 52 = .ok (.iaload, 1) := by decide +kernel
theorem dX1_readStatement_53 : decode cX1_readStatement 53 = .ok (.lookupswitch 39 #[(2, 33), (3, 27)], 27) := by decide +kernel
theorem dX1_readStatement_80 : decode cX1_readStatement 80 = .ok (.aload_n 0, 1) := by decide +kernel
theorem dX1_readStatement_81 : decode cX1_readStatement 81 = .ok (.iload_n 1, 1) := by decide +kernel
theorem dX1_readStatement_82 : decode cX1_readStatement 82 = .ok (.invokevirtual 103, 3) := by decide +kernel
theorem dX1_readStatement_85 : decode cX1_readStatement 85 = .ok (.ireturn, 1) := by decide +kernel
theorem dX1_readStatement_86 : decode cX1_readStatement 86 = .ok (.aload_n 0, 1) := by decide +kernel
theorem dX1_readStatement_87 : decode cX1_readStatement 87 = .ok (.iload_n 1, 1) := by decide +kernel
theorem dX1_readStatement_88 : decode cX1_readStatement 88 = .ok (.invokevirtual 106, 3) := by decide +kernel
theorem dX1_readStatement_91 : decode cX1_readStatement 91 = .ok (.ireturn, 1) := by decide +kernel
theorem dX1_readStatement_92 : decode cX1_readStatement 92 = .ok (.aload_n 0, 1) := by decide +kernel
theorem dX1_readStatement_93 : decode cX1_readStatement 93 = .ok (.iload_n 1, 1) := by decide +kernel
theorem dX1_readStatement_94 : decode cX1_readStatement 94 = .ok (.invokevirtual 109, 3) := by decide +kernel
theorem dX1_readStatement_97 : decode cX1_readStatement 97 = .ok (.ireturn, 1) := by decide +kernel
theorem dX1_isLoopBegun_0 : decode cX1_isLoopBegun 0 = .ok (.aload_n 0, 1) := by decide +kernel
theorem dX1_isLoopBegun_1 : decode cX1_isLoopBegun 1 = .ok (.getfield 36, 3) := by decide +kernel
theorem dX1_isLoopBegun_4 : decode cX1_isLoopBegun 4 = .ok (.aload_n 0, 1) := by decide +kernel
theorem dX1_isLoopBegun_5 : decode cX1_isLoopBegun 5 = .ok (.getfield 22, 3) := by decide +kernel
theorem dX1_isLoopBegun_8 : decode cX1_isLoopBegun 8 = .ok (.iconst 1, 1) := by decide +kernel
theorem dX1_isLoopBegun_9 : decode cX1_isLoopBegun 9 = .ok (.isub, 1) := by decide +kernel
theorem dX1_isLoopBegun_10 : decode cX1_isLoopBegun 10 = .ok (.iaload, 1) := by decide +kernel
theorem dX1_isLoopBegun_11 : decode cX1_isLoopBegun 11 = .ok (.istore_n 2, 1) := by decide +kernel
theorem dX1_isLoopBegun_12 : decode cX1_isLoopBegun 12 = .ok (.iload_n 2, 1) := by decide +kernel
theorem dX1_isLoopBegun_13 : decode cX1_isLoopBegun 13 = .ok (.iconst (-1), 1) := by decide +kernel
theorem dX1_isLoopBegun_14 : decode cX1_isLoopBegun 14 = .ok (.if_icmp .eq 46, 3) := by decide +kernel
theorem dX1_isLoopBegun_17 : decode cX1_isLoopBegun 17 = .ok (.aload_n 0, 1) := by decide +kernel
theorem dX1_isLoopBegun_18 : decode cX1_isLoopBegun 18 = .ok (.getfield 12, 3) := by decide +kernel
theorem dX1_isLoopBegun_21 : decode cX1_isLoopBegun 21 = .ok (.getfield 112, 3) := by decide +kernel
theorem dX1_isLoopBegun_24 : decode cX1_isLoopBegun 24 = .ok (.iload_n 2, 1) := by decide +kernel
theorem dX1_isLoopBegun_25 : decode cX1_isLoopBegun 25 = .ok (.iaload, 1) := by decide +kernel
theorem dX1_isLoopBegun_26 : decode cX1_isLoopBegun 26 = .ok (.iload_n 1, 1) := by decide +kernel
theorem dX1_isLoopBegun_27 : decode cX1_isLoopBegun 27 = .ok (.if_icmp .ne 33, 3) := by decide +kernel
theorem dX1_isLoopBegun_30 : decode cX1_isLoopBegun 30 = .ok (.aload_n 0, 1) := by decide +kernel
theorem dX1_isLoopBegun_31 : decode cX1_isLoopBegun 31 = .ok (.getfield 12, 3) := by decide +kernel
theorem dX1_isLoopBegun_34 : decode cX1_isLoopBegun 34 = .ok (.getfield 80, 3) := by decide +kernel
theorem dX1_isLoopBegun_37 : decode cX1_isLoopBegun 37 = .ok (.iload_n 2, 1) := by decide +kernel
theorem dX1_isLoopBegun_38 : decode cX1_isLoopBegun 38 = .ok (.iaload, 1) := by decide +kernel
theorem dX1_isLoopBegun_39 : decode cX1_isLoopBegun 39 = .ok (.iconst 3, 1) := by decide +kernel
theorem dX1_isLoopBegun_40 : decode cX1_isLoopBegun 40 = .ok (.if_icmp .eq 16, 3) := by decide +kernel
theorem dX1_isLoopBegun_43 : decode cX1_isLoopBegun 43 = .ok (.aload_n 0, 1) := by decide +kernel
theorem dX1_isLoopBegun_44 : decode cX1_isLoopBegun 44 = .ok (.getfield 12, 3) := by decide +kernel
theorem dX1_isLoopBegun_47 : decode cX1_isLoopBegun 47 = .ok (.getfield 80, 3) := by decide +kernel
theorem dX1_isLoopBegun_50 : decode cX1_isLoopBegun 50 = .ok (.iload_n 2, 1) := by decide +kernel
theorem dX1_isLoopBegun_51 : decode cX1_isLoopBegun 51 = .ok (.iaload, 1) := by decide +kernel
theorem dX1_isLoopBegun_52 : decode cX1_isLoopBegun 52 = .ok (.iconst 5, 1) := by decide +kernel
theorem dX1_isLoopBegun_53 : decode cX1_isLoopBegun 53 = .ok (.if_icmp .ne 7, 3) := by decide +kernel
theorem dX1_isLoopBegun_56 : decode cX1_isLoopBegun 56 = .ok (.iconst 1, 1) := by decide +kernel
theorem dX1_isLoopBegun_57 : decode cX1_isLoopBegun 57 = .ok (.goto 4, 3) := by decide +kernel
theorem dX1_isLoopBegun_60 : decode cX1_isLoopBegun 60 = .ok (.iconst 0, 1) := by decide +kernel
theorem dX1_isLoopBegun_61 : decode cX1_isLoopBegun 61 = .ok (.ireturn, 1) := by decide +kernel
theorem dX1_readLoop_0 : decode cX1_readLoop 0 = .ok (.aload_n 0, 1) := by decide +kernel
theorem dX1_readLoop_1 : decode cX1_readLoop 1 = .ok (.getfield 18, 3) := by decide +kernel
theorem dX1_readLoop_4 : decode cX1_readLoop 4 = .ok (.getfield 102, 3) := by decide +kernel
theorem dX1_readLoop_7 : decode cX1_readLoop 7 = .ok (.iload_n 2, 1) := by decide +kernel
theorem dX1_readLoop_8 : decode cX1_readLoop 8 = .ok (.iaload, 1) := by decide +kernel
theorem dX1_readLoop_9 : decode cX1_readLoop 9 = .ok (.iconst 3, 1) := by decide +kernel
theorem dX1_readLoop_10 : decode cX1_readLoop 10 = .ok (.if_icmp .ne 32, 3) := by decide +kernel
theorem dX1_readLoop_13 : decode cX1_readLoop 13 = .ok (.aload_n 0, 1) := by decide +kernel
theorem dX1_readLoop_14 : decode cX1_readLoop 14 = .ok (.iconst 5, 1) := by decide +kernel
theorem dX1_readLoop_15 : decode cX1_readLoop 15 = .ok (.iload_n 1, 1) := by decide +kernel
theorem dX1_readLoop_16 : decode cX1_readLoop 16 = .ok (.iload_n 2, 1) := by decide +kernel
theorem dX1_readLoop_17 : decode cX1_readLoop 17 = .ok (.iconst 1, 1) := by decide +kernel
theorem dX1_readLoop_18 : decode cX1_readLoop 18 = .ok (.iadd, 1) := by decide +kernel
theorem dX1_readLoop_19 : decode cX1_readLoop 19 = .ok (.iload_n 2, 1) := by decide +kernel
theorem dX1_readLoop_20 : decode cX1_readLoop 20 = .ok (.invokevirtual 115, 3) := by decide +kernel
theorem dX1_readLoop_23 : decode cX1_readLoop 23 = .ok (.istore_n 3, 1) := by decide +kernel
theorem dX1_readLoop_24 : decode cX1_readLoop 24 = .ok (.aload_n 0, 1) := by decide +kernel
theorem dX1_readLoop_25 : decode cX1_readLoop 25 = .ok (.iload_n 2, 1) := by decide +kernel
theorem dX1_readLoop_26 : decode cX1_readLoop 26 = .ok (.invokevirtual 119, 3) := by decide +kernel
theorem dX1_readLoop_29 : decode cX1_readLoop 29 = .ok (.aload_n 0, 1) := by decide +kernel
theorem dX1_readLoop_30 : decode cX1_readLoop 30 = .ok (.iload_n 3, 1) := by decide +kernel
theorem dX1_readLoop_31 : decode cX1_readLoop 31 = .ok (.iconst 0, 1) := by decide +kernel
theorem dX1_readLoop_32 : decode cX1_readLoop 32 = .ok (.iload_n 2, 1) := by decide +kernel
theorem dX1_readLoop_33 : decode cX1_readLoop 33 = .ok (.iload_n 2, 1) := by decide +kernel
theorem dX1_readLoop_34 : decode cX1_readLoop 34 = .ok (.iconst 1, 1) := by decide +kernel
theorem dX1_readLoop_35 : decode cX1_readLoop 35 = .ok (.iadd, 1) := by decide +kernel
theorem dX1_readLoop_36 : decode cX1_readLoop 36 = .ok (.iload_n 2, 1) := by decide +kernel
theorem dX1_readLoop_37 : decode cX1_readLoop 37 = .ok (.invokevirtual 53, 3) := by decide +kernel
theorem dX1_readLoop_40 : decode cX1_readLoop 40 = .ok (.iload_n 1, 1) := by decide +kernel
theorem dX1_readLoop_41 : decode cX1_readLoop 41 = .ok (.ireturn, 1) := by decide +kernel
theorem dX1_readLoop_42 : decode cX1_readLoop 42 = .ok (.aload_n 0, 1) := by decide +kernel
theorem dX1_readLoop_43 : decode cX1_readLoop 43 = .ok (.getfield 18, 3) := by decide +kernel
theorem dX1_readLoop_46 : decode cX1_readLoop 46 = .ok (.getfield 102, 3) := by decide +kernel
theorem dX1_readLoop_49 : decode cX1_readLoop 49 = .ok (.iload_n 1, 1) := by decide +kernel
theorem dX1_readLoop_50 : decode cX1_readLoop 50 = .ok (.iaload, 1) := by decide +kernel
theorem dX1_readLoop_51 : decode cX1_readLoop 51 = .ok (.iconst 3, 1) := by decide +kernel
theorem dX1_readLoop_52 : decode cX1_readLoop 52 = .ok (.if_icmp .ne 59, 3) := by decide +kernel
theorem dX1_readLoop_55 : decode cX1_readLoop 55 = .ok (.aload_n 0, 1) := by decide +kernel
theorem dX1_readLoop_56 : decode cX1_readLoop 56 = .ok (.getfield 18, 3) := by decide +kernel
theorem dX1_readLoop_59 : decode cX1_readLoop 59 = .ok (.getfield 122, 3) := by decide +kernel
theorem dX1_readLoop_62 : decode cX1_readLoop 62 = .ok (.iload_n 1, 1) := by decide +kernel
theorem dX1_readLoop_63 : decode cX1_readLoop 63 = .ok (.iaload, 1) := by decide +kernel
theorem dX1_readLoop_64 : decode cX1_readLoop 64 = .ok (.iload_n 2, 1) := by decide +kernel
theorem dX1_readLoop_65 : decode cX1_readLoop 65 = .ok (.iconst 1, 1) := by decide +kernel
theorem dX1_readLoop_66 : decode cX1_readLoop 66 = .ok (.iadd, 1) := by decide +kernel
theorem dX1_readLoop_67 : decode cX1_readLoop 67 = .ok (.if_icmp .ne 44, 3) := by decide +kernel
theorem dX1_readLoop_70 : decode cX1_readLoop 70 = .ok (.aload_n 0, 1) := by decide +kernel
theorem dX1_readLoop_71 : decode cX1_readLoop 71 = .ok (.iconst 4, 1) := by decide +kernel
theorem dX1_readLoop_72 : decode cX1_readLoop 72 = .ok (.iload_n 1, 1) := by decide +kernel
theorem dX1_readLoop_73 : decode cX1_readLoop 73 = .ok (.iload_n 2, 1) := by decide +kernel
theorem dX1_readLoop_74 : decode cX1_readLoop 74 = .ok (.iconst 1, 1) := by decide +kernel
theorem dX1_readLoop_75 : decode cX1_readLoop 75 = .ok (.iadd, 1) := by decide +kernel
theorem dX1_readLoop_76 : decode cX1_readLoop 76 = .ok (.iload_n 2, 1) := by decide +kernel
theorem dX1_readLoop_77 : decode cX1_readLoop 77 = .ok (.invokevirtual 115, 3) := by decide +kernel
theorem dX1_readLoop_80 : decode cX1_readLoop 80 = .ok (.istore_n 3, 1) := by decide +kernel
theorem dX1_readLoop_81 : decode cX1_readLoop 81 = .ok (.aload_n 0, 1) := by decide +kernel
theorem dX1_readLoop_82 : decode cX1_readLoop 82 = .ok (.getfield 12, 3) := by decide +kernel
theorem dX1_readLoop_85 : decode cX1_readLoop 85 = .ok (.getfield 125, 3) := by decide +kernel
theorem dX1_readLoop_88 : decode cX1_readLoop 88 = .ok (.iload_n 1, 1) := by decide +kernel
theorem dX1_readLoop_89 : decode cX1_readLoop 89 = .ok (.iload_n 3, 1) := by decide +kernel
theorem dX1_readLoop_90 : decode cX1_readLoop 90 = .ok (.iastore, 1) := by decide +kernel
theorem dX1_readLoop_91 : decode cX1_readLoop 91 = .ok (.aload_n 0, 1) := by decide +kernel
theorem dX1_readLoop_92 : decode cX1_readLoop 92 = .ok (.iload_n 1, 1) := by decide +kernel
theorem dX1_readLoop_93 : decode cX1_readLoop 93 = .ok (.invokevirtual 119, 3) := by decide +kernel
theorem dX1_readLoop_96 : decode cX1_readLoop 96 = .ok (.aload_n 0, 1) := by decide +kernel
theorem dX1_readLoop_97 : decode cX1_readLoop 97 = .ok (.iload_n 3, 1) := by decide +kernel
theorem dX1_readLoop_98 : decode cX1_readLoop 98 = .ok (.iconst 0, 1) := by decide +kernel
theorem dX1_readLoop_99 : decode cX1_readLoop 99 = .ok (.iload_n 2, 1) := by decide +kernel
theorem dX1_readLoop_100 : decode cX1_readLoop 100 = .ok (.iload_n 2, 1) := by decide +kernel
theorem dX1_readLoop_101 : decode cX1_readLoop 101 = .ok (.iconst 1, 1) := by decide +kernel
theorem dX1_readLoop_102 : decode cX1_readLoop 102 = .ok (.iadd, 1) := by decide +kernel
theorem dX1_readLoop_103 : decode cX1_readLoop 103 = .ok (.iload_n 1, 1) := by decide +kernel
theorem dX1_readLoop_104 : decode cX1_readLoop 104 = .ok (.invokevirtual 53, 3) := by decide +kernel
theorem dX1_readLoop_107 : decode cX1_readLoop 107 = .ok (.iload_n 1, 1) := by decide +kernel
theorem dX1_readLoop_108 : decode cX1_readLoop 108 = .ok (.iconst 1, 1) := by decide +kernel
theorem dX1_readLoop_109 : decode cX1_readLoop 109 = .ok (.iadd, 1) := by decide +kernel
theorem dX1_readLoop_110 : decode cX1_readLoop 110 = .ok (.ireturn, 1) := by decide +kernel
theorem dX1_readLoop_111 : decode cX1_readLoop 111 = .ok (.aload_n 0, 1) := by decide +kernel
theorem dX1_readLoop_112 : decode cX1_readLoop 112 = .ok (.iconst 3, 1) := by decide +kernel
theorem dX1_readLoop_113 : decode cX1_readLoop 113 = .ok (.iload_n 1, 1) := by decide +kernel
theorem dX1_readLoop_114 : decode cX1_readLoop 114 = .ok (.iload_n 2, 1) := by decide +kernel
theorem dX1_readLoop_115 : decode cX1_readLoop 115 = .ok (.iconst 1, 1) := by decide +kernel
theorem dX1_readLoop_116 : decode cX1_readLoop 116 = .ok (.iadd, 1) := by decide +kernel
theorem dX1_readLoop_117 : decode cX1_readLoop 117 = .ok (.iload_n 2, 1) := by decide +kernel
theorem dX1_readLoop_118 : decode cX1_readLoop 118 = .ok (.invokevirtual 115, 3) := by decide +kernel
theorem dX1_readLoop_121 : decode cX1_readLoop 121 = .ok (.istore_n 3, 1) := by decide +kernel
theorem dX1_readLoop_122 : decode cX1_readLoop 122 = .ok (.aload_n 0, 1) := by decide +kernel
theorem dX1_readLoop_123 : decode cX1_readLoop 123 = .ok (.iload_n 3, 1) := by decide +kernel
theorem dX1_readLoop_124 : decode cX1_readLoop 124 = .ok (.iconst 0, 1) := by decide +kernel
theorem dX1_readLoop_125 : decode cX1_readLoop 125 = .ok (.iload_n 2, 1) := by decide +kernel
theorem dX1_readLoop_126 : decode cX1_readLoop 126 = .ok (.iload_n 2, 1) := by decide +kernel
theorem dX1_readLoop_127 : decode cX1_readLoop 127 = .ok (.iconst 1, 1) := by decide +kernel
theorem dX1_readLoop_128 : decode cX1_readLoop 128 = .ok (.iadd, 1) := by decide +kernel
theorem dX1_readLoop_129 : decode cX1_readLoop 129 = .ok (.iload_n 1, 1) := by decide +kernel
theorem dX1_readLoop_130 : decode cX1_readLoop 130 = .ok (.invokevirtual 53, 3) := by decide +kernel
theorem dX1_readLoop_133 : decode cX1_readLoop 133 = .ok (.iload_n 1, 1) := by decide +kernel
theorem dX1_readLoop_134 : decode cX1_readLoop 134 = .ok (.ireturn, 1) := by decide +kernel
theorem dX1_readTest_0 : decode cX1_readTest 0 = .ok (.aload_n 0, 1) := by decide +kernel
theorem dX1_readTest_1 : decode cX1_readTest 1 = .ok (.getfield 18, 3) := by decide +kernel
theorem dX1_readTest_4 : decode cX1_readTest 4 = .ok (.getfield 122, 3) := by decide +kernel
theorem dX1_readTest_7 : decode cX1_readTest 7 = .ok (.iload_n 1, 1) := by decide +kernel
theorem dX1_readTest_8 : decode cX1_readTest 8 = .ok (.iaload, 1) := by decide +kernel
theorem dX1_readTest_9 : decode cX1_readTest 9 = .ok (.istore_n 2, 1) := by decide +kernel
theorem dX1_readTest_10 : decode cX1_readTest 10 = .ok (.iload_n 2, 1) := by decide +kernel
theorem dX1_readTest_11 : decode cX1_readTest 11 = .ok (.aload_n 0, 1) := by decide +kernel
theorem dX1_readTest_12 : decode cX1_readTest 12 = .ok (.getfield 30, 3) := by decide +kernel
theorem dX1_readTest_15 : decode cX1_readTest 15 = .ok (.aload_n 0, 1) := by decide +kernel
theorem dX1_readTest_16 : decode cX1_readTest 16 = .ok (.getfield 22, 3) := by decide +kernel
theorem dX1_readTest_19 : decode cX1_readTest 19 = .ok (.iconst 1, 1) := by decide +kernel
theorem dX1_readTest_20 : decode cX1_readTest 20 = .ok (.isub, 1) := by decide +kernel
theorem dX1_readTest_21 : decode cX1_readTest 21 = .ok (.iaload, 1) := by decide +kernel
theorem dX1_readTest_22 : decode cX1_readTest 22 = .ok (.if_icmp .ne 24, 3) := by decide +kernel
theorem dX1_readTest_25 : decode cX1_readTest 25 = .ok (.aload_n 0, 1) := by decide +kernel
theorem dX1_readTest_26 : decode cX1_readTest 26 = .ok (.bipush 9, 2) := by decide +kernel
theorem dX1_readTest_28 : decode cX1_readTest 28 = .ok (.iload_n 1, 1) := by decide +kernel
theorem dX1_readTest_29 : decode cX1_readTest 29 = .ok (.iload_n 1, 1) := by decide +kernel
theorem dX1_readTest_30 : decode cX1_readTest 30 = .ok (.iconst 1, 1) := by decide +kernel
theorem dX1_readTest_31 : decode cX1_readTest 31 = .ok (.iadd, 1) := by decide +kernel
theorem dX1_readTest_32 : decode cX1_readTest 32 = .ok (.iload_n 1, 1) := by decide +kernel
theorem dX1_readTest_33 : decode cX1_readTest 33 = .ok (.invokevirtual 115, 3) := by decide +kernel
theorem dX1_readTest_36 : decode cX1_readTest 36 = .ok (.pop, 1) := by decide +kernel
theorem dX1_readTest_37 : decode cX1_readTest 37 = .ok (.aload_n 0, 1) := by decide +kernel
theorem dX1_readTest_38 : decode cX1_readTest 38 = .ok (.iload_n 1, 1) := by decide +kernel
theorem dX1_readTest_39 : decode cX1_readTest 39 = .ok (.invokevirtual 119, 3) := by decide +kernel
theorem dX1_readTest_42 : decode cX1_readTest 42 = .ok (.iload_n 1, 1) := by decide +kernel
theorem dX1_readTest_43 : decode cX1_readTest 43 = .ok (.iconst 1, 1) := by decide +kernel
theorem dX1_readTest_44 : decode cX1_readTest 44 = .ok (.iadd, 1) := by decide +kernel
theorem dX1_readTest_45 : decode cX1_readTest 45 = .ok (.ireturn, 1) := by decide +kernel
theorem dX1_readTest_46 : decode cX1_readTest 46 = .ok (.iload_n 2, 1) := by decide +kernel
theorem dX1_readTest_47 : decode cX1_readTest 47 = .ok (.aload_n 0, 1) := by decide +kernel
theorem dX1_readTest_48 : decode cX1_readTest 48 = .ok (.getfield 33, 3) := by decide +kernel
theorem dX1_readTest_51 : decode cX1_readTest 51 = .ok (.aload_n 0, 1) := by decide +kernel
theorem dX1_readTest_52 : decode cX1_readTest 52 = .ok (.getfield 22, 3) := by decide +kernel
theorem dX1_readTest_55 : decode cX1_readTest 55 = .ok (.iconst 1, 1) := by decide +kernel
theorem dX1_readTest_56 : decode cX1_readTest 56 = .ok (.isub, 1) := by decide +kernel
theorem dX1_readTest_57 : decode cX1_readTest 57 = .ok (.iaload, 1) := by decide +kernel
theorem dX1_readTest_58 : decode cX1_readTest 58 = .ok (.if_icmp .ne 24, 3) := by decide +kernel
theorem dX1_readTest_61 : decode cX1_readTest 61 = .ok (.aload_n 0, 1) := by decide +kernel
theorem dX1_readTest_62 : decode cX1_readTest 62 = .ok (.bipush 10, 2) := by decide +kernel
theorem dX1_readTest_64 : decode cX1_readTest 64 = .ok (.iload_n 1, 1) := by decide +kernel
theorem dX1_readTest_65 : decode cX1_readTest 65 = .ok (.iload_n 1, 1) := by decide +kernel
theorem dX1_readTest_66 : decode cX1_readTest 66 = .ok (.iconst 1, 1) := by decide +kernel
theorem dX1_readTest_67 : decode cX1_readTest 67 = .ok (.iadd, 1) := by decide +kernel
theorem dX1_readTest_68 : decode cX1_readTest 68 = .ok (.iload_n 1, 1) := by decide +kernel
theorem dX1_readTest_69 : decode cX1_readTest 69 = .ok (.invokevirtual 115, 3) := by decide +kernel
theorem dX1_readTest_72 : decode cX1_readTest 72 = .ok (.pop, 1) := by decide +kernel
theorem dX1_readTest_73 : decode cX1_readTest 73 = .ok (.aload_n 0, 1) := by decide +kernel
theorem dX1_readTest_74 : decode cX1_readTest 74 = .ok (.iload_n 1, 1) := by decide +kernel
theorem dX1_readTest_75 : decode cX1_readTest 75 = .ok (.invokevirtual 119, 3) := by decide +kernel
theorem dX1_readTest_78 : decode cX1_readTest 78 = .ok (.iload_n 1, 1) := by decide +kernel
theorem dX1_readTest_79 : decode cX1_readTest 79 = .ok (.iconst 1, 1) := by decide +kernel
theorem dX1_readTest_80 : decode cX1_readTest 80 = .ok (.iadd, 1) := by decide +kernel
theorem dX1_readTest_81 : decode cX1_readTest 81 = .ok (.ireturn, 1) := by decide +kernel
theorem dX1_readTest_82 : decode cX1_readTest 82 = .ok (.iload_n 2, 1) := by decide +kernel
theorem dX1_readTest_83 : decode cX1_readTest 83 = .ok (.iload_n 1, 1) := by decide +kernel
theorem dX1_readTest_84 : decode cX1_readTest 84 = .ok (.if_icmp .le 25, 3) := by decide +kernel
theorem dX1_readTest_87 : decode cX1_readTest 87 = .ok (.iload_n 2, 1) := by decide +kernel
theorem dX1_readTest_88 : decode cX1_readTest 88 = .ok (.aload_n 0, 1) := by decide +kernel
theorem dX1_readTest_89 : decode cX1_readTest 89 = .ok (.getfield 26, 3) := by decide +kernel
theorem dX1_readTest_92 : decode cX1_readTest 92 = .ok (.aload_n 0, 1) := by decide +kernel
theorem dX1_readTest_93 : decode cX1_readTest 93 = .ok (.getfield 22, 3) := by decide +kernel
theorem dX1_readTest_96 : decode cX1_readTest 96 = .ok (.iconst 1, 1) := by decide +kernel
theorem dX1_readTest_97 : decode cX1_readTest 97 = .ok (.isub, 1) := by decide +kernel
theorem dX1_readTest_98 : decode cX1_readTest 98 = .ok (.iaload, 1) := by decide +kernel
theorem dX1_readTest_99 : decode cX1_readTest 99 = .ok (.if_icmp .gt 10, 3) := by decide +kernel
theorem dX1_readTest_102 : decode cX1_readTest 102 = .ok (.aload_n 0, 1) := by decide +kernel
theorem dX1_readTest_103 : decode cX1_readTest 103 = .ok (.iload_n 1, 1) := by decide +kernel
theorem dX1_readTest_104 : decode cX1_readTest 104 = .ok (.iload_n 2, 1) := by decide +kernel
theorem dX1_readTest_105 : decode cX1_readTest 105 = .ok (.invokevirtual 128, 3) := by decide +kernel
theorem dX1_readTest_108 : decode cX1_readTest 108 = .ok (.ireturn, 1) := by decide +kernel
theorem dX1_readTest_109 : decode cX1_readTest 109 = .ok (.aload_n 0, 1) := by decide +kernel
theorem dX1_readTest_110 : decode cX1_readTest 110 = .ok (.bipush 11, 2) := by decide +kernel
theorem dX1_readTest_112 : decode cX1_readTest 112 = .ok (.iload_n 1, 1) := by decide +kernel
theorem dX1_readTest_113 : decode cX1_readTest 113 = .ok (.iload_n 1, 1) := by decide +kernel
theorem dX1_readTest_114 : decode cX1_readTest 114 = .ok (.iconst 1, 1) := by decide +kernel
theorem dX1_readTest_115 : decode cX1_readTest 115 = .ok (.iadd, 1) := by decide +kernel
theorem dX1_readTest_116 : decode cX1_readTest 116 = .ok (.iload_n 1, 1) := by decide +kernel
theorem dX1_readTest_117 : decode cX1_readTest 117 = .ok (.invokevirtual 115, 3) := by decide +kernel
theorem dX1_readTest_120 : decode cX1_readTest 120 = .ok (.pop, 1) := by decide +kernel
theorem dX1_readTest_121 : decode cX1_readTest 121 = .ok (.aload_n 0, 1) := by decide +kernel
theorem dX1_readTest_122 : decode cX1_readTest 122 = .ok (.iload_n 1, 1) := by decide +kernel
theorem dX1_readTest_123 : decode cX1_readTest 123 = .ok (.invokevirtual 119, 3) := by decide +kernel
theorem dX1_readTest_126 : decode cX1_readTest 126 = .ok (.aload_n 0, 1) := by decide +kernel
theorem dX1_readTest_127 : decode cX1_readTest 127 = .ok (.getfield 12, 3) := by decide +kernel
theorem dX1_readTest_130 : decode cX1_readTest 130 = .ok (.iload_n 2, 1) := by decide +kernel
theorem dX1_readTest_131 : decode cX1_readTest 131 = .ok (.invokevirtual 67, 3) := by decide +kernel
theorem dX1_readTest_134 : decode cX1_readTest 134 = .ok (.aload_n 0, 1) := by decide +kernel
theorem dX1_readTest_135 : decode cX1_readTest 135 = .ok (.getfield 12, 3) := by decide +kernel
theorem dX1_readTest_138 : decode cX1_readTest 138 = .ok (.dup, 1) := by decide +kernel
theorem dX1_readTest_139 : decode cX1_readTest 139 = .ok (.getfield 131, 3) := by decide +kernel
theorem dX1_readTest_142 : decode cX1_readTest 142 = .ok (.iconst 1, 1) := by decide +kernel
theorem dX1_readTest_143 : decode cX1_readTest 143 = .ok (.iadd, 1) := by decide +kernel
theorem dX1_readTest_144 : decode cX1_readTest 144 = .ok (.putfield 131, 3) := by decide +kernel
theorem dX1_readTest_147 : decode cX1_readTest 147 = .ok (.iload_n 1, 1) := by decide +kernel
theorem dX1_readTest_148 : decode cX1_readTest 148 = .ok (.iconst 1, 1) := by decide +kernel
theorem dX1_readTest_149 : decode cX1_readTest 149 = .ok (.iadd, 1) := by decide +kernel
theorem dX1_readTest_150 : decode cX1_readTest 150 = .ok (.ireturn, 1) := by decide +kernel
theorem dX1_readIf_0 : decode cX1_readIf 0 = .ok (.aload_n 0, 1) := by decide +kernel
theorem dX1_readIf_1 : decode cX1_readIf 1 = .ok (.getfield 30, 3) := by decide +kernel
theorem dX1_readIf_4 : decode cX1_readIf 4 = .ok (.aload_n 0, 1) := by decide +kernel
theorem dX1_readIf_5 : decode cX1_readIf 5 = .ok (.getfield 22, 3) := by decide +kernel
theorem dX1_readIf_8 : decode cX1_readIf 8 = .ok (.iconst 1, 1) := by decide +kernel
theorem dX1_readIf_9 : decode cX1_readIf 9 = .ok (.isub, 1) := by decide +kernel
theorem dX1_readIf_10 : decode cX1_readIf 10 = .ok (.iaload, 1) := by decide +kernel
theorem dX1_readIf_11 : decode cX1_readIf 11 = .ok (.istore_n 3, 1) := by decide +kernel
theorem dX1_readIf_12 : decode cX1_readIf 12 = .ok (.aload_n 0, 1) := by decide +kernel
theorem dX1_readIf_13 : decode cX1_readIf 13 = .ok (.getfield 33, 3) := by decide +kernel
theorem dX1_readIf_16 : decode cX1_readIf 16 = .ok (.aload_n 0, 1) := by decide +kernel
theorem dX1_readIf_17 : decode cX1_readIf 17 = .ok (.getfield 22, 3) := by decide +kernel
theorem dX1_readIf_20 : decode cX1_readIf 20 = .ok (.iconst 1, 1) := by decide +kernel
theorem dX1_readIf_21 : decode cX1_readIf 21 = .ok (.isub, 1) := by decide +kernel
theorem dX1_readIf_22 : decode cX1_readIf 22 = .ok (.iaload, 1) := by decide +kernel
theorem dX1_readIf_23 : decode cX1_readIf 23 = .ok (.istore 4, 2) := by decide +kernel
theorem dX1_readIf_25 : decode cX1_readIf 25 = .ok (.aload_n 0, 1) := by decide +kernel
theorem dX1_readIf_26 : decode cX1_readIf 26 = .ok (.iload_n 1, 1) := by decide +kernel
theorem dX1_readIf_27 : decode cX1_readIf 27 = .ok (.iload_n 2, 1) := by decide +kernel
theorem dX1_readIf_28 : decode cX1_readIf 28 = .ok (.invokevirtual 134, 3) := by decide +kernel
theorem dX1_readIf_31 : decode cX1_readIf 31 = .ok (.istore 5, 2) := by decide +kernel
theorem dX1_readIf_33 : decode cX1_readIf 33 = .ok (.iload 5, 2) := by decide +kernel
theorem dX1_readIf_35 : decode cX1_readIf 35 = .ok (.iconst (-1), 1) := by decide +kernel
theorem dX1_readIf_36 : decode cX1_readIf 36 = .ok (.if_icmp .ne 33, 3) := by decide +kernel
theorem dX1_readIf_39 : decode cX1_readIf 39 = .ok (.aload_n 0, 1) := by decide +kernel
theorem dX1_readIf_40 : decode cX1_readIf 40 = .ok (.iconst 1, 1) := by decide +kernel
theorem dX1_readIf_41 : decode cX1_readIf 41 = .ok (.iload_n 1, 1) := by decide +kernel
theorem dX1_readIf_42 : decode cX1_readIf 42 = .ok (.iload_n 2, 1) := by decide +kernel
theorem dX1_readIf_43 : decode cX1_readIf 43 = .ok (.iload_n 1, 1) := by decide +kernel
theorem dX1_readIf_44 : decode cX1_readIf 44 = .ok (.invokevirtual 115, 3) := by decide +kernel
theorem dX1_readIf_47 : decode cX1_readIf 47 = .ok (.istore 6, 2) := by decide +kernel
theorem dX1_readIf_49 : decode cX1_readIf 49 = .ok (.aload_n 0, 1) := by decide +kernel
theorem dX1_readIf_50 : decode cX1_readIf 50 = .ok (.iload_n 1, 1) := by decide +kernel
theorem dX1_readIf_51 : decode cX1_readIf 51 = .ok (.invokevirtual 119, 3) := by decide +kernel
theorem dX1_readIf_54 : decode cX1_readIf 54 = .ok (.aload_n 0, 1) := by decide +kernel
theorem dX1_readIf_55 : decode cX1_readIf 55 = .ok (.iload 6, 2) := by decide +kernel
theorem dX1_readIf_57 : decode cX1_readIf 57 = .ok (.iconst 0, 1) := by decide +kernel
theorem dX1_readIf_58 : decode cX1_readIf 58 = .ok (.iload_n 2, 1) := by decide +kernel
theorem dX1_readIf_59 : decode cX1_readIf 59 = .ok (.iload_n 3, 1) := by decide +kernel
theorem dX1_readIf_60 : decode cX1_readIf 60 = .ok (.iload 4, 2) := by decide +kernel
theorem dX1_readIf_62 : decode cX1_readIf 62 = .ok (.invokevirtual 53, 3) := by decide +kernel
theorem dX1_readIf_65 : decode cX1_readIf 65 = .ok (.iload_n 1, 1) := by decide +kernel
theorem dX1_readIf_66 : decode cX1_readIf 66 = .ok (.iconst 1, 1) := by decide +kernel
theorem dX1_readIf_67 : decode cX1_readIf 67 = .ok (.iadd, 1) := by decide +kernel
theorem dX1_readIf_68 : decode cX1_readIf 68 = .ok (.ireturn, 1) := by decide +kernel
theorem dX1_readIf_69 : decode cX1_readIf 69 = .ok (.aload_n 0, 1) := by decide +kernel
theorem dX1_readIf_70 : decode cX1_readIf 70 = .ok (.iconst 2, 1) := by decide +kernel
theorem dX1_readIf_71 : decode cX1_readIf 71 = .ok (.iload_n 1, 1) := by decide +kernel
theorem dX1_readIf_72 : decode cX1_readIf 72 = .ok (.iload 5, 2) := by decide +kernel
theorem dX1_readIf_74 : decode cX1_readIf 74 = .ok (.iload_n 1, 1) := by decide +kernel
theorem dX1_readIf_75 : decode cX1_readIf 75 = .ok (.invokevirtual 115, 3) := by decide +kernel
theorem dX1_readIf_78 : decode cX1_readIf 78 = .ok (.istore 6, 2) := by decide +kernel
theorem dX1_readIf_80 : decode cX1_readIf 80 = .ok (.aload_n 0, 1) := by decide +kernel
theorem dX1_readIf_81 : decode cX1_readIf 81 = .ok (.getfield 12, 3) := by decide +kernel
theorem dX1_readIf_84 : decode cX1_readIf 84 = .ok (.getfield 125, 3) := by decide +kernel
theorem dX1_readIf_87 : decode cX1_readIf 87 = .ok (.iload_n 2, 1) := by decide +kernel
theorem dX1_readIf_88 : decode cX1_readIf 88 = .ok (.iconst 1, 1) := by decide +kernel
theorem dX1_readIf_89 : decode cX1_readIf 89 = .ok (.isub, 1) := by decide +kernel
theorem dX1_readIf_90 : decode cX1_readIf 90 = .ok (.iload 6, 2) := by decide +kernel
theorem dX1_readIf_92 : decode cX1_readIf 92 = .ok (.iastore, 1) := by decide +kernel
theorem dX1_readIf_93 : decode cX1_readIf 93 = .ok (.aload_n 0, 1) := by decide +kernel
theorem dX1_readIf_94 : decode cX1_readIf 94 = .ok (.iload_n 1, 1) := by decide +kernel
theorem dX1_readIf_95 : decode cX1_readIf 95 = .ok (.invokevirtual 119, 3) := by decide +kernel
theorem dX1_readIf_98 : decode cX1_readIf 98 = .ok (.aload_n 0, 1) := by decide +kernel
theorem dX1_readIf_99 : decode cX1_readIf 99 = .ok (.iload 6, 2) := by decide +kernel
theorem dX1_readIf_101 : decode cX1_readIf 101 = .ok (.iconst 0, 1) := by decide +kernel
theorem dX1_readIf_102 : decode cX1_readIf 102 = .ok (.iload_n 2, 1) := by decide +kernel
theorem dX1_readIf_103 : decode cX1_readIf 103 = .ok (.iconst 1, 1) := by decide +kernel
theorem dX1_readIf_104 : decode cX1_readIf 104 = .ok (.isub, 1) := by decide +kernel
theorem dX1_readIf_105 : decode cX1_readIf 105 = .ok (.iload_n 3, 1) := by decide +kernel
theorem dX1_readIf_106 : decode cX1_readIf 106 = .ok (.iload 4, 2) := by decide +kernel
theorem dX1_readIf_108 : decode cX1_readIf 108 = .ok (.invokevirtual 53, 3) := by decide +kernel
theorem dX1_readIf_111 : decode cX1_readIf 111 = .ok (.iload_n 1, 1) := by decide +kernel
theorem dX1_readIf_112 : decode cX1_readIf 112 = .ok (.iconst 1, 1) := by decide +kernel
theorem dX1_readIf_113 : decode cX1_readIf 113 = .ok (.iadd, 1) := by decide +kernel
theorem dX1_readIf_114 : decode cX1_readIf 114 = .ok (.ireturn, 1) := by decide +kernel
theorem dX1_elseEnd_0 : decode cX1_elseEnd 0 = .ok (.iload_n 2, 1) := by decide +kernel
theorem dX1_elseEnd_1 : decode cX1_elseEnd 1 = .ok (.iconst 1, 1) := by decide +kernel
theorem dX1_elseEnd_2 : decode cX1_elseEnd 2 = .ok (.isub, 1) := by decide +kernel
theorem dX1_elseEnd_3 : decode cX1_elseEnd 3 = .ok (.istore_n 3, 1) := by decide +kernel
theorem dX1_elseEnd_4 : decode cX1_elseEnd 4 = .ok (.iload_n 3, 1) := by decide +kernel
theorem dX1_elseEnd_5 : decode cX1_elseEnd 5 = .ok (.iload_n 1, 1) := by decide +kernel
theorem dX1_elseEnd_6 : decode cX1_elseEnd 6 = .ok (.if_icmp .le 16, 3) := by decide +kernel
theorem dX1_elseEnd_9 : decode cX1_elseEnd 9 = .ok (.aload_n 0, 1) := by decide +kernel
theorem dX1_elseEnd_10 : decode cX1_elseEnd 10 = .ok (.getfield 18, 3) := by decide +kernel
theorem dX1_elseEnd_13 : decode cX1_elseEnd 13 = .ok (.getfield 102, 3) := by decide +kernel
theorem dX1_elseEnd_16 : decode cX1_elseEnd 16 = .ok (.iload_n 3, 1) := by decide +kernel
theorem dX1_elseEnd_17 : decode cX1_elseEnd 17 = .ok (.iaload, 1) := by decide +kernel
theorem dX1_elseEnd_18 : decode cX1_elseEnd 18 = .ok (.iconst 2, 1) := by decide +kernel
theorem dX1_elseEnd_19 : decode cX1_elseEnd 19 = .ok (.if_icmp .eq 5, 3) := by decide +kernel
theorem dX1_elseEnd_22 : decode cX1_elseEnd 22 = .ok (.iconst (-1), 1) := by decide +kernel
theorem dX1_elseEnd_23 : decode cX1_elseEnd 23 = .ok (.ireturn, 1) := by decide +kernel
theorem dX1_elseEnd_24 : decode cX1_elseEnd 24 = .ok (.aload_n 0, 1) := by decide +kernel
theorem dX1_elseEnd_25 : decode cX1_elseEnd 25 = .ok (.getfield 18, 3) := by decide +kernel
theorem dX1_elseEnd_28 : decode cX1_elseEnd 28 = .ok (.getfield 122, 3) := by decide +kernel
theorem dX1_elseEnd_31 : decode cX1_elseEnd 31 = .ok (.iload_n 3, 1) := by decide +kernel
theorem dX1_elseEnd_32 : decode cX1_elseEnd 32 = .ok (.iaload, 1) := by decide +kernel
theorem dX1_elseEnd_33 : decode cX1_elseEnd 33 = .ok (.istore 4, 2) := by decide +kernel
theorem dX1_elseEnd_35 : decode cX1_elseEnd 35 = .ok (.iload 4, 2) := by decide +kernel
theorem dX1_elseEnd_37 : decode cX1_elseEnd 37 = .ok (.iload_n 2, 1) := by decide +kernel
theorem dX1_elseEnd_38 : decode cX1_elseEnd 38 = .ok (.if_icmp .le 23, 3) := by decide +kernel
theorem dX1_elseEnd_41 : decode cX1_elseEnd 41 = .ok (.iload 4, 2) := by decide +kernel
theorem dX1_elseEnd_43 : decode cX1_elseEnd 43 = .ok (.aload_n 0, 1) := by decide +kernel
theorem dX1_elseEnd_44 : decode cX1_elseEnd 44 = .ok (.getfield 26, 3) := by decide +kernel
theorem dX1_elseEnd_47 : decode cX1_elseEnd 47 = .ok (.aload_n 0, 1) := by decide +kernel
theorem dX1_elseEnd_48 : decode cX1_elseEnd 48 = .ok (.getfield 22, 3) := by decide +kernel
theorem dX1_elseEnd_51 : decode cX1_elseEnd 51 = .ok (.iconst 1, 1) := by decide +kernel
theorem dX1_elseEnd_52 : decode cX1_elseEnd 52 = .ok (.isub, 1) := by decide +kernel
theorem dX1_elseEnd_53 : decode cX1_elseEnd 53 = .ok (.iaload, 1) := by decide +kernel
theorem dX1_elseEnd_54 : decode cX1_elseEnd 54 = .ok (.if_icmp .gt 7, 3) := by decide +kernel
theorem dX1_elseEnd_57 : decode cX1_elseEnd 57 = .ok (.iconst 1, 1) := by decide +kernel
theorem dX1_elseEnd_58 : decode cX1_elseEnd 58 = .ok (.goto 4, 3) := by decide +kernel
theorem dX1_elseEnd_61 : decode cX1_elseEnd 61 = .ok (.iconst 0, 1) := by decide +kernel
theorem dX1_elseEnd_62 : decode cX1_elseEnd 62 = .ok (.istore 5, 2) := by decide +kernel
theorem dX1_elseEnd_64 : decode cX1_elseEnd 64 = .ok (.iload 5, 2) := by decide +kernel
theorem dX1_elseEnd_66 : decode cX1_elseEnd 66 = .ok (.ifCond .eq 40, 3) := by decide +kernel
theorem dX1_elseEnd_69 : decode cX1_elseEnd 69 = .ok (.iload 4, 2) := by decide +kernel
theorem dX1_elseEnd_71 : decode cX1_elseEnd 71 = .ok (.aload_n 0, 1) := by decide +kernel
theorem dX1_elseEnd_72 : decode cX1_elseEnd 72 = .ok (.getfield 30, 3) := by decide +kernel
theorem dX1_elseEnd_75 : decode cX1_elseEnd 75 = .ok (.aload_n 0, 1) := by decide +kernel
theorem dX1_elseEnd_76 : decode cX1_elseEnd 76 = .ok (.getfield 22, 3) := by decide +kernel
theorem dX1_elseEnd_79 : decode cX1_elseEnd 79 = .ok (.iconst 1, 1) := by decide +kernel
theorem dX1_elseEnd_80 : decode cX1_elseEnd 80 = .ok (.isub, 1) := by decide +kernel
theorem dX1_elseEnd_81 : decode cX1_elseEnd 81 = .ok (.iaload, 1) := by decide +kernel
theorem dX1_elseEnd_82 : decode cX1_elseEnd 82 = .ok (.if_icmp .eq 24, 3) := by decide +kernel
theorem dX1_elseEnd_85 : decode cX1_elseEnd 85 = .ok (.iload 4, 2) := by decide +kernel
theorem dX1_elseEnd_87 : decode cX1_elseEnd 87 = .ok (.aload_n 0, 1) := by decide +kernel
theorem dX1_elseEnd_88 : decode cX1_elseEnd 88 = .ok (.getfield 33, 3) := by decide +kernel
theorem dX1_elseEnd_91 : decode cX1_elseEnd 91 = .ok (.aload_n 0, 1) := by decide +kernel
theorem dX1_elseEnd_92 : decode cX1_elseEnd 92 = .ok (.getfield 22, 3) := by decide +kernel
theorem dX1_elseEnd_95 : decode cX1_elseEnd 95 = .ok (.iconst 1, 1) := by decide +kernel
theorem dX1_elseEnd_96 : decode cX1_elseEnd 96 = .ok (.isub, 1) := by decide +kernel
theorem dX1_elseEnd_97 : decode cX1_elseEnd 97 = .ok (.iaload, 1) := by decide +kernel
theorem dX1_elseEnd_98 : decode cX1_elseEnd 98 = .ok (.if_icmp .eq 8, 3) := by decide +kernel
theorem dX1_elseEnd_101 : decode cX1_elseEnd 101 = .ok (.iload 4, 2) := by decide +kernel
theorem dX1_elseEnd_103 : decode cX1_elseEnd 103 = .ok (.goto 4, 3) := by decide +kernel
theorem dX1_elseEnd_106 : decode cX1_elseEnd 106 = .ok (.iconst (-1), 1) := by decide +kernel
theorem dX1_elseEnd_107 : decode cX1_elseEnd 107 = .ok (.ireturn, 1) := by decide +kernel
theorem dX1_readGo_0 : decode cX1_readGo 0 = .ok (.aload_n 0, 1) := by decide +kernel
theorem dX1_readGo_1 : decode cX1_readGo 1 = .ok (.getfield 18, 3) := by decide +kernel
theorem dX1_readGo_4 : decode cX1_readGo 4 = .ok (.getfield 122, 3) := by decide +kernel
theorem dX1_readGo_7 : decode cX1_readGo 7 = .ok (.iload_n 1, 1) := by decide +kernel
theorem dX1_readGo_8 : decode cX1_readGo 8 = .ok (.iaload, 1) := by decide +kernel
theorem dX1_readGo_9 : decode cX1_readGo 9 = .ok (.istore_n 2, 1) := by decide +kernel
theorem dX1_readGo_10 : decode cX1_readGo 10 = .ok (.iload_n 2, 1) := by decide +kernel
theorem dX1_readGo_11 : decode cX1_readGo 11 = .ok (.aload_n 0, 1) := by decide +kernel
theorem dX1_readGo_12 : decode cX1_readGo 12 = .ok (.getfield 30, 3) := by decide +kernel
theorem dX1_readGo_15 : decode cX1_readGo 15 = .ok (.aload_n 0, 1) := by decide +kernel
theorem dX1_readGo_16 : decode cX1_readGo 16 = .ok (.getfield 22, 3) := by decide +kernel
theorem dX1_readGo_19 : decode cX1_readGo 19 = .ok (.iconst 1, 1) := by decide +kernel
theorem dX1_readGo_20 : decode cX1_readGo 20 = .ok (.isub, 1) := by decide +kernel
theorem dX1_readGo_21 : decode cX1_readGo 21 = .ok (.iaload, 1) := by decide +kernel
theorem dX1_readGo_22 : decode cX1_readGo 22 = .ok (.if_icmp .ne 18, 3) := by decide +kernel
theorem dX1_readGo_25 : decode cX1_readGo 25 = .ok (.aload_n 0, 1) := by decide +kernel
theorem dX1_readGo_26 : decode cX1_readGo 26 = .ok (.bipush 6, 2) := by decide +kernel
theorem dX1_readGo_28 : decode cX1_readGo 28 = .ok (.iload_n 1, 1) := by decide +kernel
theorem dX1_readGo_29 : decode cX1_readGo 29 = .ok (.iload_n 1, 1) := by decide +kernel
theorem dX1_readGo_30 : decode cX1_readGo 30 = .ok (.iconst 1, 1) := by decide +kernel
theorem dX1_readGo_31 : decode cX1_readGo 31 = .ok (.iadd, 1) := by decide +kernel
theorem dX1_readGo_32 : decode cX1_readGo 32 = .ok (.iload_n 1, 1) := by decide +kernel
theorem dX1_readGo_33 : decode cX1_readGo 33 = .ok (.invokevirtual 115, 3) := by decide +kernel
theorem dX1_readGo_36 : decode cX1_readGo 36 = .ok (.pop, 1) := by decide +kernel
theorem dX1_readGo_37 : decode cX1_readGo 37 = .ok (.goto 66, 3) := by decide +kernel
theorem dX1_readGo_40 : decode cX1_readGo 40 = .ok (.iload_n 2, 1) := by decide +kernel
theorem dX1_readGo_41 : decode cX1_readGo 41 = .ok (.aload_n 0, 1) := by decide +kernel
theorem dX1_readGo_42 : decode cX1_readGo 42 = .ok (.getfield 33, 3) := by decide +kernel
theorem dX1_readGo_45 : decode cX1_readGo 45 = .ok (.aload_n 0, 1) := by decide +kernel
theorem dX1_readGo_46 : decode cX1_readGo 46 = .ok (.getfield 22, 3) := by decide +kernel
theorem dX1_readGo_49 : decode cX1_readGo 49 = .ok (.iconst 1, 1) := by decide +kernel
theorem dX1_readGo_50 : decode cX1_readGo 50 = .ok (.isub, 1) := by decide +kernel
theorem dX1_readGo_51 : decode cX1_readGo 51 = .ok (.iaload, 1) := by decide +kernel
theorem dX1_readGo_52 : decode cX1_readGo 52 = .ok (.if_icmp .ne 18, 3) := by decide +kernel
theorem dX1_readGo_55 : decode cX1_readGo 55 = .ok (.aload_n 0, 1) := by decide +kernel
theorem dX1_readGo_56 : decode cX1_readGo 56 = .ok (.bipush 7, 2) := by decide +kernel
theorem dX1_readGo_58 : decode cX1_readGo 58 = .ok (.iload_n 1, 1) := by decide +kernel
theorem dX1_readGo_59 : decode cX1_readGo 59 = .ok (.iload_n 1, 1) := by decide +kernel
theorem dX1_readGo_60 : decode cX1_readGo 60 = .ok (.iconst 1, 1) := by decide +kernel
theorem dX1_readGo_61 : decode cX1_readGo 61 = .ok (.iadd, 1) := by decide +kernel
theorem dX1_readGo_62 : decode cX1_readGo 62 = .ok (.iload_n 1, 1) := by decide +kernel
theorem dX1_readGo_63 : decode cX1_readGo 63 = .ok (.invokevirtual 115, 3) := by decide +kernel
theorem dX1_readGo_66 : decode cX1_readGo 66 = .ok (.pop, 1) := by decide +kernel
theorem dX1_readGo_67 : decode cX1_readGo 67 = .ok (.goto 36, 3) := by decide +kernel
theorem dX1_readGo_70 : decode cX1_readGo 70 = .ok (.aload_n 0, 1) := by decide +kernel
theorem dX1_readGo_71 : decode cX1_readGo 71 = .ok (.bipush 8, 2) := by decide +kernel
theorem dX1_readGo_73 : decode cX1_readGo 73 = .ok (.iload_n 1, 1) := by decide +kernel
theorem dX1_readGo_74 : decode cX1_readGo 74 = .ok (.iload_n 1, 1) := by decide +kernel
theorem dX1_readGo_75 : decode cX1_readGo 75 = .ok (.iconst 1, 1) := by decide +kernel
theorem dX1_readGo_76 : decode cX1_readGo 76 = .ok (.iadd, 1) := by decide +kernel
theorem dX1_readGo_77 : decode cX1_readGo 77 = .ok (.iload_n 1, 1) := by decide +kernel
theorem dX1_readGo_78 : decode cX1_readGo 78 = .ok (.invokevirtual 115, 3) := by decide +kernel
theorem dX1_readGo_81 : decode cX1_readGo 81 = .ok (.pop, 1) := by decide +kernel
theorem dX1_readGo_82 : decode cX1_readGo 82 = .ok (.aload_n 0, 1) := by decide +kernel
theorem dX1_readGo_83 : decode cX1_readGo 83 = .ok (.getfield 12, 3) := by decide +kernel
theorem dX1_readGo_86 : decode cX1_readGo 86 = .ok (.iload_n 2, 1) := by decide +kernel
theorem dX1_readGo_87 : decode cX1_readGo 87 = .ok (.invokevirtual 67, 3) := by decide +kernel
theorem dX1_readGo_90 : decode cX1_readGo 90 = .ok (.aload_n 0, 1) := by decide +kernel
theorem dX1_readGo_91 : decode cX1_readGo 91 = .ok (.getfield 12, 3) := by decide +kernel
theorem dX1_readGo_94 : decode cX1_readGo 94 = .ok (.dup, 1) := by decide +kernel
theorem dX1_readGo_95 : decode cX1_readGo 95 = .ok (.getfield 131, 3) := by decide +kernel
theorem dX1_readGo_98 : decode cX1_readGo 98 = .ok (.iconst 1, 1) := by decide +kernel
theorem dX1_readGo_99 : decode cX1_readGo 99 = .ok (.iadd, 1) := by decide +kernel
theorem dX1_readGo_100 : decode cX1_readGo 100 = .ok (.putfield 131, 3) := by decide +kernel
theorem dX1_readGo_103 : decode cX1_readGo 103 = .ok (.iload_n 1, 1) := by decide +kernel
theorem dX1_readGo_104 : decode cX1_readGo 104 = .ok (.iconst 1, 1) := by decide +kernel
theorem dX1_readGo_105 : decode cX1_readGo 105 = .ok (.iadd, 1) := by decide +kernel
theorem dX1_readGo_106 : decode cX1_readGo 106 = .ok (.ireturn, 1) := by decide +kernel
theorem dX1_readAct_0 : decode cX1_readAct 0 = .ok (.aload_n 0, 1) := by decide +kernel
theorem dX1_readAct_1 : decode cX1_readAct 1 = .ok (.iconst 0, 1) := by decide +kernel
theorem dX1_readAct_2 : decode cX1_readAct 2 = .ok (.iload_n 1, 1) := by decide +kernel
theorem dX1_readAct_3 : decode cX1_readAct 3 = .ok (.iload_n 1, 1) := by decide +kernel
theorem dX1_readAct_4 : decode cX1_readAct 4 = .ok (.iconst 1, 1) := by decide +kernel
theorem dX1_readAct_5 : decode cX1_readAct 5 = .ok (.iadd, 1) := by decide +kernel
theorem dX1_readAct_6 : decode cX1_readAct 6 = .ok (.iload_n 1, 1) := by decide +kernel
theorem dX1_readAct_7 : decode cX1_readAct 7 = .ok (.invokevirtual 115, 3) := by decide +kernel
theorem dX1_readAct_10 : decode cX1_readAct 10 = .ok (.pop, 1) := by decide +kernel
theorem dX1_readAct_11 : decode cX1_readAct 11 = .ok (.aload_n 0, 1) := by decide +kernel
theorem dX1_readAct_12 : decode cX1_readAct 12 = .ok (.getfield 12, 3) := by decide +kernel
theorem dX1_readAct_15 : decode cX1_readAct 15 = .ok (.aload_n 0, 1) := by decide +kernel
theorem dX1_readAct_16 : decode cX1_readAct 16 = .ok (.getfield 18, 3) := by decide +kernel
theorem dX1_readAct_19 : decode cX1_readAct 19 = .ok (.getfield 102, 3) := by decide +kernel
theorem dX1_readAct_22 : decode cX1_readAct 22 = .ok (.iload_n 1, 1) := by decide +kernel
theorem dX1_readAct_23 : decode cX1_readAct 23 = .ok (.iaload, 1) := by decide +kernel
theorem dX1_readAct_24 : decode cX1_readAct 24 = .ok (.invokevirtual 67, 3) := by decide +kernel
theorem dX1_readAct_27 : decode cX1_readAct 27 = .ok (.aload_n 0, 1) := by decide +kernel
theorem dX1_readAct_28 : decode cX1_readAct 28 = .ok (.iload_n 1, 1) := by decide +kernel
theorem dX1_readAct_29 : decode cX1_readAct 29 = .ok (.invokevirtual 119, 3) := by decide +kernel
theorem dX1_readAct_32 : decode cX1_readAct 32 = .ok (.iload_n 1, 1) := by decide +kernel
theorem dX1_readAct_33 : decode cX1_readAct 33 = .ok (.iconst 1, 1) := by decide +kernel
theorem dX1_readAct_34 : decode cX1_readAct 34 = .ok (.iadd, 1) := by decide +kernel
theorem dX1_readAct_35 : decode cX1_readAct 35 = .ok (.ireturn, 1) := by decide +kernel
theorem dX1_begin_0 : decode cX1_begin 0 = .ok (.aload_n 0, 1) := by decide +kernel
theorem dX1_begin_1 : decode cX1_begin 1 = .ok (.getfield 12, 3) := by decide +kernel
theorem dX1_begin_4 : decode cX1_begin 4 = .ok (.getfield 89, 3) := by decide +kernel
theorem dX1_begin_7 : decode cX1_begin 7 = .ok (.istore 5, 2) := by decide +kernel
theorem dX1_begin_9 : decode cX1_begin 9 = .ok (.iload 5, 2) := by decide +kernel
theorem dX1_begin_11 : decode cX1_begin 11 = .ok (.bipush 60, 2) := by decide +kernel
theorem dX1_begin_13 : decode cX1_begin 13 = .ok (.if_icmp .lt 5, 3) := by decide +kernel
theorem dX1_begin_16 : decode cX1_begin 16 = .ok (.iconst (-1), 1) := by decide +kernel
theorem dX1_begin_17 : decode cX1_begin 17 = .ok (.ireturn, 1) := by decide +kernel
theorem dX1_begin_18 : decode cX1_begin 18 = .ok (.aload_n 0, 1) := by decide +kernel
theorem dX1_begin_19 : decode cX1_begin 19 = .ok (.getfield 12, 3) := by decide +kernel
theorem dX1_begin_22 : decode cX1_begin 22 = .ok (.getfield 80, 3) := by decide +kernel
theorem dX1_begin_25 : decode cX1_begin 25 = .ok (.iload 5, 2) := by decide +kernel
theorem dX1_begin_27 : decode cX1_begin 27 = .ok (.iload_n 1, 1) := by decide +kernel
theorem dX1_begin_28 : decode cX1_begin 28 = .ok (.iastore, 1) := by decide +kernel
theorem dX1_begin_29 : decode cX1_begin 29 = .ok (.aload_n 0, 1) := by decide +kernel
theorem dX1_begin_30 : decode cX1_begin 30 = .ok (.getfield 12, 3) := by decide +kernel
theorem dX1_begin_33 : decode cX1_begin 33 = .ok (.getfield 112, 3) := by decide +kernel
theorem dX1_begin_36 : decode cX1_begin 36 = .ok (.iload 5, 2) := by decide +kernel
theorem dX1_begin_38 : decode cX1_begin 38 = .ok (.iload_n 2, 1) := by decide +kernel
theorem dX1_begin_39 : decode cX1_begin 39 = .ok (.iastore, 1) := by decide +kernel
theorem dX1_begin_40 : decode cX1_begin 40 = .ok (.aload_n 0, 1) := by decide +kernel
theorem dX1_begin_41 : decode cX1_begin 41 = .ok (.getfield 12, 3) := by decide +kernel
theorem dX1_begin_44 : decode cX1_begin 44 = .ok (.getfield 83, 3) := by decide +kernel
theorem dX1_begin_47 : decode cX1_begin 47 = .ok (.iload 5, 2) := by decide +kernel
theorem dX1_begin_49 : decode cX1_begin 49 = .ok (.iload_n 3, 1) := by decide +kernel
theorem dX1_begin_50 : decode cX1_begin 50 = .ok (.iastore, 1) := by decide +kernel
theorem dX1_begin_51 : decode cX1_begin 51 = .ok (.aload_n 0, 1) := by decide +kernel
theorem dX1_begin_52 : decode cX1_begin 52 = .ok (.getfield 12, 3) := by decide +kernel
theorem dX1_begin_55 : decode cX1_begin 55 = .ok (.getfield 137, 3) := by decide +kernel
theorem dX1_begin_58 : decode cX1_begin 58 = .ok (.iload 5, 2) := by decide +kernel
theorem dX1_begin_60 : decode cX1_begin 60 = .ok (.aload_n 0, 1) := by decide +kernel
theorem dX1_begin_61 : decode cX1_begin 61 = .ok (.getfield 36, 3) := by decide +kernel
theorem dX1_begin_64 : decode cX1_begin 64 = .ok (.aload_n 0, 1) := by decide +kernel
theorem dX1_begin_65 : decode cX1_begin 65 = .ok (.getfield 22, 3) := by decide +kernel
theorem dX1_begin_68 : decode cX1_begin 68 = .ok (.iconst 1, 1) := by decide +kernel
theorem dX1_begin_69 : decode cX1_begin 69 = .ok (.isub, 1) := by decide +kernel
theorem dX1_begin_70 : decode cX1_begin 70 = .ok (.iaload, 1) := by decide +kernel
theorem dX1_begin_71 : decode cX1_begin 71 = .ok (.iastore, 1) := by decide +kernel
theorem dX1_begin_72 : decode cX1_begin 72 = .ok (.aload_n 0, 1) := by decide +kernel
theorem dX1_begin_73 : decode cX1_begin 73 = .ok (.getfield 12, 3) := by decide +kernel
theorem dX1_begin_76 : decode cX1_begin 76 = .ok (.getfield 140, 3) := by decide +kernel
theorem dX1_begin_79 : decode cX1_begin 79 = .ok (.iload 5, 2) := by decide +kernel
theorem dX1_begin_81 : decode cX1_begin 81 = .ok (.aload_n 0, 1) := by decide +kernel
theorem dX1_begin_82 : decode cX1_begin 82 = .ok (.getfield 39, 3) := by decide +kernel
theorem dX1_begin_85 : decode cX1_begin 85 = .ok (.aload_n 0, 1) := by decide +kernel
theorem dX1_begin_86 : decode cX1_begin 86 = .ok (.getfield 22, 3) := by decide +kernel
theorem dX1_begin_89 : decode cX1_begin 89 = .ok (.iconst 1, 1) := by decide +kernel
theorem dX1_begin_90 : decode cX1_begin 90 = .ok (.isub, 1) := by decide +kernel
theorem dX1_begin_91 : decode cX1_begin 91 = .ok (.iaload, 1) := by decide +kernel
theorem dX1_begin_92 : decode cX1_begin 92 = .ok (.iastore, 1) := by decide +kernel
theorem dX1_begin_93 : decode cX1_begin 93 = .ok (.aload_n 0, 1) := by decide +kernel
theorem dX1_begin_94 : decode cX1_begin 94 = .ok (.getfield 12, 3) := by decide +kernel
theorem dX1_begin_97 : decode cX1_begin 97 = .ok (.getfield 86, 3) := by decide +kernel
theorem dX1_begin_100 : decode cX1_begin 100 = .ok (.iload 5, 2) := by decide +kernel
theorem dX1_begin_102 : decode cX1_begin 102 = .ok (.iconst 0, 1) := by decide +kernel
theorem dX1_begin_103 : decode cX1_begin 103 = .ok (.iastore, 1) := by decide +kernel
theorem dX1_begin_104 : decode cX1_begin 104 = .ok (.aload_n 0, 1) := by decide +kernel
theorem dX1_begin_105 : decode cX1_begin 105 = .ok (.getfield 12, 3) := by decide +kernel
theorem dX1_begin_108 : decode cX1_begin 108 = .ok (.getfield 125, 3) := by decide +kernel
theorem dX1_begin_111 : decode cX1_begin 111 = .ok (.iload 4, 2) := by decide +kernel
theorem dX1_begin_113 : decode cX1_begin 113 = .ok (.iload 5, 2) := by decide +kernel
theorem dX1_begin_115 : decode cX1_begin 115 = .ok (.iastore, 1) := by decide +kernel
theorem dX1_begin_116 : decode cX1_begin 116 = .ok (.aload_n 0, 1) := by decide +kernel
theorem dX1_begin_117 : decode cX1_begin 117 = .ok (.getfield 12, 3) := by decide +kernel
theorem dX1_begin_120 : decode cX1_begin 120 = .ok (.iload 5, 2) := by decide +kernel
theorem dX1_begin_122 : decode cX1_begin 122 = .ok (.iconst 1, 1) := by decide +kernel
theorem dX1_begin_123 : decode cX1_begin 123 = .ok (.iadd, 1) := by decide +kernel
theorem dX1_begin_124 : decode cX1_begin 124 = .ok (.putfield 89, 3) := by decide +kernel
theorem dX1_begin_127 : decode cX1_begin 127 = .ok (.aload_n 0, 1) := by decide +kernel
theorem dX1_begin_128 : decode cX1_begin 128 = .ok (.getfield 12, 3) := by decide +kernel
theorem dX1_begin_131 : decode cX1_begin 131 = .ok (.getfield 143, 3) := by decide +kernel
theorem dX1_begin_134 : decode cX1_begin 134 = .ok (.aload_n 0, 1) := by decide +kernel
theorem dX1_begin_135 : decode cX1_begin 135 = .ok (.getfield 42, 3) := by decide +kernel
theorem dX1_begin_138 : decode cX1_begin 138 = .ok (.aload_n 0, 1) := by decide +kernel
theorem dX1_begin_139 : decode cX1_begin 139 = .ok (.getfield 22, 3) := by decide +kernel
theorem dX1_begin_142 : decode cX1_begin 142 = .ok (.iconst 1, 1) := by decide +kernel
theorem dX1_begin_143 : decode cX1_begin 143 = .ok (.isub, 1) := by decide +kernel
theorem dX1_begin_144 : decode cX1_begin 144 = .ok (.iaload, 1) := by decide +kernel
theorem dX1_begin_145 : decode cX1_begin 145 = .ok (.dup2, 1) := by decide +kernel
theorem dX1_begin_146 : decode cX1_begin 146 = .ok (.iaload, 1) := by decide +kernel
theorem dX1_begin_147 : decode cX1_begin 147 = .ok (.iconst 1, 1) := by decide +kernel
theorem dX1_begin_148 : decode cX1_begin 148 = .ok (.iadd, 1) := by decide +kernel
theorem dX1_begin_149 : decode cX1_begin 149 = .ok (.iastore, 1) := by decide +kernel
theorem dX1_begin_150 : decode cX1_begin 150 = .ok (.aload_n 0, 1) := by decide +kernel
theorem dX1_begin_151 : decode cX1_begin 151 = .ok (.getfield 12, 3) := by decide +kernel
theorem dX1_begin_154 : decode cX1_begin 154 = .ok (.iload_n 1, 1) := by decide +kernel
theorem dX1_begin_155 : decode cX1_begin 155 = .ok (.invokevirtual 67, 3) := by decide +kernel
theorem dX1_begin_158 : decode cX1_begin 158 = .ok (.iload 5, 2) := by decide +kernel
theorem dX1_begin_160 : decode cX1_begin 160 = .ok (.ireturn, 1) := by decide +kernel
theorem dX1_wordTest_0 : decode cX1_wordTest 0 = .ok (.aload_n 0, 1) := by decide +kernel
theorem dX1_wordTest_1 : decode cX1_wordTest 1 = .ok (.getfield 12, 3) := by decide +kernel
theorem dX1_wordTest_4 : decode cX1_wordTest 4 = .ok (.aload_n 0, 1) := by decide +kernel
theorem dX1_wordTest_5 : decode cX1_wordTest 5 = .ok (.getfield 18, 3) := by decide +kernel
theorem dX1_wordTest_8 : decode cX1_wordTest 8 = .ok (.getfield 146, 3) := by decide +kernel
theorem dX1_wordTest_11 : decode cX1_wordTest 11 = .ok (.iload_n 1, 1) := by decide +kernel
theorem dX1_wordTest_12 : decode cX1_wordTest 12 = .ok (.iaload, 1) := by decide +kernel
theorem dX1_wordTest_13 : decode cX1_wordTest 13 = .ok (.invokevirtual 67, 3) := by decide +kernel
theorem dX1_wordTest_16 : decode cX1_wordTest 16 = .ok (.aload_n 0, 1) := by decide +kernel
theorem dX1_wordTest_17 : decode cX1_wordTest 17 = .ok (.getfield 12, 3) := by decide +kernel
theorem dX1_wordTest_20 : decode cX1_wordTest 20 = .ok (.aload_n 0, 1) := by decide +kernel
theorem dX1_wordTest_21 : decode cX1_wordTest 21 = .ok (.getfield 18, 3) := by decide +kernel
theorem dX1_wordTest_24 : decode cX1_wordTest 24 = .ok (.getfield 149, 3) := by decide +kernel
theorem dX1_wordTest_27 : decode cX1_wordTest 27 = .ok (.iload_n 1, 1) := by decide +kernel
theorem dX1_wordTest_28 : decode cX1_wordTest 28 = .ok (.iaload, 1) := by decide +kernel
theorem dX1_wordTest_29 : decode cX1_wordTest 29 = .ok (.invokevirtual 67, 3) := by decide +kernel
theorem dX1_wordTest_32 : decode cX1_wordTest 32 = .ok (.return_, 1) := by decide +kernel
theorem dX2_init_0 : decode cX2_init 0 = .ok (.aload_n 0, 1) := by decide +kernel
theorem dX2_init_1 : decode cX2_init 1 = .ok (.invokespecial 3, 3) := by decide +kernel
theorem dX2_init_4 : decode cX2_init 4 = .ok (.aload_n 0, 1) := by decide +kernel
theorem dX2_init_5 : decode cX2_init 5 = .ok (.bipush 60, 2) := by decide +kernel
theorem dX2_init_7 : decode cX2_init 7 = .ok (.newarray .int, 2) := by decide +kernel
theorem dX2_init_9 : decode cX2_init 9 = .ok (.putfield 9, 3) := by decide +kernel
theorem dX2_init_12 : decode cX2_init 12 = .ok (.aload_n 0, 1) := by decide +kernel
theorem dX2_init_13 : decode cX2_init 13 = .ok (.bipush 60, 2) := by decide +kernel
theorem dX2_init_15 : decode cX2_init 15 = .ok (.newarray .int, 2) := by decide +kernel
theorem dX2_init_17 : decode cX2_init 17 = .ok (.putfield 15, 3) := by decide +kernel
theorem dX2_init_20 : decode cX2_init 20 = .ok (.aload_n 0, 1) := by decide +kernel
theorem dX2_init_21 : decode cX2_init 21 = .ok (.bipush 60, 2) := by decide +kernel
theorem dX2_init_23 : decode cX2_init 23 = .ok (.newarray .int, 2) := by decide +kernel
theorem dX2_init_25 : decode cX2_init 25 = .ok (.putfield 18, 3) := by decide +kernel
theorem dX2_init_28 : decode cX2_init 28 = .ok (.aload_n 0, 1) := by decide +kernel
theorem dX2_init_29 : decode cX2_init 29 = .ok (.bipush 60, 2) := by decide +kernel
theorem dX2_init_31 : decode cX2_init 31 = .ok (.newarray .int, 2) := by decide +kernel
theorem dX2_init_33 : decode cX2_init 33 = .ok (.putfield 21, 3) := by decide +kernel
theorem dX2_init_36 : decode cX2_init 36 = .ok (.aload_n 0, 1) := by decide +kernel
theorem dX2_init_37 : decode cX2_init 37 = .ok (.iconst 0, 1) := by decide +kernel
theorem dX2_init_38 : decode cX2_init 38 = .ok (.putfield 24, 3) := by decide +kernel
theorem dX2_init_41 : decode cX2_init 41 = .ok (.aload_n 0, 1) := by decide +kernel
theorem dX2_init_42 : decode cX2_init 42 = .ok (.iconst 1, 1) := by decide +kernel
theorem dX2_init_43 : decode cX2_init 43 = .ok (.putfield 28, 3) := by decide +kernel
theorem dX2_init_46 : decode cX2_init 46 = .ok (.return_, 1) := by decide +kernel
theorem dX2_has_0 : decode cX2_has 0 = .ok (.iload_n 1, 1) := by decide +kernel
theorem dX2_has_1 : decode cX2_has 1 = .ok (.ifCond .lt 15, 3) := by decide +kernel
theorem dX2_has_4 : decode cX2_has 4 = .ok (.iload_n 1, 1) := by decide +kernel
theorem dX2_has_5 : decode cX2_has 5 = .ok (.aload_n 0, 1) := by decide +kernel
theorem dX2_has_6 : decode cX2_has 6 = .ok (.getfield 24, 3) := by decide +kernel
theorem dX2_has_9 : decode cX2_has 9 = .ok (.if_icmp .ge 7, 3) := by decide +kernel
theorem dX2_has_12 : decode cX2_has 12 = .ok (.iconst 1, 1) := by decide +kernel
theorem dX2_has_13 : decode cX2_has 13 = .ok (.goto 4, 3) := by decide +kernel
theorem dX2_has_16 : decode cX2_has 16 = .ok (.iconst 0, 1) := by decide +kernel
theorem dX2_has_17 : decode cX2_has 17 = .ok (.ireturn, 1) := by decide +kernel
theorem dX2_put_0 : decode cX2_put 0 = .ok (.iload_n 1, 1) := by decide +kernel
theorem dX2_put_1 : decode cX2_put 1 = .ok (.ifCond .lt 9, 3) := by decide +kernel
theorem dX2_put_4 : decode cX2_put 4 = .ok (.iload_n 1, 1) := by decide +kernel
theorem dX2_put_5 : decode cX2_put 5 = .ok (.bipush 60, 2) := by decide +kernel
theorem dX2_put_7 : decode cX2_put 7 = .ok (.if_icmp .lt 4, 3) := by decide +kernel
theorem dX2_put_10 : decode cX2_put 10 = .ok (.return_, 1) := by decide +kernel
theorem dX2_put_11 : decode cX2_put 11 = .ok (.aload_n 0, 1) := by decide +kernel
theorem dX2_put_12 : decode cX2_put 12 = .ok (.getfield 9, 3) := by decide +kernel
theorem dX2_put_15 : decode cX2_put 15 = .ok (.iload_n 1, 1) := by decide +kernel
theorem dX2_put_16 : decode cX2_put 16 = .ok (.iload_n 2, 1) := by decide +kernel
theorem dX2_put_17 : decode cX2_put 17 = .ok (.iastore, 1) := by decide +kernel
theorem dX2_put_18 : decode cX2_put 18 = .ok (.aload_n 0, 1) := by decide +kernel
theorem dX2_put_19 : decode cX2_put 19 = .ok (.getfield 15, 3) := by decide +kernel
theorem dX2_put_22 : decode cX2_put 22 = .ok (.iload_n 1, 1) := by decide +kernel
theorem dX2_put_23 : decode cX2_put 23 = .ok (.iload_n 2, 1) := by decide +kernel
theorem dX2_put_24 : decode cX2_put 24 = .ok (.invokestatic 32, 3) := by decide +kernel
theorem dX2_put_27 : decode cX2_put 27 = .ok (.ifCond .eq 7, 3) := by decide +kernel
theorem dX2_put_30 : decode cX2_put 30 = .ok (.iload_n 3, 1) := by decide +kernel
theorem dX2_put_31 : decode cX2_put 31 = .ok (.goto 4, 3) := by decide +kernel
theorem dX2_put_34 : decode cX2_put 34 = .ok (.iconst 0, 1) := by decide +kernel
theorem dX2_put_35 : decode cX2_put 35 = .ok (.iastore, 1) := by decide +kernel
theorem dX2_put_36 : decode cX2_put 36 = .ok (.aload_n 0, 1) := by decide +kernel
theorem dX2_put_37 : decode cX2_put 37 = .ok (.getfield 18, 3) := by decide +kernel
theorem dX2_put_40 : decode cX2_put 40 = .ok (.iload_n 1, 1) := by decide +kernel
theorem dX2_put_41 : decode cX2_put 41 = .ok (.iload_n 2, 1) := by decide +kernel
theorem dX2_put_42 : decode cX2_put 42 = .ok (.invokestatic 36, 3) := by decide +kernel
theorem dX2_put_45 : decode cX2_put 45 = .ok (.ifCond .eq 8, 3) := by decide +kernel
theorem dX2_put_48 : decode cX2_put 48 = .ok (.iload 4, 2) := by decide +kernel
theorem dX2_put_50 : decode cX2_put 50 = .ok (.goto 4, 3) := by decide +kernel
theorem dX2_put_53 : decode cX2_put 53 = .ok (.iconst 0, 1) := by decide +kernel
theorem dX2_put_54 : decode cX2_put 54 = .ok (.iastore, 1) := by decide +kernel
theorem dX2_put_55 : decode cX2_put 55 = .ok (.aload_n 0, 1) := by decide +kernel
theorem dX2_put_56 : decode cX2_put 56 = .ok (.getfield 21, 3) := by decide +kernel
theorem dX2_put_59 : decode cX2_put 59 = .ok (.iload_n 1, 1) := by decide +kernel
theorem dX2_put_60 : decode cX2_put 60 = .ok (.iload_n 2, 1) := by decide +kernel
theorem dX2_put_61 : decode cX2_put 61 = .ok (.invokestatic 39, 3) := by decide +kernel
theorem dX2_put_64 : decode cX2_put 64 = .ok (.ifCond .eq 8, 3) := by decide +kernel
theorem dX2_put_67 : decode cX2_put 67 = .ok (.iload 5, 2) := by decide +kernel
theorem dX2_put_69 : decode cX2_put 69 = .ok (.goto 4, 3) := by decide +kernel
theorem dX2_put_72 : decode cX2_put 72 = .ok (.iconst 0, 1) := by decide +kernel
theorem dX2_put_73 : decode cX2_put 73 = .ok (.iastore, 1) := by decide +kernel
theorem dX2_put_74 : decode cX2_put 74 = .ok (.return_, 1) := by decide +kernel
theorem dX2_judgeWhole_0 : decode cX2_judgeWhole 0 = .ok (.aload_n 0, 1) := by decide +kernel
theorem dX2_judgeWhole_1 : decode cX2_judgeWhole 1 = .ok (.iconst 1, 1) := by decide +kernel
theorem dX2_judgeWhole_2 : decode cX2_judgeWhole 2 = .ok (.putfield 28, 3) := by decide +kernel
theorem dX2_judgeWhole_5 : decode cX2_judgeWhole 5 = .ok (.iconst 0, 1) := by decide +kernel
theorem dX2_judgeWhole_6 : decode cX2_judgeWhole 6 = .ok (.istore_n 1, 1) := by decide +kernel
theorem dX2_judgeWhole_7 : decode cX2_judgeWhole 7 = .ok (.iload_n 1, 1) := by decide +kernel
theorem dX2_judgeWhole_8 : decode cX2_judgeWhole 8 = .ok (.aload_n 0, 1) := by decide +kernel
theorem dX2_judgeWhole_9 : decode cX2_judgeWhole 9 = .ok (.getfield 24, 3) := by decide +kernel
theorem dX2_judgeWhole_12 : decode cX2_judgeWhole 12 = .ok (.if_icmp .ge 27, 3) := by decide +kernel
theorem dX2_judgeWhole_15 : decode cX2_judgeWhole 15 = .ok (.aload_n 0, 1) := by decide +kernel
theorem dX2_judgeWhole_16 : decode cX2_judgeWhole 16 = .ok (.getfield 21, 3) := by decide +kernel
theorem dX2_judgeWhole_19 : decode cX2_judgeWhole 19 = .ok (.iload_n 1, 1) := by decide +kernel
theorem dX2_judgeWhole_20 : decode cX2_judgeWhole 20 = .ok (.iaload, 1) := by decide +kernel
theorem dX2_judgeWhole_21 : decode cX2_judgeWhole 21 = .ok (.aload_n 0, 1) := by decide +kernel
theorem dX2_judgeWhole_22 : decode cX2_judgeWhole 22 = .ok (.getfield 24, 3) := by decide +kernel
theorem dX2_judgeWhole_25 : decode cX2_judgeWhole 25 = .ok (.if_icmp .le 8, 3) := by decide +kernel
theorem dX2_judgeWhole_28 : decode cX2_judgeWhole 28 = .ok (.aload_n 0, 1) := by decide +kernel
theorem dX2_judgeWhole_29 : decode cX2_judgeWhole 29 = .ok (.iconst 0, 1) := by decide +kernel
theorem dX2_judgeWhole_30 : decode cX2_judgeWhole 30 = .ok (.putfield 28, 3) := by decide +kernel
theorem dX2_judgeWhole_33 : decode cX2_judgeWhole 33 = .ok (.iinc 1 1, 3) := by decide +kernel
theorem dX2_judgeWhole_36 : decode cX2_judgeWhole 36 = .ok (.goto (-29), 3) := by decide +kernel
theorem dX2_judgeWhole_39 : decode cX2_judgeWhole 39 = .ok (.return_, 1) := by decide +kernel
theorem dX2_takeOver_0 : decode cX2_takeOver 0 = .ok (.aload_n 0, 1) := by decide +kernel
theorem dX2_takeOver_1 : decode cX2_takeOver 1 = .ok (.aload_n 1, 1) := by decide +kernel
theorem dX2_takeOver_2 : decode cX2_takeOver 2 = .ok (.getfield 24, 3) := by decide +kernel
theorem dX2_takeOver_5 : decode cX2_takeOver 5 = .ok (.putfield 24, 3) := by decide +kernel
theorem dX2_takeOver_8 : decode cX2_takeOver 8 = .ok (.iconst 0, 1) := by decide +kernel
theorem dX2_takeOver_9 : decode cX2_takeOver 9 = .ok (.istore_n 2, 1) := by decide +kernel
theorem dX2_takeOver_10 : decode cX2_takeOver 10 = .ok (.iload_n 2, 1) := by decide +kernel
theorem dX2_takeOver_11 : decode cX2_takeOver 11 = .ok (.aload_n 0, 1) := by decide +kernel
theorem dX2_takeOver_12 : decode cX2_takeOver 12 = .ok (.getfield 24, 3) := by decide +kernel
theorem dX2_takeOver_15 : decode cX2_takeOver 15 = .ok (.if_icmp .ge 38, 3) := by decide +kernel
theorem dX2_takeOver_18 : decode cX2_takeOver 18 = .ok (.aload_n 0, 1) := by decide +kernel
theorem dX2_takeOver_19 : decode cX2_takeOver 19 = .ok (.iload_n 2, 1) := by decide +kernel
theorem dX2_takeOver_20 : decode cX2_takeOver 20 = .ok (.aload_n 1, 1) := by decide +kernel
theorem dX2_takeOver_21 : decode cX2_takeOver 21 = .ok (.getfield 9, 3) := by decide +kernel
theorem dX2_takeOver_24 : decode cX2_takeOver 24 = .ok (.iload_n 2, 1) := by decide +kernel
theorem dX2_takeOver_25 : decode cX2_takeOver 25 = .ok (.iaload, 1) := by decide +kernel
theorem dX2_takeOver_26 : decode cX2_takeOver 26 = .ok (.aload_n 1, 1) := by decide +kernel
theorem dX2_takeOver_27 : decode cX2_takeOver 27 = .ok (.getfield 15, 3) := by decide +kernel
theorem dX2_takeOver_30 : decode cX2_takeOver 30 = .ok (.iload_n 2, 1) := by decide +kernel
theorem dX2_takeOver_31 : decode cX2_takeOver 31 = .ok (.iaload, 1) := by decide +kernel
theorem dX2_takeOver_32 : decode cX2_takeOver 32 = .ok (.aload_n 1, 1) := by decide +kernel
theorem dX2_takeOver_33 : decode cX2_takeOver 33 = .ok (.getfield 18, 3) := by decide +kernel
theorem dX2_takeOver_36 : decode cX2_takeOver 36 = .ok (.iload_n 2, 1) := by decide +kernel
theorem dX2_takeOver_37 : decode cX2_takeOver 37 = .ok (.iaload, 1) := by decide +kernel
theorem dX2_takeOver_38 : decode cX2_takeOver 38 = .ok (.aload_n 1, 1) := by decide +kernel
theorem dX2_takeOver_39 : decode cX2_takeOver 39 = .ok (.getfield 21, 3) := by decide +kernel
theorem dX2_takeOver_42 : decode cX2_takeOver 42 = .ok (.iload_n 2, 1) := by decide +kernel
theorem dX2_takeOver_43 : decode cX2_takeOver 43 = .ok (.iaload, 1) := by decide +kernel
theorem dX2_takeOver_44 : decode cX2_takeOver 44 = .ok (.invokevirtual 42, 3) := by decide +kernel
theorem dX2_takeOver_47 : decode cX2_takeOver 47 = .ok (.iinc 2 1, 3) := by decide +kernel
theorem dX2_takeOver_50 : decode cX2_takeOver 50 = .ok (.goto (-40), 3) := by decide +kernel
theorem dX2_takeOver_53 : decode cX2_takeOver 53 = .ok (.aload_n 0, 1) := by decide +kernel
theorem dX2_takeOver_54 : decode cX2_takeOver 54 = .ok (.invokevirtual 46, 3) := by decide +kernel
theorem dX2_takeOver_57 : decode cX2_takeOver 57 = .ok (.return_, 1) := by decide +kernel
theorem dX2_isAlike_0 : decode cX2_isAlike 0 = .ok (.aload_n 0, 1) := by decide +kernel
theorem dX2_isAlike_1 : decode cX2_isAlike 1 = .ok (.getfield 24, 3) := by decide +kernel
theorem dX2_isAlike_4 : decode cX2_isAlike 4 = .ok (.aload_n 1, 1) := by decide +kernel
theorem dX2_isAlike_5 : decode cX2_isAlike 5 = .ok (.getfield 24, 3) := by decide +kernel
theorem dX2_isAlike_8 : decode cX2_isAlike 8 = .ok (.if_icmp .eq 5, 3) := by decide +kernel
theorem dX2_isAlike_11 : decode cX2_isAlike 11 = .ok (.iconst 0, 1) := by decide +kernel
theorem dX2_isAlike_12 : decode cX2_isAlike 12 = .ok (.ireturn, 1) := by decide +kernel
theorem dX2_isAlike_13 : decode cX2_isAlike 13 = .ok (.iconst 0, 1) := by decide +kernel
theorem dX2_isAlike_14 : decode cX2_isAlike 14 = .ok (.istore_n 2, 1) := by decide +kernel
theorem dX2_isAlike_15 : decode cX2_isAlike 15 = .ok (.iload_n 2, 1) := by decide +kernel
theorem dX2_isAlike_16 : decode cX2_isAlike 16 = .ok (.aload_n 0, 1) := by decide +kernel
theorem dX2_isAlike_17 : decode cX2_isAlike 17 = .ok (.getfield 24, 3) := by decide +kernel
theorem dX2_isAlike_20 : decode cX2_isAlike 20 = .ok (.if_icmp .ge 71, 3) := by decide +kernel
theorem dX2_isAlike_23 : decode cX2_isAlike 23 = .ok (.aload_n 0, 1) := by decide +kernel
theorem dX2_isAlike_24 : decode cX2_isAlike 24 = .ok (.getfield 9, 3) := by decide +kernel
theorem dX2_isAlike_27 : decode cX2_isAlike 27 = .ok (.iload_n 2, 1) := by decide +kernel
theorem dX2_isAlike_28 : decode cX2_isAlike 28 = .ok (.iaload, 1) := by decide +kernel
theorem dX2_isAlike_29 : decode cX2_isAlike 29 = .ok (.aload_n 1, 1) := by decide +kernel
theorem dX2_isAlike_30 : decode cX2_isAlike 30 = .ok (.getfield 9, 3) := by decide +kernel
theorem dX2_isAlike_33 : decode cX2_isAlike 33 = .ok (.iload_n 2, 1) := by decide +kernel
theorem dX2_isAlike_34 : decode cX2_isAlike 34 = .ok (.iaload, 1) := by decide +kernel
theorem dX2_isAlike_35 : decode cX2_isAlike 35 = .ok (.if_icmp .ne 48, 3) := by decide +kernel
theorem dX2_isAlike_38 : decode cX2_isAlike 38 = .ok (.aload_n 0, 1) := by decide +kernel
theorem dX2_isAlike_39 : decode cX2_isAlike 39 = .ok (.getfield 15, 3) := by decide +kernel
theorem dX2_isAlike_42 : decode cX2_isAlike 42 = .ok (.iload_n 2, 1) := by decide +kernel
theorem dX2_isAlike_43 : decode cX2_isAlike 43 = .ok (.iaload, 1) := by decide +kernel
theorem dX2_isAlike_44 : decode cX2_isAlike 44 = .ok (.aload_n 1, 1) := by decide +kernel
theorem dX2_isAlike_45 : decode cX2_isAlike 45 = .ok (.getfield 15, 3) := by decide +kernel
theorem dX2_isAlike_48 : decode cX2_isAlike 48 = .ok (.iload_n 2, 1) := by decide +kernel
theorem dX2_isAlike_49 : decode cX2_isAlike 49 = .ok (.iaload, 1) := by decide +kernel
theorem dX2_isAlike_50 : decode cX2_isAlike 50 = .ok (.if_icmp .ne 33, 3) := by decide +kernel
theorem dX2_isAlike_53 : decode cX2_isAlike 53 = .ok (.aload_n 0, 1) := by decide +kernel
theorem dX2_isAlike_54 : decode cX2_isAlike 54 = .ok (.getfield 18, 3) := by decide +kernel
theorem dX2_isAlike_57 : decode cX2_isAlike 57 = .ok (.iload_n 2, 1) := by decide +kernel
theorem dX2_isAlike_58 : decode cX2_isAlike 58 = .ok (.iaload, 1) := by decide +kernel
theorem dX2_isAlike_59 : decode cX2_isAlike 59 = .ok (.aload_n 1, 1) := by decide +kernel
theorem dX2_isAlike_60 : decode cX2_isAlike 60 = .ok (.getfield 18, 3) := by decide +kernel
theorem dX2_isAlike_63 : decode cX2_isAlike 63 = .ok (.iload_n 2, 1) := by decide +kernel
theorem dX2_isAlike_64 : decode cX2_isAlike 64 = .ok (.iaload, 1) := by decide +kernel
theorem dX2_isAlike_65 : decode cX2_isAlike 65 = .ok (.if_icmp .ne 18, 3) := by decide +kernel
theorem dX2_isAlike_68 : decode cX2_isAlike 68 = .ok (.aload_n 0, 1) := by decide +kernel
theorem dX2_isAlike_69 : decode cX2_isAlike 69 = .ok (.getfield 21, 3) := by decide +kernel
theorem dX2_isAlike_72 : decode cX2_isAlike 72 = .ok (.iload_n 2, 1) := by decide +kernel
theorem dX2_isAlike_73 : decode cX2_isAlike 73 = .ok (.iaload, 1) := by decide +kernel
theorem dX2_isAlike_74 : decode cX2_isAlike 74 = .ok (.aload_n 1, 1) := by decide +kernel
theorem dX2_isAlike_75 : decode cX2_isAlike 75 = .ok (.getfield 21, 3) := by decide +kernel
theorem dX2_isAlike_78 : decode cX2_isAlike 78 = .ok (.iload_n 2, 1) := by decide +kernel
theorem dX2_isAlike_79 : decode cX2_isAlike 79 = .ok (.iaload, 1) := by decide +kernel
theorem dX2_isAlike_80 : decode cX2_isAlike 80 = .ok (.if_icmp .eq 5, 3) := by decide +kernel
theorem dX2_isAlike_83 : decode cX2_isAlike 83 = .ok (.iconst 0, 1) := by decide +kernel
theorem dX2_isAlike_84 : decode cX2_isAlike 84 = .ok (.ireturn, 1) := by decide +kernel
theorem dX2_isAlike_85 : decode cX2_isAlike 85 = .ok (.iinc 2 1, 3) := by decide +kernel
theorem dX2_isAlike_88 : decode cX2_isAlike 88 = .ok (.goto (-73), 3) := by decide +kernel
theorem dX2_isAlike_91 : decode cX2_isAlike 91 = .ok (.iconst 1, 1) := by decide +kernel
theorem dX2_isAlike_92 : decode cX2_isAlike 92 = .ok (.ireturn, 1) := by decide +kernel
theorem dX2_hasCallOf_0 : decode cX2_hasCallOf 0 = .ok (.iconst 0, 1) := by decide +kernel
theorem dX2_hasCallOf_1 : decode cX2_hasCallOf 1 = .ok (.istore_n 2, 1) := by decide +kernel
theorem dX2_hasCallOf_2 : decode cX2_hasCallOf 2 = .ok (.iload_n 2, 1) := by decide +kernel
theorem dX2_hasCallOf_3 : decode cX2_hasCallOf 3 = .ok (.aload_n 0, 1) := by decide +kernel
theorem dX2_hasCallOf_4 : decode cX2_hasCallOf 4 = .ok (.getfield 24, 3) := by decide +kernel
theorem dX2_hasCallOf_7 : decode cX2_hasCallOf 7 = .ok (.if_icmp .ge 31, 3) := by decide +kernel
theorem dX2_hasCallOf_10 : decode cX2_hasCallOf 10 = .ok (.aload_n 0, 1) := by decide +kernel
theorem dX2_hasCallOf_11 : decode cX2_hasCallOf 11 = .ok (.getfield 9, 3) := by decide +kernel
theorem dX2_hasCallOf_14 : decode cX2_hasCallOf 14 = .ok (.iload_n 2, 1) := by decide +kernel
theorem dX2_hasCallOf_15 : decode cX2_hasCallOf 15 = .ok (.iaload, 1) := by decide +kernel
theorem dX2_hasCallOf_16 : decode cX2_hasCallOf 16 = .ok (.iconst 5, 1) := by decide +kernel
theorem dX2_hasCallOf_17 : decode cX2_hasCallOf 17 = .ok (.if_icmp .ne 15, 3) := by decide +kernel
theorem dX2_hasCallOf_20 : decode cX2_hasCallOf 20 = .ok (.aload_n 0, 1) := by decide +kernel
theorem dX2_hasCallOf_21 : decode cX2_hasCallOf 21 = .ok (.getfield 15, 3) := by decide +kernel
theorem dX2_hasCallOf_24 : decode cX2_hasCallOf 24 = .ok (.iload_n 2, 1) := by decide +kernel
theorem dX2_hasCallOf_25 : decode cX2_hasCallOf 25 = .ok (.iaload, 1) := by decide +kernel
theorem dX2_hasCallOf_26 : decode cX2_hasCallOf 26 = .ok (.iload_n 1, 1) := by decide +kernel
theorem dX2_hasCallOf_27 : decode cX2_hasCallOf 27 = .ok (.if_icmp .ne 5, 3) := by decide +kernel
theorem dX2_hasCallOf_30 : decode cX2_hasCallOf 30 = .ok (.iconst 1, 1) := by decide +kernel
theorem dX2_hasCallOf_31 : decode cX2_hasCallOf 31 = .ok (.ireturn, 1) := by decide +kernel
theorem dX2_hasCallOf_32 : decode cX2_hasCallOf 32 = .ok (.iinc 2 1, 3) := by decide +kernel
theorem dX2_hasCallOf_35 : decode cX2_hasCallOf 35 = .ok (.goto (-33), 3) := by decide +kernel
theorem dX2_hasCallOf_38 : decode cX2_hasCallOf 38 = .ok (.iconst 0, 1) := by decide +kernel
theorem dX2_hasCallOf_39 : decode cX2_hasCallOf 39 = .ok (.ireturn, 1) := by decide +kernel
theorem dX2_lastJumpTo_0 : decode cX2_lastJumpTo 0 = .ok (.iload_n 2, 1) := by decide +kernel
theorem dX2_lastJumpTo_1 : decode cX2_lastJumpTo 1 = .ok (.iconst 1, 1) := by decide +kernel
theorem dX2_lastJumpTo_2 : decode cX2_lastJumpTo 2 = .ok (.isub, 1) := by decide +kernel
theorem dX2_lastJumpTo_3 : decode cX2_lastJumpTo 3 = .ok (.istore_n 3, 1) := by decide +kernel
theorem dX2_lastJumpTo_4 : decode cX2_lastJumpTo 4 = .ok (.iload_n 3, 1) := by decide +kernel
theorem dX2_lastJumpTo_5 : decode cX2_lastJumpTo 5 = .ok (.iload_n 1, 1) := by decide +kernel
theorem dX2_lastJumpTo_6 : decode cX2_lastJumpTo 6 = .ok (.if_icmp .lt 33, 3) := by decide +kernel
theorem dX2_lastJumpTo_9 : decode cX2_lastJumpTo 9 = .ok (.aload_n 0, 1) := by decide +kernel
theorem dX2_lastJumpTo_10 : decode cX2_lastJumpTo 10 = .ok (.getfield 9, 3) := by decide +kernel
theorem dX2_lastJumpTo_13 : decode cX2_lastJumpTo 13 = .ok (.iload_n 3, 1) := by decide +kernel
theorem dX2_lastJumpTo_14 : decode cX2_lastJumpTo 14 = .ok (.iaload, 1) := by decide +kernel
theorem dX2_lastJumpTo_15 : decode cX2_lastJumpTo 15 = .ok (.invokestatic 39, 3) := by decide +kernel
theorem dX2_lastJumpTo_18 : decode cX2_lastJumpTo 18 = .ok (.ifCond .eq 15, 3) := by decide +kernel
theorem dX2_lastJumpTo_21 : decode cX2_lastJumpTo 21 = .ok (.aload_n 0, 1) := by decide +kernel
theorem dX2_lastJumpTo_22 : decode cX2_lastJumpTo 22 = .ok (.getfield 21, 3) := by decide +kernel
theorem dX2_lastJumpTo_25 : decode cX2_lastJumpTo 25 = .ok (.iload_n 3, 1) := by decide +kernel
theorem dX2_lastJumpTo_26 : decode cX2_lastJumpTo 26 = .ok (.iaload, 1) := by decide +kernel
theorem dX2_lastJumpTo_27 : decode cX2_lastJumpTo 27 = .ok (.iload_n 1, 1) := by decide +kernel
theorem dX2_lastJumpTo_28 : decode cX2_lastJumpTo 28 = .ok (.if_icmp .ne 5, 3) := by decide +kernel
theorem dX2_lastJumpTo_31 : decode cX2_lastJumpTo 31 = .ok (.iload_n 3, 1) := by decide +kernel
theorem dX2_lastJumpTo_32 : decode cX2_lastJumpTo 32 = .ok (.ireturn, 1) := by decide +kernel
theorem dX2_lastJumpTo_33 : decode cX2_lastJumpTo 33 = .ok (.iinc 3 (-1), 3) := by decide +kernel
theorem dX2_lastJumpTo_36 : decode cX2_lastJumpTo 36 = .ok (.goto (-32), 3) := by decide +kernel
theorem dX2_lastJumpTo_39 : decode cX2_lastJumpTo 39 = .ok (.iconst (-1), 1) := by decide +kernel
theorem dX2_lastJumpTo_40 : decode cX2_lastJumpTo 40 = .ok (.ireturn, 1) := by decide +kernel
theorem dX3_init_0 : decode cX3_init 0 = .ok (.aload_n 0, 1) := by decide +kernel
theorem dX3_init_1 : decode cX3_init 1 = .ok (.invokespecial 3, 3) := by decide +kernel
theorem dX3_init_4 : decode cX3_init 4 = .ok (.aload_n 0, 1) := by decide +kernel
theorem dX3_init_5 : decode cX3_init 5 = .ok (.iconst 0, 1) := by decide +kernel
theorem dX3_init_6 : decode cX3_init 6 = .ok (.putfield 9, 3) := by decide +kernel
theorem dX3_init_9 : decode cX3_init 9 = .ok (.aload_n 0, 1) := by decide +kernel
theorem dX3_init_10 : decode cX3_init 10 = .ok (.iconst 0, 1) := by decide +kernel
theorem dX3_init_11 : decode cX3_init 11 = .ok (.putfield 15, 3) := by decide +kernel
theorem dX3_init_14 : decode cX3_init 14 = .ok (.aload_n 0, 1) := by decide +kernel
theorem dX3_init_15 : decode cX3_init 15 = .ok (.iconst 0, 1) := by decide +kernel
theorem dX3_init_16 : decode cX3_init 16 = .ok (.putfield 18, 3) := by decide +kernel
theorem dX3_init_19 : decode cX3_init 19 = .ok (.aload_n 0, 1) := by decide +kernel
theorem dX3_init_20 : decode cX3_init 20 = .ok (.sipush 200, 3) := by decide +kernel
theorem dX3_init_23 : decode cX3_init 23 = .ok (.newarray .int, 2) := by decide +kernel
theorem dX3_init_25 : decode cX3_init 25 = .ok (.putfield 21, 3) := by decide +kernel
theorem dX3_init_28 : decode cX3_init 28 = .ok (.aload_n 0, 1) := by decide +kernel
theorem dX3_init_29 : decode cX3_init 29 = .ok (.iconst 4, 1) := by decide +kernel
theorem dX3_init_30 : decode cX3_init 30 = .ok (.newarray .int, 2) := by decide +kernel
theorem dX3_init_32 : decode cX3_init 32 = .ok (.putfield 25, 3) := by decide +kernel
theorem dX3_init_35 : decode cX3_init 35 = .ok (.aload_n 0, 1) := by decide +kernel
theorem dX3_init_36 : decode cX3_init 36 = .ok (.iconst 0, 1) := by decide +kernel
theorem dX3_init_37 : decode cX3_init 37 = .ok (.putfield 28, 3) := by decide +kernel
theorem dX3_init_40 : decode cX3_init 40 = .ok (.aload_n 0, 1) := by decide +kernel
theorem dX3_init_41 : decode cX3_init 41 = .ok (.bipush 8, 2) := by decide +kernel
theorem dX3_init_43 : decode cX3_init 43 = .ok (.anewarray 31, 3) := by decide +kernel
theorem dX3_init_46 : decode cX3_init 46 = .ok (.putfield 33, 3) := by decide +kernel
theorem dX3_init_49 : decode cX3_init 49 = .ok (.aload_n 0, 1) := by decide +kernel
theorem dX3_init_50 : decode cX3_init 50 = .ok (.bipush 8, 2) := by decide +kernel
theorem dX3_init_52 : decode cX3_init 52 = .ok (.newarray .int, 2) := by decide +kernel
theorem dX3_init_54 : decode cX3_init 54 = .ok (.putfield 37, 3) := by decide +kernel
theorem dX3_init_57 : decode cX3_init 57 = .ok (.return_, 1) := by decide +kernel
theorem dX3_start_0 : decode cX3_start 0 = .ok (.aload_n 0, 1) := by decide +kernel
theorem dX3_start_1 : decode cX3_start 1 = .ok (.iconst 0, 1) := by decide +kernel
theorem dX3_start_2 : decode cX3_start 2 = .ok (.putfield 9, 3) := by decide +kernel
theorem dX3_start_5 : decode cX3_start 5 = .ok (.aload_n 0, 1) := by decide +kernel
theorem dX3_start_6 : decode cX3_start 6 = .ok (.iconst 0, 1) := by decide +kernel
theorem dX3_start_7 : decode cX3_start 7 = .ok (.putfield 15, 3) := by decide +kernel
theorem dX3_start_10 : decode cX3_start 10 = .ok (.aload_n 0, 1) := by decide +kernel
theorem dX3_start_11 : decode cX3_start 11 = .ok (.iconst 0, 1) := by decide +kernel
theorem dX3_start_12 : decode cX3_start 12 = .ok (.putfield 18, 3) := by decide +kernel
theorem dX3_start_15 : decode cX3_start 15 = .ok (.aload_n 3, 1) := by decide +kernel
theorem dX3_start_16 : decode cX3_start 16 = .ok (.iconst 0, 1) := by decide +kernel
theorem dX3_start_17 : decode cX3_start 17 = .ok (.aload_n 0, 1) := by decide +kernel
theorem dX3_start_18 : decode cX3_start 18 = .ok (.getfield 25, 3) := by decide +kernel
theorem dX3_start_21 : decode cX3_start 21 = .ok (.iconst 0, 1) := by decide +kernel
theorem dX3_start_22 : decode cX3_start 22 = .ok (.iconst 4, 1) := by decide +kernel
theorem dX3_start_23 : decode cX3_start 23 = .ok (.invokestatic 40, 3) := by decide +kernel
theorem dX3_start_26 : decode cX3_start 26 = .ok (.aload_n 0, 1) := by decide +kernel
theorem dX3_start_27 : decode cX3_start 27 = .ok (.iconst 0, 1) := by decide +kernel
theorem dX3_start_28 : decode cX3_start 28 = .ok (.putfield 28, 3) := by decide +kernel
theorem dX3_start_31 : decode cX3_start 31 = .ok (.aload_n 0, 1) := by decide +kernel
theorem dX3_start_32 : decode cX3_start 32 = .ok (.aload_n 2, 1) := by decide +kernel
theorem dX3_start_33 : decode cX3_start 33 = .ok (.invokevirtual 46, 3) := by decide +kernel
theorem dX3_start_36 : decode cX3_start 36 = .ok (.iconst (-1), 1) := by decide +kernel
theorem dX3_start_37 : decode cX3_start 37 = .ok (.istore 5, 2) := by decide +kernel
theorem dX3_start_39 : decode cX3_start 39 = .ok (.iconst 0, 1) := by decide +kernel
theorem dX3_start_40 : decode cX3_start 40 = .ok (.istore 6, 2) := by decide +kernel
theorem dX3_start_42 : decode cX3_start 42 = .ok (.iload 6, 2) := by decide +kernel
theorem dX3_start_44 : decode cX3_start 44 = .ok (.sipush 20003, 3) := by decide +kernel
theorem dX3_start_47 : decode cX3_start 47 = .ok (.if_icmp .ge 24, 3) := by decide +kernel
theorem dX3_start_50 : decode cX3_start 50 = .ok (.iload 5, 2) := by decide +kernel
theorem dX3_start_52 : decode cX3_start 52 = .ok (.iconst (-1), 1) := by decide +kernel
theorem dX3_start_53 : decode cX3_start 53 = .ok (.if_icmp .ne 18, 3) := by decide +kernel
theorem dX3_start_56 : decode cX3_start 56 = .ok (.aload_n 0, 1) := by decide +kernel
theorem dX3_start_57 : decode cX3_start 57 = .ok (.aload_n 1, 1) := by decide +kernel
theorem dX3_start_58 : decode cX3_start 58 = .ok (.iload 4, 2) := by decide +kernel
theorem dX3_start_60 : decode cX3_start 60 = .ok (.invokevirtual 50, 3) := by decide +kernel
theorem dX3_start_63 : decode cX3_start 63 = .ok (.istore 5, 2) := by decide +kernel
theorem dX3_start_65 : decode cX3_start 65 = .ok (.iinc 6 1, 3) := by decide +kernel
theorem dX3_start_68 : decode cX3_start 68 = .ok (.goto (-26), 3) := by decide +kernel
theorem dX3_start_71 : decode cX3_start 71 = .ok (.iload 5, 2) := by decide +kernel
theorem dX3_start_73 : decode cX3_start 73 = .ok (.ireturn, 1) := by decide +kernel
theorem dX3_enter_0 : decode cX3_enter 0 = .ok (.aload_n 0, 1) := by decide +kernel
theorem dX3_enter_1 : decode cX3_enter 1 = .ok (.getfield 33, 3) := by decide +kernel
theorem dX3_enter_4 : decode cX3_enter 4 = .ok (.aload_n 0, 1) := by decide +kernel
theorem dX3_enter_5 : decode cX3_enter 5 = .ok (.getfield 28, 3) := by decide +kernel
theorem dX3_enter_8 : decode cX3_enter 8 = .ok (.aload_n 1, 1) := by decide +kernel
theorem dX3_enter_9 : decode cX3_enter 9 = .ok (.aastore, 1) := by decide +kernel
theorem dX3_enter_10 : decode cX3_enter 10 = .ok (.aload_n 0, 1) := by decide +kernel
theorem dX3_enter_11 : decode cX3_enter 11 = .ok (.getfield 37, 3) := by decide +kernel
theorem dX3_enter_14 : decode cX3_enter 14 = .ok (.aload_n 0, 1) := by decide +kernel
theorem dX3_enter_15 : decode cX3_enter 15 = .ok (.getfield 28, 3) := by decide +kernel
theorem dX3_enter_18 : decode cX3_enter 18 = .ok (.iconst 0, 1) := by decide +kernel
theorem dX3_enter_19 : decode cX3_enter 19 = .ok (.iastore, 1) := by decide +kernel
theorem dX3_enter_20 : decode cX3_enter 20 = .ok (.aload_n 0, 1) := by decide +kernel
theorem dX3_enter_21 : decode cX3_enter 21 = .ok (.dup, 1) := by decide +kernel
theorem dX3_enter_22 : decode cX3_enter 22 = .ok (.getfield 28, 3) := by decide +kernel
theorem dX3_enter_25 : decode cX3_enter 25 = .ok (.iconst 1, 1) := by decide +kernel
theorem dX3_enter_26 : decode cX3_enter 26 = .ok (.iadd, 1) := by decide +kernel
theorem dX3_enter_27 : decode cX3_enter 27 = .ok (.putfield 28, 3) := by decide +kernel
theorem dX3_enter_30 : decode cX3_enter 30 = .ok (.aload_n 0, 1) := by decide +kernel
theorem dX3_enter_31 : decode cX3_enter 31 = .ok (.dup, 1) := by decide +kernel
theorem dX3_enter_32 : decode cX3_enter 32 = .ok (.getfield 15, 3) := by decide +kernel
theorem dX3_enter_35 : decode cX3_enter 35 = .ok (.iconst 1, 1) := by decide +kernel
theorem dX3_enter_36 : decode cX3_enter 36 = .ok (.iadd, 1) := by decide +kernel
theorem dX3_enter_37 : decode cX3_enter 37 = .ok (.putfield 15, 3) := by decide +kernel
theorem dX3_enter_40 : decode cX3_enter 40 = .ok (.return_, 1) := by decide +kernel
theorem dX3_turn_0 : decode cX3_turn 0 = .ok (.aload_n 0, 1) := by decide +kernel
theorem dX3_turn_1 : decode cX3_turn 1 = .ok (.getfield 28, 3) := by decide +kernel
theorem dX3_turn_4 : decode cX3_turn 4 = .ok (.ifCond .ne 5, 3) := by decide +kernel
theorem dX3_turn_7 : decode cX3_turn 7 = .ok (.iconst 0, 1) := by decide +kernel
theorem dX3_turn_8 : decode cX3_turn 8 = .ok (.ireturn, 1) := by decide +kernel
theorem dX3_turn_9 : decode cX3_turn 9 = .ok (.aload_n 0, 1) := by decide +kernel
theorem dX3_turn_10 : decode cX3_turn 10 = .ok (.getfield 33, 3) := by decide +kernel
theorem dX3_turn_13 : decode cX3_turn 13 = .ok (.aload_n 0, 1) := by decide +kernel
theorem dX3_turn_14 : decode cX3_turn 14 = .ok (.getfield 28, 3) := by decide +kernel
theorem dX3_turn_17 : decode cX3_turn 17 = .ok (.iconst 1, 1) := by decide +kernel
theorem dX3_turn_18 : decode cX3_turn 18 = .ok (.isub, 1) := by decide +kernel
theorem dX3_turn_19 : decode cX3_turn 19 = .ok (.aaload, 1) := by decide +kernel
theorem dX3_turn_20 : decode cX3_turn 20 = .ok (.astore_n 3, 1) := by decide +kernel
theorem dX3_turn_21 : decode cX3_turn 21 = .ok (.aload_n 0, 1) := by decide +kernel
theorem dX3_turn_22 : decode cX3_turn 22 = .ok (.getfield 37, 3) := by decide +kernel
theorem dX3_turn_25 : decode cX3_turn 25 = .ok (.aload_n 0, 1) := by decide +kernel
theorem dX3_turn_26 : decode cX3_turn 26 = .ok (.getfield 28, 3) := by decide +kernel
theorem dX3_turn_29 : decode cX3_turn 29 = .ok (.iconst 1, 1) := by decide +kernel
theorem dX3_turn_30 : decode cX3_turn 30 = .ok (.isub, 1) := by decide +kernel
theorem dX3_turn_31 : decode cX3_turn 31 = .ok (.iaload, 1) := by decide +kernel
theorem dX3_turn_32 : decode cX3_turn 32 = .ok (.istore 4, 2) := by decide +kernel
theorem dX3_turn_34 : decode cX3_turn 34 = .ok (.iload 4, 2) := by decide +kernel
theorem dX3_turn_36 : decode cX3_turn 36 = .ok (.aload_n 3, 1) := by decide +kernel
theorem dX3_turn_37 : decode cX3_turn 37 = .ok (.getfield 54, 3) := by decide +kernel
theorem dX3_turn_40 : decode cX3_turn 40 = .ok (.if_icmp .lt 15, 3) := by decide +kernel
theorem dX3_turn_43 : decode cX3_turn 43 = .ok (.aload_n 0, 1) := by decide +kernel
theorem dX3_turn_44 : decode cX3_turn 44 = .ok (.dup, 1) := by decide +kernel
theorem dX3_turn_45 : decode cX3_turn 45 = .ok (.getfield 28, 3) := by decide +kernel
theorem dX3_turn_48 : decode cX3_turn 48 = .ok (.iconst 1, 1) := by decide +kernel
theorem dX3_turn_49 : decode cX3_turn 49 = .ok (.isub, 1) := by decide +kernel
theorem dX3_turn_50 : decode cX3_turn 50 = .ok (.putfield 28, 3) := by decide +kernel
theorem dX3_turn_53 : decode cX3_turn 53 = .ok (.iconst (-1), 1) := by decide +kernel
theorem dX3_turn_54 : decode cX3_turn 54 = .ok (.ireturn, 1) := by decide +kernel
theorem dX3_turn_55 : decode cX3_turn 55 = .ok (.aload_n 0, 1) := by decide +kernel
theorem dX3_turn_56 : decode cX3_turn 56 = .ok (.getfield 9, 3) := by decide +kernel
theorem dX3_turn_59 : decode cX3_turn 59 = .ok (.iload_n 2, 1) := by decide +kernel
theorem dX3_turn_60 : decode cX3_turn 60 = .ok (.if_icmp .lt 5, 3) := by decide +kernel
theorem dX3_turn_63 : decode cX3_turn 63 = .ok (.iconst 1, 1) := by decide +kernel
theorem dX3_turn_64 : decode cX3_turn 64 = .ok (.ireturn, 1) := by decide +kernel
theorem dX3_turn_65 : decode cX3_turn 65 = .ok (.aload_n 0, 1) := by decide +kernel
theorem dX3_turn_66 : decode cX3_turn 66 = .ok (.dup, 1) := by decide +kernel
theorem dX3_turn_67 : decode cX3_turn 67 = .ok (.getfield 9, 3) := by decide +kernel
theorem dX3_turn_70 : decode cX3_turn 70 = .ok (.iconst 1, 1) := by decide +kernel
theorem dX3_turn_71 : decode cX3_turn 71 = .ok (.iadd, 1) := by decide +kernel
theorem dX3_turn_72 : decode cX3_turn 72 = .ok (.putfield 9, 3) := by decide +kernel
theorem dX3_turn_75 : decode cX3_turn 75 = .ok (.aload_n 0, 1) := by decide +kernel
theorem dX3_turn_76 : decode cX3_turn 76 = .ok (.aload_n 1, 1) := by decide +kernel
theorem dX3_turn_77 : decode cX3_turn 77 = .ok (.aload_n 3, 1) := by decide +kernel
theorem dX3_turn_78 : decode cX3_turn 78 = .ok (.iload 4, 2) := by decide +kernel
theorem dX3_turn_80 : decode cX3_turn 80 = .ok (.invokevirtual 57, 3) := by decide +kernel
theorem dX3_turn_83 : decode cX3_turn 83 = .ok (.ireturn, 1) := by decide +kernel
end
section
theorem dX3_perform_0 : decode cX3_perform 0 = .ok (.aload_n 2, 1) := by decide +kernel
theorem dX3_perform_1 : decode cX3_perform 1 = .ok (.getfield 61, 3) := by decide +kernel
theorem dX3_perform_4 : decode cX3_perform 4 = .ok (.iload_n 3, 1) := by decide +kernel
theorem dX3_perform_5 : decode cX3_perform 5 = .ok (.iaload, 1) := by decide +kernel
theorem dX3_perform_6 : decode cX3_perform 6 = .ok (.istore 4, 2) := by decide +kernel
theorem dX3_perform_8 : decode cX3_perform 8 = .ok (.aload_n 2, 1) := by decide +kernel
theorem dX3_perform_9 : decode cX3_perform 9 = .ok (.getfield 64, 3) := by decide +kernel
theorem dX3_perform_12 : decode cX3_perform 12 = .ok (.iload_n 3, 1) := by decide +kernel
theorem dX3_perform_13 : decode cX3_perform 13 = .ok (.iaload, 1) := by decide +kernel
theorem dX3_perform_14 : decode cX3_perform 14 = .ok (.istore 5, 2) := by decide +kernel
theorem dX3_perform_16 : decode cX3_perform 16 = .ok (.aload_n 0, 1) := by decide +kernel
theorem dX3_perform_17 : decode cX3_perform 17 = .ok (.getfield 37, 3) := by decide +kernel
theorem dX3_perform_20 : decode cX3_perform 20 = .ok (.aload_n 0, 1) := by decide +kernel
theorem dX3_perform_21 : decode cX3_perform 21 = .ok (.getfield 28, 3) := by decide +kernel
theorem dX3_perform_24 : decode cX3_perform 24 = .ok (.iconst 1, 1) := by decide +kernel
theorem dX3_perform_25 : decode cX3_perform 25 = .ok (.isub, 1) := by decide +kernel
theorem dX3_perform_26 : decode cX3_perform 26 = .ok (.iload_n 3, 1) := by decide +kernel
theorem dX3_perform_27 : decode cX3_perform 27 = .ok (.iconst 1, 1) := by decide +kernel
theorem dX3_perform_28 : decode cX3_perform 28 = .ok (.iadd, 1) := by decide +kernel
theorem dX3_perform_29 : decode cX3_perform 29 = .ok (.iastore, 1) := by decide +kernel
theorem dX3_perform_30 : decode cX3_perform 30 = .ok (.aload_n 2, 1) := by decide +kernel
theorem dX3_perform_31 : decode cX3_perform 31 = .ok (.getfield 67, 3) := by decide +kernel
theorem dX3_perform_34 : decode cX3_perform 34 = .ok (.iload_n 3, 1) := by decide +kernel
theorem dX3_perform_35 : decode cX3_perform 35 = .ok (.iaload, 1) := by decide +kernel
theorem dX3_perform_36 : decode cX3_perform 36 = .ok (.tableswitch 127 0 4 #[36, 43, 57, 76, 110], 36) := by decide +kernel
theorem dX3_perform_72 : decode cX3_perform 72 = .ok (.aload_n 0, 1) := by decide +kernel
theorem dX3_perform_73 : decode cX3_perform 73 = .ok (.iload 4, 2) := by decide +kernel
theorem dX3_perform_75 : decode cX3_perform 75 = .ok (.invokevirtual 70, 3) := by decide +kernel
theorem dX3_perform_78 : decode cX3_perform 78 = .ok (.ireturn, 1) := by decide +kernel
theorem dX3_perform_79 : decode cX3_perform 79 = .ok (.aload_n 0, 1) := by decide +kernel
theorem dX3_perform_80 : decode cX3_perform 80 = .ok (.getfield 25, 3) := by decide +kernel
theorem dX3_perform_83 : decode cX3_perform 83 = .ok (.iload 4, 2) := by decide +kernel
theorem dX3_perform_85 : decode cX3_perform 85 = .ok (.dup2, 1) := by decide +kernel
theorem dX3_perform_86 : decode cX3_perform 86 = .ok (.iaload, 1) := by decide +kernel
theorem dX3_perform_87 : decode cX3_perform 87 = .ok (.iload 5, 2) := by decide +kernel
theorem dX3_perform_89 : decode cX3_perform 89 = .ok (.iadd, 1) := by decide +kernel
theorem dX3_perform_90 : decode cX3_perform 90 = .ok (.iastore, 1) := by decide +kernel
theorem dX3_perform_91 : decode cX3_perform 91 = .ok (.iconst (-1), 1) := by decide +kernel
theorem dX3_perform_92 : decode cX3_perform 92 = .ok (.ireturn, 1) := by decide +kernel
theorem dX3_perform_93 : decode cX3_perform 93 = .ok (.aload_n 0, 1) := by decide +kernel
theorem dX3_perform_94 : decode cX3_perform 94 = .ok (.getfield 37, 3) := by decide +kernel
theorem dX3_perform_97 : decode cX3_perform 97 = .ok (.aload_n 0, 1) := by decide +kernel
theorem dX3_perform_98 : decode cX3_perform 98 = .ok (.getfield 28, 3) := by decide +kernel
theorem dX3_perform_101 : decode cX3_perform 101 = .ok (.iconst 1, 1) := by decide +kernel
theorem dX3_perform_102 : decode cX3_perform 102 = .ok (.isub, 1) := by decide +kernel
theorem dX3_perform_103 : decode cX3_perform 103 = .ok (.aload_n 2, 1) := by decide +kernel
theorem dX3_perform_104 : decode cX3_perform 104 = .ok (.getfield 74, 3) := by decide +kernel
theorem dX3_perform_107 : decode cX3_perform 107 = .ok (.iload_n 3, 1) := by decide +kernel
theorem dX3_perform_108 : decode cX3_perform 108 = .ok (.iaload, 1) := by decide +kernel
theorem dX3_perform_109 : decode cX3_perform 109 = .ok (.iastore, 1) := by decide +kernel
theorem dX3_perform_110 : decode cX3_perform 110 = .ok (.iconst (-1), 1) := by decide +kernel
theorem dX3_perform_111 : decode cX3_perform 111 = .ok (.ireturn, 1) := by decide +kernel
theorem dX3_perform_112 : decode cX3_perform 112 = .ok (.aload_n 0, 1) := by decide +kernel
theorem dX3_perform_113 : decode cX3_perform 113 = .ok (.getfield 25, 3) := by decide +kernel
theorem dX3_perform_116 : decode cX3_perform 116 = .ok (.iload 4, 2) := by decide +kernel
theorem dX3_perform_118 : decode cX3_perform 118 = .ok (.iaload, 1) := by decide +kernel
theorem dX3_perform_119 : decode cX3_perform 119 = .ok (.iload 5, 2) := by decide +kernel
theorem dX3_perform_121 : decode cX3_perform 121 = .ok (.invokestatic 77, 3) := by decide +kernel
theorem dX3_perform_124 : decode cX3_perform 124 = .ok (.ifCond .eq 20, 3) := by decide +kernel
theorem dX3_perform_127 : decode cX3_perform 127 = .ok (.aload_n 0, 1) := by decide +kernel
theorem dX3_perform_128 : decode cX3_perform 128 = .ok (.getfield 37, 3) := by decide +kernel
theorem dX3_perform_131 : decode cX3_perform 131 = .ok (.aload_n 0, 1) := by decide +kernel
theorem dX3_perform_132 : decode cX3_perform 132 = .ok (.getfield 28, 3) := by decide +kernel
theorem dX3_perform_135 : decode cX3_perform 135 = .ok (.iconst 1, 1) := by decide +kernel
theorem dX3_perform_136 : decode cX3_perform 136 = .ok (.isub, 1) := by decide +kernel
theorem dX3_perform_137 : decode cX3_perform 137 = .ok (.aload_n 2, 1) := by decide +kernel
theorem dX3_perform_138 : decode cX3_perform 138 = .ok (.getfield 74, 3) := by decide +kernel
theorem dX3_perform_141 : decode cX3_perform 141 = .ok (.iload_n 3, 1) := by decide +kernel
theorem dX3_perform_142 : decode cX3_perform 142 = .ok (.iaload, 1) := by decide +kernel
theorem dX3_perform_143 : decode cX3_perform 143 = .ok (.iastore, 1) := by decide +kernel
theorem dX3_perform_144 : decode cX3_perform 144 = .ok (.iconst (-1), 1) := by decide +kernel
theorem dX3_perform_145 : decode cX3_perform 145 = .ok (.ireturn, 1) := by decide +kernel
theorem dX3_perform_146 : decode cX3_perform 146 = .ok (.aload_n 0, 1) := by decide +kernel
theorem dX3_perform_147 : decode cX3_perform 147 = .ok (.getfield 37, 3) := by decide +kernel
theorem dX3_perform_150 : decode cX3_perform 150 = .ok (.aload_n 0, 1) := by decide +kernel
theorem dX3_perform_151 : decode cX3_perform 151 = .ok (.getfield 28, 3) := by decide +kernel
theorem dX3_perform_154 : decode cX3_perform 154 = .ok (.iconst 1, 1) := by decide +kernel
theorem dX3_perform_155 : decode cX3_perform 155 = .ok (.isub, 1) := by decide +kernel
theorem dX3_perform_156 : decode cX3_perform 156 = .ok (.aload_n 2, 1) := by decide +kernel
theorem dX3_perform_157 : decode cX3_perform 157 = .ok (.getfield 54, 3) := by decide +kernel
theorem dX3_perform_160 : decode cX3_perform 160 = .ok (.iastore, 1) := by decide +kernel
theorem dX3_perform_161 : decode cX3_perform 161 = .ok (.iconst (-1), 1) := by decide +kernel
theorem dX3_perform_162 : decode cX3_perform 162 = .ok (.ireturn, 1) := by decide +kernel
theorem dX3_perform_163 : decode cX3_perform 163 = .ok (.aload_n 0, 1) := by decide +kernel
theorem dX3_perform_164 : decode cX3_perform 164 = .ok (.aload_n 1, 1) := by decide +kernel
theorem dX3_perform_165 : decode cX3_perform 165 = .ok (.iload 4, 2) := by decide +kernel
theorem dX3_perform_167 : decode cX3_perform 167 = .ok (.aaload, 1) := by decide +kernel
theorem dX3_perform_168 : decode cX3_perform 168 = .ok (.invokevirtual 81, 3) := by decide +kernel
theorem dX3_perform_171 : decode cX3_perform 171 = .ok (.ireturn, 1) := by decide +kernel
theorem dX3_say_0 : decode cX3_say 0 = .ok (.aload_n 0, 1) := by decide +kernel
theorem dX3_say_1 : decode cX3_say 1 = .ok (.getfield 18, 3) := by decide +kernel
theorem dX3_say_4 : decode cX3_say 4 = .ok (.sipush 200, 3) := by decide +kernel
theorem dX3_say_7 : decode cX3_say 7 = .ok (.if_icmp .lt 5, 3) := by decide +kernel
theorem dX3_say_10 : decode cX3_say 10 = .ok (.iconst 4, 1) := by decide +kernel
theorem dX3_say_11 : decode cX3_say 11 = .ok (.ireturn, 1) := by decide +kernel
theorem dX3_say_12 : decode cX3_say 12 = .ok (.aload_n 0, 1) := by decide +kernel
theorem dX3_say_13 : decode cX3_say 13 = .ok (.getfield 21, 3) := by decide +kernel
theorem dX3_say_16 : decode cX3_say 16 = .ok (.aload_n 0, 1) := by decide +kernel
theorem dX3_say_17 : decode cX3_say 17 = .ok (.getfield 18, 3) := by decide +kernel
theorem dX3_say_20 : decode cX3_say 20 = .ok (.iload_n 1, 1) := by decide +kernel
theorem dX3_say_21 : decode cX3_say 21 = .ok (.iastore, 1) := by decide +kernel
theorem dX3_say_22 : decode cX3_say 22 = .ok (.aload_n 0, 1) := by decide +kernel
theorem dX3_say_23 : decode cX3_say 23 = .ok (.dup, 1) := by decide +kernel
theorem dX3_say_24 : decode cX3_say 24 = .ok (.getfield 18, 3) := by decide +kernel
theorem dX3_say_27 : decode cX3_say 27 = .ok (.iconst 1, 1) := by decide +kernel
theorem dX3_say_28 : decode cX3_say 28 = .ok (.iadd, 1) := by decide +kernel
theorem dX3_say_29 : decode cX3_say 29 = .ok (.putfield 18, 3) := by decide +kernel
theorem dX3_say_32 : decode cX3_say 32 = .ok (.iconst (-1), 1) := by decide +kernel
theorem dX3_say_33 : decode cX3_say 33 = .ok (.ireturn, 1) := by decide +kernel
theorem dX3_callOf_0 : decode cX3_callOf 0 = .ok (.aload_n 1, 1) := by decide +kernel
theorem dX3_callOf_1 : decode cX3_callOf 1 = .ok (.ifnull 10, 3) := by decide +kernel
theorem dX3_callOf_4 : decode cX3_callOf 4 = .ok (.aload_n 1, 1) := by decide +kernel
theorem dX3_callOf_5 : decode cX3_callOf 5 = .ok (.getfield 85, 3) := by decide +kernel
theorem dX3_callOf_8 : decode cX3_callOf 8 = .ok (.ifCond .ne 5, 3) := by decide +kernel
theorem dX3_callOf_11 : decode cX3_callOf 11 = .ok (.iconst 2, 1) := by decide +kernel
theorem dX3_callOf_12 : decode cX3_callOf 12 = .ok (.ireturn, 1) := by decide +kernel
theorem dX3_callOf_13 : decode cX3_callOf 13 = .ok (.aload_n 0, 1) := by decide +kernel
theorem dX3_callOf_14 : decode cX3_callOf 14 = .ok (.getfield 28, 3) := by decide +kernel
theorem dX3_callOf_17 : decode cX3_callOf 17 = .ok (.bipush 8, 2) := by decide +kernel
theorem dX3_callOf_19 : decode cX3_callOf 19 = .ok (.if_icmp .lt 5, 3) := by decide +kernel
theorem dX3_callOf_22 : decode cX3_callOf 22 = .ok (.iconst 3, 1) := by decide +kernel
theorem dX3_callOf_23 : decode cX3_callOf 23 = .ok (.ireturn, 1) := by decide +kernel
theorem dX3_callOf_24 : decode cX3_callOf 24 = .ok (.aload_n 0, 1) := by decide +kernel
theorem dX3_callOf_25 : decode cX3_callOf 25 = .ok (.aload_n 1, 1) := by decide +kernel
theorem dX3_callOf_26 : decode cX3_callOf 26 = .ok (.invokevirtual 46, 3) := by decide +kernel
theorem dX3_callOf_29 : decode cX3_callOf 29 = .ok (.iconst (-1), 1) := by decide +kernel
theorem dX3_callOf_30 : decode cX3_callOf 30 = .ok (.ireturn, 1) := by decide +kernel
theorem dX3_holds_0 : decode cX3_holds 0 = .ok (.iload_n 1, 1) := by decide +kernel
theorem dX3_holds_1 : decode cX3_holds 1 = .ok (.tableswitch 85 0 4 #[35, 45, 55, 65, 75], 35) := by decide +kernel
theorem dX3_holds_36 : decode cX3_holds 36 = .ok (.iload_n 0, 1) := by decide +kernel
theorem dX3_holds_37 : decode cX3_holds 37 = .ok (.ifCond .ne 7, 3) := by decide +kernel
theorem dX3_holds_40 : decode cX3_holds 40 = .ok (.iconst 1, 1) := by decide +kernel
theorem dX3_holds_41 : decode cX3_holds 41 = .ok (.goto 4, 3) := by decide +kernel
theorem dX3_holds_44 : decode cX3_holds 44 = .ok (.iconst 0, 1) := by decide +kernel
theorem dX3_holds_45 : decode cX3_holds 45 = .ok (.ireturn, 1) := by decide +kernel
theorem dX3_holds_46 : decode cX3_holds 46 = .ok (.iload_n 0, 1) := by decide +kernel
theorem dX3_holds_47 : decode cX3_holds 47 = .ok (.ifCond .eq 7, 3) := by decide +kernel
theorem dX3_holds_50 : decode cX3_holds 50 = .ok (.iconst 1, 1) := by decide +kernel
theorem dX3_holds_51 : decode cX3_holds 51 = .ok (.goto 4, 3) := by decide +kernel
theorem dX3_holds_54 : decode cX3_holds 54 = .ok (.iconst 0, 1) := by decide +kernel
theorem dX3_holds_55 : decode cX3_holds 55 = .ok (.ireturn, 1) := by decide +kernel
theorem dX3_holds_56 : decode cX3_holds 56 = .ok (.iload_n 0, 1) := by decide +kernel
theorem dX3_holds_57 : decode cX3_holds 57 = .ok (.ifCond .ge 7, 3) := by decide +kernel
theorem dX3_holds_60 : decode cX3_holds 60 = .ok (.iconst 1, 1) := by decide +kernel
theorem dX3_holds_61 : decode cX3_holds 61 = .ok (.goto 4, 3) := by decide +kernel
theorem dX3_holds_64 : decode cX3_holds 64 = .ok (.iconst 0, 1) := by decide +kernel
theorem dX3_holds_65 : decode cX3_holds 65 = .ok (.ireturn, 1) := by decide +kernel
theorem dX3_holds_66 : decode cX3_holds 66 = .ok (.iload_n 0, 1) := by decide +kernel
theorem dX3_holds_67 : decode cX3_holds 67 = .ok (.ifCond .lt 7, 3) := by decide +kernel
theorem dX3_holds_70 : decode cX3_holds 70 = .ok (.iconst 1, 1) := by decide +kernel
theorem dX3_holds_71 : decode cX3_holds 71 = .ok (.goto 4, 3) := by decide +kernel
theorem dX3_holds_74 : decode cX3_holds 74 = .ok (.iconst 0, 1) := by decide +kernel
theorem dX3_holds_75 : decode cX3_holds 75 = .ok (.ireturn, 1) := by decide +kernel
theorem dX3_holds_76 : decode cX3_holds 76 = .ok (.iload_n 0, 1) := by decide +kernel
theorem dX3_holds_77 : decode cX3_holds 77 = .ok (.ifCond .le 7, 3) := by decide +kernel
theorem dX3_holds_80 : decode cX3_holds 80 = .ok (.iconst 1, 1) := by decide +kernel
theorem dX3_holds_81 : decode cX3_holds 81 = .ok (.goto 4, 3) := by decide +kernel
theorem dX3_holds_84 : decode cX3_holds 84 = .ok (.iconst 0, 1) := by decide +kernel
theorem dX3_holds_85 : decode cX3_holds 85 = .ok (.ireturn, 1) := by decide +kernel
theorem dX3_holds_86 : decode cX3_holds 86 = .ok (.iload_n 0, 1) := by decide +kernel
theorem dX3_holds_87 : decode cX3_holds 87 = .ok (.ifCond .gt 7, 3) := by decide +kernel
theorem dX3_holds_90 : decode cX3_holds 90 = .ok (.iconst 1, 1) := by decide +kernel
theorem dX3_holds_91 : decode cX3_holds 91 = .ok (.goto 4, 3) := by decide +kernel
theorem dX3_holds_94 : decode cX3_holds 94 = .ok (.iconst 0, 1) := by decide +kernel
theorem dX3_holds_95 : decode cX3_holds 95 = .ok (.ireturn, 1) := by decide +kernel
theorem dX4_init_0 : decode cX4_init 0 = .ok (.aload_n 0, 1) := by decide +kernel
theorem dX4_init_1 : decode cX4_init 1 = .ok (.invokespecial 3, 3) := by decide +kernel
theorem dX4_init_4 : decode cX4_init 4 = .ok (.aload_n 0, 1) := by decide +kernel
theorem dX4_init_5 : decode cX4_init 5 = .ok (.bipush 60, 2) := by decide +kernel
theorem dX4_init_7 : decode cX4_init 7 = .ok (.newarray .int, 2) := by decide +kernel
theorem dX4_init_9 : decode cX4_init 9 = .ok (.putfield 9, 3) := by decide +kernel
theorem dX4_init_12 : decode cX4_init 12 = .ok (.aload_n 0, 1) := by decide +kernel
theorem dX4_init_13 : decode cX4_init 13 = .ok (.bipush 60, 2) := by decide +kernel
theorem dX4_init_15 : decode cX4_init 15 = .ok (.newarray .int, 2) := by decide +kernel
theorem dX4_init_17 : decode cX4_init 17 = .ok (.putfield 15, 3) := by decide +kernel
theorem dX4_init_20 : decode cX4_init 20 = .ok (.aload_n 0, 1) := by decide +kernel
theorem dX4_init_21 : decode cX4_init 21 = .ok (.bipush 60, 2) := by decide +kernel
theorem dX4_init_23 : decode cX4_init 23 = .ok (.newarray .int, 2) := by decide +kernel
theorem dX4_init_25 : decode cX4_init 25 = .ok (.putfield 18, 3) := by decide +kernel
theorem dX4_init_28 : decode cX4_init 28 = .ok (.aload_n 0, 1) := by decide +kernel
theorem dX4_init_29 : decode cX4_init 29 = .ok (.bipush 60, 2) := by decide +kernel
theorem dX4_init_31 : decode cX4_init 31 = .ok (.newarray .int, 2) := by decide +kernel
theorem dX4_init_33 : decode cX4_init 33 = .ok (.putfield 21, 3) := by decide +kernel
theorem dX4_init_36 : decode cX4_init 36 = .ok (.aload_n 0, 1) := by decide +kernel
theorem dX4_init_37 : decode cX4_init 37 = .ok (.bipush 60, 2) := by decide +kernel
theorem dX4_init_39 : decode cX4_init 39 = .ok (.newarray .int, 2) := by decide +kernel
theorem dX4_init_41 : decode cX4_init 41 = .ok (.putfield 24, 3) := by decide +kernel
theorem dX4_init_44 : decode cX4_init 44 = .ok (.aload_n 0, 1) := by decide +kernel
theorem dX4_init_45 : decode cX4_init 45 = .ok (.bipush 60, 2) := by decide +kernel
theorem dX4_init_47 : decode cX4_init 47 = .ok (.newarray .int, 2) := by decide +kernel
theorem dX4_init_49 : decode cX4_init 49 = .ok (.putfield 27, 3) := by decide +kernel
theorem dX4_init_52 : decode cX4_init 52 = .ok (.aload_n 0, 1) := by decide +kernel
theorem dX4_init_53 : decode cX4_init 53 = .ok (.bipush 60, 2) := by decide +kernel
theorem dX4_init_55 : decode cX4_init 55 = .ok (.newarray .int, 2) := by decide +kernel
theorem dX4_init_57 : decode cX4_init 57 = .ok (.putfield 30, 3) := by decide +kernel
theorem dX4_init_60 : decode cX4_init 60 = .ok (.aload_n 0, 1) := by decide +kernel
theorem dX4_init_61 : decode cX4_init 61 = .ok (.sipush 241, 3) := by decide +kernel
theorem dX4_init_64 : decode cX4_init 64 = .ok (.newarray .int, 2) := by decide +kernel
theorem dX4_init_66 : decode cX4_init 66 = .ok (.putfield 33, 3) := by decide +kernel
theorem dX4_init_69 : decode cX4_init 69 = .ok (.aload_n 0, 1) := by decide +kernel
theorem dX4_init_70 : decode cX4_init 70 = .ok (.iconst 0, 1) := by decide +kernel
theorem dX4_init_71 : decode cX4_init 71 = .ok (.putfield 36, 3) := by decide +kernel
theorem dX4_init_74 : decode cX4_init 74 = .ok (.aload_n 0, 1) := by decide +kernel
theorem dX4_init_75 : decode cX4_init 75 = .ok (.iconst 0, 1) := by decide +kernel
theorem dX4_init_76 : decode cX4_init 76 = .ok (.putfield 40, 3) := by decide +kernel
theorem dX4_init_79 : decode cX4_init 79 = .ok (.aload_n 0, 1) := by decide +kernel
theorem dX4_init_80 : decode cX4_init 80 = .ok (.iconst 0, 1) := by decide +kernel
theorem dX4_init_81 : decode cX4_init 81 = .ok (.putfield 43, 3) := by decide +kernel
theorem dX4_init_84 : decode cX4_init 84 = .ok (.aload_n 0, 1) := by decide +kernel
theorem dX4_init_85 : decode cX4_init 85 = .ok (.iconst 0, 1) := by decide +kernel
theorem dX4_init_86 : decode cX4_init 86 = .ok (.putfield 46, 3) := by decide +kernel
theorem dX4_init_89 : decode cX4_init 89 = .ok (.return_, 1) := by decide +kernel
theorem dX4_empty_0 : decode cX4_empty 0 = .ok (.aload_n 0, 1) := by decide +kernel
theorem dX4_empty_1 : decode cX4_empty 1 = .ok (.iconst 0, 1) := by decide +kernel
theorem dX4_empty_2 : decode cX4_empty 2 = .ok (.putfield 36, 3) := by decide +kernel
theorem dX4_empty_5 : decode cX4_empty 5 = .ok (.aload_n 0, 1) := by decide +kernel
theorem dX4_empty_6 : decode cX4_empty 6 = .ok (.iconst 0, 1) := by decide +kernel
theorem dX4_empty_7 : decode cX4_empty 7 = .ok (.putfield 40, 3) := by decide +kernel
theorem dX4_empty_10 : decode cX4_empty 10 = .ok (.aload_n 0, 1) := by decide +kernel
theorem dX4_empty_11 : decode cX4_empty 11 = .ok (.iconst 0, 1) := by decide +kernel
theorem dX4_empty_12 : decode cX4_empty 12 = .ok (.putfield 43, 3) := by decide +kernel
theorem dX4_empty_15 : decode cX4_empty 15 = .ok (.aload_n 0, 1) := by decide +kernel
theorem dX4_empty_16 : decode cX4_empty 16 = .ok (.iconst 0, 1) := by decide +kernel
theorem dX4_empty_17 : decode cX4_empty 17 = .ok (.putfield 46, 3) := by decide +kernel
theorem dX4_empty_20 : decode cX4_empty 20 = .ok (.return_, 1) := by decide +kernel
theorem dX4_has_0 : decode cX4_has 0 = .ok (.iload_n 1, 1) := by decide +kernel
theorem dX4_has_1 : decode cX4_has 1 = .ok (.ifCond .lt 15, 3) := by decide +kernel
theorem dX4_has_4 : decode cX4_has 4 = .ok (.iload_n 1, 1) := by decide +kernel
theorem dX4_has_5 : decode cX4_has 5 = .ok (.aload_n 0, 1) := by decide +kernel
theorem dX4_has_6 : decode cX4_has 6 = .ok (.getfield 36, 3) := by decide +kernel
theorem dX4_has_9 : decode cX4_has 9 = .ok (.if_icmp .ge 7, 3) := by decide +kernel
theorem dX4_has_12 : decode cX4_has 12 = .ok (.iconst 1, 1) := by decide +kernel
theorem dX4_has_13 : decode cX4_has 13 = .ok (.goto 4, 3) := by decide +kernel
theorem dX4_has_16 : decode cX4_has 16 = .ok (.iconst 0, 1) := by decide +kernel
theorem dX4_has_17 : decode cX4_has 17 = .ok (.ireturn, 1) := by decide +kernel
theorem dX4_tell_0 : decode cX4_tell 0 = .ok (.iload_n 2, 1) := by decide +kernel
theorem dX4_tell_1 : decode cX4_tell 1 = .ok (.tableswitch 70 0 4 #[35, 42, 49, 56, 63], 35) := by decide +kernel
theorem dX4_tell_36 : decode cX4_tell 36 = .ok (.aload_n 0, 1) := by decide +kernel
theorem dX4_tell_37 : decode cX4_tell 37 = .ok (.getfield 9, 3) := by decide +kernel
theorem dX4_tell_40 : decode cX4_tell 40 = .ok (.iload_n 1, 1) := by decide +kernel
theorem dX4_tell_41 : decode cX4_tell 41 = .ok (.iaload, 1) := by decide +kernel
theorem dX4_tell_42 : decode cX4_tell 42 = .ok (.ireturn, 1) := by decide +kernel
theorem dX4_tell_43 : decode cX4_tell 43 = .ok (.aload_n 0, 1) := by decide +kernel
theorem dX4_tell_44 : decode cX4_tell 44 = .ok (.getfield 15, 3) := by decide +kernel
theorem dX4_tell_47 : decode cX4_tell 47 = .ok (.iload_n 1, 1) := by decide +kernel
theorem dX4_tell_48 : decode cX4_tell 48 = .ok (.iaload, 1) := by decide +kernel
theorem dX4_tell_49 : decode cX4_tell 49 = .ok (.ireturn, 1) := by decide +kernel
theorem dX4_tell_50 : decode cX4_tell 50 = .ok (.aload_n 0, 1) := by decide +kernel
theorem dX4_tell_51 : decode cX4_tell 51 = .ok (.getfield 18, 3) := by decide +kernel
theorem dX4_tell_54 : decode cX4_tell 54 = .ok (.iload_n 1, 1) := by decide +kernel
theorem dX4_tell_55 : decode cX4_tell 55 = .ok (.iaload, 1) := by decide +kernel
theorem dX4_tell_56 : decode cX4_tell 56 = .ok (.ireturn, 1) := by decide +kernel
theorem dX4_tell_57 : decode cX4_tell 57 = .ok (.aload_n 0, 1) := by decide +kernel
theorem dX4_tell_58 : decode cX4_tell 58 = .ok (.getfield 21, 3) := by decide +kernel
theorem dX4_tell_61 : decode cX4_tell 61 = .ok (.iload_n 1, 1) := by decide +kernel
theorem dX4_tell_62 : decode cX4_tell 62 = .ok (.iaload, 1) := by decide +kernel
theorem dX4_tell_63 : decode cX4_tell 63 = .ok (.ireturn, 1) := by decide +kernel
theorem dX4_tell_64 : decode cX4_tell 64 = .ok (.aload_n 0, 1) := by decide +kernel
theorem dX4_tell_65 : decode cX4_tell 65 = .ok (.getfield 24, 3) := by decide +kernel
theorem dX4_tell_68 : decode cX4_tell 68 = .ok (.iload_n 1, 1) := by decide +kernel
theorem dX4_tell_69 : decode cX4_tell 69 = .ok (.iaload, 1) := by decide +kernel
theorem dX4_tell_70 : decode cX4_tell 70 = .ok (.ireturn, 1) := by decide +kernel
theorem dX4_tell_71 : decode cX4_tell 71 = .ok (.aload_n 0, 1) := by decide +kernel
theorem dX4_tell_72 : decode cX4_tell 72 = .ok (.getfield 27, 3) := by decide +kernel
theorem dX4_tell_75 : decode cX4_tell 75 = .ok (.iload_n 1, 1) := by decide +kernel
theorem dX4_tell_76 : decode cX4_tell 76 = .ok (.iaload, 1) := by decide +kernel
theorem dX4_tell_77 : decode cX4_tell 77 = .ok (.ireturn, 1) := by decide +kernel
theorem dX4_word_0 : decode cX4_word 0 = .ok (.aload_n 0, 1) := by decide +kernel
theorem dX4_word_1 : decode cX4_word 1 = .ok (.getfield 40, 3) := by decide +kernel
theorem dX4_word_4 : decode cX4_word 4 = .ok (.sipush 241, 3) := by decide +kernel
theorem dX4_word_7 : decode cX4_word 7 = .ok (.if_icmp .ge 23, 3) := by decide +kernel
theorem dX4_word_10 : decode cX4_word 10 = .ok (.aload_n 0, 1) := by decide +kernel
theorem dX4_word_11 : decode cX4_word 11 = .ok (.getfield 33, 3) := by decide +kernel
theorem dX4_word_14 : decode cX4_word 14 = .ok (.aload_n 0, 1) := by decide +kernel
theorem dX4_word_15 : decode cX4_word 15 = .ok (.getfield 40, 3) := by decide +kernel
theorem dX4_word_18 : decode cX4_word 18 = .ok (.iload_n 1, 1) := by decide +kernel
theorem dX4_word_19 : decode cX4_word 19 = .ok (.iastore, 1) := by decide +kernel
theorem dX4_word_20 : decode cX4_word 20 = .ok (.aload_n 0, 1) := by decide +kernel
theorem dX4_word_21 : decode cX4_word 21 = .ok (.dup, 1) := by decide +kernel
theorem dX4_word_22 : decode cX4_word 22 = .ok (.getfield 40, 3) := by decide +kernel
theorem dX4_word_25 : decode cX4_word 25 = .ok (.iconst 1, 1) := by decide +kernel
theorem dX4_word_26 : decode cX4_word 26 = .ok (.iadd, 1) := by decide +kernel
theorem dX4_word_27 : decode cX4_word 27 = .ok (.putfield 40, 3) := by decide +kernel
theorem dX4_word_30 : decode cX4_word 30 = .ok (.return_, 1) := by decide +kernel
theorem dX5_init_0 : decode cX5_init 0 = .ok (.aload_n 0, 1) := by decide +kernel
theorem dX5_init_1 : decode cX5_init 1 = .ok (.invokespecial 3, 3) := by decide +kernel
theorem dX5_init_4 : decode cX5_init 4 = .ok (.aload_n 0, 1) := by decide +kernel
theorem dX5_init_5 : decode cX5_init 5 = .ok (.new 9, 3) := by decide +kernel
theorem dX5_init_8 : decode cX5_init 8 = .ok (.dup, 1) := by decide +kernel
theorem dX5_init_9 : decode cX5_init 9 = .ok (.invokespecial 11, 3) := by decide +kernel
theorem dX5_init_12 : decode cX5_init 12 = .ok (.putfield 12, 3) := by decide +kernel
theorem dX5_init_15 : decode cX5_init 15 = .ok (.aload_n 0, 1) := by decide +kernel
theorem dX5_init_16 : decode cX5_init 16 = .ok (.iconst 0, 1) := by decide +kernel
theorem dX5_init_17 : decode cX5_init 17 = .ok (.putfield 18, 3) := by decide +kernel
theorem dX5_init_20 : decode cX5_init 20 = .ok (.aload_n 0, 1) := by decide +kernel
theorem dX5_init_21 : decode cX5_init 21 = .ok (.aconst_null, 1) := by decide +kernel
theorem dX5_init_22 : decode cX5_init 22 = .ok (.putfield 22, 3) := by decide +kernel
theorem dX5_init_25 : decode cX5_init 25 = .ok (.aload_n 0, 1) := by decide +kernel
theorem dX5_init_26 : decode cX5_init 26 = .ok (.iconst 0, 1) := by decide +kernel
theorem dX5_init_27 : decode cX5_init 27 = .ok (.putfield 26, 3) := by decide +kernel
theorem dX5_init_30 : decode cX5_init 30 = .ok (.aload_n 0, 1) := by decide +kernel
theorem dX5_init_31 : decode cX5_init 31 = .ok (.iconst 0, 1) := by decide +kernel
theorem dX5_init_32 : decode cX5_init 32 = .ok (.putfield 29, 3) := by decide +kernel
theorem dX5_init_35 : decode cX5_init 35 = .ok (.aload_n 0, 1) := by decide +kernel
theorem dX5_init_36 : decode cX5_init 36 = .ok (.iconst 0, 1) := by decide +kernel
theorem dX5_init_37 : decode cX5_init 37 = .ok (.putfield 32, 3) := by decide +kernel
theorem dX5_init_40 : decode cX5_init 40 = .ok (.aload_n 0, 1) := by decide +kernel
theorem dX5_init_41 : decode cX5_init 41 = .ok (.iconst 0, 1) := by decide +kernel
theorem dX5_init_42 : decode cX5_init 42 = .ok (.putfield 35, 3) := by decide +kernel
theorem dX5_init_45 : decode cX5_init 45 = .ok (.aload_n 0, 1) := by decide +kernel
theorem dX5_init_46 : decode cX5_init 46 = .ok (.iconst 0, 1) := by decide +kernel
theorem dX5_init_47 : decode cX5_init 47 = .ok (.putfield 38, 3) := by decide +kernel
theorem dX5_init_50 : decode cX5_init 50 = .ok (.aload_n 0, 1) := by decide +kernel
theorem dX5_init_51 : decode cX5_init 51 = .ok (.bipush 60, 2) := by decide +kernel
theorem dX5_init_53 : decode cX5_init 53 = .ok (.newarray .int, 2) := by decide +kernel
theorem dX5_init_55 : decode cX5_init 55 = .ok (.putfield 41, 3) := by decide +kernel
theorem dX5_init_58 : decode cX5_init 58 = .ok (.aload_n 0, 1) := by decide +kernel
theorem dX5_init_59 : decode cX5_init 59 = .ok (.iconst 0, 1) := by decide +kernel
theorem dX5_init_60 : decode cX5_init 60 = .ok (.putfield 44, 3) := by decide +kernel
theorem dX5_init_63 : decode cX5_init 63 = .ok (.aload_n 0, 1) := by decide +kernel
theorem dX5_init_64 : decode cX5_init 64 = .ok (.bipush 61, 2) := by decide +kernel
theorem dX5_init_66 : decode cX5_init 66 = .ok (.newarray .int, 2) := by decide +kernel
theorem dX5_init_68 : decode cX5_init 68 = .ok (.putfield 47, 3) := by decide +kernel
theorem dX5_init_71 : decode cX5_init 71 = .ok (.aload_n 0, 1) := by decide +kernel
theorem dX5_init_72 : decode cX5_init 72 = .ok (.bipush 61, 2) := by decide +kernel
theorem dX5_init_74 : decode cX5_init 74 = .ok (.newarray .int, 2) := by decide +kernel
theorem dX5_init_76 : decode cX5_init 76 = .ok (.putfield 50, 3) := by decide +kernel
theorem dX5_init_79 : decode cX5_init 79 = .ok (.aload_n 0, 1) := by decide +kernel
theorem dX5_init_80 : decode cX5_init 80 = .ok (.bipush 61, 2) := by decide +kernel
theorem dX5_init_82 : decode cX5_init 82 = .ok (.newarray .int, 2) := by decide +kernel
theorem dX5_init_84 : decode cX5_init 84 = .ok (.putfield 53, 3) := by decide +kernel
theorem dX5_init_87 : decode cX5_init 87 = .ok (.aload_n 0, 1) := by decide +kernel
theorem dX5_init_88 : decode cX5_init 88 = .ok (.bipush 61, 2) := by decide +kernel
theorem dX5_init_90 : decode cX5_init 90 = .ok (.newarray .int, 2) := by decide +kernel
theorem dX5_init_92 : decode cX5_init 92 = .ok (.putfield 56, 3) := by decide +kernel
theorem dX5_init_95 : decode cX5_init 95 = .ok (.aload_n 0, 1) := by decide +kernel
theorem dX5_init_96 : decode cX5_init 96 = .ok (.bipush 61, 2) := by decide +kernel
theorem dX5_init_98 : decode cX5_init 98 = .ok (.newarray .int, 2) := by decide +kernel
theorem dX5_init_100 : decode cX5_init 100 = .ok (.putfield 59, 3) := by decide +kernel
theorem dX5_init_103 : decode cX5_init 103 = .ok (.aload_n 0, 1) := by decide +kernel
theorem dX5_init_104 : decode cX5_init 104 = .ok (.bipush 61, 2) := by decide +kernel
theorem dX5_init_106 : decode cX5_init 106 = .ok (.newarray .int, 2) := by decide +kernel
theorem dX5_init_108 : decode cX5_init 108 = .ok (.putfield 62, 3) := by decide +kernel
theorem dX5_init_111 : decode cX5_init 111 = .ok (.return_, 1) := by decide +kernel
theorem dX5_parse_0 : decode cX5_parse 0 = .ok (.aload_n 0, 1) := by decide +kernel
theorem dX5_parse_1 : decode cX5_parse 1 = .ok (.aload_n 1, 1) := by decide +kernel
theorem dX5_parse_2 : decode cX5_parse 2 = .ok (.putfield 22, 3) := by decide +kernel
theorem dX5_parse_5 : decode cX5_parse 5 = .ok (.aload_n 0, 1) := by decide +kernel
theorem dX5_parse_6 : decode cX5_parse 6 = .ok (.iload_n 2, 1) := by decide +kernel
theorem dX5_parse_7 : decode cX5_parse 7 = .ok (.putfield 26, 3) := by decide +kernel
theorem dX5_parse_10 : decode cX5_parse 10 = .ok (.aload_n 0, 1) := by decide +kernel
theorem dX5_parse_11 : decode cX5_parse 11 = .ok (.iconst 0, 1) := by decide +kernel
theorem dX5_parse_12 : decode cX5_parse 12 = .ok (.putfield 18, 3) := by decide +kernel
theorem dX5_parse_15 : decode cX5_parse 15 = .ok (.aload_n 0, 1) := by decide +kernel
theorem dX5_parse_16 : decode cX5_parse 16 = .ok (.iconst 0, 1) := by decide +kernel
theorem dX5_parse_17 : decode cX5_parse 17 = .ok (.putfield 29, 3) := by decide +kernel
theorem dX5_parse_20 : decode cX5_parse 20 = .ok (.aload_n 0, 1) := by decide +kernel
theorem dX5_parse_21 : decode cX5_parse 21 = .ok (.iconst 0, 1) := by decide +kernel
theorem dX5_parse_22 : decode cX5_parse 22 = .ok (.putfield 32, 3) := by decide +kernel
theorem dX5_parse_25 : decode cX5_parse 25 = .ok (.aload_n 0, 1) := by decide +kernel
theorem dX5_parse_26 : decode cX5_parse 26 = .ok (.iconst 0, 1) := by decide +kernel
theorem dX5_parse_27 : decode cX5_parse 27 = .ok (.putfield 35, 3) := by decide +kernel
theorem dX5_parse_30 : decode cX5_parse 30 = .ok (.aload_n 0, 1) := by decide +kernel
theorem dX5_parse_31 : decode cX5_parse 31 = .ok (.iconst 0, 1) := by decide +kernel
theorem dX5_parse_32 : decode cX5_parse 32 = .ok (.putfield 38, 3) := by decide +kernel
theorem dX5_parse_35 : decode cX5_parse 35 = .ok (.aload_n 0, 1) := by decide +kernel
theorem dX5_parse_36 : decode cX5_parse 36 = .ok (.iconst 0, 1) := by decide +kernel
theorem dX5_parse_37 : decode cX5_parse 37 = .ok (.putfield 44, 3) := by decide +kernel
theorem dX5_parse_40 : decode cX5_parse 40 = .ok (.aload_n 0, 1) := by decide +kernel
theorem dX5_parse_41 : decode cX5_parse 41 = .ok (.iconst (-1), 1) := by decide +kernel
theorem dX5_parse_42 : decode cX5_parse 42 = .ok (.iconst (-1), 1) := by decide +kernel
theorem dX5_parse_43 : decode cX5_parse 43 = .ok (.iconst 0, 1) := by decide +kernel
theorem dX5_parse_44 : decode cX5_parse 44 = .ok (.iconst 0, 1) := by decide +kernel
theorem dX5_parse_45 : decode cX5_parse 45 = .ok (.invokevirtual 65, 3) := by decide +kernel
theorem dX5_parse_48 : decode cX5_parse 48 = .ok (.iconst 0, 1) := by decide +kernel
theorem dX5_parse_49 : decode cX5_parse 49 = .ok (.istore_n 3, 1) := by decide +kernel
theorem dX5_parse_50 : decode cX5_parse 50 = .ok (.iload_n 3, 1) := by decide +kernel
theorem dX5_parse_51 : decode cX5_parse 51 = .ok (.sipush 601, 3) := by decide +kernel
theorem dX5_parse_54 : decode cX5_parse 54 = .ok (.if_icmp .ge 63, 3) := by decide +kernel
theorem dX5_parse_57 : decode cX5_parse 57 = .ok (.aload_n 0, 1) := by decide +kernel
theorem dX5_parse_58 : decode cX5_parse 58 = .ok (.getfield 29, 3) := by decide +kernel
theorem dX5_parse_61 : decode cX5_parse 61 = .ok (.ifCond .ne 56, 3) := by decide +kernel
theorem dX5_parse_64 : decode cX5_parse 64 = .ok (.aload_n 0, 1) := by decide +kernel
theorem dX5_parse_65 : decode cX5_parse 65 = .ok (.getfield 44, 3) := by decide +kernel
theorem dX5_parse_68 : decode cX5_parse 68 = .ok (.ifCond .le 49, 3) := by decide +kernel
theorem dX5_parse_71 : decode cX5_parse 71 = .ok (.aload_n 0, 1) := by decide +kernel
theorem dX5_parse_72 : decode cX5_parse 72 = .ok (.getfield 47, 3) := by decide +kernel
theorem dX5_parse_75 : decode cX5_parse 75 = .ok (.aload_n 0, 1) := by decide +kernel
theorem dX5_parse_76 : decode cX5_parse 76 = .ok (.getfield 44, 3) := by decide +kernel
theorem dX5_parse_79 : decode cX5_parse 79 = .ok (.iconst 1, 1) := by decide +kernel
theorem dX5_parse_80 : decode cX5_parse 80 = .ok (.isub, 1) := by decide +kernel
theorem dX5_parse_81 : decode cX5_parse 81 = .ok (.iaload, 1) := by decide +kernel
theorem dX5_parse_82 : decode cX5_parse 82 = .ok (.ifCond .le 25, 3) := by decide +kernel
theorem dX5_parse_85 : decode cX5_parse 85 = .ok (.aload_n 0, 1) := by decide +kernel
theorem dX5_parse_86 : decode cX5_parse 86 = .ok (.getfield 47, 3) := by decide +kernel
theorem dX5_parse_89 : decode cX5_parse 89 = .ok (.aload_n 0, 1) := by decide +kernel
theorem dX5_parse_90 : decode cX5_parse 90 = .ok (.getfield 44, 3) := by decide +kernel
theorem dX5_parse_93 : decode cX5_parse 93 = .ok (.iconst 1, 1) := by decide +kernel
theorem dX5_parse_94 : decode cX5_parse 94 = .ok (.isub, 1) := by decide +kernel
theorem dX5_parse_95 : decode cX5_parse 95 = .ok (.dup2, 1) := by decide +kernel
theorem dX5_parse_96 : decode cX5_parse 96 = .ok (.iaload, 1) := by decide +kernel
theorem dX5_parse_97 : decode cX5_parse 97 = .ok (.iconst 1, 1) := by decide +kernel
theorem dX5_parse_98 : decode cX5_parse 98 = .ok (.isub, 1) := by decide +kernel
theorem dX5_parse_99 : decode cX5_parse 99 = .ok (.iastore, 1) := by decide +kernel
theorem dX5_parse_100 : decode cX5_parse 100 = .ok (.aload_n 0, 1) := by decide +kernel
theorem dX5_parse_101 : decode cX5_parse 101 = .ok (.invokevirtual 69, 3) := by decide +kernel
theorem dX5_parse_104 : decode cX5_parse 104 = .ok (.goto 7, 3) := by decide +kernel
theorem dX5_parse_107 : decode cX5_parse 107 = .ok (.aload_n 0, 1) := by decide +kernel
theorem dX5_parse_108 : decode cX5_parse 108 = .ok (.invokevirtual 72, 3) := by decide +kernel
theorem dX5_parse_111 : decode cX5_parse 111 = .ok (.iinc 3 1, 3) := by decide +kernel
theorem dX5_parse_114 : decode cX5_parse 114 = .ok (.goto (-64), 3) := by decide +kernel
theorem dX5_parse_117 : decode cX5_parse 117 = .ok (.aload_n 0, 1) := by decide +kernel
theorem dX5_parse_118 : decode cX5_parse 118 = .ok (.invokevirtual 75, 3) := by decide +kernel
theorem dX5_parse_121 : decode cX5_parse 121 = .ok (.aload_n 0, 1) := by decide +kernel
theorem dX5_parse_122 : decode cX5_parse 122 = .ok (.getfield 12, 3) := by decide +kernel
theorem dX5_parse_125 : decode cX5_parse 125 = .ok (.aload_n 0, 1) := by decide +kernel
theorem dX5_parse_126 : decode cX5_parse 126 = .ok (.getfield 32, 3) := by decide +kernel
theorem dX5_parse_129 : decode cX5_parse 129 = .ok (.bipush 60, 2) := by decide +kernel
theorem dX5_parse_131 : decode cX5_parse 131 = .ok (.invokestatic 78, 3) := by decide +kernel
theorem dX5_parse_134 : decode cX5_parse 134 = .ok (.putfield 84, 3) := by decide +kernel
theorem dX5_parse_137 : decode cX5_parse 137 = .ok (.aload_n 0, 1) := by decide +kernel
theorem dX5_parse_138 : decode cX5_parse 138 = .ok (.getfield 29, 3) := by decide +kernel
theorem dX5_parse_141 : decode cX5_parse 141 = .ok (.ireturn, 1) := by decide +kernel
theorem dX5_judgeAll_0 : decode cX5_judgeAll 0 = .ok (.aload_n 0, 1) := by decide +kernel
theorem dX5_judgeAll_1 : decode cX5_judgeAll 1 = .ok (.getfield 29, 3) := by decide +kernel
theorem dX5_judgeAll_4 : decode cX5_judgeAll 4 = .ok (.ifCond .eq 4, 3) := by decide +kernel
theorem dX5_judgeAll_7 : decode cX5_judgeAll 7 = .ok (.return_, 1) := by decide +kernel
theorem dX5_judgeAll_8 : decode cX5_judgeAll 8 = .ok (.aload_n 0, 1) := by decide +kernel
theorem dX5_judgeAll_9 : decode cX5_judgeAll 9 = .ok (.getfield 18, 3) := by decide +kernel
theorem dX5_judgeAll_12 : decode cX5_judgeAll 12 = .ok (.aload_n 0, 1) := by decide +kernel
theorem dX5_judgeAll_13 : decode cX5_judgeAll 13 = .ok (.getfield 26, 3) := by decide +kernel
theorem dX5_judgeAll_16 : decode cX5_judgeAll 16 = .ok (.if_icmp .ge 12, 3) := by decide +kernel
theorem dX5_judgeAll_19 : decode cX5_judgeAll 19 = .ok (.aload_n 0, 1) := by decide +kernel
theorem dX5_judgeAll_20 : decode cX5_judgeAll 20 = .ok (.bipush 7, 2) := by decide +kernel
theorem dX5_judgeAll_22 : decode cX5_judgeAll 22 = .ok (.putfield 29, 3) := by decide +kernel
theorem dX5_judgeAll_25 : decode cX5_judgeAll 25 = .ok (.goto 38, 3) := by decide +kernel
theorem dX5_judgeAll_28 : decode cX5_judgeAll 28 = .ok (.aload_n 0, 1) := by decide +kernel
theorem dX5_judgeAll_29 : decode cX5_judgeAll 29 = .ok (.getfield 32, 3) := by decide +kernel
theorem dX5_judgeAll_32 : decode cX5_judgeAll 32 = .ok (.bipush 60, 2) := by decide +kernel
theorem dX5_judgeAll_34 : decode cX5_judgeAll 34 = .ok (.if_icmp .le 12, 3) := by decide +kernel
theorem dX5_judgeAll_37 : decode cX5_judgeAll 37 = .ok (.aload_n 0, 1) := by decide +kernel
theorem dX5_judgeAll_38 : decode cX5_judgeAll 38 = .ok (.bipush 8, 2) := by decide +kernel
theorem dX5_judgeAll_40 : decode cX5_judgeAll 40 = .ok (.putfield 29, 3) := by decide +kernel
theorem dX5_judgeAll_43 : decode cX5_judgeAll 43 = .ok (.goto 20, 3) := by decide +kernel
theorem dX5_judgeAll_46 : decode cX5_judgeAll 46 = .ok (.aload_n 0, 1) := by decide +kernel
theorem dX5_judgeAll_47 : decode cX5_judgeAll 47 = .ok (.getfield 35, 3) := by decide +kernel
theorem dX5_judgeAll_50 : decode cX5_judgeAll 50 = .ok (.aload_n 0, 1) := by decide +kernel
theorem dX5_judgeAll_51 : decode cX5_judgeAll 51 = .ok (.getfield 32, 3) := by decide +kernel
theorem dX5_judgeAll_54 : decode cX5_judgeAll 54 = .ok (.if_icmp .le 9, 3) := by decide +kernel
theorem dX5_judgeAll_57 : decode cX5_judgeAll 57 = .ok (.aload_n 0, 1) := by decide +kernel
theorem dX5_judgeAll_58 : decode cX5_judgeAll 58 = .ok (.bipush 9, 2) := by decide +kernel
theorem dX5_judgeAll_60 : decode cX5_judgeAll 60 = .ok (.putfield 29, 3) := by decide +kernel
theorem dX5_judgeAll_63 : decode cX5_judgeAll 63 = .ok (.return_, 1) := by decide +kernel
theorem dX5_take_0 : decode cX5_take 0 = .ok (.aload_n 0, 1) := by decide +kernel
theorem dX5_take_1 : decode cX5_take 1 = .ok (.getfield 29, 3) := by decide +kernel
theorem dX5_take_4 : decode cX5_take 4 = .ok (.ifCond .eq 5, 3) := by decide +kernel
theorem dX5_take_7 : decode cX5_take 7 = .ok (.iconst 0, 1) := by decide +kernel
theorem dX5_take_8 : decode cX5_take 8 = .ok (.ireturn, 1) := by decide +kernel
theorem dX5_take_9 : decode cX5_take 9 = .ok (.aload_n 0, 1) := by decide +kernel
theorem dX5_take_10 : decode cX5_take 10 = .ok (.getfield 18, 3) := by decide +kernel
theorem dX5_take_13 : decode cX5_take 13 = .ok (.aload_n 0, 1) := by decide +kernel
theorem dX5_take_14 : decode cX5_take 14 = .ok (.getfield 26, 3) := by decide +kernel
theorem dX5_take_17 : decode cX5_take 17 = .ok (.if_icmp .ge 13, 3) := by decide +kernel
theorem dX5_take_20 : decode cX5_take 20 = .ok (.aload_n 0, 1) := by decide +kernel
theorem dX5_take_21 : decode cX5_take 21 = .ok (.getfield 18, 3) := by decide +kernel
theorem dX5_take_24 : decode cX5_take 24 = .ok (.sipush 300, 3) := by decide +kernel
theorem dX5_take_27 : decode cX5_take 27 = .ok (.if_icmp .lt 10, 3) := by decide +kernel
theorem dX5_take_30 : decode cX5_take 30 = .ok (.aload_n 0, 1) := by decide +kernel
theorem dX5_take_31 : decode cX5_take 31 = .ok (.iconst 1, 1) := by decide +kernel
theorem dX5_take_32 : decode cX5_take 32 = .ok (.putfield 29, 3) := by decide +kernel
theorem dX5_take_35 : decode cX5_take 35 = .ok (.iconst 0, 1) := by decide +kernel
theorem dX5_take_36 : decode cX5_take 36 = .ok (.ireturn, 1) := by decide +kernel
theorem dX5_take_37 : decode cX5_take 37 = .ok (.aload_n 0, 1) := by decide +kernel
theorem dX5_take_38 : decode cX5_take 38 = .ok (.getfield 22, 3) := by decide +kernel
theorem dX5_take_41 : decode cX5_take 41 = .ok (.aload_n 0, 1) := by decide +kernel
theorem dX5_take_42 : decode cX5_take 42 = .ok (.getfield 18, 3) := by decide +kernel
theorem dX5_take_45 : decode cX5_take 45 = .ok (.iaload, 1) := by decide +kernel
theorem dX5_take_46 : decode cX5_take 46 = .ok (.istore_n 1, 1) := by decide +kernel
theorem dX5_take_47 : decode cX5_take 47 = .ok (.aload_n 0, 1) := by decide +kernel
theorem dX5_take_48 : decode cX5_take 48 = .ok (.dup, 1) := by decide +kernel
theorem dX5_take_49 : decode cX5_take 49 = .ok (.getfield 18, 3) := by decide +kernel
theorem dX5_take_52 : decode cX5_take 52 = .ok (.iconst 1, 1) := by decide +kernel
theorem dX5_take_53 : decode cX5_take 53 = .ok (.iadd, 1) := by decide +kernel
theorem dX5_take_54 : decode cX5_take 54 = .ok (.putfield 18, 3) := by decide +kernel
theorem dX5_take_57 : decode cX5_take 57 = .ok (.iload_n 1, 1) := by decide +kernel
theorem dX5_take_58 : decode cX5_take 58 = .ok (.ireturn, 1) := by decide +kernel
theorem dX5_require_0 : decode cX5_require 0 = .ok (.iload_n 1, 1) := by decide +kernel
theorem dX5_require_1 : decode cX5_require 1 = .ok (.ifCond .ne 25, 3) := by decide +kernel
theorem dX5_require_4 : decode cX5_require 4 = .ok (.aload_n 0, 1) := by decide +kernel
theorem dX5_require_5 : decode cX5_require 5 = .ok (.getfield 29, 3) := by decide +kernel
theorem dX5_require_8 : decode cX5_require 8 = .ok (.ifCond .ne 18, 3) := by decide +kernel
theorem dX5_require_11 : decode cX5_require 11 = .ok (.aload_n 0, 1) := by decide +kernel
theorem dX5_require_12 : decode cX5_require 12 = .ok (.iload_n 2, 1) := by decide +kernel
theorem dX5_require_13 : decode cX5_require 13 = .ok (.putfield 29, 3) := by decide +kernel
theorem dX5_require_16 : decode cX5_require 16 = .ok (.aload_n 0, 1) := by decide +kernel
theorem dX5_require_17 : decode cX5_require 17 = .ok (.dup, 1) := by decide +kernel
theorem dX5_require_18 : decode cX5_require 18 = .ok (.getfield 18, 3) := by decide +kernel
theorem dX5_require_21 : decode cX5_require 21 = .ok (.iconst 1, 1) := by decide +kernel
theorem dX5_require_22 : decode cX5_require 22 = .ok (.isub, 1) := by decide +kernel
theorem dX5_require_23 : decode cX5_require 23 = .ok (.putfield 18, 3) := by decide +kernel
theorem dX5_require_26 : decode cX5_require 26 = .ok (.return_, 1) := by decide +kernel
theorem dX5_takeStatement_0 : decode cX5_takeStatement 0 = .ok (.aload_n 0, 1) := by decide +kernel
theorem dX5_takeStatement_1 : decode cX5_takeStatement 1 = .ok (.invokevirtual 87, 3) := by decide +kernel
theorem dX5_takeStatement_4 : decode cX5_takeStatement 4 = .ok (.istore_n 1, 1) := by decide +kernel
theorem dX5_takeStatement_5 : decode cX5_takeStatement 5 = .ok (.aload_n 0, 1) := by decide +kernel
theorem dX5_takeStatement_6 : decode cX5_takeStatement 6 = .ok (.iload_n 1, 1) := by decide +kernel
theorem dX5_takeStatement_7 : decode cX5_takeStatement 7 = .ok (.ifCond .lt 13, 3) := by decide +kernel
theorem dX5_takeStatement_10 : decode cX5_takeStatement 10 = .ok (.iload_n 1, 1) := by decide +kernel
theorem dX5_takeStatement_11 : decode cX5_takeStatement 11 = .ok (.bipush 11, 2) := by decide +kernel
theorem dX5_takeStatement_13 : decode cX5_takeStatement 13 = .ok (.if_icmp .gt 7, 3) := by decide +kernel
theorem dX5_takeStatement_16 : decode cX5_takeStatement 16 = .ok (.iconst 1, 1) := by decide +kernel
theorem dX5_takeStatement_17 : decode cX5_takeStatement 17 = .ok (.goto 4, 3) := by decide +kernel
theorem dX5_takeStatement_20 : decode cX5_takeStatement 20 = .ok (.iconst 0, 1) := by decide +kernel
theorem dX5_takeStatement_21 : decode cX5_takeStatement 21 = .ok (.iconst 2, 1) := by decide +kernel
theorem dX5_takeStatement_22 : decode cX5_takeStatement 22 = .ok (.invokevirtual 91, 3) := by decide +kernel
theorem dX5_takeStatement_25 : decode cX5_takeStatement 25 = .ok (.aload_n 0, 1) := by decide +kernel
theorem dX5_takeStatement_26 : decode cX5_takeStatement 26 = .ok (.getfield 29, 3) := by decide +kernel
theorem dX5_takeStatement_29 : decode cX5_takeStatement 29 = .ok (.ifCond .eq 4, 3) := by decide +kernel
theorem dX5_takeStatement_32 : decode cX5_takeStatement 32 = .ok (.return_, 1) := by decide +kernel
theorem dX5_takeStatement_33 : decode cX5_takeStatement 33 = .ok (.iload_n 1, 1) := by decide +kernel
theorem dX5_takeStatement_34 : decode cX5_takeStatement 34 = .ok (.tableswitch 74 0 5 #[38, 66, 66, 45, 66, 66], 38) := by decide +kernel
theorem dX5_takeStatement_72 : decode cX5_takeStatement 72 = .ok (.aload_n 0, 1) := by decide +kernel
theorem dX5_takeStatement_73 : decode cX5_takeStatement 73 = .ok (.invokevirtual 95, 3) := by decide +kernel
theorem dX5_takeStatement_76 : decode cX5_takeStatement 76 = .ok (.goto 37, 3) := by decide +kernel
theorem dX5_takeStatement_79 : decode cX5_takeStatement 79 = .ok (.aload_n 0, 1) := by decide +kernel
theorem dX5_takeStatement_80 : decode cX5_takeStatement 80 = .ok (.dup, 1) := by decide +kernel
theorem dX5_takeStatement_81 : decode cX5_takeStatement 81 = .ok (.getfield 38, 3) := by decide +kernel
theorem dX5_takeStatement_84 : decode cX5_takeStatement 84 = .ok (.iconst 1, 1) := by decide +kernel
theorem dX5_takeStatement_85 : decode cX5_takeStatement 85 = .ok (.iadd, 1) := by decide +kernel
theorem dX5_takeStatement_86 : decode cX5_takeStatement 86 = .ok (.putfield 38, 3) := by decide +kernel
theorem dX5_takeStatement_89 : decode cX5_takeStatement 89 = .ok (.aload_n 0, 1) := by decide +kernel
theorem dX5_takeStatement_90 : decode cX5_takeStatement 90 = .ok (.iconst 3, 1) := by decide +kernel
theorem dX5_takeStatement_91 : decode cX5_takeStatement 91 = .ok (.iconst (-1), 1) := by decide +kernel
theorem dX5_takeStatement_92 : decode cX5_takeStatement 92 = .ok (.iconst 0, 1) := by decide +kernel
theorem dX5_takeStatement_93 : decode cX5_takeStatement 93 = .ok (.iconst 0, 1) := by decide +kernel
theorem dX5_takeStatement_94 : decode cX5_takeStatement 94 = .ok (.invokevirtual 65, 3) := by decide +kernel
theorem dX5_takeStatement_97 : decode cX5_takeStatement 97 = .ok (.goto 16, 3) := by decide +kernel
theorem dX5_takeStatement_100 : decode cX5_takeStatement 100 = .ok (.aload_n 0, 1) := by decide +kernel
theorem dX5_takeStatement_101 : decode cX5_takeStatement 101 = .ok (.iload_n 1, 1) := by decide +kernel
theorem dX5_takeStatement_102 : decode cX5_takeStatement 102 = .ok (.invokevirtual 98, 3) := by decide +kernel
theorem dX5_takeStatement_105 : decode cX5_takeStatement 105 = .ok (.goto 8, 3) := by decide +kernel
theorem dX5_takeStatement_108 : decode cX5_takeStatement 108 = .ok (.aload_n 0, 1) := by decide +kernel
theorem dX5_takeStatement_109 : decode cX5_takeStatement 109 = .ok (.iload_n 1, 1) := by decide +kernel
theorem dX5_takeStatement_110 : decode cX5_takeStatement 110 = .ok (.invokevirtual 102, 3) := by decide +kernel
theorem dX5_takeStatement_113 : decode cX5_takeStatement 113 = .ok (.return_, 1) := by decide +kernel
theorem dX5_takeAct_0 : decode cX5_takeAct 0 = .ok (.aload_n 0, 1) := by decide +kernel
theorem dX5_takeAct_1 : decode cX5_takeAct 1 = .ok (.invokevirtual 87, 3) := by decide +kernel
theorem dX5_takeAct_4 : decode cX5_takeAct 4 = .ok (.istore_n 1, 1) := by decide +kernel
theorem dX5_takeAct_5 : decode cX5_takeAct 5 = .ok (.aload_n 0, 1) := by decide +kernel
theorem dX5_takeAct_6 : decode cX5_takeAct 6 = .ok (.iload_n 1, 1) := by decide +kernel
theorem dX5_takeAct_7 : decode cX5_takeAct 7 = .ok (.ifCond .lt 19, 3) := by decide +kernel
theorem dX5_takeAct_10 : decode cX5_takeAct 10 = .ok (.iload_n 1, 1) := by decide +kernel
theorem dX5_takeAct_11 : decode cX5_takeAct 11 = .ok (.iconst 5, 1) := by decide +kernel
theorem dX5_takeAct_12 : decode cX5_takeAct 12 = .ok (.if_icmp .gt 14, 3) := by decide +kernel
theorem dX5_takeAct_15 : decode cX5_takeAct 15 = .ok (.iload_n 1, 1) := by decide +kernel
theorem dX5_takeAct_16 : decode cX5_takeAct 16 = .ok (.invokestatic 105, 3) := by decide +kernel
theorem dX5_takeAct_19 : decode cX5_takeAct 19 = .ok (.ifCond .ne 7, 3) := by decide +kernel
theorem dX5_takeAct_22 : decode cX5_takeAct 22 = .ok (.iconst 1, 1) := by decide +kernel
theorem dX5_takeAct_23 : decode cX5_takeAct 23 = .ok (.goto 4, 3) := by decide +kernel
theorem dX5_takeAct_26 : decode cX5_takeAct 26 = .ok (.iconst 0, 1) := by decide +kernel
theorem dX5_takeAct_27 : decode cX5_takeAct 27 = .ok (.iconst 4, 1) := by decide +kernel
theorem dX5_takeAct_28 : decode cX5_takeAct 28 = .ok (.invokevirtual 91, 3) := by decide +kernel
theorem dX5_takeAct_31 : decode cX5_takeAct 31 = .ok (.aload_n 0, 1) := by decide +kernel
theorem dX5_takeAct_32 : decode cX5_takeAct 32 = .ok (.iload_n 1, 1) := by decide +kernel
theorem dX5_takeAct_33 : decode cX5_takeAct 33 = .ok (.invokevirtual 109, 3) := by decide +kernel
theorem dX5_takeAct_36 : decode cX5_takeAct 36 = .ok (.istore_n 2, 1) := by decide +kernel
theorem dX5_takeAct_37 : decode cX5_takeAct 37 = .ok (.aload_n 0, 1) := by decide +kernel
theorem dX5_takeAct_38 : decode cX5_takeAct 38 = .ok (.iload_n 1, 1) := by decide +kernel
theorem dX5_takeAct_39 : decode cX5_takeAct 39 = .ok (.invokevirtual 113, 3) := by decide +kernel
theorem dX5_takeAct_42 : decode cX5_takeAct 42 = .ok (.istore_n 3, 1) := by decide +kernel
theorem dX5_takeAct_43 : decode cX5_takeAct 43 = .ok (.aload_n 0, 1) := by decide +kernel
theorem dX5_takeAct_44 : decode cX5_takeAct 44 = .ok (.iload_n 1, 1) := by decide +kernel
theorem dX5_takeAct_45 : decode cX5_takeAct 45 = .ok (.iload_n 2, 1) := by decide +kernel
theorem dX5_takeAct_46 : decode cX5_takeAct 46 = .ok (.iload_n 3, 1) := by decide +kernel
theorem dX5_takeAct_47 : decode cX5_takeAct 47 = .ok (.iconst 0, 1) := by decide +kernel
theorem dX5_takeAct_48 : decode cX5_takeAct 48 = .ok (.invokevirtual 116, 3) := by decide +kernel
theorem dX5_takeAct_51 : decode cX5_takeAct 51 = .ok (.return_, 1) := by decide +kernel
theorem dX5_takeA_0 : decode cX5_takeA 0 = .ok (.aload_n 0, 1) := by decide +kernel
theorem dX5_takeA_1 : decode cX5_takeA 1 = .ok (.invokevirtual 87, 3) := by decide +kernel
theorem dX5_takeA_4 : decode cX5_takeA 4 = .ok (.istore_n 2, 1) := by decide +kernel
theorem dX5_takeA_5 : decode cX5_takeA 5 = .ok (.aload_n 0, 1) := by decide +kernel
theorem dX5_takeA_6 : decode cX5_takeA 6 = .ok (.iload_n 1, 1) := by decide +kernel
theorem dX5_takeA_7 : decode cX5_takeA 7 = .ok (.iload_n 2, 1) := by decide +kernel
theorem dX5_takeA_8 : decode cX5_takeA 8 = .ok (.invokestatic 119, 3) := by decide +kernel
theorem dX5_takeA_11 : decode cX5_takeA 11 = .ok (.iconst 4, 1) := by decide +kernel
theorem dX5_takeA_12 : decode cX5_takeA 12 = .ok (.invokevirtual 91, 3) := by decide +kernel
theorem dX5_takeA_15 : decode cX5_takeA 15 = .ok (.iload_n 2, 1) := by decide +kernel
theorem dX5_takeA_16 : decode cX5_takeA 16 = .ok (.ireturn, 1) := by decide +kernel
theorem dX5_takeB_0 : decode cX5_takeB 0 = .ok (.aload_n 0, 1) := by decide +kernel
theorem dX5_takeB_1 : decode cX5_takeB 1 = .ok (.invokevirtual 87, 3) := by decide +kernel
theorem dX5_takeB_4 : decode cX5_takeB 4 = .ok (.istore_n 2, 1) := by decide +kernel
theorem dX5_takeB_5 : decode cX5_takeB 5 = .ok (.aload_n 0, 1) := by decide +kernel
theorem dX5_takeB_6 : decode cX5_takeB 6 = .ok (.iload_n 1, 1) := by decide +kernel
theorem dX5_takeB_7 : decode cX5_takeB 7 = .ok (.iload_n 2, 1) := by decide +kernel
theorem dX5_takeB_8 : decode cX5_takeB 8 = .ok (.invokestatic 123, 3) := by decide +kernel
theorem dX5_takeB_11 : decode cX5_takeB 11 = .ok (.iconst 4, 1) := by decide +kernel
theorem dX5_takeB_12 : decode cX5_takeB 12 = .ok (.invokevirtual 91, 3) := by decide +kernel
theorem dX5_takeB_15 : decode cX5_takeB 15 = .ok (.iload_n 2, 1) := by decide +kernel
theorem dX5_takeB_16 : decode cX5_takeB 16 = .ok (.ireturn, 1) := by decide +kernel
theorem dX5_takePlace_0 : decode cX5_takePlace 0 = .ok (.aload_n 0, 1) := by decide +kernel
theorem dX5_takePlace_1 : decode cX5_takePlace 1 = .ok (.invokevirtual 87, 3) := by decide +kernel
theorem dX5_takePlace_4 : decode cX5_takePlace 4 = .ok (.istore_n 1, 1) := by decide +kernel
theorem dX5_takePlace_5 : decode cX5_takePlace 5 = .ok (.aload_n 0, 1) := by decide +kernel
theorem dX5_takePlace_6 : decode cX5_takePlace 6 = .ok (.iload_n 1, 1) := by decide +kernel
theorem dX5_takePlace_7 : decode cX5_takePlace 7 = .ok (.ifCond .lt 7, 3) := by decide +kernel
theorem dX5_takePlace_10 : decode cX5_takePlace 10 = .ok (.iconst 1, 1) := by decide +kernel
theorem dX5_takePlace_11 : decode cX5_takePlace 11 = .ok (.goto 4, 3) := by decide +kernel
theorem dX5_takePlace_14 : decode cX5_takePlace 14 = .ok (.iconst 0, 1) := by decide +kernel
theorem dX5_takePlace_15 : decode cX5_takePlace 15 = .ok (.bipush 6, 2) := by decide +kernel
theorem dX5_takePlace_17 : decode cX5_takePlace 17 = .ok (.invokevirtual 91, 3) := by decide +kernel
theorem dX5_takePlace_20 : decode cX5_takePlace 20 = .ok (.aload_n 0, 1) := by decide +kernel
theorem dX5_takePlace_21 : decode cX5_takePlace 21 = .ok (.aload_n 0, 1) := by decide +kernel
theorem dX5_takePlace_22 : decode cX5_takePlace 22 = .ok (.getfield 35, 3) := by decide +kernel
theorem dX5_takePlace_25 : decode cX5_takePlace 25 = .ok (.iload_n 1, 1) := by decide +kernel
theorem dX5_takePlace_26 : decode cX5_takePlace 26 = .ok (.invokestatic 126, 3) := by decide +kernel
theorem dX5_takePlace_29 : decode cX5_takePlace 29 = .ok (.putfield 35, 3) := by decide +kernel
theorem dX5_takePlace_32 : decode cX5_takePlace 32 = .ok (.iload_n 1, 1) := by decide +kernel
theorem dX5_takePlace_33 : decode cX5_takePlace 33 = .ok (.ireturn, 1) := by decide +kernel
theorem dX5_takeTested_0 : decode cX5_takeTested 0 = .ok (.aload_n 0, 1) := by decide +kernel
theorem dX5_takeTested_1 : decode cX5_takeTested 1 = .ok (.iconst 3, 1) := by decide +kernel
theorem dX5_takeTested_2 : decode cX5_takeTested 2 = .ok (.invokevirtual 109, 3) := by decide +kernel
theorem dX5_takeTested_5 : decode cX5_takeTested 5 = .ok (.istore_n 2, 1) := by decide +kernel
theorem dX5_takeTested_6 : decode cX5_takeTested 6 = .ok (.aload_n 0, 1) := by decide +kernel
theorem dX5_takeTested_7 : decode cX5_takeTested 7 = .ok (.iconst 3, 1) := by decide +kernel
theorem dX5_takeTested_8 : decode cX5_takeTested 8 = .ok (.invokevirtual 113, 3) := by decide +kernel
theorem dX5_takeTested_11 : decode cX5_takeTested 11 = .ok (.istore_n 3, 1) := by decide +kernel
theorem dX5_takeTested_12 : decode cX5_takeTested 12 = .ok (.iload_n 1, 1) := by decide +kernel
theorem dX5_takeTested_13 : decode cX5_takeTested 13 = .ok (.iconst 4, 1) := by decide +kernel
theorem dX5_takeTested_14 : decode cX5_takeTested 14 = .ok (.if_icmp .eq 8, 3) := by decide +kernel
theorem dX5_takeTested_17 : decode cX5_takeTested 17 = .ok (.iload_n 1, 1) := by decide +kernel
theorem dX5_takeTested_18 : decode cX5_takeTested 18 = .ok (.iconst 5, 1) := by decide +kernel
theorem dX5_takeTested_19 : decode cX5_takeTested 19 = .ok (.if_icmp .ne 13, 3) := by decide +kernel
theorem dX5_takeTested_22 : decode cX5_takeTested 22 = .ok (.aload_n 0, 1) := by decide +kernel
theorem dX5_takeTested_23 : decode cX5_takeTested 23 = .ok (.dup, 1) := by decide +kernel
theorem dX5_takeTested_24 : decode cX5_takeTested 24 = .ok (.getfield 38, 3) := by decide +kernel
theorem dX5_takeTested_27 : decode cX5_takeTested 27 = .ok (.iconst 1, 1) := by decide +kernel
theorem dX5_takeTested_28 : decode cX5_takeTested 28 = .ok (.iadd, 1) := by decide +kernel
theorem dX5_takeTested_29 : decode cX5_takeTested 29 = .ok (.putfield 38, 3) := by decide +kernel
theorem dX5_takeTested_32 : decode cX5_takeTested 32 = .ok (.iload_n 1, 1) := by decide +kernel
theorem dX5_takeTested_33 : decode cX5_takeTested 33 = .ok (.iconst 5, 1) := by decide +kernel
theorem dX5_takeTested_34 : decode cX5_takeTested 34 = .ok (.if_icmp .ne 12, 3) := by decide +kernel
theorem dX5_takeTested_37 : decode cX5_takeTested 37 = .ok (.aload_n 0, 1) := by decide +kernel
theorem dX5_takeTested_38 : decode cX5_takeTested 38 = .ok (.iconst 5, 1) := by decide +kernel
theorem dX5_takeTested_39 : decode cX5_takeTested 39 = .ok (.iconst (-1), 1) := by decide +kernel
theorem dX5_takeTested_40 : decode cX5_takeTested 40 = .ok (.iload_n 2, 1) := by decide +kernel
theorem dX5_takeTested_41 : decode cX5_takeTested 41 = .ok (.iload_n 3, 1) := by decide +kernel
theorem dX5_takeTested_42 : decode cX5_takeTested 42 = .ok (.invokevirtual 65, 3) := by decide +kernel
theorem dX5_takeTested_45 : decode cX5_takeTested 45 = .ok (.return_, 1) := by decide +kernel
theorem dX5_takeTested_46 : decode cX5_takeTested 46 = .ok (.aload_n 0, 1) := by decide +kernel
theorem dX5_takeTested_47 : decode cX5_takeTested 47 = .ok (.iload_n 1, 1) := by decide +kernel
theorem dX5_takeTested_48 : decode cX5_takeTested 48 = .ok (.aload_n 0, 1) := by decide +kernel
theorem dX5_takeTested_49 : decode cX5_takeTested 49 = .ok (.getfield 32, 3) := by decide +kernel
theorem dX5_takeTested_52 : decode cX5_takeTested 52 = .ok (.iload_n 2, 1) := by decide +kernel
theorem dX5_takeTested_53 : decode cX5_takeTested 53 = .ok (.iload_n 3, 1) := by decide +kernel
theorem dX5_takeTested_54 : decode cX5_takeTested 54 = .ok (.invokevirtual 65, 3) := by decide +kernel
theorem dX5_takeTested_57 : decode cX5_takeTested 57 = .ok (.aload_n 0, 1) := by decide +kernel
theorem dX5_takeTested_58 : decode cX5_takeTested 58 = .ok (.iconst 3, 1) := by decide +kernel
theorem dX5_takeTested_59 : decode cX5_takeTested 59 = .ok (.iload_n 2, 1) := by decide +kernel
theorem dX5_takeTested_60 : decode cX5_takeTested 60 = .ok (.iload_n 3, 1) := by decide +kernel
theorem dX5_takeTested_61 : decode cX5_takeTested 61 = .ok (.iconst 0, 1) := by decide +kernel
theorem dX5_takeTested_62 : decode cX5_takeTested 62 = .ok (.invokevirtual 116, 3) := by decide +kernel
theorem dX5_takeTested_65 : decode cX5_takeTested 65 = .ok (.return_, 1) := by decide +kernel
theorem dX5_takeLeap_0 : decode cX5_takeLeap 0 = .ok (.iload_n 1, 1) := by decide +kernel
theorem dX5_takeLeap_1 : decode cX5_takeLeap 1 = .ok (.bipush 9, 2) := by decide +kernel
theorem dX5_takeLeap_3 : decode cX5_takeLeap 3 = .ok (.if_icmp .lt 7, 3) := by decide +kernel
theorem dX5_takeLeap_6 : decode cX5_takeLeap 6 = .ok (.iconst 1, 1) := by decide +kernel
theorem dX5_takeLeap_7 : decode cX5_takeLeap 7 = .ok (.goto 4, 3) := by decide +kernel
theorem dX5_takeLeap_10 : decode cX5_takeLeap 10 = .ok (.iconst 0, 1) := by decide +kernel
theorem dX5_takeLeap_11 : decode cX5_takeLeap 11 = .ok (.istore_n 2, 1) := by decide +kernel
theorem dX5_takeLeap_12 : decode cX5_takeLeap 12 = .ok (.iload_n 2, 1) := by decide +kernel
theorem dX5_takeLeap_13 : decode cX5_takeLeap 13 = .ok (.ifCond .eq 13, 3) := by decide +kernel
theorem dX5_takeLeap_16 : decode cX5_takeLeap 16 = .ok (.iload_n 1, 1) := by decide +kernel
theorem dX5_takeLeap_17 : decode cX5_takeLeap 17 = .ok (.bipush 9, 2) := by decide +kernel
theorem dX5_takeLeap_19 : decode cX5_takeLeap 19 = .ok (.isub, 1) := by decide +kernel
theorem dX5_takeLeap_20 : decode cX5_takeLeap 20 = .ok (.bipush 6, 2) := by decide +kernel
theorem dX5_takeLeap_22 : decode cX5_takeLeap 22 = .ok (.iadd, 1) := by decide +kernel
theorem dX5_takeLeap_23 : decode cX5_takeLeap 23 = .ok (.goto 4, 3) := by decide +kernel
theorem dX5_takeLeap_26 : decode cX5_takeLeap 26 = .ok (.iload_n 1, 1) := by decide +kernel
theorem dX5_takeLeap_27 : decode cX5_takeLeap 27 = .ok (.istore_n 3, 1) := by decide +kernel
theorem dX5_takeLeap_28 : decode cX5_takeLeap 28 = .ok (.aload_n 0, 1) := by decide +kernel
theorem dX5_takeLeap_29 : decode cX5_takeLeap 29 = .ok (.iload_n 3, 1) := by decide +kernel
theorem dX5_takeLeap_30 : decode cX5_takeLeap 30 = .ok (.bipush 8, 2) := by decide +kernel
theorem dX5_takeLeap_32 : decode cX5_takeLeap 32 = .ok (.if_icmp .eq 10, 3) := by decide +kernel
theorem dX5_takeLeap_35 : decode cX5_takeLeap 35 = .ok (.aload_n 0, 1) := by decide +kernel
theorem dX5_takeLeap_36 : decode cX5_takeLeap 36 = .ok (.getfield 38, 3) := by decide +kernel
theorem dX5_takeLeap_39 : decode cX5_takeLeap 39 = .ok (.ifCond .le 7, 3) := by decide +kernel
theorem dX5_takeLeap_42 : decode cX5_takeLeap 42 = .ok (.iconst 1, 1) := by decide +kernel
theorem dX5_takeLeap_43 : decode cX5_takeLeap 43 = .ok (.goto 4, 3) := by decide +kernel
theorem dX5_takeLeap_46 : decode cX5_takeLeap 46 = .ok (.iconst 0, 1) := by decide +kernel
theorem dX5_takeLeap_47 : decode cX5_takeLeap 47 = .ok (.iconst 5, 1) := by decide +kernel
theorem dX5_takeLeap_48 : decode cX5_takeLeap 48 = .ok (.invokevirtual 91, 3) := by decide +kernel
theorem dX5_takeLeap_51 : decode cX5_takeLeap 51 = .ok (.iload_n 2, 1) := by decide +kernel
theorem dX5_takeLeap_52 : decode cX5_takeLeap 52 = .ok (.ifCond .eq 11, 3) := by decide +kernel
theorem dX5_takeLeap_55 : decode cX5_takeLeap 55 = .ok (.aload_n 0, 1) := by decide +kernel
theorem dX5_takeLeap_56 : decode cX5_takeLeap 56 = .ok (.iconst 3, 1) := by decide +kernel
theorem dX5_takeLeap_57 : decode cX5_takeLeap 57 = .ok (.invokevirtual 109, 3) := by decide +kernel
theorem dX5_takeLeap_60 : decode cX5_takeLeap 60 = .ok (.goto 4, 3) := by decide +kernel
theorem dX5_takeLeap_63 : decode cX5_takeLeap 63 = .ok (.iconst 0, 1) := by decide +kernel
theorem dX5_takeLeap_64 : decode cX5_takeLeap 64 = .ok (.istore 4, 2) := by decide +kernel
theorem dX5_takeLeap_66 : decode cX5_takeLeap 66 = .ok (.iload_n 2, 1) := by decide +kernel
theorem dX5_takeLeap_67 : decode cX5_takeLeap 67 = .ok (.ifCond .eq 11, 3) := by decide +kernel
theorem dX5_takeLeap_70 : decode cX5_takeLeap 70 = .ok (.aload_n 0, 1) := by decide +kernel
theorem dX5_takeLeap_71 : decode cX5_takeLeap 71 = .ok (.iconst 3, 1) := by decide +kernel
theorem dX5_takeLeap_72 : decode cX5_takeLeap 72 = .ok (.invokevirtual 113, 3) := by decide +kernel
theorem dX5_takeLeap_75 : decode cX5_takeLeap 75 = .ok (.goto 4, 3) := by decide +kernel
theorem dX5_takeLeap_78 : decode cX5_takeLeap 78 = .ok (.iconst 0, 1) := by decide +kernel
theorem dX5_takeLeap_79 : decode cX5_takeLeap 79 = .ok (.istore 5, 2) := by decide +kernel
theorem dX5_takeLeap_81 : decode cX5_takeLeap 81 = .ok (.iload_n 3, 1) := by decide +kernel
theorem dX5_takeLeap_82 : decode cX5_takeLeap 82 = .ok (.bipush 8, 2) := by decide +kernel
theorem dX5_takeLeap_84 : decode cX5_takeLeap 84 = .ok (.if_icmp .ne 10, 3) := by decide +kernel
theorem dX5_takeLeap_87 : decode cX5_takeLeap 87 = .ok (.aload_n 0, 1) := by decide +kernel
theorem dX5_takeLeap_88 : decode cX5_takeLeap 88 = .ok (.invokevirtual 129, 3) := by decide +kernel
theorem dX5_takeLeap_91 : decode cX5_takeLeap 91 = .ok (.goto 4, 3) := by decide +kernel
theorem dX5_takeLeap_94 : decode cX5_takeLeap 94 = .ok (.iconst 0, 1) := by decide +kernel
theorem dX5_takeLeap_95 : decode cX5_takeLeap 95 = .ok (.istore 6, 2) := by decide +kernel
theorem dX5_takeLeap_97 : decode cX5_takeLeap 97 = .ok (.aload_n 0, 1) := by decide +kernel
theorem dX5_takeLeap_98 : decode cX5_takeLeap 98 = .ok (.iload_n 2, 1) := by decide +kernel
theorem dX5_takeLeap_99 : decode cX5_takeLeap 99 = .ok (.ifCond .eq 7, 3) := by decide +kernel
theorem dX5_takeLeap_102 : decode cX5_takeLeap 102 = .ok (.iconst 3, 1) := by decide +kernel
theorem dX5_takeLeap_103 : decode cX5_takeLeap 103 = .ok (.goto 4, 3) := by decide +kernel
theorem dX5_takeLeap_106 : decode cX5_takeLeap 106 = .ok (.iconst 2, 1) := by decide +kernel
theorem dX5_takeLeap_107 : decode cX5_takeLeap 107 = .ok (.iload 4, 2) := by decide +kernel
theorem dX5_takeLeap_109 : decode cX5_takeLeap 109 = .ok (.iload 5, 2) := by decide +kernel
theorem dX5_takeLeap_111 : decode cX5_takeLeap 111 = .ok (.iload 6, 2) := by decide +kernel
theorem dX5_takeLeap_113 : decode cX5_takeLeap 113 = .ok (.invokevirtual 116, 3) := by decide +kernel
theorem dX5_takeLeap_116 : decode cX5_takeLeap 116 = .ok (.iload_n 3, 1) := by decide +kernel
theorem dX5_takeLeap_117 : decode cX5_takeLeap 117 = .ok (.bipush 8, 2) := by decide +kernel
theorem dX5_takeLeap_119 : decode cX5_takeLeap 119 = .ok (.if_icmp .eq 24, 3) := by decide +kernel
theorem dX5_takeLeap_122 : decode cX5_takeLeap 122 = .ok (.aload_n 0, 1) := by decide +kernel
theorem dX5_takeLeap_123 : decode cX5_takeLeap 123 = .ok (.getfield 32, 3) := by decide +kernel
theorem dX5_takeLeap_126 : decode cX5_takeLeap 126 = .ok (.bipush 60, 2) := by decide +kernel
theorem dX5_takeLeap_128 : decode cX5_takeLeap 128 = .ok (.if_icmp .gt 15, 3) := by decide +kernel
theorem dX5_takeLeap_131 : decode cX5_takeLeap 131 = .ok (.aload_n 0, 1) := by decide +kernel
theorem dX5_takeLeap_132 : decode cX5_takeLeap 132 = .ok (.getfield 41, 3) := by decide +kernel
theorem dX5_takeLeap_135 : decode cX5_takeLeap 135 = .ok (.aload_n 0, 1) := by decide +kernel
theorem dX5_takeLeap_136 : decode cX5_takeLeap 136 = .ok (.getfield 32, 3) := by decide +kernel
theorem dX5_takeLeap_139 : decode cX5_takeLeap 139 = .ok (.iconst 1, 1) := by decide +kernel
theorem dX5_takeLeap_140 : decode cX5_takeLeap 140 = .ok (.isub, 1) := by decide +kernel
theorem dX5_takeLeap_141 : decode cX5_takeLeap 141 = .ok (.iload_n 3, 1) := by decide +kernel
theorem dX5_takeLeap_142 : decode cX5_takeLeap 142 = .ok (.iastore, 1) := by decide +kernel
theorem dX5_takeLeap_143 : decode cX5_takeLeap 143 = .ok (.return_, 1) := by decide +kernel
theorem dX5_openBody_0 : decode cX5_openBody 0 = .ok (.aload_n 0, 1) := by decide +kernel
theorem dX5_openBody_1 : decode cX5_openBody 1 = .ok (.invokevirtual 87, 3) := by decide +kernel
theorem dX5_openBody_4 : decode cX5_openBody 4 = .ok (.istore 5, 2) := by decide +kernel
theorem dX5_openBody_6 : decode cX5_openBody 6 = .ok (.aload_n 0, 1) := by decide +kernel
theorem dX5_openBody_7 : decode cX5_openBody 7 = .ok (.aload_n 0, 1) := by decide +kernel
theorem dX5_openBody_8 : decode cX5_openBody 8 = .ok (.getfield 44, 3) := by decide +kernel
theorem dX5_openBody_11 : decode cX5_openBody 11 = .ok (.bipush 61, 2) := by decide +kernel
theorem dX5_openBody_13 : decode cX5_openBody 13 = .ok (.if_icmp .ge 7, 3) := by decide +kernel
theorem dX5_openBody_16 : decode cX5_openBody 16 = .ok (.iconst 1, 1) := by decide +kernel
theorem dX5_openBody_17 : decode cX5_openBody 17 = .ok (.goto 4, 3) := by decide +kernel
theorem dX5_openBody_20 : decode cX5_openBody 20 = .ok (.iconst 0, 1) := by decide +kernel
theorem dX5_openBody_21 : decode cX5_openBody 21 = .ok (.iconst 2, 1) := by decide +kernel
theorem dX5_openBody_22 : decode cX5_openBody 22 = .ok (.invokevirtual 91, 3) := by decide +kernel
theorem dX5_openBody_25 : decode cX5_openBody 25 = .ok (.aload_n 0, 1) := by decide +kernel
theorem dX5_openBody_26 : decode cX5_openBody 26 = .ok (.iload 5, 2) := by decide +kernel
theorem dX5_openBody_28 : decode cX5_openBody 28 = .ok (.ifCond .lt 7, 3) := by decide +kernel
theorem dX5_openBody_31 : decode cX5_openBody 31 = .ok (.iconst 1, 1) := by decide +kernel
theorem dX5_openBody_32 : decode cX5_openBody 32 = .ok (.goto 4, 3) := by decide +kernel
theorem dX5_openBody_35 : decode cX5_openBody 35 = .ok (.iconst 0, 1) := by decide +kernel
theorem dX5_openBody_36 : decode cX5_openBody 36 = .ok (.iconst 3, 1) := by decide +kernel
theorem dX5_openBody_37 : decode cX5_openBody 37 = .ok (.invokevirtual 91, 3) := by decide +kernel
theorem dX5_openBody_40 : decode cX5_openBody 40 = .ok (.aload_n 0, 1) := by decide +kernel
theorem dX5_openBody_41 : decode cX5_openBody 41 = .ok (.getfield 29, 3) := by decide +kernel
theorem dX5_openBody_44 : decode cX5_openBody 44 = .ok (.ifCond .eq 4, 3) := by decide +kernel
theorem dX5_openBody_47 : decode cX5_openBody 47 = .ok (.return_, 1) := by decide +kernel
theorem dX5_openBody_48 : decode cX5_openBody 48 = .ok (.aload_n 0, 1) := by decide +kernel
theorem dX5_openBody_49 : decode cX5_openBody 49 = .ok (.getfield 47, 3) := by decide +kernel
theorem dX5_openBody_52 : decode cX5_openBody 52 = .ok (.aload_n 0, 1) := by decide +kernel
theorem dX5_openBody_53 : decode cX5_openBody 53 = .ok (.getfield 44, 3) := by decide +kernel
theorem dX5_openBody_56 : decode cX5_openBody 56 = .ok (.iload 5, 2) := by decide +kernel
theorem dX5_openBody_58 : decode cX5_openBody 58 = .ok (.iastore, 1) := by decide +kernel
theorem dX5_openBody_59 : decode cX5_openBody 59 = .ok (.aload_n 0, 1) := by decide +kernel
theorem dX5_openBody_60 : decode cX5_openBody 60 = .ok (.getfield 50, 3) := by decide +kernel
theorem dX5_openBody_63 : decode cX5_openBody 63 = .ok (.aload_n 0, 1) := by decide +kernel
theorem dX5_openBody_64 : decode cX5_openBody 64 = .ok (.getfield 44, 3) := by decide +kernel
theorem dX5_openBody_67 : decode cX5_openBody 67 = .ok (.iload_n 1, 1) := by decide +kernel
theorem dX5_openBody_68 : decode cX5_openBody 68 = .ok (.iastore, 1) := by decide +kernel
theorem dX5_openBody_69 : decode cX5_openBody 69 = .ok (.aload_n 0, 1) := by decide +kernel
theorem dX5_openBody_70 : decode cX5_openBody 70 = .ok (.getfield 53, 3) := by decide +kernel
theorem dX5_openBody_73 : decode cX5_openBody 73 = .ok (.aload_n 0, 1) := by decide +kernel
theorem dX5_openBody_74 : decode cX5_openBody 74 = .ok (.getfield 44, 3) := by decide +kernel
theorem dX5_openBody_77 : decode cX5_openBody 77 = .ok (.aload_n 0, 1) := by decide +kernel
theorem dX5_openBody_78 : decode cX5_openBody 78 = .ok (.getfield 32, 3) := by decide +kernel
theorem dX5_openBody_81 : decode cX5_openBody 81 = .ok (.iastore, 1) := by decide +kernel
theorem dX5_openBody_82 : decode cX5_openBody 82 = .ok (.aload_n 0, 1) := by decide +kernel
theorem dX5_openBody_83 : decode cX5_openBody 83 = .ok (.getfield 56, 3) := by decide +kernel
theorem dX5_openBody_86 : decode cX5_openBody 86 = .ok (.aload_n 0, 1) := by decide +kernel
theorem dX5_openBody_87 : decode cX5_openBody 87 = .ok (.getfield 44, 3) := by decide +kernel
theorem dX5_openBody_90 : decode cX5_openBody 90 = .ok (.iload_n 2, 1) := by decide +kernel
theorem dX5_openBody_91 : decode cX5_openBody 91 = .ok (.iastore, 1) := by decide +kernel
theorem dX5_openBody_92 : decode cX5_openBody 92 = .ok (.aload_n 0, 1) := by decide +kernel
theorem dX5_openBody_93 : decode cX5_openBody 93 = .ok (.getfield 59, 3) := by decide +kernel
theorem dX5_openBody_96 : decode cX5_openBody 96 = .ok (.aload_n 0, 1) := by decide +kernel
theorem dX5_openBody_97 : decode cX5_openBody 97 = .ok (.getfield 44, 3) := by decide +kernel
theorem dX5_openBody_100 : decode cX5_openBody 100 = .ok (.iload_n 3, 1) := by decide +kernel
theorem dX5_openBody_101 : decode cX5_openBody 101 = .ok (.iastore, 1) := by decide +kernel
theorem dX5_openBody_102 : decode cX5_openBody 102 = .ok (.aload_n 0, 1) := by decide +kernel
theorem dX5_openBody_103 : decode cX5_openBody 103 = .ok (.getfield 62, 3) := by decide +kernel
theorem dX5_openBody_106 : decode cX5_openBody 106 = .ok (.aload_n 0, 1) := by decide +kernel
theorem dX5_openBody_107 : decode cX5_openBody 107 = .ok (.getfield 44, 3) := by decide +kernel
theorem dX5_openBody_110 : decode cX5_openBody 110 = .ok (.iload 4, 2) := by decide +kernel
theorem dX5_openBody_112 : decode cX5_openBody 112 = .ok (.iastore, 1) := by decide +kernel
theorem dX5_openBody_113 : decode cX5_openBody 113 = .ok (.aload_n 0, 1) := by decide +kernel
theorem dX5_openBody_114 : decode cX5_openBody 114 = .ok (.dup, 1) := by decide +kernel
theorem dX5_openBody_115 : decode cX5_openBody 115 = .ok (.getfield 44, 3) := by decide +kernel
theorem dX5_openBody_118 : decode cX5_openBody 118 = .ok (.iconst 1, 1) := by decide +kernel
theorem dX5_openBody_119 : decode cX5_openBody 119 = .ok (.iadd, 1) := by decide +kernel
theorem dX5_openBody_120 : decode cX5_openBody 120 = .ok (.putfield 44, 3) := by decide +kernel
theorem dX5_openBody_123 : decode cX5_openBody 123 = .ok (.return_, 1) := by decide +kernel
theorem dX5_closeBody_0 : decode cX5_closeBody 0 = .ok (.aload_n 0, 1) := by decide +kernel
theorem dX5_closeBody_1 : decode cX5_closeBody 1 = .ok (.dup, 1) := by decide +kernel
theorem dX5_closeBody_2 : decode cX5_closeBody 2 = .ok (.getfield 44, 3) := by decide +kernel
theorem dX5_closeBody_5 : decode cX5_closeBody 5 = .ok (.iconst 1, 1) := by decide +kernel
theorem dX5_closeBody_6 : decode cX5_closeBody 6 = .ok (.isub, 1) := by decide +kernel
theorem dX5_closeBody_7 : decode cX5_closeBody 7 = .ok (.putfield 44, 3) := by decide +kernel
theorem dX5_closeBody_10 : decode cX5_closeBody 10 = .ok (.aload_n 0, 1) := by decide +kernel
theorem dX5_closeBody_11 : decode cX5_closeBody 11 = .ok (.getfield 53, 3) := by decide +kernel
theorem dX5_closeBody_14 : decode cX5_closeBody 14 = .ok (.aload_n 0, 1) := by decide +kernel
theorem dX5_closeBody_15 : decode cX5_closeBody 15 = .ok (.getfield 44, 3) := by decide +kernel
theorem dX5_closeBody_18 : decode cX5_closeBody 18 = .ok (.iaload, 1) := by decide +kernel
theorem dX5_closeBody_19 : decode cX5_closeBody 19 = .ok (.istore_n 1, 1) := by decide +kernel
theorem dX5_closeBody_20 : decode cX5_closeBody 20 = .ok (.aload_n 0, 1) := by decide +kernel
theorem dX5_closeBody_21 : decode cX5_closeBody 21 = .ok (.getfield 50, 3) := by decide +kernel
theorem dX5_closeBody_24 : decode cX5_closeBody 24 = .ok (.aload_n 0, 1) := by decide +kernel
theorem dX5_closeBody_25 : decode cX5_closeBody 25 = .ok (.getfield 44, 3) := by decide +kernel
theorem dX5_closeBody_28 : decode cX5_closeBody 28 = .ok (.iaload, 1) := by decide +kernel
theorem dX5_closeBody_29 : decode cX5_closeBody 29 = .ok (.tableswitch 185 1 5 #[35, 55, 96, 113, 147], 35) := by decide +kernel
theorem dX5_closeBody_64 : decode cX5_closeBody 64 = .ok (.aload_n 0, 1) := by decide +kernel
theorem dX5_closeBody_65 : decode cX5_closeBody 65 = .ok (.aload_n 0, 1) := by decide +kernel
theorem dX5_closeBody_66 : decode cX5_closeBody 66 = .ok (.getfield 56, 3) := by decide +kernel
theorem dX5_closeBody_69 : decode cX5_closeBody 69 = .ok (.aload_n 0, 1) := by decide +kernel
theorem dX5_closeBody_70 : decode cX5_closeBody 70 = .ok (.getfield 44, 3) := by decide +kernel
theorem dX5_closeBody_73 : decode cX5_closeBody 73 = .ok (.iaload, 1) := by decide +kernel
theorem dX5_closeBody_74 : decode cX5_closeBody 74 = .ok (.aload_n 0, 1) := by decide +kernel
theorem dX5_closeBody_75 : decode cX5_closeBody 75 = .ok (.getfield 32, 3) := by decide +kernel
theorem dX5_closeBody_78 : decode cX5_closeBody 78 = .ok (.invokevirtual 132, 3) := by decide +kernel
theorem dX5_closeBody_81 : decode cX5_closeBody 81 = .ok (.goto 133, 3) := by decide +kernel
theorem dX5_closeBody_84 : decode cX5_closeBody 84 = .ok (.aload_n 0, 1) := by decide +kernel
theorem dX5_closeBody_85 : decode cX5_closeBody 85 = .ok (.iconst 2, 1) := by decide +kernel
theorem dX5_closeBody_86 : decode cX5_closeBody 86 = .ok (.iconst 0, 1) := by decide +kernel
theorem dX5_closeBody_87 : decode cX5_closeBody 87 = .ok (.iconst 0, 1) := by decide +kernel
theorem dX5_closeBody_88 : decode cX5_closeBody 88 = .ok (.iconst 0, 1) := by decide +kernel
theorem dX5_closeBody_89 : decode cX5_closeBody 89 = .ok (.invokevirtual 116, 3) := by decide +kernel
theorem dX5_closeBody_92 : decode cX5_closeBody 92 = .ok (.aload_n 0, 1) := by decide +kernel
theorem dX5_closeBody_93 : decode cX5_closeBody 93 = .ok (.aload_n 0, 1) := by decide +kernel
theorem dX5_closeBody_94 : decode cX5_closeBody 94 = .ok (.getfield 56, 3) := by decide +kernel
theorem dX5_closeBody_97 : decode cX5_closeBody 97 = .ok (.aload_n 0, 1) := by decide +kernel
theorem dX5_closeBody_98 : decode cX5_closeBody 98 = .ok (.getfield 44, 3) := by decide +kernel
theorem dX5_closeBody_101 : decode cX5_closeBody 101 = .ok (.iaload, 1) := by decide +kernel
theorem dX5_closeBody_102 : decode cX5_closeBody 102 = .ok (.aload_n 0, 1) := by decide +kernel
theorem dX5_closeBody_103 : decode cX5_closeBody 103 = .ok (.getfield 32, 3) := by decide +kernel
theorem dX5_closeBody_106 : decode cX5_closeBody 106 = .ok (.invokevirtual 132, 3) := by decide +kernel
theorem dX5_closeBody_109 : decode cX5_closeBody 109 = .ok (.aload_n 0, 1) := by decide +kernel
theorem dX5_closeBody_110 : decode cX5_closeBody 110 = .ok (.iconst 1, 1) := by decide +kernel
theorem dX5_closeBody_111 : decode cX5_closeBody 111 = .ok (.aload_n 0, 1) := by decide +kernel
theorem dX5_closeBody_112 : decode cX5_closeBody 112 = .ok (.getfield 32, 3) := by decide +kernel
theorem dX5_closeBody_115 : decode cX5_closeBody 115 = .ok (.iconst 1, 1) := by decide +kernel
theorem dX5_closeBody_116 : decode cX5_closeBody 116 = .ok (.isub, 1) := by decide +kernel
theorem dX5_closeBody_117 : decode cX5_closeBody 117 = .ok (.iconst 0, 1) := by decide +kernel
theorem dX5_closeBody_118 : decode cX5_closeBody 118 = .ok (.iconst 0, 1) := by decide +kernel
theorem dX5_closeBody_119 : decode cX5_closeBody 119 = .ok (.invokevirtual 65, 3) := by decide +kernel
theorem dX5_closeBody_122 : decode cX5_closeBody 122 = .ok (.goto 92, 3) := by decide +kernel
theorem dX5_closeBody_125 : decode cX5_closeBody 125 = .ok (.aload_n 0, 1) := by decide +kernel
theorem dX5_closeBody_126 : decode cX5_closeBody 126 = .ok (.iconst 2, 1) := by decide +kernel
theorem dX5_closeBody_127 : decode cX5_closeBody 127 = .ok (.iconst 0, 1) := by decide +kernel
theorem dX5_closeBody_128 : decode cX5_closeBody 128 = .ok (.iconst 0, 1) := by decide +kernel
theorem dX5_closeBody_129 : decode cX5_closeBody 129 = .ok (.iload_n 1, 1) := by decide +kernel
theorem dX5_closeBody_130 : decode cX5_closeBody 130 = .ok (.invokevirtual 116, 3) := by decide +kernel
theorem dX5_closeBody_133 : decode cX5_closeBody 133 = .ok (.aload_n 0, 1) := by decide +kernel
theorem dX5_closeBody_134 : decode cX5_closeBody 134 = .ok (.iload_n 1, 1) := by decide +kernel
theorem dX5_closeBody_135 : decode cX5_closeBody 135 = .ok (.iload_n 1, 1) := by decide +kernel
theorem dX5_closeBody_136 : decode cX5_closeBody 136 = .ok (.invokevirtual 136, 3) := by decide +kernel
theorem dX5_closeBody_139 : decode cX5_closeBody 139 = .ok (.goto 75, 3) := by decide +kernel
theorem dX5_closeBody_142 : decode cX5_closeBody 142 = .ok (.aload_n 0, 1) := by decide +kernel
theorem dX5_closeBody_143 : decode cX5_closeBody 143 = .ok (.iconst 2, 1) := by decide +kernel
theorem dX5_closeBody_144 : decode cX5_closeBody 144 = .ok (.iconst 0, 1) := by decide +kernel
theorem dX5_closeBody_145 : decode cX5_closeBody 145 = .ok (.iconst 0, 1) := by decide +kernel
theorem dX5_closeBody_146 : decode cX5_closeBody 146 = .ok (.iload_n 1, 1) := by decide +kernel
theorem dX5_closeBody_147 : decode cX5_closeBody 147 = .ok (.invokevirtual 116, 3) := by decide +kernel
theorem dX5_closeBody_150 : decode cX5_closeBody 150 = .ok (.aload_n 0, 1) := by decide +kernel
theorem dX5_closeBody_151 : decode cX5_closeBody 151 = .ok (.aload_n 0, 1) := by decide +kernel
theorem dX5_closeBody_152 : decode cX5_closeBody 152 = .ok (.getfield 56, 3) := by decide +kernel
theorem dX5_closeBody_155 : decode cX5_closeBody 155 = .ok (.aload_n 0, 1) := by decide +kernel
theorem dX5_closeBody_156 : decode cX5_closeBody 156 = .ok (.getfield 44, 3) := by decide +kernel
theorem dX5_closeBody_159 : decode cX5_closeBody 159 = .ok (.iaload, 1) := by decide +kernel
theorem dX5_closeBody_160 : decode cX5_closeBody 160 = .ok (.aload_n 0, 1) := by decide +kernel
theorem dX5_closeBody_161 : decode cX5_closeBody 161 = .ok (.getfield 32, 3) := by decide +kernel
theorem dX5_closeBody_164 : decode cX5_closeBody 164 = .ok (.invokevirtual 132, 3) := by decide +kernel
theorem dX5_closeBody_167 : decode cX5_closeBody 167 = .ok (.aload_n 0, 1) := by decide +kernel
theorem dX5_closeBody_168 : decode cX5_closeBody 168 = .ok (.iload_n 1, 1) := by decide +kernel
theorem dX5_closeBody_169 : decode cX5_closeBody 169 = .ok (.iload_n 1, 1) := by decide +kernel
theorem dX5_closeBody_170 : decode cX5_closeBody 170 = .ok (.invokevirtual 136, 3) := by decide +kernel
theorem dX5_closeBody_173 : decode cX5_closeBody 173 = .ok (.goto 41, 3) := by decide +kernel
theorem dX5_closeBody_176 : decode cX5_closeBody 176 = .ok (.aload_n 0, 1) := by decide +kernel
theorem dX5_closeBody_177 : decode cX5_closeBody 177 = .ok (.iconst 3, 1) := by decide +kernel
theorem dX5_closeBody_178 : decode cX5_closeBody 178 = .ok (.aload_n 0, 1) := by decide +kernel
theorem dX5_closeBody_179 : decode cX5_closeBody 179 = .ok (.getfield 59, 3) := by decide +kernel
theorem dX5_closeBody_182 : decode cX5_closeBody 182 = .ok (.aload_n 0, 1) := by decide +kernel
theorem dX5_closeBody_183 : decode cX5_closeBody 183 = .ok (.getfield 44, 3) := by decide +kernel
theorem dX5_closeBody_186 : decode cX5_closeBody 186 = .ok (.iaload, 1) := by decide +kernel
theorem dX5_closeBody_187 : decode cX5_closeBody 187 = .ok (.aload_n 0, 1) := by decide +kernel
theorem dX5_closeBody_188 : decode cX5_closeBody 188 = .ok (.getfield 62, 3) := by decide +kernel
theorem dX5_closeBody_191 : decode cX5_closeBody 191 = .ok (.aload_n 0, 1) := by decide +kernel
theorem dX5_closeBody_192 : decode cX5_closeBody 192 = .ok (.getfield 44, 3) := by decide +kernel
theorem dX5_closeBody_195 : decode cX5_closeBody 195 = .ok (.iaload, 1) := by decide +kernel
theorem dX5_closeBody_196 : decode cX5_closeBody 196 = .ok (.iload_n 1, 1) := by decide +kernel
theorem dX5_closeBody_197 : decode cX5_closeBody 197 = .ok (.invokevirtual 116, 3) := by decide +kernel
theorem dX5_closeBody_200 : decode cX5_closeBody 200 = .ok (.aload_n 0, 1) := by decide +kernel
theorem dX5_closeBody_201 : decode cX5_closeBody 201 = .ok (.iload_n 1, 1) := by decide +kernel
theorem dX5_closeBody_202 : decode cX5_closeBody 202 = .ok (.aload_n 0, 1) := by decide +kernel
theorem dX5_closeBody_203 : decode cX5_closeBody 203 = .ok (.getfield 32, 3) := by decide +kernel
theorem dX5_closeBody_206 : decode cX5_closeBody 206 = .ok (.iconst 1, 1) := by decide +kernel
theorem dX5_closeBody_207 : decode cX5_closeBody 207 = .ok (.isub, 1) := by decide +kernel
theorem dX5_closeBody_208 : decode cX5_closeBody 208 = .ok (.invokevirtual 136, 3) := by decide +kernel
theorem dX5_closeBody_211 : decode cX5_closeBody 211 = .ok (.goto 3, 3) := by decide +kernel
theorem dX5_closeBody_214 : decode cX5_closeBody 214 = .ok (.return_, 1) := by decide +kernel
theorem dX5_endLoop_0 : decode cX5_endLoop 0 = .ok (.aload_n 0, 1) := by decide +kernel
theorem dX5_endLoop_1 : decode cX5_endLoop 1 = .ok (.dup, 1) := by decide +kernel
theorem dX5_endLoop_2 : decode cX5_endLoop 2 = .ok (.getfield 38, 3) := by decide +kernel
theorem dX5_endLoop_5 : decode cX5_endLoop 5 = .ok (.iconst 1, 1) := by decide +kernel
theorem dX5_endLoop_6 : decode cX5_endLoop 6 = .ok (.isub, 1) := by decide +kernel
theorem dX5_endLoop_7 : decode cX5_endLoop 7 = .ok (.putfield 38, 3) := by decide +kernel
theorem dX5_endLoop_10 : decode cX5_endLoop 10 = .ok (.iload_n 1, 1) := by decide +kernel
theorem dX5_endLoop_11 : decode cX5_endLoop 11 = .ok (.istore_n 3, 1) := by decide +kernel
theorem dX5_endLoop_12 : decode cX5_endLoop 12 = .ok (.iload_n 3, 1) := by decide +kernel
theorem dX5_endLoop_13 : decode cX5_endLoop 13 = .ok (.aload_n 0, 1) := by decide +kernel
theorem dX5_endLoop_14 : decode cX5_endLoop 14 = .ok (.getfield 32, 3) := by decide +kernel
theorem dX5_endLoop_17 : decode cX5_endLoop 17 = .ok (.if_icmp .ge 56, 3) := by decide +kernel
theorem dX5_endLoop_20 : decode cX5_endLoop 20 = .ok (.iload_n 3, 1) := by decide +kernel
theorem dX5_endLoop_21 : decode cX5_endLoop 21 = .ok (.bipush 60, 2) := by decide +kernel
theorem dX5_endLoop_23 : decode cX5_endLoop 23 = .ok (.if_icmp .ge 50, 3) := by decide +kernel
theorem dX5_endLoop_26 : decode cX5_endLoop 26 = .ok (.aload_n 0, 1) := by decide +kernel
theorem dX5_endLoop_27 : decode cX5_endLoop 27 = .ok (.getfield 41, 3) := by decide +kernel
theorem dX5_endLoop_30 : decode cX5_endLoop 30 = .ok (.iload_n 3, 1) := by decide +kernel
theorem dX5_endLoop_31 : decode cX5_endLoop 31 = .ok (.iaload, 1) := by decide +kernel
theorem dX5_endLoop_32 : decode cX5_endLoop 32 = .ok (.iconst (-1), 1) := by decide +kernel
theorem dX5_endLoop_33 : decode cX5_endLoop 33 = .ok (.if_icmp .eq 34, 3) := by decide +kernel
theorem dX5_endLoop_36 : decode cX5_endLoop 36 = .ok (.aload_n 0, 1) := by decide +kernel
theorem dX5_endLoop_37 : decode cX5_endLoop 37 = .ok (.iload_n 3, 1) := by decide +kernel
theorem dX5_endLoop_38 : decode cX5_endLoop 38 = .ok (.aload_n 0, 1) := by decide +kernel
theorem dX5_endLoop_39 : decode cX5_endLoop 39 = .ok (.getfield 41, 3) := by decide +kernel
theorem dX5_endLoop_42 : decode cX5_endLoop 42 = .ok (.iload_n 3, 1) := by decide +kernel
theorem dX5_endLoop_43 : decode cX5_endLoop 43 = .ok (.iaload, 1) := by decide +kernel
theorem dX5_endLoop_44 : decode cX5_endLoop 44 = .ok (.bipush 6, 2) := by decide +kernel
theorem dX5_endLoop_46 : decode cX5_endLoop 46 = .ok (.if_icmp .ne 10, 3) := by decide +kernel
theorem dX5_endLoop_49 : decode cX5_endLoop 49 = .ok (.aload_n 0, 1) := by decide +kernel
theorem dX5_endLoop_50 : decode cX5_endLoop 50 = .ok (.getfield 32, 3) := by decide +kernel
theorem dX5_endLoop_53 : decode cX5_endLoop 53 = .ok (.goto 4, 3) := by decide +kernel
theorem dX5_endLoop_56 : decode cX5_endLoop 56 = .ok (.iload_n 2, 1) := by decide +kernel
theorem dX5_endLoop_57 : decode cX5_endLoop 57 = .ok (.invokevirtual 132, 3) := by decide +kernel
theorem dX5_endLoop_60 : decode cX5_endLoop 60 = .ok (.aload_n 0, 1) := by decide +kernel
theorem dX5_endLoop_61 : decode cX5_endLoop 61 = .ok (.getfield 41, 3) := by decide +kernel
theorem dX5_endLoop_64 : decode cX5_endLoop 64 = .ok (.iload_n 3, 1) := by decide +kernel
theorem dX5_endLoop_65 : decode cX5_endLoop 65 = .ok (.iconst (-1), 1) := by decide +kernel
theorem dX5_endLoop_66 : decode cX5_endLoop 66 = .ok (.iastore, 1) := by decide +kernel
theorem dX5_endLoop_67 : decode cX5_endLoop 67 = .ok (.iinc 3 1, 3) := by decide +kernel
theorem dX5_endLoop_70 : decode cX5_endLoop 70 = .ok (.goto (-58), 3) := by decide +kernel
theorem dX5_endLoop_73 : decode cX5_endLoop 73 = .ok (.return_, 1) := by decide +kernel
theorem dX5_aim_0 : decode cX5_aim 0 = .ok (.iload_n 1, 1) := by decide +kernel
theorem dX5_aim_1 : decode cX5_aim 1 = .ok (.ifCond .lt 19, 3) := by decide +kernel
theorem dX5_aim_4 : decode cX5_aim 4 = .ok (.iload_n 1, 1) := by decide +kernel
theorem dX5_aim_5 : decode cX5_aim 5 = .ok (.bipush 60, 2) := by decide +kernel
theorem dX5_aim_7 : decode cX5_aim 7 = .ok (.if_icmp .ge 13, 3) := by decide +kernel
theorem dX5_aim_10 : decode cX5_aim 10 = .ok (.aload_n 0, 1) := by decide +kernel
theorem dX5_aim_11 : decode cX5_aim 11 = .ok (.getfield 12, 3) := by decide +kernel
theorem dX5_aim_14 : decode cX5_aim 14 = .ok (.getfield 139, 3) := by decide +kernel
theorem dX5_aim_17 : decode cX5_aim 17 = .ok (.iload_n 1, 1) := by decide +kernel
theorem dX5_aim_18 : decode cX5_aim 18 = .ok (.iload_n 2, 1) := by decide +kernel
theorem dX5_aim_19 : decode cX5_aim 19 = .ok (.iastore, 1) := by decide +kernel
theorem dX5_aim_20 : decode cX5_aim 20 = .ok (.return_, 1) := by decide +kernel
theorem dX5_emit_0 : decode cX5_emit 0 = .ok (.aload_n 0, 1) := by decide +kernel
theorem dX5_emit_1 : decode cX5_emit 1 = .ok (.getfield 32, 3) := by decide +kernel
theorem dX5_emit_4 : decode cX5_emit 4 = .ok (.bipush 60, 2) := by decide +kernel
theorem dX5_emit_6 : decode cX5_emit 6 = .ok (.if_icmp .ge 29, 3) := by decide +kernel
theorem dX5_emit_9 : decode cX5_emit 9 = .ok (.aload_n 0, 1) := by decide +kernel
theorem dX5_emit_10 : decode cX5_emit 10 = .ok (.getfield 12, 3) := by decide +kernel
theorem dX5_emit_13 : decode cX5_emit 13 = .ok (.aload_n 0, 1) := by decide +kernel
theorem dX5_emit_14 : decode cX5_emit 14 = .ok (.getfield 32, 3) := by decide +kernel
theorem dX5_emit_17 : decode cX5_emit 17 = .ok (.iload_n 1, 1) := by decide +kernel
theorem dX5_emit_18 : decode cX5_emit 18 = .ok (.iload_n 2, 1) := by decide +kernel
theorem dX5_emit_19 : decode cX5_emit 19 = .ok (.iload_n 3, 1) := by decide +kernel
theorem dX5_emit_20 : decode cX5_emit 20 = .ok (.iload 4, 2) := by decide +kernel
theorem dX5_emit_22 : decode cX5_emit 22 = .ok (.invokevirtual 142, 3) := by decide +kernel
theorem dX5_emit_25 : decode cX5_emit 25 = .ok (.aload_n 0, 1) := by decide +kernel
theorem dX5_emit_26 : decode cX5_emit 26 = .ok (.getfield 41, 3) := by decide +kernel
theorem dX5_emit_29 : decode cX5_emit 29 = .ok (.aload_n 0, 1) := by decide +kernel
theorem dX5_emit_30 : decode cX5_emit 30 = .ok (.getfield 32, 3) := by decide +kernel
theorem dX5_emit_33 : decode cX5_emit 33 = .ok (.iconst (-1), 1) := by decide +kernel
theorem dX5_emit_34 : decode cX5_emit 34 = .ok (.iastore, 1) := by decide +kernel
theorem dX5_emit_35 : decode cX5_emit 35 = .ok (.aload_n 0, 1) := by decide +kernel
theorem dX5_emit_36 : decode cX5_emit 36 = .ok (.dup, 1) := by decide +kernel
theorem dX5_emit_37 : decode cX5_emit 37 = .ok (.getfield 32, 3) := by decide +kernel
theorem dX5_emit_40 : decode cX5_emit 40 = .ok (.iconst 1, 1) := by decide +kernel
theorem dX5_emit_41 : decode cX5_emit 41 = .ok (.iadd, 1) := by decide +kernel
theorem dX5_emit_42 : decode cX5_emit 42 = .ok (.putfield 32, 3) := by decide +kernel
theorem dX5_emit_45 : decode cX5_emit 45 = .ok (.return_, 1) := by decide +kernel
theorem dX6_init_0 : decode cX6_init 0 = .ok (.aload_n 0, 1) := by decide +kernel
theorem dX6_init_1 : decode cX6_init 1 = .ok (.invokespecial 3, 3) := by decide +kernel
theorem dX6_init_4 : decode cX6_init 4 = .ok (.aload_n 0, 1) := by decide +kernel
theorem dX6_init_5 : decode cX6_init 5 = .ok (.bipush 12, 2) := by decide +kernel
theorem dX6_init_7 : decode cX6_init 7 = .ok (.anewarray 9, 3) := by decide +kernel
theorem dX6_init_10 : decode cX6_init 10 = .ok (.putfield 11, 3) := by decide +kernel
theorem dX6_init_13 : decode cX6_init 13 = .ok (.aload_n 0, 1) := by decide +kernel
theorem dX6_init_14 : decode cX6_init 14 = .ok (.iconst 0, 1) := by decide +kernel
theorem dX6_init_15 : decode cX6_init 15 = .ok (.putfield 15, 3) := by decide +kernel
theorem dX6_init_18 : decode cX6_init 18 = .ok (.aload_n 0, 1) := by decide +kernel
theorem dX6_init_19 : decode cX6_init 19 = .ok (.new 19, 3) := by decide +kernel
theorem dX6_init_22 : decode cX6_init 22 = .ok (.dup, 1) := by decide +kernel
theorem dX6_init_23 : decode cX6_init 23 = .ok (.invokespecial 21, 3) := by decide +kernel
theorem dX6_init_26 : decode cX6_init 26 = .ok (.putfield 22, 3) := by decide +kernel
theorem dX6_init_29 : decode cX6_init 29 = .ok (.aload_n 0, 1) := by decide +kernel
theorem dX6_init_30 : decode cX6_init 30 = .ok (.iconst (-1), 1) := by decide +kernel
theorem dX6_init_31 : decode cX6_init 31 = .ok (.putfield 26, 3) := by decide +kernel
theorem dX6_init_34 : decode cX6_init 34 = .ok (.aload_n 0, 1) := by decide +kernel
theorem dX6_init_35 : decode cX6_init 35 = .ok (.new 29, 3) := by decide +kernel
theorem dX6_init_38 : decode cX6_init 38 = .ok (.dup, 1) := by decide +kernel
theorem dX6_init_39 : decode cX6_init 39 = .ok (.invokespecial 31, 3) := by decide +kernel
theorem dX6_init_42 : decode cX6_init 42 = .ok (.putfield 32, 3) := by decide +kernel
theorem dX6_init_45 : decode cX6_init 45 = .ok (.aload_n 0, 1) := by decide +kernel
theorem dX6_init_46 : decode cX6_init 46 = .ok (.sipush 300, 3) := by decide +kernel
theorem dX6_init_49 : decode cX6_init 49 = .ok (.newarray .int, 2) := by decide +kernel
theorem dX6_init_51 : decode cX6_init 51 = .ok (.putfield 36, 3) := by decide +kernel
theorem dX6_init_54 : decode cX6_init 54 = .ok (.aload_n 0, 1) := by decide +kernel
theorem dX6_init_55 : decode cX6_init 55 = .ok (.iconst 0, 1) := by decide +kernel
theorem dX6_init_56 : decode cX6_init 56 = .ok (.putfield 40, 3) := by decide +kernel
theorem dX6_init_59 : decode cX6_init 59 = .ok (.aload_n 0, 1) := by decide +kernel
theorem dX6_init_60 : decode cX6_init 60 = .ok (.new 43, 3) := by decide +kernel
theorem dX6_init_63 : decode cX6_init 63 = .ok (.dup, 1) := by decide +kernel
theorem dX6_init_64 : decode cX6_init 64 = .ok (.invokespecial 45, 3) := by decide +kernel
theorem dX6_init_67 : decode cX6_init 67 = .ok (.putfield 46, 3) := by decide +kernel
theorem dX6_init_70 : decode cX6_init 70 = .ok (.aload_n 0, 1) := by decide +kernel
theorem dX6_init_71 : decode cX6_init 71 = .ok (.iconst (-1), 1) := by decide +kernel
theorem dX6_init_72 : decode cX6_init 72 = .ok (.putfield 50, 3) := by decide +kernel
theorem dX6_init_75 : decode cX6_init 75 = .ok (.aload_n 0, 1) := by decide +kernel
theorem dX6_init_76 : decode cX6_init 76 = .ok (.iconst 4, 1) := by decide +kernel
theorem dX6_init_77 : decode cX6_init 77 = .ok (.newarray .int, 2) := by decide +kernel
theorem dX6_init_79 : decode cX6_init 79 = .ok (.putfield 53, 3) := by decide +kernel
theorem dX6_init_82 : decode cX6_init 82 = .ok (.aload_n 0, 1) := by decide +kernel
theorem dX6_init_83 : decode cX6_init 83 = .ok (.new 56, 3) := by decide +kernel
theorem dX6_init_86 : decode cX6_init 86 = .ok (.dup, 1) := by decide +kernel
theorem dX6_init_87 : decode cX6_init 87 = .ok (.invokespecial 58, 3) := by decide +kernel
theorem dX6_init_90 : decode cX6_init 90 = .ok (.putfield 59, 3) := by decide +kernel
theorem dX6_init_93 : decode cX6_init 93 = .ok (.return_, 1) := by decide +kernel
theorem dX6_routine_0 : decode cX6_routine 0 = .ok (.aload_n 0, 1) := by decide +kernel
theorem dX6_routine_1 : decode cX6_routine 1 = .ok (.getfield 15, 3) := by decide +kernel
theorem dX6_routine_4 : decode cX6_routine 4 = .ok (.bipush 12, 2) := by decide +kernel
theorem dX6_routine_6 : decode cX6_routine 6 = .ok (.if_icmp .lt 8, 3) := by decide +kernel
theorem dX6_routine_9 : decode cX6_routine 9 = .ok (.bipush (-4), 2) := by decide +kernel
theorem dX6_routine_11 : decode cX6_routine 11 = .ok (.goto 14, 3) := by decide +kernel
theorem dX6_routine_14 : decode cX6_routine 14 = .ok (.aload_n 0, 1) := by decide +kernel
theorem dX6_routine_15 : decode cX6_routine 15 = .ok (.new 9, 3) := by decide +kernel
theorem dX6_routine_18 : decode cX6_routine 18 = .ok (.dup, 1) := by decide +kernel
theorem dX6_routine_19 : decode cX6_routine 19 = .ok (.invokespecial 63, 3) := by decide +kernel
theorem dX6_routine_22 : decode cX6_routine 22 = .ok (.invokevirtual 64, 3) := by decide +kernel
theorem dX6_routine_25 : decode cX6_routine 25 = .ok (.ireturn, 1) := by decide +kernel
theorem dX6_act_0 : decode cX6_act 0 = .ok (.aload_n 0, 1) := by decide +kernel
theorem dX6_act_1 : decode cX6_act 1 = .ok (.iload_n 1, 1) := by decide +kernel
theorem dX6_act_2 : decode cX6_act 2 = .ok (.invokevirtual 68, 3) := by decide +kernel
theorem dX6_act_5 : decode cX6_act 5 = .ok (.astore 6, 2) := by decide +kernel
theorem dX6_act_7 : decode cX6_act 7 = .ok (.aload 6, 2) := by decide +kernel
theorem dX6_act_9 : decode cX6_act 9 = .ok (.ifnull 15, 3) := by decide +kernel
theorem dX6_act_12 : decode cX6_act 12 = .ok (.iload_n 2, 1) := by decide +kernel
theorem dX6_act_13 : decode cX6_act 13 = .ok (.iload_n 3, 1) := by decide +kernel
theorem dX6_act_14 : decode cX6_act 14 = .ok (.iload 4, 2) := by decide +kernel
theorem dX6_act_16 : decode cX6_act 16 = .ok (.iload 5, 2) := by decide +kernel
theorem dX6_act_18 : decode cX6_act 18 = .ok (.invokestatic 72, 3) := by decide +kernel
theorem dX6_act_21 : decode cX6_act 21 = .ok (.ifCond .ne 6, 3) := by decide +kernel
theorem dX6_act_24 : decode cX6_act 24 = .ok (.bipush (-2), 2) := by decide +kernel
theorem dX6_act_26 : decode cX6_act 26 = .ok (.ireturn, 1) := by decide +kernel
theorem dX6_act_27 : decode cX6_act 27 = .ok (.aload 6, 2) := by decide +kernel
theorem dX6_act_29 : decode cX6_act 29 = .ok (.getfield 76, 3) := by decide +kernel
theorem dX6_act_32 : decode cX6_act 32 = .ok (.istore 7, 2) := by decide +kernel
theorem dX6_act_34 : decode cX6_act 34 = .ok (.iload 7, 2) := by decide +kernel
theorem dX6_act_36 : decode cX6_act 36 = .ok (.bipush 60, 2) := by decide +kernel
theorem dX6_act_38 : decode cX6_act 38 = .ok (.if_icmp .lt 6, 3) := by decide +kernel
theorem dX6_act_41 : decode cX6_act 41 = .ok (.bipush (-4), 2) := by decide +kernel
theorem dX6_act_43 : decode cX6_act 43 = .ok (.ireturn, 1) := by decide +kernel
theorem dX6_act_44 : decode cX6_act 44 = .ok (.aload 6, 2) := by decide +kernel
theorem dX6_act_46 : decode cX6_act 46 = .ok (.iload 7, 2) := by decide +kernel
theorem dX6_act_48 : decode cX6_act 48 = .ok (.iconst 1, 1) := by decide +kernel
theorem dX6_act_49 : decode cX6_act 49 = .ok (.iadd, 1) := by decide +kernel
theorem dX6_act_50 : decode cX6_act 50 = .ok (.putfield 76, 3) := by decide +kernel
theorem dX6_act_53 : decode cX6_act 53 = .ok (.aload_n 0, 1) := by decide +kernel
theorem dX6_act_54 : decode cX6_act 54 = .ok (.aload 6, 2) := by decide +kernel
theorem dX6_act_56 : decode cX6_act 56 = .ok (.iload 7, 2) := by decide +kernel
theorem dX6_act_58 : decode cX6_act 58 = .ok (.iload_n 2, 1) := by decide +kernel
theorem dX6_act_59 : decode cX6_act 59 = .ok (.iload_n 3, 1) := by decide +kernel
theorem dX6_act_60 : decode cX6_act 60 = .ok (.iload 4, 2) := by decide +kernel
theorem dX6_act_62 : decode cX6_act 62 = .ok (.iload 5, 2) := by decide +kernel
theorem dX6_act_64 : decode cX6_act 64 = .ok (.invokevirtual 79, 3) := by decide +kernel
theorem dX6_act_67 : decode cX6_act 67 = .ok (.iload 7, 2) := by decide +kernel
theorem dX6_act_69 : decode cX6_act 69 = .ok (.ireturn, 1) := by decide +kernel
theorem dX6_alter_0 : decode cX6_alter 0 = .ok (.aload_n 0, 1) := by decide +kernel
theorem dX6_alter_1 : decode cX6_alter 1 = .ok (.iload_n 1, 1) := by decide +kernel
theorem dX6_alter_2 : decode cX6_alter 2 = .ok (.invokevirtual 68, 3) := by decide +kernel
theorem dX6_alter_5 : decode cX6_alter 5 = .ok (.astore 7, 2) := by decide +kernel
theorem dX6_alter_7 : decode cX6_alter 7 = .ok (.aload 7, 2) := by decide +kernel
theorem dX6_alter_9 : decode cX6_alter 9 = .ok (.ifnull 25, 3) := by decide +kernel
theorem dX6_alter_12 : decode cX6_alter 12 = .ok (.aload 7, 2) := by decide +kernel
theorem dX6_alter_14 : decode cX6_alter 14 = .ok (.iload_n 2, 1) := by decide +kernel
theorem dX6_alter_15 : decode cX6_alter 15 = .ok (.invokevirtual 83, 3) := by decide +kernel
theorem dX6_alter_18 : decode cX6_alter 18 = .ok (.ifCond .eq 16, 3) := by decide +kernel
theorem dX6_alter_21 : decode cX6_alter 21 = .ok (.iload_n 3, 1) := by decide +kernel
theorem dX6_alter_22 : decode cX6_alter 22 = .ok (.iload 4, 2) := by decide +kernel
theorem dX6_alter_24 : decode cX6_alter 24 = .ok (.iload 5, 2) := by decide +kernel
theorem dX6_alter_26 : decode cX6_alter 26 = .ok (.iload 6, 2) := by decide +kernel
theorem dX6_alter_28 : decode cX6_alter 28 = .ok (.invokestatic 72, 3) := by decide +kernel
theorem dX6_alter_31 : decode cX6_alter 31 = .ok (.ifCond .ne 6, 3) := by decide +kernel
theorem dX6_alter_34 : decode cX6_alter 34 = .ok (.bipush (-2), 2) := by decide +kernel
theorem dX6_alter_36 : decode cX6_alter 36 = .ok (.ireturn, 1) := by decide +kernel
theorem dX6_alter_37 : decode cX6_alter 37 = .ok (.aload_n 0, 1) := by decide +kernel
theorem dX6_alter_38 : decode cX6_alter 38 = .ok (.aload 7, 2) := by decide +kernel
theorem dX6_alter_40 : decode cX6_alter 40 = .ok (.iload_n 2, 1) := by decide +kernel
theorem dX6_alter_41 : decode cX6_alter 41 = .ok (.iload_n 3, 1) := by decide +kernel
theorem dX6_alter_42 : decode cX6_alter 42 = .ok (.iload 4, 2) := by decide +kernel
theorem dX6_alter_44 : decode cX6_alter 44 = .ok (.iload 5, 2) := by decide +kernel
theorem dX6_alter_46 : decode cX6_alter 46 = .ok (.iload 6, 2) := by decide +kernel
theorem dX6_alter_48 : decode cX6_alter 48 = .ok (.invokevirtual 79, 3) := by decide +kernel
theorem dX6_alter_51 : decode cX6_alter 51 = .ok (.iload_n 2, 1) := by decide +kernel
theorem dX6_alter_52 : decode cX6_alter 52 = .ok (.ireturn, 1) := by decide +kernel
theorem dX6_told_0 : decode cX6_told 0 = .ok (.aload_n 0, 1) := by decide +kernel
theorem dX6_told_1 : decode cX6_told 1 = .ok (.iload_n 1, 1) := by decide +kernel
theorem dX6_told_2 : decode cX6_told 2 = .ok (.invokevirtual 68, 3) := by decide +kernel
theorem dX6_told_5 : decode cX6_told 5 = .ok (.astore 4, 2) := by decide +kernel
theorem dX6_told_7 : decode cX6_told 7 = .ok (.aload 4, 2) := by decide +kernel
theorem dX6_told_9 : decode cX6_told 9 = .ok (.ifnull 12, 3) := by decide +kernel
theorem dX6_told_12 : decode cX6_told 12 = .ok (.aload 4, 2) := by decide +kernel
theorem dX6_told_14 : decode cX6_told 14 = .ok (.iload_n 2, 1) := by decide +kernel
theorem dX6_told_15 : decode cX6_told 15 = .ok (.invokevirtual 83, 3) := by decide +kernel
theorem dX6_told_18 : decode cX6_told 18 = .ok (.ifCond .ne 6, 3) := by decide +kernel
theorem dX6_told_21 : decode cX6_told 21 = .ok (.bipush (-2), 2) := by decide +kernel
theorem dX6_told_23 : decode cX6_told 23 = .ok (.ireturn, 1) := by decide +kernel
theorem dX6_told_24 : decode cX6_told 24 = .ok (.iload_n 3, 1) := by decide +kernel
theorem dX6_told_25 : decode cX6_told 25 = .ok (.tableswitch 116 0 5 #[39, 47, 55, 63, 71, 96], 39) := by decide +kernel
theorem dX6_told_64 : decode cX6_told 64 = .ok (.aload 4, 2) := by decide +kernel
theorem dX6_told_66 : decode cX6_told 66 = .ok (.getfield 87, 3) := by decide +kernel
theorem dX6_told_69 : decode cX6_told 69 = .ok (.iload_n 2, 1) := by decide +kernel
theorem dX6_told_70 : decode cX6_told 70 = .ok (.iaload, 1) := by decide +kernel
theorem dX6_told_71 : decode cX6_told 71 = .ok (.ireturn, 1) := by decide +kernel
theorem dX6_told_72 : decode cX6_told 72 = .ok (.aload 4, 2) := by decide +kernel
theorem dX6_told_74 : decode cX6_told 74 = .ok (.getfield 90, 3) := by decide +kernel
theorem dX6_told_77 : decode cX6_told 77 = .ok (.iload_n 2, 1) := by decide +kernel
theorem dX6_told_78 : decode cX6_told 78 = .ok (.iaload, 1) := by decide +kernel
theorem dX6_told_79 : decode cX6_told 79 = .ok (.ireturn, 1) := by decide +kernel
theorem dX6_told_80 : decode cX6_told 80 = .ok (.aload 4, 2) := by decide +kernel
theorem dX6_told_82 : decode cX6_told 82 = .ok (.getfield 93, 3) := by decide +kernel
theorem dX6_told_85 : decode cX6_told 85 = .ok (.iload_n 2, 1) := by decide +kernel
theorem dX6_told_86 : decode cX6_told 86 = .ok (.iaload, 1) := by decide +kernel
theorem dX6_told_87 : decode cX6_told 87 = .ok (.ireturn, 1) := by decide +kernel
theorem dX6_told_88 : decode cX6_told 88 = .ok (.aload 4, 2) := by decide +kernel
theorem dX6_told_90 : decode cX6_told 90 = .ok (.getfield 96, 3) := by decide +kernel
theorem dX6_told_93 : decode cX6_told 93 = .ok (.iload_n 2, 1) := by decide +kernel
theorem dX6_told_94 : decode cX6_told 94 = .ok (.iaload, 1) := by decide +kernel
theorem dX6_told_95 : decode cX6_told 95 = .ok (.ireturn, 1) := by decide +kernel
theorem dX6_told_96 : decode cX6_told 96 = .ok (.aload 4, 2) := by decide +kernel
theorem dX6_told_98 : decode cX6_told 98 = .ok (.getfield 99, 3) := by decide +kernel
theorem dX6_told_101 : decode cX6_told 101 = .ok (.ifCond .eq 18, 3) := by decide +kernel
theorem dX6_told_104 : decode cX6_told 104 = .ok (.aload_n 0, 1) := by decide +kernel
theorem dX6_told_105 : decode cX6_told 105 = .ok (.iload_n 1, 1) := by decide +kernel
theorem dX6_told_106 : decode cX6_told 106 = .ok (.aload 4, 2) := by decide +kernel
theorem dX6_told_108 : decode cX6_told 108 = .ok (.invokevirtual 103, 3) := by decide +kernel
theorem dX6_told_111 : decode cX6_told 111 = .ok (.getfield 107, 3) := by decide +kernel
theorem dX6_told_114 : decode cX6_told 114 = .ok (.iload_n 2, 1) := by decide +kernel
theorem dX6_told_115 : decode cX6_told 115 = .ok (.iaload, 1) := by decide +kernel
theorem dX6_told_116 : decode cX6_told 116 = .ok (.goto 4, 3) := by decide +kernel
theorem dX6_told_119 : decode cX6_told 119 = .ok (.iconst (-1), 1) := by decide +kernel
theorem dX6_told_120 : decode cX6_told 120 = .ok (.ireturn, 1) := by decide +kernel
theorem dX6_told_121 : decode cX6_told 121 = .ok (.aload 4, 2) := by decide +kernel
theorem dX6_told_123 : decode cX6_told 123 = .ok (.getfield 99, 3) := by decide +kernel
theorem dX6_told_126 : decode cX6_told 126 = .ok (.ifCond .eq 13, 3) := by decide +kernel
theorem dX6_told_129 : decode cX6_told 129 = .ok (.aload_n 0, 1) := by decide +kernel
theorem dX6_told_130 : decode cX6_told 130 = .ok (.aload 4, 2) := by decide +kernel
theorem dX6_told_132 : decode cX6_told 132 = .ok (.iload_n 2, 1) := by decide +kernel
theorem dX6_told_133 : decode cX6_told 133 = .ok (.invokevirtual 112, 3) := by decide +kernel
theorem dX6_told_136 : decode cX6_told 136 = .ok (.goto 4, 3) := by decide +kernel
theorem dX6_told_139 : decode cX6_told 139 = .ok (.iconst (-1), 1) := by decide +kernel
theorem dX6_told_140 : decode cX6_told 140 = .ok (.ireturn, 1) := by decide +kernel
theorem dX6_told_141 : decode cX6_told 141 = .ok (.bipush (-2), 2) := by decide +kernel
theorem dX6_told_143 : decode cX6_told 143 = .ok (.ireturn, 1) := by decide +kernel
theorem dX6_of_0 : decode cX6_of 0 = .ok (.aload_n 0, 1) := by decide +kernel
theorem dX6_of_1 : decode cX6_of 1 = .ok (.iload_n 1, 1) := by decide +kernel
theorem dX6_of_2 : decode cX6_of 2 = .ok (.invokevirtual 68, 3) := by decide +kernel
theorem dX6_of_5 : decode cX6_of 5 = .ok (.astore_n 3, 1) := by decide +kernel
theorem dX6_of_6 : decode cX6_of 6 = .ok (.aload_n 3, 1) := by decide +kernel
theorem dX6_of_7 : decode cX6_of 7 = .ok (.ifnull 13, 3) := by decide +kernel
theorem dX6_of_10 : decode cX6_of 10 = .ok (.iload_n 2, 1) := by decide +kernel
theorem dX6_of_11 : decode cX6_of 11 = .ok (.ifCond .lt 9, 3) := by decide +kernel
theorem dX6_of_14 : decode cX6_of 14 = .ok (.iload_n 2, 1) := by decide +kernel
theorem dX6_of_15 : decode cX6_of 15 = .ok (.bipush 7, 2) := by decide +kernel
theorem dX6_of_17 : decode cX6_of 17 = .ok (.if_icmp .le 6, 3) := by decide +kernel
theorem dX6_of_20 : decode cX6_of 20 = .ok (.bipush (-2), 2) := by decide +kernel
theorem dX6_of_22 : decode cX6_of 22 = .ok (.ireturn, 1) := by decide +kernel
theorem dX6_of_23 : decode cX6_of 23 = .ok (.iload_n 2, 1) := by decide +kernel
theorem dX6_of_24 : decode cX6_of 24 = .ok (.tableswitch 53 0 2 #[28, 33, 46], 28) := by decide +kernel
theorem dX6_of_52 : decode cX6_of 52 = .ok (.aload_n 3, 1) := by decide +kernel
theorem dX6_of_53 : decode cX6_of 53 = .ok (.getfield 76, 3) := by decide +kernel
theorem dX6_of_56 : decode cX6_of 56 = .ok (.ireturn, 1) := by decide +kernel
theorem dX6_of_57 : decode cX6_of 57 = .ok (.aload_n 3, 1) := by decide +kernel
theorem dX6_of_58 : decode cX6_of 58 = .ok (.getfield 99, 3) := by decide +kernel
theorem dX6_of_61 : decode cX6_of 61 = .ok (.ifCond .eq 7, 3) := by decide +kernel
theorem dX6_of_64 : decode cX6_of 64 = .ok (.iconst 1, 1) := by decide +kernel
theorem dX6_of_65 : decode cX6_of 65 = .ok (.goto 4, 3) := by decide +kernel
theorem dX6_of_68 : decode cX6_of 68 = .ok (.iconst 0, 1) := by decide +kernel
theorem dX6_of_69 : decode cX6_of 69 = .ok (.ireturn, 1) := by decide +kernel
theorem dX6_of_70 : decode cX6_of 70 = .ok (.aload_n 0, 1) := by decide +kernel
theorem dX6_of_71 : decode cX6_of 71 = .ok (.iload_n 1, 1) := by decide +kernel
theorem dX6_of_72 : decode cX6_of 72 = .ok (.aload_n 3, 1) := by decide +kernel
theorem dX6_of_73 : decode cX6_of 73 = .ok (.invokevirtual 116, 3) := by decide +kernel
theorem dX6_of_76 : decode cX6_of 76 = .ok (.ireturn, 1) := by decide +kernel
theorem dX6_of_77 : decode cX6_of 77 = .ok (.aload_n 3, 1) := by decide +kernel
theorem dX6_of_78 : decode cX6_of 78 = .ok (.getfield 99, 3) := by decide +kernel
theorem dX6_of_81 : decode cX6_of 81 = .ok (.ifCond .eq 13, 3) := by decide +kernel
theorem dX6_of_84 : decode cX6_of 84 = .ok (.aload_n 0, 1) := by decide +kernel
theorem dX6_of_85 : decode cX6_of 85 = .ok (.iload_n 1, 1) := by decide +kernel
theorem dX6_of_86 : decode cX6_of 86 = .ok (.aload_n 3, 1) := by decide +kernel
theorem dX6_of_87 : decode cX6_of 87 = .ok (.iload_n 2, 1) := by decide +kernel
theorem dX6_of_88 : decode cX6_of 88 = .ok (.invokevirtual 120, 3) := by decide +kernel
theorem dX6_of_91 : decode cX6_of 91 = .ok (.goto 4, 3) := by decide +kernel
theorem dX6_of_94 : decode cX6_of 94 = .ok (.iconst (-1), 1) := by decide +kernel
theorem dX6_of_95 : decode cX6_of 95 = .ok (.ireturn, 1) := by decide +kernel
theorem dX6_statement_0 : decode cX6_statement 0 = .ok (.aload_n 0, 1) := by decide +kernel
theorem dX6_statement_1 : decode cX6_statement 1 = .ok (.iload_n 1, 1) := by decide +kernel
theorem dX6_statement_2 : decode cX6_statement 2 = .ok (.invokevirtual 68, 3) := by decide +kernel
theorem dX6_statement_5 : decode cX6_statement 5 = .ok (.astore 4, 2) := by decide +kernel
theorem dX6_statement_7 : decode cX6_statement 7 = .ok (.aload 4, 2) := by decide +kernel
theorem dX6_statement_9 : decode cX6_statement 9 = .ok (.ifnull 12, 3) := by decide +kernel
theorem dX6_statement_12 : decode cX6_statement 12 = .ok (.iload_n 3, 1) := by decide +kernel
theorem dX6_statement_13 : decode cX6_statement 13 = .ok (.ifCond .lt 8, 3) := by decide +kernel
theorem dX6_statement_16 : decode cX6_statement 16 = .ok (.iload_n 3, 1) := by decide +kernel
theorem dX6_statement_17 : decode cX6_statement 17 = .ok (.iconst 5, 1) := by decide +kernel
theorem dX6_statement_18 : decode cX6_statement 18 = .ok (.if_icmp .le 6, 3) := by decide +kernel
theorem dX6_statement_21 : decode cX6_statement 21 = .ok (.bipush (-2), 2) := by decide +kernel
theorem dX6_statement_23 : decode cX6_statement 23 = .ok (.ireturn, 1) := by decide +kernel
theorem dX6_statement_24 : decode cX6_statement 24 = .ok (.aload 4, 2) := by decide +kernel
theorem dX6_statement_26 : decode cX6_statement 26 = .ok (.getfield 99, 3) := by decide +kernel
theorem dX6_statement_29 : decode cX6_statement 29 = .ok (.ifCond .ne 6, 3) := by decide +kernel
theorem dX6_statement_32 : decode cX6_statement 32 = .ok (.bipush (-3), 2) := by decide +kernel
theorem dX6_statement_34 : decode cX6_statement 34 = .ok (.ireturn, 1) := by decide +kernel
theorem dX6_statement_35 : decode cX6_statement 35 = .ok (.aload_n 0, 1) := by decide +kernel
theorem dX6_statement_36 : decode cX6_statement 36 = .ok (.iload_n 1, 1) := by decide +kernel
theorem dX6_statement_37 : decode cX6_statement 37 = .ok (.aload 4, 2) := by decide +kernel
theorem dX6_statement_39 : decode cX6_statement 39 = .ok (.invokevirtual 103, 3) := by decide +kernel
theorem dX6_statement_42 : decode cX6_statement 42 = .ok (.astore 5, 2) := by decide +kernel
theorem dX6_statement_44 : decode cX6_statement 44 = .ok (.aload 5, 2) := by decide +kernel
theorem dX6_statement_46 : decode cX6_statement 46 = .ok (.iload_n 2, 1) := by decide +kernel
theorem dX6_statement_47 : decode cX6_statement 47 = .ok (.invokevirtual 124, 3) := by decide +kernel
theorem dX6_statement_50 : decode cX6_statement 50 = .ok (.ifCond .eq 13, 3) := by decide +kernel
theorem dX6_statement_53 : decode cX6_statement 53 = .ok (.aload 5, 2) := by decide +kernel
theorem dX6_statement_55 : decode cX6_statement 55 = .ok (.iload_n 2, 1) := by decide +kernel
theorem dX6_statement_56 : decode cX6_statement 56 = .ok (.iload_n 3, 1) := by decide +kernel
theorem dX6_statement_57 : decode cX6_statement 57 = .ok (.invokevirtual 125, 3) := by decide +kernel
theorem dX6_statement_60 : decode cX6_statement 60 = .ok (.goto 5, 3) := by decide +kernel
theorem dX6_statement_63 : decode cX6_statement 63 = .ok (.bipush (-2), 2) := by decide +kernel
theorem dX6_statement_65 : decode cX6_statement 65 = .ok (.ireturn, 1) := by decide +kernel
theorem dX6_text_0 : decode cX6_text 0 = .ok (.aload_n 0, 1) := by decide +kernel
theorem dX6_text_1 : decode cX6_text 1 = .ok (.iload_n 1, 1) := by decide +kernel
theorem dX6_text_2 : decode cX6_text 2 = .ok (.invokevirtual 68, 3) := by decide +kernel
theorem dX6_text_5 : decode cX6_text 5 = .ok (.astore_n 3, 1) := by decide +kernel
theorem dX6_text_6 : decode cX6_text 6 = .ok (.aload_n 3, 1) := by decide +kernel
theorem dX6_text_7 : decode cX6_text 7 = .ok (.ifnull 8, 3) := by decide +kernel
theorem dX6_text_10 : decode cX6_text 10 = .ok (.iload_n 2, 1) := by decide +kernel
theorem dX6_text_11 : decode cX6_text 11 = .ok (.iconst (-1), 1) := by decide +kernel
theorem dX6_text_12 : decode cX6_text 12 = .ok (.if_icmp .ge 6, 3) := by decide +kernel
theorem dX6_text_15 : decode cX6_text 15 = .ok (.bipush (-2), 2) := by decide +kernel
theorem dX6_text_17 : decode cX6_text 17 = .ok (.ireturn, 1) := by decide +kernel
theorem dX6_text_18 : decode cX6_text 18 = .ok (.aload_n 3, 1) := by decide +kernel
theorem dX6_text_19 : decode cX6_text 19 = .ok (.getfield 99, 3) := by decide +kernel
theorem dX6_text_22 : decode cX6_text 22 = .ok (.ifCond .ne 6, 3) := by decide +kernel
theorem dX6_text_25 : decode cX6_text 25 = .ok (.bipush (-3), 2) := by decide +kernel
theorem dX6_text_27 : decode cX6_text 27 = .ok (.ireturn, 1) := by decide +kernel
theorem dX6_text_28 : decode cX6_text 28 = .ok (.aload_n 0, 1) := by decide +kernel
theorem dX6_text_29 : decode cX6_text 29 = .ok (.iload_n 1, 1) := by decide +kernel
theorem dX6_text_30 : decode cX6_text 30 = .ok (.aload_n 3, 1) := by decide +kernel
theorem dX6_text_31 : decode cX6_text 31 = .ok (.invokevirtual 103, 3) := by decide +kernel
theorem dX6_text_34 : decode cX6_text 34 = .ok (.astore 4, 2) := by decide +kernel
theorem dX6_text_36 : decode cX6_text 36 = .ok (.iload_n 2, 1) := by decide +kernel
theorem dX6_text_37 : decode cX6_text 37 = .ok (.iconst (-1), 1) := by decide +kernel
theorem dX6_text_38 : decode cX6_text 38 = .ok (.if_icmp .ne 9, 3) := by decide +kernel
theorem dX6_text_41 : decode cX6_text 41 = .ok (.aload 4, 2) := by decide +kernel
theorem dX6_text_43 : decode cX6_text 43 = .ok (.getfield 129, 3) := by decide +kernel
theorem dX6_text_46 : decode cX6_text 46 = .ok (.ireturn, 1) := by decide +kernel
theorem dX6_text_47 : decode cX6_text 47 = .ok (.iload_n 2, 1) := by decide +kernel
theorem dX6_text_48 : decode cX6_text 48 = .ok (.aload 4, 2) := by decide +kernel
theorem dX6_text_50 : decode cX6_text 50 = .ok (.getfield 129, 3) := by decide +kernel
theorem dX6_text_53 : decode cX6_text 53 = .ok (.if_icmp .ge 13, 3) := by decide +kernel
theorem dX6_text_56 : decode cX6_text 56 = .ok (.aload 4, 2) := by decide +kernel
theorem dX6_text_58 : decode cX6_text 58 = .ok (.getfield 132, 3) := by decide +kernel
theorem dX6_text_61 : decode cX6_text 61 = .ok (.iload_n 2, 1) := by decide +kernel
theorem dX6_text_62 : decode cX6_text 62 = .ok (.iaload, 1) := by decide +kernel
theorem dX6_text_63 : decode cX6_text 63 = .ok (.goto 5, 3) := by decide +kernel
theorem dX6_text_66 : decode cX6_text 66 = .ok (.bipush (-2), 2) := by decide +kernel
theorem dX6_text_68 : decode cX6_text 68 = .ok (.ireturn, 1) := by decide +kernel
theorem dX6_feed_0 : decode cX6_feed 0 = .ok (.aload_n 0, 1) := by decide +kernel
theorem dX6_feed_1 : decode cX6_feed 1 = .ok (.getfield 40, 3) := by decide +kernel
theorem dX6_feed_4 : decode cX6_feed 4 = .ok (.sipush 300, 3) := by decide +kernel
theorem dX6_feed_7 : decode cX6_feed 7 = .ok (.if_icmp .lt 6, 3) := by decide +kernel
theorem dX6_feed_10 : decode cX6_feed 10 = .ok (.bipush (-4), 2) := by decide +kernel
theorem dX6_feed_12 : decode cX6_feed 12 = .ok (.ireturn, 1) := by decide +kernel
theorem dX6_feed_13 : decode cX6_feed 13 = .ok (.aload_n 0, 1) := by decide +kernel
theorem dX6_feed_14 : decode cX6_feed 14 = .ok (.getfield 36, 3) := by decide +kernel
theorem dX6_feed_17 : decode cX6_feed 17 = .ok (.aload_n 0, 1) := by decide +kernel
theorem dX6_feed_18 : decode cX6_feed 18 = .ok (.getfield 40, 3) := by decide +kernel
theorem dX6_feed_21 : decode cX6_feed 21 = .ok (.iload_n 1, 1) := by decide +kernel
theorem dX6_feed_22 : decode cX6_feed 22 = .ok (.iastore, 1) := by decide +kernel
theorem dX6_feed_23 : decode cX6_feed 23 = .ok (.aload_n 0, 1) := by decide +kernel
theorem dX6_feed_24 : decode cX6_feed 24 = .ok (.dup, 1) := by decide +kernel
theorem dX6_feed_25 : decode cX6_feed 25 = .ok (.getfield 40, 3) := by decide +kernel
theorem dX6_feed_28 : decode cX6_feed 28 = .ok (.iconst 1, 1) := by decide +kernel
theorem dX6_feed_29 : decode cX6_feed 29 = .ok (.iadd, 1) := by decide +kernel
theorem dX6_feed_30 : decode cX6_feed 30 = .ok (.putfield 40, 3) := by decide +kernel
theorem dX6_feed_33 : decode cX6_feed 33 = .ok (.aload_n 0, 1) := by decide +kernel
theorem dX6_feed_34 : decode cX6_feed 34 = .ok (.getfield 40, 3) := by decide +kernel
theorem dX6_feed_37 : decode cX6_feed 37 = .ok (.ireturn, 1) := by decide +kernel
theorem dX6_copy_0 : decode cX6_copy 0 = .ok (.aload_n 0, 1) := by decide +kernel
theorem dX6_copy_1 : decode cX6_copy 1 = .ok (.iload_n 1, 1) := by decide +kernel
theorem dX6_copy_2 : decode cX6_copy 2 = .ok (.invokevirtual 68, 3) := by decide +kernel
theorem dX6_copy_5 : decode cX6_copy 5 = .ok (.astore_n 2, 1) := by decide +kernel
theorem dX6_copy_6 : decode cX6_copy 6 = .ok (.aload_n 2, 1) := by decide +kernel
theorem dX6_copy_7 : decode cX6_copy 7 = .ok (.ifnonnull 6, 3) := by decide +kernel
theorem dX6_copy_10 : decode cX6_copy 10 = .ok (.bipush (-2), 2) := by decide +kernel
theorem dX6_copy_12 : decode cX6_copy 12 = .ok (.ireturn, 1) := by decide +kernel
theorem dX6_copy_13 : decode cX6_copy 13 = .ok (.aload_n 2, 1) := by decide +kernel
theorem dX6_copy_14 : decode cX6_copy 14 = .ok (.getfield 99, 3) := by decide +kernel
theorem dX6_copy_17 : decode cX6_copy 17 = .ok (.ifCond .ne 6, 3) := by decide +kernel
theorem dX6_copy_20 : decode cX6_copy 20 = .ok (.bipush (-3), 2) := by decide +kernel
theorem dX6_copy_22 : decode cX6_copy 22 = .ok (.ireturn, 1) := by decide +kernel
theorem dX6_copy_23 : decode cX6_copy 23 = .ok (.aload_n 0, 1) := by decide +kernel
theorem dX6_copy_24 : decode cX6_copy 24 = .ok (.iload_n 1, 1) := by decide +kernel
theorem dX6_copy_25 : decode cX6_copy 25 = .ok (.aload_n 2, 1) := by decide +kernel
theorem dX6_copy_26 : decode cX6_copy 26 = .ok (.invokevirtual 103, 3) := by decide +kernel
theorem dX6_copy_29 : decode cX6_copy 29 = .ok (.astore_n 3, 1) := by decide +kernel
theorem dX6_copy_30 : decode cX6_copy 30 = .ok (.aload_n 3, 1) := by decide +kernel
theorem dX6_copy_31 : decode cX6_copy 31 = .ok (.getfield 129, 3) := by decide +kernel
theorem dX6_copy_34 : decode cX6_copy 34 = .ok (.sipush 300, 3) := by decide +kernel
theorem dX6_copy_37 : decode cX6_copy 37 = .ok (.aload_n 0, 1) := by decide +kernel
theorem dX6_copy_38 : decode cX6_copy 38 = .ok (.getfield 40, 3) := by decide +kernel
theorem dX6_copy_41 : decode cX6_copy 41 = .ok (.isub, 1) := by decide +kernel
theorem dX6_copy_42 : decode cX6_copy 42 = .ok (.if_icmp .le 6, 3) := by decide +kernel
theorem dX6_copy_45 : decode cX6_copy 45 = .ok (.bipush (-4), 2) := by decide +kernel
theorem dX6_copy_47 : decode cX6_copy 47 = .ok (.ireturn, 1) := by decide +kernel
theorem dX6_copy_48 : decode cX6_copy 48 = .ok (.aload_n 3, 1) := by decide +kernel
theorem dX6_copy_49 : decode cX6_copy 49 = .ok (.getfield 132, 3) := by decide +kernel
theorem dX6_copy_52 : decode cX6_copy 52 = .ok (.iconst 0, 1) := by decide +kernel
theorem dX6_copy_53 : decode cX6_copy 53 = .ok (.aload_n 0, 1) := by decide +kernel
theorem dX6_copy_54 : decode cX6_copy 54 = .ok (.getfield 36, 3) := by decide +kernel
theorem dX6_copy_57 : decode cX6_copy 57 = .ok (.aload_n 0, 1) := by decide +kernel
theorem dX6_copy_58 : decode cX6_copy 58 = .ok (.getfield 40, 3) := by decide +kernel
theorem dX6_copy_61 : decode cX6_copy 61 = .ok (.aload_n 3, 1) := by decide +kernel
theorem dX6_copy_62 : decode cX6_copy 62 = .ok (.getfield 129, 3) := by decide +kernel
theorem dX6_copy_65 : decode cX6_copy 65 = .ok (.invokestatic 135, 3) := by decide +kernel
theorem dX6_copy_68 : decode cX6_copy 68 = .ok (.aload_n 0, 1) := by decide +kernel
theorem dX6_copy_69 : decode cX6_copy 69 = .ok (.dup, 1) := by decide +kernel
theorem dX6_copy_70 : decode cX6_copy 70 = .ok (.getfield 40, 3) := by decide +kernel
theorem dX6_copy_73 : decode cX6_copy 73 = .ok (.aload_n 3, 1) := by decide +kernel
theorem dX6_copy_74 : decode cX6_copy 74 = .ok (.getfield 129, 3) := by decide +kernel
theorem dX6_copy_77 : decode cX6_copy 77 = .ok (.iadd, 1) := by decide +kernel
theorem dX6_copy_78 : decode cX6_copy 78 = .ok (.putfield 40, 3) := by decide +kernel
theorem dX6_copy_81 : decode cX6_copy 81 = .ok (.aload_n 0, 1) := by decide +kernel
theorem dX6_copy_82 : decode cX6_copy 82 = .ok (.getfield 40, 3) := by decide +kernel
theorem dX6_copy_85 : decode cX6_copy 85 = .ok (.ireturn, 1) := by decide +kernel
end
section
theorem dX6_write_0 : decode cX6_write 0 = .ok (.aload_n 0, 1) := by decide +kernel
theorem dX6_write_1 : decode cX6_write 1 = .ok (.getfield 15, 3) := by decide +kernel
theorem dX6_write_4 : decode cX6_write 4 = .ok (.bipush 12, 2) := by decide +kernel
theorem dX6_write_6 : decode cX6_write 6 = .ok (.if_icmp .lt 6, 3) := by decide +kernel
theorem dX6_write_9 : decode cX6_write 9 = .ok (.bipush (-4), 2) := by decide +kernel
theorem dX6_write_11 : decode cX6_write 11 = .ok (.ireturn, 1) := by decide +kernel
theorem dX6_write_12 : decode cX6_write 12 = .ok (.aload_n 0, 1) := by decide +kernel
theorem dX6_write_13 : decode cX6_write 13 = .ok (.getfield 46, 3) := by decide +kernel
theorem dX6_write_16 : decode cX6_write 16 = .ok (.aload_n 0, 1) := by decide +kernel
theorem dX6_write_17 : decode cX6_write 17 = .ok (.getfield 36, 3) := by decide +kernel
theorem dX6_write_20 : decode cX6_write 20 = .ok (.aload_n 0, 1) := by decide +kernel
theorem dX6_write_21 : decode cX6_write 21 = .ok (.getfield 40, 3) := by decide +kernel
theorem dX6_write_24 : decode cX6_write 24 = .ok (.invokevirtual 141, 3) := by decide +kernel
theorem dX6_write_27 : decode cX6_write 27 = .ok (.istore_n 1, 1) := by decide +kernel
theorem dX6_write_28 : decode cX6_write 28 = .ok (.aload_n 0, 1) := by decide +kernel
theorem dX6_write_29 : decode cX6_write 29 = .ok (.iconst 0, 1) := by decide +kernel
theorem dX6_write_30 : decode cX6_write 30 = .ok (.putfield 40, 3) := by decide +kernel
theorem dX6_write_33 : decode cX6_write 33 = .ok (.iload_n 1, 1) := by decide +kernel
theorem dX6_write_34 : decode cX6_write 34 = .ok (.ifCond .eq 19, 3) := by decide +kernel
theorem dX6_write_37 : decode cX6_write 37 = .ok (.aload_n 0, 1) := by decide +kernel
theorem dX6_write_38 : decode cX6_write 38 = .ok (.aload_n 0, 1) := by decide +kernel
theorem dX6_write_39 : decode cX6_write 39 = .ok (.getfield 46, 3) := by decide +kernel
theorem dX6_write_42 : decode cX6_write 42 = .ok (.getfield 145, 3) := by decide +kernel
theorem dX6_write_45 : decode cX6_write 45 = .ok (.putfield 50, 3) := by decide +kernel
theorem dX6_write_48 : decode cX6_write 48 = .ok (.bipush (-10), 2) := by decide +kernel
theorem dX6_write_50 : decode cX6_write 50 = .ok (.iload_n 1, 1) := by decide +kernel
theorem dX6_write_51 : decode cX6_write 51 = .ok (.isub, 1) := by decide +kernel
theorem dX6_write_52 : decode cX6_write 52 = .ok (.ireturn, 1) := by decide +kernel
theorem dX6_write_53 : decode cX6_write 53 = .ok (.new 9, 3) := by decide +kernel
theorem dX6_write_56 : decode cX6_write 56 = .ok (.dup, 1) := by decide +kernel
theorem dX6_write_57 : decode cX6_write 57 = .ok (.invokespecial 63, 3) := by decide +kernel
theorem dX6_write_60 : decode cX6_write 60 = .ok (.astore_n 2, 1) := by decide +kernel
theorem dX6_write_61 : decode cX6_write 61 = .ok (.aload_n 2, 1) := by decide +kernel
theorem dX6_write_62 : decode cX6_write 62 = .ok (.aload_n 0, 1) := by decide +kernel
theorem dX6_write_63 : decode cX6_write 63 = .ok (.getfield 46, 3) := by decide +kernel
theorem dX6_write_66 : decode cX6_write 66 = .ok (.getfield 148, 3) := by decide +kernel
theorem dX6_write_69 : decode cX6_write 69 = .ok (.invokevirtual 152, 3) := by decide +kernel
theorem dX6_write_72 : decode cX6_write 72 = .ok (.aload_n 0, 1) := by decide +kernel
theorem dX6_write_73 : decode cX6_write 73 = .ok (.aload_n 2, 1) := by decide +kernel
theorem dX6_write_74 : decode cX6_write 74 = .ok (.invokevirtual 64, 3) := by decide +kernel
theorem dX6_write_77 : decode cX6_write 77 = .ok (.ireturn, 1) := by decide +kernel
theorem dX6_fault_0 : decode cX6_fault 0 = .ok (.aload_n 0, 1) := by decide +kernel
theorem dX6_fault_1 : decode cX6_fault 1 = .ok (.getfield 50, 3) := by decide +kernel
theorem dX6_fault_4 : decode cX6_fault 4 = .ok (.ireturn, 1) := by decide +kernel
theorem dX6_clear_0 : decode cX6_clear 0 = .ok (.aload_n 0, 1) := by decide +kernel
theorem dX6_clear_1 : decode cX6_clear 1 = .ok (.getfield 40, 3) := by decide +kernel
theorem dX6_clear_4 : decode cX6_clear 4 = .ok (.istore_n 1, 1) := by decide +kernel
theorem dX6_clear_5 : decode cX6_clear 5 = .ok (.aload_n 0, 1) := by decide +kernel
theorem dX6_clear_6 : decode cX6_clear 6 = .ok (.iconst 0, 1) := by decide +kernel
theorem dX6_clear_7 : decode cX6_clear 7 = .ok (.putfield 40, 3) := by decide +kernel
theorem dX6_clear_10 : decode cX6_clear 10 = .ok (.iload_n 1, 1) := by decide +kernel
theorem dX6_clear_11 : decode cX6_clear 11 = .ok (.ireturn, 1) := by decide +kernel
theorem dX6_like_0 : decode cX6_like 0 = .ok (.aload_n 0, 1) := by decide +kernel
theorem dX6_like_1 : decode cX6_like 1 = .ok (.iload_n 1, 1) := by decide +kernel
theorem dX6_like_2 : decode cX6_like 2 = .ok (.invokevirtual 68, 3) := by decide +kernel
theorem dX6_like_5 : decode cX6_like 5 = .ok (.astore_n 3, 1) := by decide +kernel
theorem dX6_like_6 : decode cX6_like 6 = .ok (.aload_n 0, 1) := by decide +kernel
theorem dX6_like_7 : decode cX6_like 7 = .ok (.iload_n 2, 1) := by decide +kernel
theorem dX6_like_8 : decode cX6_like 8 = .ok (.invokevirtual 68, 3) := by decide +kernel
theorem dX6_like_11 : decode cX6_like 11 = .ok (.astore 4, 2) := by decide +kernel
theorem dX6_like_13 : decode cX6_like 13 = .ok (.aload_n 3, 1) := by decide +kernel
theorem dX6_like_14 : decode cX6_like 14 = .ok (.ifnull 8, 3) := by decide +kernel
theorem dX6_like_17 : decode cX6_like 17 = .ok (.aload 4, 2) := by decide +kernel
theorem dX6_like_19 : decode cX6_like 19 = .ok (.ifnonnull 6, 3) := by decide +kernel
theorem dX6_like_22 : decode cX6_like 22 = .ok (.bipush (-2), 2) := by decide +kernel
theorem dX6_like_24 : decode cX6_like 24 = .ok (.ireturn, 1) := by decide +kernel
theorem dX6_like_25 : decode cX6_like 25 = .ok (.aload_n 3, 1) := by decide +kernel
theorem dX6_like_26 : decode cX6_like 26 = .ok (.aload 4, 2) := by decide +kernel
theorem dX6_like_28 : decode cX6_like 28 = .ok (.invokevirtual 156, 3) := by decide +kernel
theorem dX6_like_31 : decode cX6_like 31 = .ok (.ifCond .eq 7, 3) := by decide +kernel
theorem dX6_like_34 : decode cX6_like 34 = .ok (.iconst 1, 1) := by decide +kernel
theorem dX6_like_35 : decode cX6_like 35 = .ok (.goto 4, 3) := by decide +kernel
theorem dX6_like_38 : decode cX6_like 38 = .ok (.iconst 0, 1) := by decide +kernel
theorem dX6_like_39 : decode cX6_like 39 = .ok (.ireturn, 1) := by decide +kernel
theorem dX6_set_0 : decode cX6_set 0 = .ok (.iload_n 1, 1) := by decide +kernel
theorem dX6_set_1 : decode cX6_set 1 = .ok (.ifCond .lt 8, 3) := by decide +kernel
theorem dX6_set_4 : decode cX6_set 4 = .ok (.iload_n 1, 1) := by decide +kernel
theorem dX6_set_5 : decode cX6_set 5 = .ok (.iconst 4, 1) := by decide +kernel
theorem dX6_set_6 : decode cX6_set 6 = .ok (.if_icmp .lt 6, 3) := by decide +kernel
theorem dX6_set_9 : decode cX6_set 9 = .ok (.bipush (-2), 2) := by decide +kernel
theorem dX6_set_11 : decode cX6_set 11 = .ok (.ireturn, 1) := by decide +kernel
theorem dX6_set_12 : decode cX6_set 12 = .ok (.aload_n 0, 1) := by decide +kernel
theorem dX6_set_13 : decode cX6_set 13 = .ok (.getfield 53, 3) := by decide +kernel
theorem dX6_set_16 : decode cX6_set 16 = .ok (.iload_n 1, 1) := by decide +kernel
theorem dX6_set_17 : decode cX6_set 17 = .ok (.iaload, 1) := by decide +kernel
theorem dX6_set_18 : decode cX6_set 18 = .ok (.istore_n 3, 1) := by decide +kernel
theorem dX6_set_19 : decode cX6_set 19 = .ok (.aload_n 0, 1) := by decide +kernel
theorem dX6_set_20 : decode cX6_set 20 = .ok (.getfield 53, 3) := by decide +kernel
theorem dX6_set_23 : decode cX6_set 23 = .ok (.iload_n 1, 1) := by decide +kernel
theorem dX6_set_24 : decode cX6_set 24 = .ok (.iload_n 2, 1) := by decide +kernel
theorem dX6_set_25 : decode cX6_set 25 = .ok (.iastore, 1) := by decide +kernel
theorem dX6_set_26 : decode cX6_set 26 = .ok (.iload_n 3, 1) := by decide +kernel
theorem dX6_set_27 : decode cX6_set 27 = .ok (.ireturn, 1) := by decide +kernel
theorem dX6_run_0 : decode cX6_run 0 = .ok (.aload_n 0, 1) := by decide +kernel
theorem dX6_run_1 : decode cX6_run 1 = .ok (.iload_n 1, 1) := by decide +kernel
theorem dX6_run_2 : decode cX6_run 2 = .ok (.invokevirtual 68, 3) := by decide +kernel
theorem dX6_run_5 : decode cX6_run 5 = .ok (.astore_n 3, 1) := by decide +kernel
theorem dX6_run_6 : decode cX6_run 6 = .ok (.aload_n 3, 1) := by decide +kernel
theorem dX6_run_7 : decode cX6_run 7 = .ok (.ifnull 14, 3) := by decide +kernel
theorem dX6_run_10 : decode cX6_run 10 = .ok (.iload_n 2, 1) := by decide +kernel
theorem dX6_run_11 : decode cX6_run 11 = .ok (.ifCond .lt 10, 3) := by decide +kernel
theorem dX6_run_14 : decode cX6_run 14 = .ok (.iload_n 2, 1) := by decide +kernel
theorem dX6_run_15 : decode cX6_run 15 = .ok (.sipush 10000, 3) := by decide +kernel
theorem dX6_run_18 : decode cX6_run 18 = .ok (.if_icmp .le 6, 3) := by decide +kernel
theorem dX6_run_21 : decode cX6_run 21 = .ok (.bipush (-2), 2) := by decide +kernel
theorem dX6_run_23 : decode cX6_run 23 = .ok (.ireturn, 1) := by decide +kernel
theorem dX6_run_24 : decode cX6_run 24 = .ok (.aload_n 3, 1) := by decide +kernel
theorem dX6_run_25 : decode cX6_run 25 = .ok (.getfield 99, 3) := by decide +kernel
theorem dX6_run_28 : decode cX6_run 28 = .ok (.ifCond .ne 6, 3) := by decide +kernel
theorem dX6_run_31 : decode cX6_run 31 = .ok (.bipush (-3), 2) := by decide +kernel
theorem dX6_run_33 : decode cX6_run 33 = .ok (.ireturn, 1) := by decide +kernel
theorem dX6_run_34 : decode cX6_run 34 = .ok (.aload_n 0, 1) := by decide +kernel
theorem dX6_run_35 : decode cX6_run 35 = .ok (.getfield 59, 3) := by decide +kernel
theorem dX6_run_38 : decode cX6_run 38 = .ok (.aload_n 0, 1) := by decide +kernel
theorem dX6_run_39 : decode cX6_run 39 = .ok (.getfield 11, 3) := by decide +kernel
theorem dX6_run_42 : decode cX6_run 42 = .ok (.aload_n 3, 1) := by decide +kernel
theorem dX6_run_43 : decode cX6_run 43 = .ok (.aload_n 0, 1) := by decide +kernel
theorem dX6_run_44 : decode cX6_run 44 = .ok (.getfield 53, 3) := by decide +kernel
theorem dX6_run_47 : decode cX6_run 47 = .ok (.iload_n 2, 1) := by decide +kernel
theorem dX6_run_48 : decode cX6_run 48 = .ok (.invokevirtual 160, 3) := by decide +kernel
theorem dX6_run_51 : decode cX6_run 51 = .ok (.ireturn, 1) := by decide +kernel
theorem dX6_ran_0 : decode cX6_ran 0 = .ok (.iload_n 1, 1) := by decide +kernel
theorem dX6_ran_1 : decode cX6_ran 1 = .ok (.tableswitch 83 0 7 #[47, 55, 63, 83, 71, 71, 71, 71], 47) := by decide +kernel
theorem dX6_ran_48 : decode cX6_ran 48 = .ok (.aload_n 0, 1) := by decide +kernel
theorem dX6_ran_49 : decode cX6_ran 49 = .ok (.getfield 59, 3) := by decide +kernel
theorem dX6_ran_52 : decode cX6_ran 52 = .ok (.getfield 164, 3) := by decide +kernel
theorem dX6_ran_55 : decode cX6_ran 55 = .ok (.ireturn, 1) := by decide +kernel
theorem dX6_ran_56 : decode cX6_ran 56 = .ok (.aload_n 0, 1) := by decide +kernel
theorem dX6_ran_57 : decode cX6_ran 57 = .ok (.getfield 59, 3) := by decide +kernel
theorem dX6_ran_60 : decode cX6_ran 60 = .ok (.getfield 167, 3) := by decide +kernel
theorem dX6_ran_63 : decode cX6_ran 63 = .ok (.ireturn, 1) := by decide +kernel
theorem dX6_ran_64 : decode cX6_ran 64 = .ok (.aload_n 0, 1) := by decide +kernel
theorem dX6_ran_65 : decode cX6_ran 65 = .ok (.getfield 59, 3) := by decide +kernel
theorem dX6_ran_68 : decode cX6_ran 68 = .ok (.getfield 170, 3) := by decide +kernel
theorem dX6_ran_71 : decode cX6_ran 71 = .ok (.ireturn, 1) := by decide +kernel
theorem dX6_ran_72 : decode cX6_ran 72 = .ok (.aload_n 0, 1) := by decide +kernel
theorem dX6_ran_73 : decode cX6_ran 73 = .ok (.getfield 59, 3) := by decide +kernel
theorem dX6_ran_76 : decode cX6_ran 76 = .ok (.getfield 173, 3) := by decide +kernel
theorem dX6_ran_79 : decode cX6_ran 79 = .ok (.iload_n 1, 1) := by decide +kernel
theorem dX6_ran_80 : decode cX6_ran 80 = .ok (.iconst 4, 1) := by decide +kernel
theorem dX6_ran_81 : decode cX6_ran 81 = .ok (.isub, 1) := by decide +kernel
theorem dX6_ran_82 : decode cX6_ran 82 = .ok (.iaload, 1) := by decide +kernel
theorem dX6_ran_83 : decode cX6_ran 83 = .ok (.ireturn, 1) := by decide +kernel
theorem dX6_ran_84 : decode cX6_ran 84 = .ok (.bipush (-2), 2) := by decide +kernel
theorem dX6_ran_86 : decode cX6_ran 86 = .ok (.ireturn, 1) := by decide +kernel
theorem dX6_out_0 : decode cX6_out 0 = .ok (.iload_n 1, 1) := by decide +kernel
theorem dX6_out_1 : decode cX6_out 1 = .ok (.ifCond .lt 14, 3) := by decide +kernel
theorem dX6_out_4 : decode cX6_out 4 = .ok (.iload_n 1, 1) := by decide +kernel
theorem dX6_out_5 : decode cX6_out 5 = .ok (.aload_n 0, 1) := by decide +kernel
theorem dX6_out_6 : decode cX6_out 6 = .ok (.getfield 59, 3) := by decide +kernel
theorem dX6_out_9 : decode cX6_out 9 = .ok (.getfield 167, 3) := by decide +kernel
theorem dX6_out_12 : decode cX6_out 12 = .ok (.if_icmp .lt 8, 3) := by decide +kernel
theorem dX6_out_15 : decode cX6_out 15 = .ok (.bipush (-2), 2) := by decide +kernel
theorem dX6_out_17 : decode cX6_out 17 = .ok (.goto 12, 3) := by decide +kernel
theorem dX6_out_20 : decode cX6_out 20 = .ok (.aload_n 0, 1) := by decide +kernel
theorem dX6_out_21 : decode cX6_out 21 = .ok (.getfield 59, 3) := by decide +kernel
theorem dX6_out_24 : decode cX6_out 24 = .ok (.getfield 176, 3) := by decide +kernel
theorem dX6_out_27 : decode cX6_out 27 = .ok (.iload_n 1, 1) := by decide +kernel
theorem dX6_out_28 : decode cX6_out 28 = .ok (.iaload, 1) := by decide +kernel
theorem dX6_out_29 : decode cX6_out 29 = .ok (.ireturn, 1) := by decide +kernel
theorem dX6_find_0 : decode cX6_find 0 = .ok (.iload_n 1, 1) := by decide +kernel
theorem dX6_find_1 : decode cX6_find 1 = .ok (.ifCond .lt 11, 3) := by decide +kernel
theorem dX6_find_4 : decode cX6_find 4 = .ok (.iload_n 1, 1) := by decide +kernel
theorem dX6_find_5 : decode cX6_find 5 = .ok (.aload_n 0, 1) := by decide +kernel
theorem dX6_find_6 : decode cX6_find 6 = .ok (.getfield 15, 3) := by decide +kernel
theorem dX6_find_9 : decode cX6_find 9 = .ok (.if_icmp .lt 7, 3) := by decide +kernel
theorem dX6_find_12 : decode cX6_find 12 = .ok (.aconst_null, 1) := by decide +kernel
theorem dX6_find_13 : decode cX6_find 13 = .ok (.goto 9, 3) := by decide +kernel
theorem dX6_find_16 : decode cX6_find 16 = .ok (.aload_n 0, 1) := by decide +kernel
theorem dX6_find_17 : decode cX6_find 17 = .ok (.getfield 11, 3) := by decide +kernel
theorem dX6_find_20 : decode cX6_find 20 = .ok (.iload_n 1, 1) := by decide +kernel
theorem dX6_find_21 : decode cX6_find 21 = .ok (.aaload, 1) := by decide +kernel
theorem dX6_find_22 : decode cX6_find 22 = .ok (.areturn, 1) := by decide +kernel
theorem dX6_addRoutine_0 : decode cX6_addRoutine 0 = .ok (.aload_n 0, 1) := by decide +kernel
theorem dX6_addRoutine_1 : decode cX6_addRoutine 1 = .ok (.getfield 15, 3) := by decide +kernel
theorem dX6_addRoutine_4 : decode cX6_addRoutine 4 = .ok (.istore_n 2, 1) := by decide +kernel
theorem dX6_addRoutine_5 : decode cX6_addRoutine 5 = .ok (.iload_n 2, 1) := by decide +kernel
theorem dX6_addRoutine_6 : decode cX6_addRoutine 6 = .ok (.bipush 12, 2) := by decide +kernel
theorem dX6_addRoutine_8 : decode cX6_addRoutine 8 = .ok (.if_icmp .lt 6, 3) := by decide +kernel
theorem dX6_addRoutine_11 : decode cX6_addRoutine 11 = .ok (.bipush (-4), 2) := by decide +kernel
theorem dX6_addRoutine_13 : decode cX6_addRoutine 13 = .ok (.ireturn, 1) := by decide +kernel
theorem dX6_addRoutine_14 : decode cX6_addRoutine 14 = .ok (.aload_n 0, 1) := by decide +kernel
theorem dX6_addRoutine_15 : decode cX6_addRoutine 15 = .ok (.getfield 11, 3) := by decide +kernel
theorem dX6_addRoutine_18 : decode cX6_addRoutine 18 = .ok (.iload_n 2, 1) := by decide +kernel
theorem dX6_addRoutine_19 : decode cX6_addRoutine 19 = .ok (.aload_n 1, 1) := by decide +kernel
theorem dX6_addRoutine_20 : decode cX6_addRoutine 20 = .ok (.aastore, 1) := by decide +kernel
theorem dX6_addRoutine_21 : decode cX6_addRoutine 21 = .ok (.aload_n 0, 1) := by decide +kernel
theorem dX6_addRoutine_22 : decode cX6_addRoutine 22 = .ok (.iload_n 2, 1) := by decide +kernel
theorem dX6_addRoutine_23 : decode cX6_addRoutine 23 = .ok (.iconst 1, 1) := by decide +kernel
theorem dX6_addRoutine_24 : decode cX6_addRoutine 24 = .ok (.iadd, 1) := by decide +kernel
theorem dX6_addRoutine_25 : decode cX6_addRoutine 25 = .ok (.putfield 15, 3) := by decide +kernel
theorem dX6_addRoutine_28 : decode cX6_addRoutine 28 = .ok (.iload_n 2, 1) := by decide +kernel
theorem dX6_addRoutine_29 : decode cX6_addRoutine 29 = .ok (.ireturn, 1) := by decide +kernel
theorem dX6_change_0 : decode cX6_change 0 = .ok (.aload_n 1, 1) := by decide +kernel
theorem dX6_change_1 : decode cX6_change 1 = .ok (.iload_n 2, 1) := by decide +kernel
theorem dX6_change_2 : decode cX6_change 2 = .ok (.iload_n 3, 1) := by decide +kernel
theorem dX6_change_3 : decode cX6_change 3 = .ok (.iload 4, 2) := by decide +kernel
theorem dX6_change_5 : decode cX6_change 5 = .ok (.iload 5, 2) := by decide +kernel
theorem dX6_change_7 : decode cX6_change 7 = .ok (.iload 6, 2) := by decide +kernel
theorem dX6_change_9 : decode cX6_change 9 = .ok (.invokevirtual 179, 3) := by decide +kernel
theorem dX6_change_12 : decode cX6_change 12 = .ok (.aload_n 1, 1) := by decide +kernel
theorem dX6_change_13 : decode cX6_change 13 = .ok (.invokevirtual 183, 3) := by decide +kernel
theorem dX6_change_16 : decode cX6_change 16 = .ok (.aload_n 0, 1) := by decide +kernel
theorem dX6_change_17 : decode cX6_change 17 = .ok (.iconst (-1), 1) := by decide +kernel
theorem dX6_change_18 : decode cX6_change 18 = .ok (.putfield 26, 3) := by decide +kernel
theorem dX6_change_21 : decode cX6_change 21 = .ok (.return_, 1) := by decide +kernel
theorem dX6_treeOf_0 : decode cX6_treeOf 0 = .ok (.aload_n 0, 1) := by decide +kernel
theorem dX6_treeOf_1 : decode cX6_treeOf 1 = .ok (.getfield 26, 3) := by decide +kernel
theorem dX6_treeOf_4 : decode cX6_treeOf 4 = .ok (.iload_n 1, 1) := by decide +kernel
theorem dX6_treeOf_5 : decode cX6_treeOf 5 = .ok (.if_icmp .eq 16, 3) := by decide +kernel
theorem dX6_treeOf_8 : decode cX6_treeOf 8 = .ok (.aload_n 0, 1) := by decide +kernel
theorem dX6_treeOf_9 : decode cX6_treeOf 9 = .ok (.getfield 22, 3) := by decide +kernel
theorem dX6_treeOf_12 : decode cX6_treeOf 12 = .ok (.aload_n 2, 1) := by decide +kernel
theorem dX6_treeOf_13 : decode cX6_treeOf 13 = .ok (.invokevirtual 186, 3) := by decide +kernel
theorem dX6_treeOf_16 : decode cX6_treeOf 16 = .ok (.aload_n 0, 1) := by decide +kernel
theorem dX6_treeOf_17 : decode cX6_treeOf 17 = .ok (.iload_n 1, 1) := by decide +kernel
theorem dX6_treeOf_18 : decode cX6_treeOf 18 = .ok (.putfield 26, 3) := by decide +kernel
theorem dX6_treeOf_21 : decode cX6_treeOf 21 = .ok (.aload_n 0, 1) := by decide +kernel
theorem dX6_treeOf_22 : decode cX6_treeOf 22 = .ok (.getfield 22, 3) := by decide +kernel
theorem dX6_treeOf_25 : decode cX6_treeOf 25 = .ok (.getfield 189, 3) := by decide +kernel
theorem dX6_treeOf_28 : decode cX6_treeOf 28 = .ok (.areturn, 1) := by decide +kernel
theorem dX6_cameTo_0 : decode cX6_cameTo 0 = .ok (.aload_n 0, 1) := by decide +kernel
theorem dX6_cameTo_1 : decode cX6_cameTo 1 = .ok (.getfield 32, 3) := by decide +kernel
theorem dX6_cameTo_4 : decode cX6_cameTo 4 = .ok (.aload_n 1, 1) := by decide +kernel
theorem dX6_cameTo_5 : decode cX6_cameTo 5 = .ok (.invokevirtual 193, 3) := by decide +kernel
theorem dX6_cameTo_8 : decode cX6_cameTo 8 = .ok (.aload_n 0, 1) := by decide +kernel
theorem dX6_cameTo_9 : decode cX6_cameTo 9 = .ok (.getfield 32, 3) := by decide +kernel
theorem dX6_cameTo_12 : decode cX6_cameTo 12 = .ok (.getfield 196, 3) := by decide +kernel
theorem dX6_cameTo_15 : decode cX6_cameTo 15 = .ok (.iload_n 2, 1) := by decide +kernel
theorem dX6_cameTo_16 : decode cX6_cameTo 16 = .ok (.iaload, 1) := by decide +kernel
theorem dX6_cameTo_17 : decode cX6_cameTo 17 = .ok (.ireturn, 1) := by decide +kernel
theorem dX6_leastAlike_0 : decode cX6_leastAlike 0 = .ok (.iconst 0, 1) := by decide +kernel
theorem dX6_leastAlike_1 : decode cX6_leastAlike 1 = .ok (.istore_n 3, 1) := by decide +kernel
theorem dX6_leastAlike_2 : decode cX6_leastAlike 2 = .ok (.iload_n 3, 1) := by decide +kernel
theorem dX6_leastAlike_3 : decode cX6_leastAlike 3 = .ok (.iload_n 1, 1) := by decide +kernel
theorem dX6_leastAlike_4 : decode cX6_leastAlike 4 = .ok (.if_icmp .ge 32, 3) := by decide +kernel
theorem dX6_leastAlike_7 : decode cX6_leastAlike 7 = .ok (.aload_n 0, 1) := by decide +kernel
theorem dX6_leastAlike_8 : decode cX6_leastAlike 8 = .ok (.iload_n 3, 1) := by decide +kernel
theorem dX6_leastAlike_9 : decode cX6_leastAlike 9 = .ok (.invokevirtual 68, 3) := by decide +kernel
theorem dX6_leastAlike_12 : decode cX6_leastAlike 12 = .ok (.astore 4, 2) := by decide +kernel
theorem dX6_leastAlike_14 : decode cX6_leastAlike 14 = .ok (.aload 4, 2) := by decide +kernel
theorem dX6_leastAlike_16 : decode cX6_leastAlike 16 = .ok (.ifnull 14, 3) := by decide +kernel
theorem dX6_leastAlike_19 : decode cX6_leastAlike 19 = .ok (.aload 4, 2) := by decide +kernel
theorem dX6_leastAlike_21 : decode cX6_leastAlike 21 = .ok (.aload_n 2, 1) := by decide +kernel
theorem dX6_leastAlike_22 : decode cX6_leastAlike 22 = .ok (.invokevirtual 156, 3) := by decide +kernel
theorem dX6_leastAlike_25 : decode cX6_leastAlike 25 = .ok (.ifCond .eq 5, 3) := by decide +kernel
theorem dX6_leastAlike_28 : decode cX6_leastAlike 28 = .ok (.iload_n 3, 1) := by decide +kernel
theorem dX6_leastAlike_29 : decode cX6_leastAlike 29 = .ok (.ireturn, 1) := by decide +kernel
theorem dX6_leastAlike_30 : decode cX6_leastAlike 30 = .ok (.iinc 3 1, 3) := by decide +kernel
theorem dX6_leastAlike_33 : decode cX6_leastAlike 33 = .ok (.goto (-31), 3) := by decide +kernel
theorem dX6_leastAlike_36 : decode cX6_leastAlike 36 = .ok (.iload_n 1, 1) := by decide +kernel
theorem dX6_leastAlike_37 : decode cX6_leastAlike 37 = .ok (.ireturn, 1) := by decide +kernel
theorem dX6_ofWhole_0 : decode cX6_ofWhole 0 = .ok (.iload_n 3, 1) := by decide +kernel
theorem dX6_ofWhole_1 : decode cX6_ofWhole 1 = .ok (.tableswitch 82 3 6 #[31, 41, 51, 72], 31) := by decide +kernel
theorem dX6_ofWhole_32 : decode cX6_ofWhole 32 = .ok (.aload_n 0, 1) := by decide +kernel
theorem dX6_ofWhole_33 : decode cX6_ofWhole 33 = .ok (.iload_n 1, 1) := by decide +kernel
theorem dX6_ofWhole_34 : decode cX6_ofWhole 34 = .ok (.aload_n 2, 1) := by decide +kernel
theorem dX6_ofWhole_35 : decode cX6_ofWhole 35 = .ok (.invokevirtual 103, 3) := by decide +kernel
theorem dX6_ofWhole_38 : decode cX6_ofWhole 38 = .ok (.getfield 199, 3) := by decide +kernel
theorem dX6_ofWhole_41 : decode cX6_ofWhole 41 = .ok (.ireturn, 1) := by decide +kernel
theorem dX6_ofWhole_42 : decode cX6_ofWhole 42 = .ok (.aload_n 0, 1) := by decide +kernel
theorem dX6_ofWhole_43 : decode cX6_ofWhole 43 = .ok (.iload_n 1, 1) := by decide +kernel
theorem dX6_ofWhole_44 : decode cX6_ofWhole 44 = .ok (.aload_n 2, 1) := by decide +kernel
theorem dX6_ofWhole_45 : decode cX6_ofWhole 45 = .ok (.invokevirtual 103, 3) := by decide +kernel
theorem dX6_ofWhole_48 : decode cX6_ofWhole 48 = .ok (.getfield 202, 3) := by decide +kernel
theorem dX6_ofWhole_51 : decode cX6_ofWhole 51 = .ok (.ireturn, 1) := by decide +kernel
theorem dX6_ofWhole_52 : decode cX6_ofWhole 52 = .ok (.aload_n 0, 1) := by decide +kernel
theorem dX6_ofWhole_53 : decode cX6_ofWhole 53 = .ok (.getfield 32, 3) := by decide +kernel
theorem dX6_ofWhole_56 : decode cX6_ofWhole 56 = .ok (.aload_n 2, 1) := by decide +kernel
theorem dX6_ofWhole_57 : decode cX6_ofWhole 57 = .ok (.invokevirtual 193, 3) := by decide +kernel
theorem dX6_ofWhole_60 : decode cX6_ofWhole 60 = .ok (.aload_n 2, 1) := by decide +kernel
theorem dX6_ofWhole_61 : decode cX6_ofWhole 61 = .ok (.getfield 76, 3) := by decide +kernel
theorem dX6_ofWhole_64 : decode cX6_ofWhole 64 = .ok (.aload_n 0, 1) := by decide +kernel
theorem dX6_ofWhole_65 : decode cX6_ofWhole 65 = .ok (.getfield 32, 3) := by decide +kernel
theorem dX6_ofWhole_68 : decode cX6_ofWhole 68 = .ok (.getfield 205, 3) := by decide +kernel
theorem dX6_ofWhole_71 : decode cX6_ofWhole 71 = .ok (.isub, 1) := by decide +kernel
theorem dX6_ofWhole_72 : decode cX6_ofWhole 72 = .ok (.ireturn, 1) := by decide +kernel
theorem dX6_ofWhole_73 : decode cX6_ofWhole 73 = .ok (.aload_n 0, 1) := by decide +kernel
theorem dX6_ofWhole_74 : decode cX6_ofWhole 74 = .ok (.iload_n 1, 1) := by decide +kernel
theorem dX6_ofWhole_75 : decode cX6_ofWhole 75 = .ok (.aload_n 2, 1) := by decide +kernel
theorem dX6_ofWhole_76 : decode cX6_ofWhole 76 = .ok (.invokevirtual 103, 3) := by decide +kernel
theorem dX6_ofWhole_79 : decode cX6_ofWhole 79 = .ok (.getfield 208, 3) := by decide +kernel
theorem dX6_ofWhole_82 : decode cX6_ofWhole 82 = .ok (.ireturn, 1) := by decide +kernel
theorem dX6_ofWhole_83 : decode cX6_ofWhole 83 = .ok (.aload_n 0, 1) := by decide +kernel
theorem dX6_ofWhole_84 : decode cX6_ofWhole 84 = .ok (.iload_n 1, 1) := by decide +kernel
theorem dX6_ofWhole_85 : decode cX6_ofWhole 85 = .ok (.invokevirtual 211, 3) := by decide +kernel
theorem dX6_ofWhole_88 : decode cX6_ofWhole 88 = .ok (.ireturn, 1) := by decide +kernel
theorem dX6_callersOf_0 : decode cX6_callersOf 0 = .ok (.iconst 0, 1) := by decide +kernel
theorem dX6_callersOf_1 : decode cX6_callersOf 1 = .ok (.istore_n 2, 1) := by decide +kernel
theorem dX6_callersOf_2 : decode cX6_callersOf 2 = .ok (.iconst 0, 1) := by decide +kernel
theorem dX6_callersOf_3 : decode cX6_callersOf 3 = .ok (.istore_n 3, 1) := by decide +kernel
theorem dX6_callersOf_4 : decode cX6_callersOf 4 = .ok (.iload_n 3, 1) := by decide +kernel
theorem dX6_callersOf_5 : decode cX6_callersOf 5 = .ok (.aload_n 0, 1) := by decide +kernel
theorem dX6_callersOf_6 : decode cX6_callersOf 6 = .ok (.getfield 15, 3) := by decide +kernel
theorem dX6_callersOf_9 : decode cX6_callersOf 9 = .ok (.if_icmp .ge 33, 3) := by decide +kernel
theorem dX6_callersOf_12 : decode cX6_callersOf 12 = .ok (.aload_n 0, 1) := by decide +kernel
theorem dX6_callersOf_13 : decode cX6_callersOf 13 = .ok (.iload_n 3, 1) := by decide +kernel
theorem dX6_callersOf_14 : decode cX6_callersOf 14 = .ok (.invokevirtual 68, 3) := by decide +kernel
theorem dX6_callersOf_17 : decode cX6_callersOf 17 = .ok (.astore 4, 2) := by decide +kernel
theorem dX6_callersOf_19 : decode cX6_callersOf 19 = .ok (.aload 4, 2) := by decide +kernel
theorem dX6_callersOf_21 : decode cX6_callersOf 21 = .ok (.ifnull 15, 3) := by decide +kernel
theorem dX6_callersOf_24 : decode cX6_callersOf 24 = .ok (.aload 4, 2) := by decide +kernel
theorem dX6_callersOf_26 : decode cX6_callersOf 26 = .ok (.iload_n 1, 1) := by decide +kernel
theorem dX6_callersOf_27 : decode cX6_callersOf 27 = .ok (.invokevirtual 215, 3) := by decide +kernel
theorem dX6_callersOf_30 : decode cX6_callersOf 30 = .ok (.ifCond .eq 6, 3) := by decide +kernel
theorem dX6_callersOf_33 : decode cX6_callersOf 33 = .ok (.iinc 2 1, 3) := by decide +kernel
theorem dX6_callersOf_36 : decode cX6_callersOf 36 = .ok (.iinc 3 1, 3) := by decide +kernel
theorem dX6_callersOf_39 : decode cX6_callersOf 39 = .ok (.goto (-35), 3) := by decide +kernel
theorem dX6_callersOf_42 : decode cX6_callersOf 42 = .ok (.iload_n 2, 1) := by decide +kernel
theorem dX6_callersOf_43 : decode cX6_callersOf 43 = .ok (.ireturn, 1) := by decide +kernel
theorem dX6_isJump_0 : decode cX6_isJump 0 = .ok (.iload_n 0, 1) := by decide +kernel
theorem dX6_isJump_1 : decode cX6_isJump 1 = .ok (.iconst 2, 1) := by decide +kernel
theorem dX6_isJump_2 : decode cX6_isJump 2 = .ok (.if_icmp .eq 8, 3) := by decide +kernel
theorem dX6_isJump_5 : decode cX6_isJump 5 = .ok (.iload_n 0, 1) := by decide +kernel
theorem dX6_isJump_6 : decode cX6_isJump 6 = .ok (.iconst 3, 1) := by decide +kernel
theorem dX6_isJump_7 : decode cX6_isJump 7 = .ok (.if_icmp .ne 7, 3) := by decide +kernel
theorem dX6_isJump_10 : decode cX6_isJump 10 = .ok (.iconst 1, 1) := by decide +kernel
theorem dX6_isJump_11 : decode cX6_isJump 11 = .ok (.goto 4, 3) := by decide +kernel
theorem dX6_isJump_14 : decode cX6_isJump 14 = .ok (.iconst 0, 1) := by decide +kernel
theorem dX6_isJump_15 : decode cX6_isJump 15 = .ok (.ireturn, 1) := by decide +kernel
theorem dX6_isAct_0 : decode cX6_isAct 0 = .ok (.iload_n 0, 1) := by decide +kernel
theorem dX6_isAct_1 : decode cX6_isAct 1 = .ok (.ifCond .lt 59, 3) := by decide +kernel
theorem dX6_isAct_4 : decode cX6_isAct 4 = .ok (.iload_n 0, 1) := by decide +kernel
theorem dX6_isAct_5 : decode cX6_isAct 5 = .ok (.iconst 5, 1) := by decide +kernel
theorem dX6_isAct_6 : decode cX6_isAct 6 = .ok (.if_icmp .gt 54, 3) := by decide +kernel
theorem dX6_isAct_9 : decode cX6_isAct 9 = .ok (.iload_n 0, 1) := by decide +kernel
theorem dX6_isAct_10 : decode cX6_isAct 10 = .ok (.invokestatic 218, 3) := by decide +kernel
theorem dX6_isAct_13 : decode cX6_isAct 13 = .ok (.ifCond .eq 11, 3) := by decide +kernel
theorem dX6_isAct_16 : decode cX6_isAct 16 = .ok (.iload_n 0, 1) := by decide +kernel
theorem dX6_isAct_17 : decode cX6_isAct 17 = .ok (.iload_n 1, 1) := by decide +kernel
theorem dX6_isAct_18 : decode cX6_isAct 18 = .ok (.invokestatic 221, 3) := by decide +kernel
theorem dX6_isAct_21 : decode cX6_isAct 21 = .ok (.ifCond .eq 39, 3) := by decide +kernel
theorem dX6_isAct_24 : decode cX6_isAct 24 = .ok (.iload_n 0, 1) := by decide +kernel
theorem dX6_isAct_25 : decode cX6_isAct 25 = .ok (.invokestatic 225, 3) := by decide +kernel
theorem dX6_isAct_28 : decode cX6_isAct 28 = .ok (.ifCond .eq 11, 3) := by decide +kernel
theorem dX6_isAct_31 : decode cX6_isAct 31 = .ok (.iload_n 0, 1) := by decide +kernel
theorem dX6_isAct_32 : decode cX6_isAct 32 = .ok (.iload_n 2, 1) := by decide +kernel
theorem dX6_isAct_33 : decode cX6_isAct 33 = .ok (.invokestatic 228, 3) := by decide +kernel
theorem dX6_isAct_36 : decode cX6_isAct 36 = .ok (.ifCond .eq 24, 3) := by decide +kernel
theorem dX6_isAct_39 : decode cX6_isAct 39 = .ok (.iload_n 0, 1) := by decide +kernel
theorem dX6_isAct_40 : decode cX6_isAct 40 = .ok (.invokestatic 231, 3) := by decide +kernel
theorem dX6_isAct_43 : decode cX6_isAct 43 = .ok (.ifCond .eq 13, 3) := by decide +kernel
theorem dX6_isAct_46 : decode cX6_isAct 46 = .ok (.iload_n 3, 1) := by decide +kernel
theorem dX6_isAct_47 : decode cX6_isAct 47 = .ok (.ifCond .lt 13, 3) := by decide +kernel
theorem dX6_isAct_50 : decode cX6_isAct 50 = .ok (.iload_n 3, 1) := by decide +kernel
theorem dX6_isAct_51 : decode cX6_isAct 51 = .ok (.bipush 60, 2) := by decide +kernel
theorem dX6_isAct_53 : decode cX6_isAct 53 = .ok (.if_icmp .gt 7, 3) := by decide +kernel
theorem dX6_isAct_56 : decode cX6_isAct 56 = .ok (.iconst 1, 1) := by decide +kernel
theorem dX6_isAct_57 : decode cX6_isAct 57 = .ok (.goto 4, 3) := by decide +kernel
theorem dX6_isAct_60 : decode cX6_isAct 60 = .ok (.iconst 0, 1) := by decide +kernel
theorem dX6_isAct_61 : decode cX6_isAct 61 = .ok (.ireturn, 1) := by decide +kernel
theorem dX6_usesA_0 : decode cX6_usesA 0 = .ok (.iload_n 0, 1) := by decide +kernel
theorem dX6_usesA_1 : decode cX6_usesA 1 = .ok (.iconst 2, 1) := by decide +kernel
theorem dX6_usesA_2 : decode cX6_usesA 2 = .ok (.if_icmp .eq 12, 3) := by decide +kernel
theorem dX6_usesA_5 : decode cX6_usesA 5 = .ok (.iload_n 0, 1) := by decide +kernel
theorem dX6_usesA_6 : decode cX6_usesA 6 = .ok (.iconst 4, 1) := by decide +kernel
theorem dX6_usesA_7 : decode cX6_usesA 7 = .ok (.if_icmp .eq 7, 3) := by decide +kernel
theorem dX6_usesA_10 : decode cX6_usesA 10 = .ok (.iconst 1, 1) := by decide +kernel
theorem dX6_usesA_11 : decode cX6_usesA 11 = .ok (.goto 4, 3) := by decide +kernel
theorem dX6_usesA_14 : decode cX6_usesA 14 = .ok (.iconst 0, 1) := by decide +kernel
theorem dX6_usesA_15 : decode cX6_usesA 15 = .ok (.ireturn, 1) := by decide +kernel
theorem dX6_usesB_0 : decode cX6_usesB 0 = .ok (.iload_n 0, 1) := by decide +kernel
theorem dX6_usesB_1 : decode cX6_usesB 1 = .ok (.iconst 1, 1) := by decide +kernel
theorem dX6_usesB_2 : decode cX6_usesB 2 = .ok (.if_icmp .eq 8, 3) := by decide +kernel
theorem dX6_usesB_5 : decode cX6_usesB 5 = .ok (.iload_n 0, 1) := by decide +kernel
theorem dX6_usesB_6 : decode cX6_usesB 6 = .ok (.iconst 3, 1) := by decide +kernel
theorem dX6_usesB_7 : decode cX6_usesB 7 = .ok (.if_icmp .ne 7, 3) := by decide +kernel
theorem dX6_usesB_10 : decode cX6_usesB 10 = .ok (.iconst 1, 1) := by decide +kernel
theorem dX6_usesB_11 : decode cX6_usesB 11 = .ok (.goto 4, 3) := by decide +kernel
theorem dX6_usesB_14 : decode cX6_usesB 14 = .ok (.iconst 0, 1) := by decide +kernel
theorem dX6_usesB_15 : decode cX6_usesB 15 = .ok (.ireturn, 1) := by decide +kernel
theorem dX6_mayHaveA_0 : decode cX6_mayHaveA 0 = .ok (.iload_n 0, 1) := by decide +kernel
theorem dX6_mayHaveA_1 : decode cX6_mayHaveA 1 = .ok (.tableswitch 72 0 5 #[39, 41, 72, 41, 72, 56], 39) := by decide +kernel
theorem dX6_mayHaveA_40 : decode cX6_mayHaveA 40 = .ok (.iconst 1, 1) := by decide +kernel
theorem dX6_mayHaveA_41 : decode cX6_mayHaveA 41 = .ok (.ireturn, 1) := by decide +kernel
theorem dX6_mayHaveA_42 : decode cX6_mayHaveA 42 = .ok (.iload_n 1, 1) := by decide +kernel
theorem dX6_mayHaveA_43 : decode cX6_mayHaveA 43 = .ok (.ifCond .lt 12, 3) := by decide +kernel
theorem dX6_mayHaveA_46 : decode cX6_mayHaveA 46 = .ok (.iload_n 1, 1) := by decide +kernel
theorem dX6_mayHaveA_47 : decode cX6_mayHaveA 47 = .ok (.iconst 4, 1) := by decide +kernel
theorem dX6_mayHaveA_48 : decode cX6_mayHaveA 48 = .ok (.if_icmp .ge 7, 3) := by decide +kernel
theorem dX6_mayHaveA_51 : decode cX6_mayHaveA 51 = .ok (.iconst 1, 1) := by decide +kernel
theorem dX6_mayHaveA_52 : decode cX6_mayHaveA 52 = .ok (.goto 4, 3) := by decide +kernel
theorem dX6_mayHaveA_55 : decode cX6_mayHaveA 55 = .ok (.iconst 0, 1) := by decide +kernel
theorem dX6_mayHaveA_56 : decode cX6_mayHaveA 56 = .ok (.ireturn, 1) := by decide +kernel
theorem dX6_mayHaveA_57 : decode cX6_mayHaveA 57 = .ok (.iload_n 1, 1) := by decide +kernel
theorem dX6_mayHaveA_58 : decode cX6_mayHaveA 58 = .ok (.ifCond .lt 13, 3) := by decide +kernel
theorem dX6_mayHaveA_61 : decode cX6_mayHaveA 61 = .ok (.iload_n 1, 1) := by decide +kernel
theorem dX6_mayHaveA_62 : decode cX6_mayHaveA 62 = .ok (.bipush 12, 2) := by decide +kernel
theorem dX6_mayHaveA_64 : decode cX6_mayHaveA 64 = .ok (.if_icmp .ge 7, 3) := by decide +kernel
theorem dX6_mayHaveA_67 : decode cX6_mayHaveA 67 = .ok (.iconst 1, 1) := by decide +kernel
theorem dX6_mayHaveA_68 : decode cX6_mayHaveA 68 = .ok (.goto 4, 3) := by decide +kernel
theorem dX6_mayHaveA_71 : decode cX6_mayHaveA 71 = .ok (.iconst 0, 1) := by decide +kernel
theorem dX6_mayHaveA_72 : decode cX6_mayHaveA 72 = .ok (.ireturn, 1) := by decide +kernel
theorem dX6_mayHaveA_73 : decode cX6_mayHaveA 73 = .ok (.iload_n 1, 1) := by decide +kernel
theorem dX6_mayHaveA_74 : decode cX6_mayHaveA 74 = .ok (.ifCond .ne 7, 3) := by decide +kernel
theorem dX6_mayHaveA_77 : decode cX6_mayHaveA 77 = .ok (.iconst 1, 1) := by decide +kernel
theorem dX6_mayHaveA_78 : decode cX6_mayHaveA 78 = .ok (.goto 4, 3) := by decide +kernel
theorem dX6_mayHaveA_81 : decode cX6_mayHaveA 81 = .ok (.iconst 0, 1) := by decide +kernel
theorem dX6_mayHaveA_82 : decode cX6_mayHaveA 82 = .ok (.ireturn, 1) := by decide +kernel
theorem dX6_mayHaveB_0 : decode cX6_mayHaveB 0 = .ok (.iload_n 0, 1) := by decide +kernel
theorem dX6_mayHaveB_1 : decode cX6_mayHaveB 1 = .ok (.lookupswitch 45 #[(1, 27), (3, 29)], 27) := by decide +kernel
theorem dX6_mayHaveB_28 : decode cX6_mayHaveB 28 = .ok (.iconst 1, 1) := by decide +kernel
theorem dX6_mayHaveB_29 : decode cX6_mayHaveB 29 = .ok (.ireturn, 1) := by decide +kernel
theorem dX6_mayHaveB_30 : decode cX6_mayHaveB 30 = .ok (.iload_n 1, 1) := by decide +kernel
theorem dX6_mayHaveB_31 : decode cX6_mayHaveB 31 = .ok (.ifCond .lt 13, 3) := by decide +kernel
theorem dX6_mayHaveB_34 : decode cX6_mayHaveB 34 = .ok (.iload_n 1, 1) := by decide +kernel
theorem dX6_mayHaveB_35 : decode cX6_mayHaveB 35 = .ok (.bipush 6, 2) := by decide +kernel
theorem dX6_mayHaveB_37 : decode cX6_mayHaveB 37 = .ok (.if_icmp .ge 7, 3) := by decide +kernel
theorem dX6_mayHaveB_40 : decode cX6_mayHaveB 40 = .ok (.iconst 1, 1) := by decide +kernel
theorem dX6_mayHaveB_41 : decode cX6_mayHaveB 41 = .ok (.goto 4, 3) := by decide +kernel
theorem dX6_mayHaveB_44 : decode cX6_mayHaveB 44 = .ok (.iconst 0, 1) := by decide +kernel
theorem dX6_mayHaveB_45 : decode cX6_mayHaveB 45 = .ok (.ireturn, 1) := by decide +kernel
theorem dX6_mayHaveB_46 : decode cX6_mayHaveB 46 = .ok (.iload_n 1, 1) := by decide +kernel
theorem dX6_mayHaveB_47 : decode cX6_mayHaveB 47 = .ok (.ifCond .ne 7, 3) := by decide +kernel
theorem dX6_mayHaveB_50 : decode cX6_mayHaveB 50 = .ok (.iconst 1, 1) := by decide +kernel
theorem dX6_mayHaveB_51 : decode cX6_mayHaveB 51 = .ok (.goto 4, 3) := by decide +kernel
theorem dX6_mayHaveB_54 : decode cX6_mayHaveB 54 = .ok (.iconst 0, 1) := by decide +kernel
theorem dX6_mayHaveB_55 : decode cX6_mayHaveB 55 = .ok (.ireturn, 1) := by decide +kernel
theorem dX7_init_0 : decode cX7_init 0 = .ok (.aload_n 0, 1) := by decide +kernel
theorem dX7_init_1 : decode cX7_init 1 = .ok (.invokespecial 1, 3) := by decide +kernel
theorem dX7_init_4 : decode cX7_init 4 = .ok (.aload_n 0, 1) := by decide +kernel
theorem dX7_init_5 : decode cX7_init 5 = .ok (.bipush 12, 2) := by decide +kernel
theorem dX7_init_7 : decode cX7_init 7 = .ok (.newarray .int, 2) := by decide +kernel
theorem dX7_init_9 : decode cX7_init 9 = .ok (.putfield 7, 3) := by decide +kernel
theorem dX7_init_12 : decode cX7_init 12 = .ok (.aload_n 0, 1) := by decide +kernel
theorem dX7_init_13 : decode cX7_init 13 = .ok (.sipush 720, 3) := by decide +kernel
theorem dX7_init_16 : decode cX7_init 16 = .ok (.newarray .int, 2) := by decide +kernel
theorem dX7_init_18 : decode cX7_init 18 = .ok (.putfield 13, 3) := by decide +kernel
theorem dX7_init_21 : decode cX7_init 21 = .ok (.aload_n 0, 1) := by decide +kernel
theorem dX7_init_22 : decode cX7_init 22 = .ok (.sipush 720, 3) := by decide +kernel
theorem dX7_init_25 : decode cX7_init 25 = .ok (.newarray .int, 2) := by decide +kernel
theorem dX7_init_27 : decode cX7_init 27 = .ok (.putfield 16, 3) := by decide +kernel
theorem dX7_init_30 : decode cX7_init 30 = .ok (.aload_n 0, 1) := by decide +kernel
theorem dX7_init_31 : decode cX7_init 31 = .ok (.sipush 720, 3) := by decide +kernel
theorem dX7_init_34 : decode cX7_init 34 = .ok (.newarray .int, 2) := by decide +kernel
theorem dX7_init_36 : decode cX7_init 36 = .ok (.putfield 19, 3) := by decide +kernel
theorem dX7_init_39 : decode cX7_init 39 = .ok (.aload_n 0, 1) := by decide +kernel
theorem dX7_init_40 : decode cX7_init 40 = .ok (.sipush 720, 3) := by decide +kernel
theorem dX7_init_43 : decode cX7_init 43 = .ok (.newarray .int, 2) := by decide +kernel
theorem dX7_init_45 : decode cX7_init 45 = .ok (.putfield 22, 3) := by decide +kernel
theorem dX7_init_48 : decode cX7_init 48 = .ok (.aload_n 0, 1) := by decide +kernel
theorem dX7_init_49 : decode cX7_init 49 = .ok (.iconst 4, 1) := by decide +kernel
theorem dX7_init_50 : decode cX7_init 50 = .ok (.newarray .int, 2) := by decide +kernel
theorem dX7_init_52 : decode cX7_init 52 = .ok (.putfield 25, 3) := by decide +kernel
theorem dX7_init_55 : decode cX7_init 55 = .ok (.aload_n 0, 1) := by decide +kernel
theorem dX7_init_56 : decode cX7_init 56 = .ok (.sipush 300, 3) := by decide +kernel
theorem dX7_init_59 : decode cX7_init 59 = .ok (.newarray .int, 2) := by decide +kernel
theorem dX7_init_61 : decode cX7_init 61 = .ok (.putfield 28, 3) := by decide +kernel
theorem dX7_init_64 : decode cX7_init 64 = .ok (.aload_n 0, 1) := by decide +kernel
theorem dX7_init_65 : decode cX7_init 65 = .ok (.iconst (-1), 1) := by decide +kernel
theorem dX7_init_66 : decode cX7_init 66 = .ok (.putfield 31, 3) := by decide +kernel
theorem dX7_init_69 : decode cX7_init 69 = .ok (.aload_n 0, 1) := by decide +kernel
theorem dX7_init_70 : decode cX7_init 70 = .ok (.sipush 200, 3) := by decide +kernel
theorem dX7_init_73 : decode cX7_init 73 = .ok (.newarray .int, 2) := by decide +kernel
theorem dX7_init_75 : decode cX7_init 75 = .ok (.putfield 35, 3) := by decide +kernel
theorem dX7_init_78 : decode cX7_init 78 = .ok (.aload_n 0, 1) := by decide +kernel
theorem dX7_init_79 : decode cX7_init 79 = .ok (.iconst 4, 1) := by decide +kernel
theorem dX7_init_80 : decode cX7_init 80 = .ok (.newarray .int, 2) := by decide +kernel
theorem dX7_init_82 : decode cX7_init 82 = .ok (.putfield 38, 3) := by decide +kernel
theorem dX7_init_85 : decode cX7_init 85 = .ok (.aload_n 0, 1) := by decide +kernel
theorem dX7_init_86 : decode cX7_init 86 = .ok (.sipush 200, 3) := by decide +kernel
theorem dX7_init_89 : decode cX7_init 89 = .ok (.newarray .int, 2) := by decide +kernel
theorem dX7_init_91 : decode cX7_init 91 = .ok (.putfield 41, 3) := by decide +kernel
theorem dX7_init_94 : decode cX7_init 94 = .ok (.aload_n 0, 1) := by decide +kernel
theorem dX7_init_95 : decode cX7_init 95 = .ok (.sipush 200, 3) := by decide +kernel
theorem dX7_init_98 : decode cX7_init 98 = .ok (.newarray .int, 2) := by decide +kernel
theorem dX7_init_100 : decode cX7_init 100 = .ok (.putfield 44, 3) := by decide +kernel
theorem dX7_init_103 : decode cX7_init 103 = .ok (.aload_n 0, 1) := by decide +kernel
theorem dX7_init_104 : decode cX7_init 104 = .ok (.sipush 200, 3) := by decide +kernel
theorem dX7_init_107 : decode cX7_init 107 = .ok (.newarray .int, 2) := by decide +kernel
theorem dX7_init_109 : decode cX7_init 109 = .ok (.putfield 47, 3) := by decide +kernel
theorem dX7_init_112 : decode cX7_init 112 = .ok (.aload_n 0, 1) := by decide +kernel
theorem dX7_init_113 : decode cX7_init 113 = .ok (.sipush 200, 3) := by decide +kernel
theorem dX7_init_116 : decode cX7_init 116 = .ok (.newarray .int, 2) := by decide +kernel
theorem dX7_init_118 : decode cX7_init 118 = .ok (.putfield 50, 3) := by decide +kernel
theorem dX7_init_121 : decode cX7_init 121 = .ok (.aload_n 0, 1) := by decide +kernel
theorem dX7_init_122 : decode cX7_init 122 = .ok (.sipush 200, 3) := by decide +kernel
theorem dX7_init_125 : decode cX7_init 125 = .ok (.newarray .int, 2) := by decide +kernel
theorem dX7_init_127 : decode cX7_init 127 = .ok (.putfield 53, 3) := by decide +kernel
theorem dX7_init_130 : decode cX7_init 130 = .ok (.aload_n 0, 1) := by decide +kernel
theorem dX7_init_131 : decode cX7_init 131 = .ok (.sipush 200, 3) := by decide +kernel
theorem dX7_init_134 : decode cX7_init 134 = .ok (.newarray .int, 2) := by decide +kernel
theorem dX7_init_136 : decode cX7_init 136 = .ok (.putfield 56, 3) := by decide +kernel
theorem dX7_init_139 : decode cX7_init 139 = .ok (.aload_n 0, 1) := by decide +kernel
theorem dX7_init_140 : decode cX7_init 140 = .ok (.sipush 200, 3) := by decide +kernel
theorem dX7_init_143 : decode cX7_init 143 = .ok (.newarray .int, 2) := by decide +kernel
theorem dX7_init_145 : decode cX7_init 145 = .ok (.putfield 59, 3) := by decide +kernel
theorem dX7_init_148 : decode cX7_init 148 = .ok (.aload_n 0, 1) := by decide +kernel
theorem dX7_init_149 : decode cX7_init 149 = .ok (.sipush 200, 3) := by decide +kernel
theorem dX7_init_152 : decode cX7_init 152 = .ok (.newarray .int, 2) := by decide +kernel
theorem dX7_init_154 : decode cX7_init 154 = .ok (.putfield 62, 3) := by decide +kernel
theorem dX7_init_157 : decode cX7_init 157 = .ok (.aload_n 0, 1) := by decide +kernel
theorem dX7_init_158 : decode cX7_init 158 = .ok (.sipush 200, 3) := by decide +kernel
theorem dX7_init_161 : decode cX7_init 161 = .ok (.newarray .int, 2) := by decide +kernel
theorem dX7_init_163 : decode cX7_init 163 = .ok (.putfield 65, 3) := by decide +kernel
theorem dX7_init_166 : decode cX7_init 166 = .ok (.aload_n 0, 1) := by decide +kernel
theorem dX7_init_167 : decode cX7_init 167 = .ok (.sipush 200, 3) := by decide +kernel
theorem dX7_init_170 : decode cX7_init 170 = .ok (.newarray .int, 2) := by decide +kernel
theorem dX7_init_172 : decode cX7_init 172 = .ok (.putfield 68, 3) := by decide +kernel
theorem dX7_init_175 : decode cX7_init 175 = .ok (.aload_n 0, 1) := by decide +kernel
theorem dX7_init_176 : decode cX7_init 176 = .ok (.sipush 200, 3) := by decide +kernel
theorem dX7_init_179 : decode cX7_init 179 = .ok (.newarray .int, 2) := by decide +kernel
theorem dX7_init_181 : decode cX7_init 181 = .ok (.putfield 71, 3) := by decide +kernel
theorem dX7_init_184 : decode cX7_init 184 = .ok (.aload_n 0, 1) := by decide +kernel
theorem dX7_init_185 : decode cX7_init 185 = .ok (.sipush 200, 3) := by decide +kernel
theorem dX7_init_188 : decode cX7_init 188 = .ok (.newarray .int, 2) := by decide +kernel
theorem dX7_init_190 : decode cX7_init 190 = .ok (.putfield 74, 3) := by decide +kernel
theorem dX7_init_193 : decode cX7_init 193 = .ok (.aload_n 0, 1) := by decide +kernel
theorem dX7_init_194 : decode cX7_init 194 = .ok (.sipush 200, 3) := by decide +kernel
theorem dX7_init_197 : decode cX7_init 197 = .ok (.newarray .int, 2) := by decide +kernel
theorem dX7_init_199 : decode cX7_init 199 = .ok (.putfield 77, 3) := by decide +kernel
theorem dX7_init_202 : decode cX7_init 202 = .ok (.aload_n 0, 1) := by decide +kernel
theorem dX7_init_203 : decode cX7_init 203 = .ok (.sipush 200, 3) := by decide +kernel
theorem dX7_init_206 : decode cX7_init 206 = .ok (.newarray .int, 2) := by decide +kernel
theorem dX7_init_208 : decode cX7_init 208 = .ok (.putfield 80, 3) := by decide +kernel
theorem dX7_init_211 : decode cX7_init 211 = .ok (.aload_n 0, 1) := by decide +kernel
theorem dX7_init_212 : decode cX7_init 212 = .ok (.sipush 1000, 3) := by decide +kernel
theorem dX7_init_215 : decode cX7_init 215 = .ok (.newarray .int, 2) := by decide +kernel
theorem dX7_init_217 : decode cX7_init 217 = .ok (.putfield 83, 3) := by decide +kernel
theorem dX7_init_220 : decode cX7_init 220 = .ok (.aload_n 0, 1) := by decide +kernel
theorem dX7_init_221 : decode cX7_init 221 = .ok (.bipush 61, 2) := by decide +kernel
theorem dX7_init_223 : decode cX7_init 223 = .ok (.newarray .boolean, 2) := by decide +kernel
theorem dX7_init_225 : decode cX7_init 225 = .ok (.putfield 86, 3) := by decide +kernel
theorem dX7_init_228 : decode cX7_init 228 = .ok (.aload_n 0, 1) := by decide +kernel
theorem dX7_init_229 : decode cX7_init 229 = .ok (.sipush 200, 3) := by decide +kernel
theorem dX7_init_232 : decode cX7_init 232 = .ok (.newarray .int, 2) := by decide +kernel
theorem dX7_init_234 : decode cX7_init 234 = .ok (.putfield 90, 3) := by decide +kernel
theorem dX7_init_237 : decode cX7_init 237 = .ok (.aload_n 0, 1) := by decide +kernel
theorem dX7_init_238 : decode cX7_init 238 = .ok (.sipush 400, 3) := by decide +kernel
theorem dX7_init_241 : decode cX7_init 241 = .ok (.newarray .int, 2) := by decide +kernel
theorem dX7_init_243 : decode cX7_init 243 = .ok (.putfield 93, 3) := by decide +kernel
theorem dX7_init_246 : decode cX7_init 246 = .ok (.aload_n 0, 1) := by decide +kernel
theorem dX7_init_247 : decode cX7_init 247 = .ok (.sipush 400, 3) := by decide +kernel
theorem dX7_init_250 : decode cX7_init 250 = .ok (.newarray .int, 2) := by decide +kernel
theorem dX7_init_252 : decode cX7_init 252 = .ok (.putfield 96, 3) := by decide +kernel
theorem dX7_init_255 : decode cX7_init 255 = .ok (.aload_n 0, 1) := by decide +kernel
theorem dX7_init_256 : decode cX7_init 256 = .ok (.sipush 400, 3) := by decide +kernel
theorem dX7_init_259 : decode cX7_init 259 = .ok (.newarray .int, 2) := by decide +kernel
theorem dX7_init_261 : decode cX7_init 261 = .ok (.putfield 99, 3) := by decide +kernel
theorem dX7_init_264 : decode cX7_init 264 = .ok (.aload_n 0, 1) := by decide +kernel
theorem dX7_init_265 : decode cX7_init 265 = .ok (.sipush 400, 3) := by decide +kernel
theorem dX7_init_268 : decode cX7_init 268 = .ok (.newarray .int, 2) := by decide +kernel
theorem dX7_init_270 : decode cX7_init 270 = .ok (.putfield 102, 3) := by decide +kernel
theorem dX7_init_273 : decode cX7_init 273 = .ok (.aload_n 0, 1) := by decide +kernel
theorem dX7_init_274 : decode cX7_init 274 = .ok (.sipush 400, 3) := by decide +kernel
theorem dX7_init_277 : decode cX7_init 277 = .ok (.newarray .int, 2) := by decide +kernel
theorem dX7_init_279 : decode cX7_init 279 = .ok (.putfield 105, 3) := by decide +kernel
theorem dX7_init_282 : decode cX7_init 282 = .ok (.aload_n 0, 1) := by decide +kernel
theorem dX7_init_283 : decode cX7_init 283 = .ok (.sipush 400, 3) := by decide +kernel
theorem dX7_init_286 : decode cX7_init 286 = .ok (.newarray .int, 2) := by decide +kernel
theorem dX7_init_288 : decode cX7_init 288 = .ok (.putfield 108, 3) := by decide +kernel
theorem dX7_init_291 : decode cX7_init 291 = .ok (.aload_n 0, 1) := by decide +kernel
theorem dX7_init_292 : decode cX7_init 292 = .ok (.bipush 64, 2) := by decide +kernel
theorem dX7_init_294 : decode cX7_init 294 = .ok (.newarray .int, 2) := by decide +kernel
theorem dX7_init_296 : decode cX7_init 296 = .ok (.putfield 111, 3) := by decide +kernel
theorem dX7_init_299 : decode cX7_init 299 = .ok (.aload_n 0, 1) := by decide +kernel
theorem dX7_init_300 : decode cX7_init 300 = .ok (.bipush 64, 2) := by decide +kernel
theorem dX7_init_302 : decode cX7_init 302 = .ok (.newarray .int, 2) := by decide +kernel
theorem dX7_init_304 : decode cX7_init 304 = .ok (.putfield 114, 3) := by decide +kernel
theorem dX7_init_307 : decode cX7_init 307 = .ok (.aload_n 0, 1) := by decide +kernel
theorem dX7_init_308 : decode cX7_init 308 = .ok (.bipush 64, 2) := by decide +kernel
theorem dX7_init_310 : decode cX7_init 310 = .ok (.newarray .int, 2) := by decide +kernel
theorem dX7_init_312 : decode cX7_init 312 = .ok (.putfield 117, 3) := by decide +kernel
theorem dX7_init_315 : decode cX7_init 315 = .ok (.aload_n 0, 1) := by decide +kernel
theorem dX7_init_316 : decode cX7_init 316 = .ok (.bipush 64, 2) := by decide +kernel
theorem dX7_init_318 : decode cX7_init 318 = .ok (.newarray .int, 2) := by decide +kernel
theorem dX7_init_320 : decode cX7_init 320 = .ok (.putfield 120, 3) := by decide +kernel
theorem dX7_init_323 : decode cX7_init 323 = .ok (.aload_n 0, 1) := by decide +kernel
theorem dX7_init_324 : decode cX7_init 324 = .ok (.bipush 64, 2) := by decide +kernel
theorem dX7_init_326 : decode cX7_init 326 = .ok (.newarray .int, 2) := by decide +kernel
theorem dX7_init_328 : decode cX7_init 328 = .ok (.putfield 123, 3) := by decide +kernel
theorem dX7_init_331 : decode cX7_init 331 = .ok (.aload_n 0, 1) := by decide +kernel
theorem dX7_init_332 : decode cX7_init 332 = .ok (.bipush 64, 2) := by decide +kernel
theorem dX7_init_334 : decode cX7_init 334 = .ok (.newarray .int, 2) := by decide +kernel
theorem dX7_init_336 : decode cX7_init 336 = .ok (.putfield 126, 3) := by decide +kernel
theorem dX7_init_339 : decode cX7_init 339 = .ok (.aload_n 0, 1) := by decide +kernel
theorem dX7_init_340 : decode cX7_init 340 = .ok (.bipush 8, 2) := by decide +kernel
theorem dX7_init_342 : decode cX7_init 342 = .ok (.newarray .int, 2) := by decide +kernel
theorem dX7_init_344 : decode cX7_init 344 = .ok (.putfield 129, 3) := by decide +kernel
theorem dX7_init_347 : decode cX7_init 347 = .ok (.aload_n 0, 1) := by decide +kernel
theorem dX7_init_348 : decode cX7_init 348 = .ok (.bipush 8, 2) := by decide +kernel
theorem dX7_init_350 : decode cX7_init 350 = .ok (.newarray .int, 2) := by decide +kernel
theorem dX7_init_352 : decode cX7_init 352 = .ok (.putfield 132, 3) := by decide +kernel
theorem dX7_init_355 : decode cX7_init 355 = .ok (.aload_n 0, 1) := by decide +kernel
theorem dX7_init_356 : decode cX7_init 356 = .ok (.iconst 0, 1) := by decide +kernel
theorem dX7_init_357 : decode cX7_init 357 = .ok (.putfield 135, 3) := by decide +kernel
theorem dX7_init_360 : decode cX7_init 360 = .ok (.return_, 1) := by decide +kernel
theorem dX7_in_0 : decode cX7_in 0 = .ok (.iload_n 0, 1) := by decide +kernel
theorem dX7_in_1 : decode cX7_in 1 = .ok (.iload_n 1, 1) := by decide +kernel
theorem dX7_in_2 : decode cX7_in 2 = .ok (.if_icmp .lt 12, 3) := by decide +kernel
theorem dX7_in_5 : decode cX7_in 5 = .ok (.iload_n 0, 1) := by decide +kernel
theorem dX7_in_6 : decode cX7_in 6 = .ok (.iload_n 2, 1) := by decide +kernel
theorem dX7_in_7 : decode cX7_in 7 = .ok (.if_icmp .gt 7, 3) := by decide +kernel
theorem dX7_in_10 : decode cX7_in 10 = .ok (.iconst 1, 1) := by decide +kernel
theorem dX7_in_11 : decode cX7_in 11 = .ok (.goto 4, 3) := by decide +kernel
theorem dX7_in_14 : decode cX7_in 14 = .ok (.iconst 0, 1) := by decide +kernel
theorem dX7_in_15 : decode cX7_in 15 = .ok (.ireturn, 1) := by decide +kernel
theorem dX7_isRoutine_0 : decode cX7_isRoutine 0 = .ok (.iload_n 1, 1) := by decide +kernel
theorem dX7_isRoutine_1 : decode cX7_isRoutine 1 = .ok (.iconst 0, 1) := by decide +kernel
theorem dX7_isRoutine_2 : decode cX7_isRoutine 2 = .ok (.aload_n 0, 1) := by decide +kernel
theorem dX7_isRoutine_3 : decode cX7_isRoutine 3 = .ok (.getfield 135, 3) := by decide +kernel
theorem dX7_isRoutine_6 : decode cX7_isRoutine 6 = .ok (.iconst 1, 1) := by decide +kernel
theorem dX7_isRoutine_7 : decode cX7_isRoutine 7 = .ok (.isub, 1) := by decide +kernel
theorem dX7_isRoutine_8 : decode cX7_isRoutine 8 = .ok (.invokestatic 138, 3) := by decide +kernel
theorem dX7_isRoutine_11 : decode cX7_isRoutine 11 = .ok (.ireturn, 1) := by decide +kernel
theorem dX7_routine_0 : decode cX7_routine 0 = .ok (.aload_n 0, 1) := by decide +kernel
theorem dX7_routine_1 : decode cX7_routine 1 = .ok (.getfield 135, 3) := by decide +kernel
theorem dX7_routine_4 : decode cX7_routine 4 = .ok (.bipush 12, 2) := by decide +kernel
theorem dX7_routine_6 : decode cX7_routine 6 = .ok (.if_icmp .ne 6, 3) := by decide +kernel
theorem dX7_routine_9 : decode cX7_routine 9 = .ok (.bipush (-4), 2) := by decide +kernel
theorem dX7_routine_11 : decode cX7_routine 11 = .ok (.ireturn, 1) := by decide +kernel
theorem dX7_routine_12 : decode cX7_routine 12 = .ok (.aload_n 0, 1) := by decide +kernel
theorem dX7_routine_13 : decode cX7_routine 13 = .ok (.getfield 7, 3) := by decide +kernel
theorem dX7_routine_16 : decode cX7_routine 16 = .ok (.aload_n 0, 1) := by decide +kernel
theorem dX7_routine_17 : decode cX7_routine 17 = .ok (.getfield 135, 3) := by decide +kernel
theorem dX7_routine_20 : decode cX7_routine 20 = .ok (.iconst 0, 1) := by decide +kernel
theorem dX7_routine_21 : decode cX7_routine 21 = .ok (.iastore, 1) := by decide +kernel
theorem dX7_routine_22 : decode cX7_routine 22 = .ok (.aload_n 0, 1) := by decide +kernel
theorem dX7_routine_23 : decode cX7_routine 23 = .ok (.dup, 1) := by decide +kernel
theorem dX7_routine_24 : decode cX7_routine 24 = .ok (.getfield 135, 3) := by decide +kernel
theorem dX7_routine_27 : decode cX7_routine 27 = .ok (.iconst 1, 1) := by decide +kernel
theorem dX7_routine_28 : decode cX7_routine 28 = .ok (.iadd, 1) := by decide +kernel
theorem dX7_routine_29 : decode cX7_routine 29 = .ok (.putfield 135, 3) := by decide +kernel
theorem dX7_routine_32 : decode cX7_routine 32 = .ok (.aload_n 0, 1) := by decide +kernel
theorem dX7_routine_33 : decode cX7_routine 33 = .ok (.getfield 135, 3) := by decide +kernel
theorem dX7_routine_36 : decode cX7_routine 36 = .ok (.iconst 1, 1) := by decide +kernel
theorem dX7_routine_37 : decode cX7_routine 37 = .ok (.isub, 1) := by decide +kernel
theorem dX7_routine_38 : decode cX7_routine 38 = .ok (.ireturn, 1) := by decide +kernel
theorem dX7_isAct_0 : decode cX7_isAct 0 = .ok (.iload_n 0, 1) := by decide +kernel
theorem dX7_isAct_1 : decode cX7_isAct 1 = .ok (.tableswitch 86 0 4 #[35, 37, 44, 52, 35], 35) := by decide +kernel
theorem dX7_isAct_36 : decode cX7_isAct 36 = .ok (.iconst 1, 1) := by decide +kernel
theorem dX7_isAct_37 : decode cX7_isAct 37 = .ok (.ireturn, 1) := by decide +kernel
theorem dX7_isAct_38 : decode cX7_isAct 38 = .ok (.iload_n 1, 1) := by decide +kernel
theorem dX7_isAct_39 : decode cX7_isAct 39 = .ok (.iconst 0, 1) := by decide +kernel
theorem dX7_isAct_40 : decode cX7_isAct 40 = .ok (.iconst 3, 1) := by decide +kernel
theorem dX7_isAct_41 : decode cX7_isAct 41 = .ok (.invokestatic 138, 3) := by decide +kernel
theorem dX7_isAct_44 : decode cX7_isAct 44 = .ok (.ireturn, 1) := by decide +kernel
theorem dX7_isAct_45 : decode cX7_isAct 45 = .ok (.iload_n 3, 1) := by decide +kernel
theorem dX7_isAct_46 : decode cX7_isAct 46 = .ok (.iconst 0, 1) := by decide +kernel
theorem dX7_isAct_47 : decode cX7_isAct 47 = .ok (.bipush 60, 2) := by decide +kernel
theorem dX7_isAct_49 : decode cX7_isAct 49 = .ok (.invokestatic 138, 3) := by decide +kernel
theorem dX7_isAct_52 : decode cX7_isAct 52 = .ok (.ireturn, 1) := by decide +kernel
theorem dX7_isAct_53 : decode cX7_isAct 53 = .ok (.iload_n 1, 1) := by decide +kernel
theorem dX7_isAct_54 : decode cX7_isAct 54 = .ok (.iconst 0, 1) := by decide +kernel
theorem dX7_isAct_55 : decode cX7_isAct 55 = .ok (.iconst 3, 1) := by decide +kernel
theorem dX7_isAct_56 : decode cX7_isAct 56 = .ok (.invokestatic 138, 3) := by decide +kernel
theorem dX7_isAct_59 : decode cX7_isAct 59 = .ok (.ifCond .eq 26, 3) := by decide +kernel
theorem dX7_isAct_62 : decode cX7_isAct 62 = .ok (.iload_n 2, 1) := by decide +kernel
theorem dX7_isAct_63 : decode cX7_isAct 63 = .ok (.iconst 0, 1) := by decide +kernel
theorem dX7_isAct_64 : decode cX7_isAct 64 = .ok (.iconst 5, 1) := by decide +kernel
theorem dX7_isAct_65 : decode cX7_isAct 65 = .ok (.invokestatic 138, 3) := by decide +kernel
theorem dX7_isAct_68 : decode cX7_isAct 68 = .ok (.ifCond .eq 17, 3) := by decide +kernel
theorem dX7_isAct_71 : decode cX7_isAct 71 = .ok (.iload_n 3, 1) := by decide +kernel
theorem dX7_isAct_72 : decode cX7_isAct 72 = .ok (.iconst 0, 1) := by decide +kernel
theorem dX7_isAct_73 : decode cX7_isAct 73 = .ok (.bipush 60, 2) := by decide +kernel
theorem dX7_isAct_75 : decode cX7_isAct 75 = .ok (.invokestatic 138, 3) := by decide +kernel
theorem dX7_isAct_78 : decode cX7_isAct 78 = .ok (.ifCond .eq 7, 3) := by decide +kernel
theorem dX7_isAct_81 : decode cX7_isAct 81 = .ok (.iconst 1, 1) := by decide +kernel
theorem dX7_isAct_82 : decode cX7_isAct 82 = .ok (.goto 4, 3) := by decide +kernel
theorem dX7_isAct_85 : decode cX7_isAct 85 = .ok (.iconst 0, 1) := by decide +kernel
theorem dX7_isAct_86 : decode cX7_isAct 86 = .ok (.ireturn, 1) := by decide +kernel
theorem dX7_isAct_87 : decode cX7_isAct 87 = .ok (.iload_n 0, 1) := by decide +kernel
theorem dX7_isAct_88 : decode cX7_isAct 88 = .ok (.iconst 5, 1) := by decide +kernel
theorem dX7_isAct_89 : decode cX7_isAct 89 = .ok (.if_icmp .ne 17, 3) := by decide +kernel
theorem dX7_isAct_92 : decode cX7_isAct 92 = .ok (.iload_n 1, 1) := by decide +kernel
theorem dX7_isAct_93 : decode cX7_isAct 93 = .ok (.iconst 0, 1) := by decide +kernel
theorem dX7_isAct_94 : decode cX7_isAct 94 = .ok (.bipush 11, 2) := by decide +kernel
theorem dX7_isAct_96 : decode cX7_isAct 96 = .ok (.invokestatic 138, 3) := by decide +kernel
theorem dX7_isAct_99 : decode cX7_isAct 99 = .ok (.ifCond .eq 7, 3) := by decide +kernel
theorem dX7_isAct_102 : decode cX7_isAct 102 = .ok (.iconst 1, 1) := by decide +kernel
theorem dX7_isAct_103 : decode cX7_isAct 103 = .ok (.goto 4, 3) := by decide +kernel
theorem dX7_isAct_106 : decode cX7_isAct 106 = .ok (.iconst 0, 1) := by decide +kernel
theorem dX7_isAct_107 : decode cX7_isAct 107 = .ok (.ireturn, 1) := by decide +kernel
theorem dX7_put_0 : decode cX7_put 0 = .ok (.bipush 60, 2) := by decide +kernel
theorem dX7_put_2 : decode cX7_put 2 = .ok (.iload_n 1, 1) := by decide +kernel
theorem dX7_put_3 : decode cX7_put 3 = .ok (.imul, 1) := by decide +kernel
theorem dX7_put_4 : decode cX7_put 4 = .ok (.iload_n 2, 1) := by decide +kernel
theorem dX7_put_5 : decode cX7_put 5 = .ok (.iadd, 1) := by decide +kernel
theorem dX7_put_6 : decode cX7_put 6 = .ok (.istore 7, 2) := by decide +kernel
theorem dX7_put_8 : decode cX7_put 8 = .ok (.aload_n 0, 1) := by decide +kernel
theorem dX7_put_9 : decode cX7_put 9 = .ok (.getfield 13, 3) := by decide +kernel
theorem dX7_put_12 : decode cX7_put 12 = .ok (.iload 7, 2) := by decide +kernel
theorem dX7_put_14 : decode cX7_put 14 = .ok (.iload_n 3, 1) := by decide +kernel
theorem dX7_put_15 : decode cX7_put 15 = .ok (.iastore, 1) := by decide +kernel
theorem dX7_put_16 : decode cX7_put 16 = .ok (.aload_n 0, 1) := by decide +kernel
theorem dX7_put_17 : decode cX7_put 17 = .ok (.getfield 16, 3) := by decide +kernel
theorem dX7_put_20 : decode cX7_put 20 = .ok (.iload 7, 2) := by decide +kernel
theorem dX7_put_22 : decode cX7_put 22 = .ok (.iload_n 3, 1) := by decide +kernel
theorem dX7_put_23 : decode cX7_put 23 = .ok (.iconst 2, 1) := by decide +kernel
theorem dX7_put_24 : decode cX7_put 24 = .ok (.if_icmp .eq 8, 3) := by decide +kernel
theorem dX7_put_27 : decode cX7_put 27 = .ok (.iload_n 3, 1) := by decide +kernel
theorem dX7_put_28 : decode cX7_put 28 = .ok (.iconst 4, 1) := by decide +kernel
theorem dX7_put_29 : decode cX7_put 29 = .ok (.if_icmp .ne 7, 3) := by decide +kernel
theorem dX7_put_32 : decode cX7_put 32 = .ok (.iconst 0, 1) := by decide +kernel
theorem dX7_put_33 : decode cX7_put 33 = .ok (.goto 5, 3) := by decide +kernel
theorem dX7_put_36 : decode cX7_put 36 = .ok (.iload 4, 2) := by decide +kernel
theorem dX7_put_38 : decode cX7_put 38 = .ok (.iastore, 1) := by decide +kernel
theorem dX7_put_39 : decode cX7_put 39 = .ok (.aload_n 0, 1) := by decide +kernel
theorem dX7_put_40 : decode cX7_put 40 = .ok (.getfield 19, 3) := by decide +kernel
theorem dX7_put_43 : decode cX7_put 43 = .ok (.iload 7, 2) := by decide +kernel
theorem dX7_put_45 : decode cX7_put 45 = .ok (.iload_n 3, 1) := by decide +kernel
theorem dX7_put_46 : decode cX7_put 46 = .ok (.iconst 1, 1) := by decide +kernel
theorem dX7_put_47 : decode cX7_put 47 = .ok (.if_icmp .eq 8, 3) := by decide +kernel
theorem dX7_put_50 : decode cX7_put 50 = .ok (.iload_n 3, 1) := by decide +kernel
theorem dX7_put_51 : decode cX7_put 51 = .ok (.iconst 3, 1) := by decide +kernel
theorem dX7_put_52 : decode cX7_put 52 = .ok (.if_icmp .ne 8, 3) := by decide +kernel
theorem dX7_put_55 : decode cX7_put 55 = .ok (.iload 5, 2) := by decide +kernel
theorem dX7_put_57 : decode cX7_put 57 = .ok (.goto 4, 3) := by decide +kernel
theorem dX7_put_60 : decode cX7_put 60 = .ok (.iconst 0, 1) := by decide +kernel
theorem dX7_put_61 : decode cX7_put 61 = .ok (.iastore, 1) := by decide +kernel
theorem dX7_put_62 : decode cX7_put 62 = .ok (.aload_n 0, 1) := by decide +kernel
theorem dX7_put_63 : decode cX7_put 63 = .ok (.getfield 22, 3) := by decide +kernel
theorem dX7_put_66 : decode cX7_put 66 = .ok (.iload 7, 2) := by decide +kernel
theorem dX7_put_68 : decode cX7_put 68 = .ok (.iload_n 3, 1) := by decide +kernel
theorem dX7_put_69 : decode cX7_put 69 = .ok (.iconst 2, 1) := by decide +kernel
theorem dX7_put_70 : decode cX7_put 70 = .ok (.if_icmp .eq 8, 3) := by decide +kernel
theorem dX7_put_73 : decode cX7_put 73 = .ok (.iload_n 3, 1) := by decide +kernel
theorem dX7_put_74 : decode cX7_put 74 = .ok (.iconst 3, 1) := by decide +kernel
theorem dX7_put_75 : decode cX7_put 75 = .ok (.if_icmp .ne 8, 3) := by decide +kernel
theorem dX7_put_78 : decode cX7_put 78 = .ok (.iload 6, 2) := by decide +kernel
theorem dX7_put_80 : decode cX7_put 80 = .ok (.goto 4, 3) := by decide +kernel
theorem dX7_put_83 : decode cX7_put 83 = .ok (.iconst 0, 1) := by decide +kernel
theorem dX7_put_84 : decode cX7_put 84 = .ok (.iastore, 1) := by decide +kernel
theorem dX7_put_85 : decode cX7_put 85 = .ok (.return_, 1) := by decide +kernel
theorem dX7_act_0 : decode cX7_act 0 = .ok (.aload_n 0, 1) := by decide +kernel
theorem dX7_act_1 : decode cX7_act 1 = .ok (.iload_n 1, 1) := by decide +kernel
theorem dX7_act_2 : decode cX7_act 2 = .ok (.invokevirtual 142, 3) := by decide +kernel
theorem dX7_act_5 : decode cX7_act 5 = .ok (.ifCond .eq 15, 3) := by decide +kernel
theorem dX7_act_8 : decode cX7_act 8 = .ok (.iload_n 2, 1) := by decide +kernel
theorem dX7_act_9 : decode cX7_act 9 = .ok (.iload_n 3, 1) := by decide +kernel
theorem dX7_act_10 : decode cX7_act 10 = .ok (.iload 4, 2) := by decide +kernel
theorem dX7_act_12 : decode cX7_act 12 = .ok (.iload 5, 2) := by decide +kernel
theorem dX7_act_14 : decode cX7_act 14 = .ok (.invokestatic 146, 3) := by decide +kernel
theorem dX7_act_17 : decode cX7_act 17 = .ok (.ifCond .ne 6, 3) := by decide +kernel
theorem dX7_act_20 : decode cX7_act 20 = .ok (.bipush (-2), 2) := by decide +kernel
theorem dX7_act_22 : decode cX7_act 22 = .ok (.ireturn, 1) := by decide +kernel
theorem dX7_act_23 : decode cX7_act 23 = .ok (.aload_n 0, 1) := by decide +kernel
theorem dX7_act_24 : decode cX7_act 24 = .ok (.getfield 7, 3) := by decide +kernel
theorem dX7_act_27 : decode cX7_act 27 = .ok (.iload_n 1, 1) := by decide +kernel
theorem dX7_act_28 : decode cX7_act 28 = .ok (.iaload, 1) := by decide +kernel
theorem dX7_act_29 : decode cX7_act 29 = .ok (.bipush 60, 2) := by decide +kernel
theorem dX7_act_31 : decode cX7_act 31 = .ok (.if_icmp .ne 6, 3) := by decide +kernel
theorem dX7_act_34 : decode cX7_act 34 = .ok (.bipush (-4), 2) := by decide +kernel
theorem dX7_act_36 : decode cX7_act 36 = .ok (.ireturn, 1) := by decide +kernel
theorem dX7_act_37 : decode cX7_act 37 = .ok (.aload_n 0, 1) := by decide +kernel
theorem dX7_act_38 : decode cX7_act 38 = .ok (.iload_n 1, 1) := by decide +kernel
theorem dX7_act_39 : decode cX7_act 39 = .ok (.aload_n 0, 1) := by decide +kernel
theorem dX7_act_40 : decode cX7_act 40 = .ok (.getfield 7, 3) := by decide +kernel
theorem dX7_act_43 : decode cX7_act 43 = .ok (.iload_n 1, 1) := by decide +kernel
theorem dX7_act_44 : decode cX7_act 44 = .ok (.iaload, 1) := by decide +kernel
theorem dX7_act_45 : decode cX7_act 45 = .ok (.iload_n 2, 1) := by decide +kernel
theorem dX7_act_46 : decode cX7_act 46 = .ok (.iload_n 3, 1) := by decide +kernel
theorem dX7_act_47 : decode cX7_act 47 = .ok (.iload 4, 2) := by decide +kernel
theorem dX7_act_49 : decode cX7_act 49 = .ok (.iload 5, 2) := by decide +kernel
theorem dX7_act_51 : decode cX7_act 51 = .ok (.invokevirtual 150, 3) := by decide +kernel
theorem dX7_act_54 : decode cX7_act 54 = .ok (.aload_n 0, 1) := by decide +kernel
theorem dX7_act_55 : decode cX7_act 55 = .ok (.getfield 7, 3) := by decide +kernel
theorem dX7_act_58 : decode cX7_act 58 = .ok (.iload_n 1, 1) := by decide +kernel
theorem dX7_act_59 : decode cX7_act 59 = .ok (.dup2, 1) := by decide +kernel
theorem dX7_act_60 : decode cX7_act 60 = .ok (.iaload, 1) := by decide +kernel
theorem dX7_act_61 : decode cX7_act 61 = .ok (.iconst 1, 1) := by decide +kernel
theorem dX7_act_62 : decode cX7_act 62 = .ok (.iadd, 1) := by decide +kernel
theorem dX7_act_63 : decode cX7_act 63 = .ok (.iastore, 1) := by decide +kernel
theorem dX7_act_64 : decode cX7_act 64 = .ok (.aload_n 0, 1) := by decide +kernel
theorem dX7_act_65 : decode cX7_act 65 = .ok (.getfield 7, 3) := by decide +kernel
theorem dX7_act_68 : decode cX7_act 68 = .ok (.iload_n 1, 1) := by decide +kernel
theorem dX7_act_69 : decode cX7_act 69 = .ok (.iaload, 1) := by decide +kernel
theorem dX7_act_70 : decode cX7_act 70 = .ok (.iconst 1, 1) := by decide +kernel
theorem dX7_act_71 : decode cX7_act 71 = .ok (.isub, 1) := by decide +kernel
theorem dX7_act_72 : decode cX7_act 72 = .ok (.ireturn, 1) := by decide +kernel
theorem dX7_alter_0 : decode cX7_alter 0 = .ok (.aload_n 0, 1) := by decide +kernel
theorem dX7_alter_1 : decode cX7_alter 1 = .ok (.iload_n 1, 1) := by decide +kernel
theorem dX7_alter_2 : decode cX7_alter 2 = .ok (.invokevirtual 142, 3) := by decide +kernel
theorem dX7_alter_5 : decode cX7_alter 5 = .ok (.ifCond .eq 32, 3) := by decide +kernel
theorem dX7_alter_8 : decode cX7_alter 8 = .ok (.iload_n 2, 1) := by decide +kernel
theorem dX7_alter_9 : decode cX7_alter 9 = .ok (.iconst 0, 1) := by decide +kernel
theorem dX7_alter_10 : decode cX7_alter 10 = .ok (.aload_n 0, 1) := by decide +kernel
theorem dX7_alter_11 : decode cX7_alter 11 = .ok (.getfield 7, 3) := by decide +kernel
theorem dX7_alter_14 : decode cX7_alter 14 = .ok (.iload_n 1, 1) := by decide +kernel
theorem dX7_alter_15 : decode cX7_alter 15 = .ok (.iaload, 1) := by decide +kernel
theorem dX7_alter_16 : decode cX7_alter 16 = .ok (.iconst 1, 1) := by decide +kernel
theorem dX7_alter_17 : decode cX7_alter 17 = .ok (.isub, 1) := by decide +kernel
theorem dX7_alter_18 : decode cX7_alter 18 = .ok (.invokestatic 138, 3) := by decide +kernel
theorem dX7_alter_21 : decode cX7_alter 21 = .ok (.ifCond .eq 16, 3) := by decide +kernel
theorem dX7_alter_24 : decode cX7_alter 24 = .ok (.iload_n 3, 1) := by decide +kernel
theorem dX7_alter_25 : decode cX7_alter 25 = .ok (.iload 4, 2) := by decide +kernel
theorem dX7_alter_27 : decode cX7_alter 27 = .ok (.iload 5, 2) := by decide +kernel
theorem dX7_alter_29 : decode cX7_alter 29 = .ok (.iload 6, 2) := by decide +kernel
theorem dX7_alter_31 : decode cX7_alter 31 = .ok (.invokestatic 146, 3) := by decide +kernel
theorem dX7_alter_34 : decode cX7_alter 34 = .ok (.ifCond .ne 6, 3) := by decide +kernel
theorem dX7_alter_37 : decode cX7_alter 37 = .ok (.bipush (-2), 2) := by decide +kernel
theorem dX7_alter_39 : decode cX7_alter 39 = .ok (.ireturn, 1) := by decide +kernel
theorem dX7_alter_40 : decode cX7_alter 40 = .ok (.aload_n 0, 1) := by decide +kernel
theorem dX7_alter_41 : decode cX7_alter 41 = .ok (.iload_n 1, 1) := by decide +kernel
theorem dX7_alter_42 : decode cX7_alter 42 = .ok (.iload_n 2, 1) := by decide +kernel
theorem dX7_alter_43 : decode cX7_alter 43 = .ok (.iload_n 3, 1) := by decide +kernel
theorem dX7_alter_44 : decode cX7_alter 44 = .ok (.iload 4, 2) := by decide +kernel
theorem dX7_alter_46 : decode cX7_alter 46 = .ok (.iload 5, 2) := by decide +kernel
theorem dX7_alter_48 : decode cX7_alter 48 = .ok (.iload 6, 2) := by decide +kernel
theorem dX7_alter_50 : decode cX7_alter 50 = .ok (.invokevirtual 150, 3) := by decide +kernel
theorem dX7_alter_53 : decode cX7_alter 53 = .ok (.iload_n 2, 1) := by decide +kernel
theorem dX7_alter_54 : decode cX7_alter 54 = .ok (.ireturn, 1) := by decide +kernel
theorem dX7_leads_0 : decode cX7_leads 0 = .ok (.aload_n 0, 1) := by decide +kernel
theorem dX7_leads_1 : decode cX7_leads 1 = .ok (.getfield 13, 3) := by decide +kernel
theorem dX7_leads_4 : decode cX7_leads 4 = .ok (.iload_n 1, 1) := by decide +kernel
theorem dX7_leads_5 : decode cX7_leads 5 = .ok (.iaload, 1) := by decide +kernel
theorem dX7_leads_6 : decode cX7_leads 6 = .ok (.iconst 2, 1) := by decide +kernel
theorem dX7_leads_7 : decode cX7_leads 7 = .ok (.if_icmp .eq 13, 3) := by decide +kernel
theorem dX7_leads_10 : decode cX7_leads 10 = .ok (.aload_n 0, 1) := by decide +kernel
theorem dX7_leads_11 : decode cX7_leads 11 = .ok (.getfield 13, 3) := by decide +kernel
theorem dX7_leads_14 : decode cX7_leads 14 = .ok (.iload_n 1, 1) := by decide +kernel
theorem dX7_leads_15 : decode cX7_leads 15 = .ok (.iaload, 1) := by decide +kernel
theorem dX7_leads_16 : decode cX7_leads 16 = .ok (.iconst 3, 1) := by decide +kernel
theorem dX7_leads_17 : decode cX7_leads 17 = .ok (.if_icmp .ne 7, 3) := by decide +kernel
theorem dX7_leads_20 : decode cX7_leads 20 = .ok (.iconst 1, 1) := by decide +kernel
theorem dX7_leads_21 : decode cX7_leads 21 = .ok (.goto 4, 3) := by decide +kernel
theorem dX7_leads_24 : decode cX7_leads 24 = .ok (.iconst 0, 1) := by decide +kernel
theorem dX7_leads_25 : decode cX7_leads 25 = .ok (.ireturn, 1) := by decide +kernel
theorem dX7_isWhole_0 : decode cX7_isWhole 0 = .ok (.iconst 1, 1) := by decide +kernel
theorem dX7_isWhole_1 : decode cX7_isWhole 1 = .ok (.istore_n 2, 1) := by decide +kernel
theorem dX7_isWhole_2 : decode cX7_isWhole 2 = .ok (.bipush 60, 2) := by decide +kernel
theorem dX7_isWhole_4 : decode cX7_isWhole 4 = .ok (.iload_n 1, 1) := by decide +kernel
theorem dX7_isWhole_5 : decode cX7_isWhole 5 = .ok (.imul, 1) := by decide +kernel
theorem dX7_isWhole_6 : decode cX7_isWhole 6 = .ok (.istore_n 3, 1) := by decide +kernel
theorem dX7_isWhole_7 : decode cX7_isWhole 7 = .ok (.iload_n 3, 1) := by decide +kernel
theorem dX7_isWhole_8 : decode cX7_isWhole 8 = .ok (.bipush 60, 2) := by decide +kernel
theorem dX7_isWhole_10 : decode cX7_isWhole 10 = .ok (.iload_n 1, 1) := by decide +kernel
theorem dX7_isWhole_11 : decode cX7_isWhole 11 = .ok (.imul, 1) := by decide +kernel
theorem dX7_isWhole_12 : decode cX7_isWhole 12 = .ok (.aload_n 0, 1) := by decide +kernel
theorem dX7_isWhole_13 : decode cX7_isWhole 13 = .ok (.getfield 7, 3) := by decide +kernel
theorem dX7_isWhole_16 : decode cX7_isWhole 16 = .ok (.iload_n 1, 1) := by decide +kernel
theorem dX7_isWhole_17 : decode cX7_isWhole 17 = .ok (.iaload, 1) := by decide +kernel
theorem dX7_isWhole_18 : decode cX7_isWhole 18 = .ok (.iadd, 1) := by decide +kernel
theorem dX7_isWhole_19 : decode cX7_isWhole 19 = .ok (.if_icmp .ge 42, 3) := by decide +kernel
theorem dX7_isWhole_22 : decode cX7_isWhole 22 = .ok (.iload_n 2, 1) := by decide +kernel
theorem dX7_isWhole_23 : decode cX7_isWhole 23 = .ok (.ifCond .eq 30, 3) := by decide +kernel
theorem dX7_isWhole_26 : decode cX7_isWhole 26 = .ok (.aload_n 0, 1) := by decide +kernel
theorem dX7_isWhole_27 : decode cX7_isWhole 27 = .ok (.iload_n 3, 1) := by decide +kernel
theorem dX7_isWhole_28 : decode cX7_isWhole 28 = .ok (.invokevirtual 154, 3) := by decide +kernel
theorem dX7_isWhole_31 : decode cX7_isWhole 31 = .ok (.ifCond .eq 18, 3) := by decide +kernel
theorem dX7_isWhole_34 : decode cX7_isWhole 34 = .ok (.aload_n 0, 1) := by decide +kernel
theorem dX7_isWhole_35 : decode cX7_isWhole 35 = .ok (.getfield 22, 3) := by decide +kernel
theorem dX7_isWhole_38 : decode cX7_isWhole 38 = .ok (.iload_n 3, 1) := by decide +kernel
theorem dX7_isWhole_39 : decode cX7_isWhole 39 = .ok (.iaload, 1) := by decide +kernel
theorem dX7_isWhole_40 : decode cX7_isWhole 40 = .ok (.aload_n 0, 1) := by decide +kernel
theorem dX7_isWhole_41 : decode cX7_isWhole 41 = .ok (.getfield 7, 3) := by decide +kernel
theorem dX7_isWhole_44 : decode cX7_isWhole 44 = .ok (.iload_n 1, 1) := by decide +kernel
theorem dX7_isWhole_45 : decode cX7_isWhole 45 = .ok (.iaload, 1) := by decide +kernel
theorem dX7_isWhole_46 : decode cX7_isWhole 46 = .ok (.if_icmp .gt 7, 3) := by decide +kernel
theorem dX7_isWhole_49 : decode cX7_isWhole 49 = .ok (.iconst 1, 1) := by decide +kernel
theorem dX7_isWhole_50 : decode cX7_isWhole 50 = .ok (.goto 4, 3) := by decide +kernel
theorem dX7_isWhole_53 : decode cX7_isWhole 53 = .ok (.iconst 0, 1) := by decide +kernel
theorem dX7_isWhole_54 : decode cX7_isWhole 54 = .ok (.istore_n 2, 1) := by decide +kernel
theorem dX7_isWhole_55 : decode cX7_isWhole 55 = .ok (.iinc 3 1, 3) := by decide +kernel
theorem dX7_isWhole_58 : decode cX7_isWhole 58 = .ok (.goto (-51), 3) := by decide +kernel
theorem dX7_isWhole_61 : decode cX7_isWhole 61 = .ok (.iload_n 2, 1) := by decide +kernel
theorem dX7_isWhole_62 : decode cX7_isWhole 62 = .ok (.ireturn, 1) := by decide +kernel
theorem dX7_range_0 : decode cX7_range 0 = .ok (.aload_n 0, 1) := by decide +kernel
theorem dX7_range_1 : decode cX7_range 1 = .ok (.getfield 65, 3) := by decide +kernel
theorem dX7_range_4 : decode cX7_range 4 = .ok (.aload_n 0, 1) := by decide +kernel
theorem dX7_range_5 : decode cX7_range 5 = .ok (.getfield 157, 3) := by decide +kernel
theorem dX7_range_8 : decode cX7_range 8 = .ok (.iload_n 1, 1) := by decide +kernel
theorem dX7_range_9 : decode cX7_range 9 = .ok (.iastore, 1) := by decide +kernel
theorem dX7_range_10 : decode cX7_range 10 = .ok (.aload_n 0, 1) := by decide +kernel
theorem dX7_range_11 : decode cX7_range 11 = .ok (.getfield 68, 3) := by decide +kernel
theorem dX7_range_14 : decode cX7_range 14 = .ok (.aload_n 0, 1) := by decide +kernel
theorem dX7_range_15 : decode cX7_range 15 = .ok (.getfield 157, 3) := by decide +kernel
theorem dX7_range_18 : decode cX7_range 18 = .ok (.iload_n 2, 1) := by decide +kernel
theorem dX7_range_19 : decode cX7_range 19 = .ok (.iastore, 1) := by decide +kernel
theorem dX7_range_20 : decode cX7_range 20 = .ok (.aload_n 0, 1) := by decide +kernel
theorem dX7_range_21 : decode cX7_range 21 = .ok (.getfield 71, 3) := by decide +kernel
theorem dX7_range_24 : decode cX7_range 24 = .ok (.aload_n 0, 1) := by decide +kernel
theorem dX7_range_25 : decode cX7_range 25 = .ok (.getfield 157, 3) := by decide +kernel
theorem dX7_range_28 : decode cX7_range 28 = .ok (.iload_n 3, 1) := by decide +kernel
theorem dX7_range_29 : decode cX7_range 29 = .ok (.iastore, 1) := by decide +kernel
theorem dX7_range_30 : decode cX7_range 30 = .ok (.aload_n 0, 1) := by decide +kernel
theorem dX7_range_31 : decode cX7_range 31 = .ok (.getfield 74, 3) := by decide +kernel
theorem dX7_range_34 : decode cX7_range 34 = .ok (.aload_n 0, 1) := by decide +kernel
theorem dX7_range_35 : decode cX7_range 35 = .ok (.getfield 157, 3) := by decide +kernel
theorem dX7_range_38 : decode cX7_range 38 = .ok (.iload 4, 2) := by decide +kernel
theorem dX7_range_40 : decode cX7_range 40 = .ok (.iastore, 1) := by decide +kernel
theorem dX7_range_41 : decode cX7_range 41 = .ok (.aload_n 0, 1) := by decide +kernel
theorem dX7_range_42 : decode cX7_range 42 = .ok (.getfield 77, 3) := by decide +kernel
theorem dX7_range_45 : decode cX7_range 45 = .ok (.aload_n 0, 1) := by decide +kernel
theorem dX7_range_46 : decode cX7_range 46 = .ok (.getfield 157, 3) := by decide +kernel
theorem dX7_range_49 : decode cX7_range 49 = .ok (.iload 5, 2) := by decide +kernel
theorem dX7_range_51 : decode cX7_range 51 = .ok (.iastore, 1) := by decide +kernel
theorem dX7_range_52 : decode cX7_range 52 = .ok (.aload_n 0, 1) := by decide +kernel
theorem dX7_range_53 : decode cX7_range 53 = .ok (.getfield 80, 3) := by decide +kernel
theorem dX7_range_56 : decode cX7_range 56 = .ok (.aload_n 0, 1) := by decide +kernel
theorem dX7_range_57 : decode cX7_range 57 = .ok (.getfield 157, 3) := by decide +kernel
theorem dX7_range_60 : decode cX7_range 60 = .ok (.iload 6, 2) := by decide +kernel
theorem dX7_range_62 : decode cX7_range 62 = .ok (.iastore, 1) := by decide +kernel
theorem dX7_range_63 : decode cX7_range 63 = .ok (.aload_n 0, 1) := by decide +kernel
theorem dX7_range_64 : decode cX7_range 64 = .ok (.dup, 1) := by decide +kernel
theorem dX7_range_65 : decode cX7_range 65 = .ok (.getfield 157, 3) := by decide +kernel
theorem dX7_range_68 : decode cX7_range 68 = .ok (.iconst 1, 1) := by decide +kernel
theorem dX7_range_69 : decode cX7_range 69 = .ok (.iadd, 1) := by decide +kernel
theorem dX7_range_70 : decode cX7_range 70 = .ok (.putfield 157, 3) := by decide +kernel
theorem dX7_range_73 : decode cX7_range 73 = .ok (.return_, 1) := by decide +kernel
theorem dX7_state_0 : decode cX7_state 0 = .ok (.aload_n 0, 1) := by decide +kernel
theorem dX7_state_1 : decode cX7_state 1 = .ok (.getfield 160, 3) := by decide +kernel
theorem dX7_state_4 : decode cX7_state 4 = .ok (.istore 7, 2) := by decide +kernel
theorem dX7_state_6 : decode cX7_state 6 = .ok (.aload_n 0, 1) := by decide +kernel
theorem dX7_state_7 : decode cX7_state 7 = .ok (.getfield 41, 3) := by decide +kernel
theorem dX7_state_10 : decode cX7_state 10 = .ok (.iload 7, 2) := by decide +kernel
theorem dX7_state_12 : decode cX7_state 12 = .ok (.iload_n 1, 1) := by decide +kernel
theorem dX7_state_13 : decode cX7_state 13 = .ok (.iastore, 1) := by decide +kernel
theorem dX7_state_14 : decode cX7_state 14 = .ok (.aload_n 0, 1) := by decide +kernel
theorem dX7_state_15 : decode cX7_state 15 = .ok (.getfield 44, 3) := by decide +kernel
theorem dX7_state_18 : decode cX7_state 18 = .ok (.iload 7, 2) := by decide +kernel
theorem dX7_state_20 : decode cX7_state 20 = .ok (.iload_n 2, 1) := by decide +kernel
theorem dX7_state_21 : decode cX7_state 21 = .ok (.iastore, 1) := by decide +kernel
theorem dX7_state_22 : decode cX7_state 22 = .ok (.aload_n 0, 1) := by decide +kernel
theorem dX7_state_23 : decode cX7_state 23 = .ok (.getfield 47, 3) := by decide +kernel
theorem dX7_state_26 : decode cX7_state 26 = .ok (.iload 7, 2) := by decide +kernel
theorem dX7_state_28 : decode cX7_state 28 = .ok (.iload_n 3, 1) := by decide +kernel
theorem dX7_state_29 : decode cX7_state 29 = .ok (.iastore, 1) := by decide +kernel
theorem dX7_state_30 : decode cX7_state 30 = .ok (.aload_n 0, 1) := by decide +kernel
theorem dX7_state_31 : decode cX7_state 31 = .ok (.getfield 50, 3) := by decide +kernel
theorem dX7_state_34 : decode cX7_state 34 = .ok (.iload 7, 2) := by decide +kernel
theorem dX7_state_36 : decode cX7_state 36 = .ok (.aload_n 0, 1) := by decide +kernel
theorem dX7_state_37 : decode cX7_state 37 = .ok (.getfield 77, 3) := by decide +kernel
theorem dX7_state_40 : decode cX7_state 40 = .ok (.aload_n 0, 1) := by decide +kernel
theorem dX7_state_41 : decode cX7_state 41 = .ok (.getfield 157, 3) := by decide +kernel
theorem dX7_state_44 : decode cX7_state 44 = .ok (.iconst 1, 1) := by decide +kernel
theorem dX7_state_45 : decode cX7_state 45 = .ok (.isub, 1) := by decide +kernel
theorem dX7_state_46 : decode cX7_state 46 = .ok (.iaload, 1) := by decide +kernel
theorem dX7_state_47 : decode cX7_state 47 = .ok (.iastore, 1) := by decide +kernel
theorem dX7_state_48 : decode cX7_state 48 = .ok (.aload_n 0, 1) := by decide +kernel
theorem dX7_state_49 : decode cX7_state 49 = .ok (.getfield 53, 3) := by decide +kernel
theorem dX7_state_52 : decode cX7_state 52 = .ok (.iload 7, 2) := by decide +kernel
theorem dX7_state_54 : decode cX7_state 54 = .ok (.aload_n 0, 1) := by decide +kernel
theorem dX7_state_55 : decode cX7_state 55 = .ok (.getfield 80, 3) := by decide +kernel
theorem dX7_state_58 : decode cX7_state 58 = .ok (.aload_n 0, 1) := by decide +kernel
theorem dX7_state_59 : decode cX7_state 59 = .ok (.getfield 157, 3) := by decide +kernel
theorem dX7_state_62 : decode cX7_state 62 = .ok (.iconst 1, 1) := by decide +kernel
theorem dX7_state_63 : decode cX7_state 63 = .ok (.isub, 1) := by decide +kernel
theorem dX7_state_64 : decode cX7_state 64 = .ok (.iaload, 1) := by decide +kernel
theorem dX7_state_65 : decode cX7_state 65 = .ok (.iastore, 1) := by decide +kernel
theorem dX7_state_66 : decode cX7_state 66 = .ok (.aload_n 0, 1) := by decide +kernel
theorem dX7_state_67 : decode cX7_state 67 = .ok (.getfield 56, 3) := by decide +kernel
theorem dX7_state_70 : decode cX7_state 70 = .ok (.iload 7, 2) := by decide +kernel
theorem dX7_state_72 : decode cX7_state 72 = .ok (.iload 4, 2) := by decide +kernel
theorem dX7_state_74 : decode cX7_state 74 = .ok (.iastore, 1) := by decide +kernel
theorem dX7_state_75 : decode cX7_state 75 = .ok (.aload_n 0, 1) := by decide +kernel
theorem dX7_state_76 : decode cX7_state 76 = .ok (.getfield 59, 3) := by decide +kernel
theorem dX7_state_79 : decode cX7_state 79 = .ok (.iload 7, 2) := by decide +kernel
theorem dX7_state_81 : decode cX7_state 81 = .ok (.iload 5, 2) := by decide +kernel
theorem dX7_state_83 : decode cX7_state 83 = .ok (.iastore, 1) := by decide +kernel
theorem dX7_state_84 : decode cX7_state 84 = .ok (.aload_n 0, 1) := by decide +kernel
theorem dX7_state_85 : decode cX7_state 85 = .ok (.getfield 62, 3) := by decide +kernel
theorem dX7_state_88 : decode cX7_state 88 = .ok (.iload 7, 2) := by decide +kernel
theorem dX7_state_90 : decode cX7_state 90 = .ok (.iload 6, 2) := by decide +kernel
theorem dX7_state_92 : decode cX7_state 92 = .ok (.iastore, 1) := by decide +kernel
theorem dX7_state_93 : decode cX7_state 93 = .ok (.aload_n 0, 1) := by decide +kernel
theorem dX7_state_94 : decode cX7_state 94 = .ok (.dup, 1) := by decide +kernel
theorem dX7_state_95 : decode cX7_state 95 = .ok (.getfield 160, 3) := by decide +kernel
theorem dX7_state_98 : decode cX7_state 98 = .ok (.iconst 1, 1) := by decide +kernel
theorem dX7_state_99 : decode cX7_state 99 = .ok (.iadd, 1) := by decide +kernel
theorem dX7_state_100 : decode cX7_state 100 = .ok (.putfield 160, 3) := by decide +kernel
theorem dX7_state_103 : decode cX7_state 103 = .ok (.iload 7, 2) := by decide +kernel
theorem dX7_state_105 : decode cX7_state 105 = .ok (.ireturn, 1) := by decide +kernel
theorem dX7_isBeingRead_0 : decode cX7_isBeingRead 0 = .ok (.iconst 0, 1) := by decide +kernel
theorem dX7_isBeingRead_1 : decode cX7_isBeingRead 1 = .ok (.istore_n 2, 1) := by decide +kernel
theorem dX7_isBeingRead_2 : decode cX7_isBeingRead 2 = .ok (.aload_n 0, 1) := by decide +kernel
theorem dX7_isBeingRead_3 : decode cX7_isBeingRead 3 = .ok (.getfield 77, 3) := by decide +kernel
theorem dX7_isBeingRead_6 : decode cX7_isBeingRead 6 = .ok (.aload_n 0, 1) := by decide +kernel
theorem dX7_isBeingRead_7 : decode cX7_isBeingRead 7 = .ok (.getfield 157, 3) := by decide +kernel
theorem dX7_isBeingRead_10 : decode cX7_isBeingRead 10 = .ok (.iconst 1, 1) := by decide +kernel
theorem dX7_isBeingRead_11 : decode cX7_isBeingRead 11 = .ok (.isub, 1) := by decide +kernel
theorem dX7_isBeingRead_12 : decode cX7_isBeingRead 12 = .ok (.iaload, 1) := by decide +kernel
theorem dX7_isBeingRead_13 : decode cX7_isBeingRead 13 = .ok (.istore_n 3, 1) := by decide +kernel
theorem dX7_isBeingRead_14 : decode cX7_isBeingRead 14 = .ok (.iload_n 3, 1) := by decide +kernel
theorem dX7_isBeingRead_15 : decode cX7_isBeingRead 15 = .ok (.iconst (-1), 1) := by decide +kernel
theorem dX7_isBeingRead_16 : decode cX7_isBeingRead 16 = .ok (.if_icmp .eq 53, 3) := by decide +kernel
theorem dX7_isBeingRead_19 : decode cX7_isBeingRead 19 = .ok (.iload_n 2, 1) := by decide +kernel
theorem dX7_isBeingRead_20 : decode cX7_isBeingRead 20 = .ok (.ifCond .ne 33, 3) := by decide +kernel
theorem dX7_isBeingRead_23 : decode cX7_isBeingRead 23 = .ok (.aload_n 0, 1) := by decide +kernel
theorem dX7_isBeingRead_24 : decode cX7_isBeingRead 24 = .ok (.getfield 41, 3) := by decide +kernel
theorem dX7_isBeingRead_27 : decode cX7_isBeingRead 27 = .ok (.iload_n 3, 1) := by decide +kernel
theorem dX7_isBeingRead_28 : decode cX7_isBeingRead 28 = .ok (.iaload, 1) := by decide +kernel
theorem dX7_isBeingRead_29 : decode cX7_isBeingRead 29 = .ok (.iconst 3, 1) := by decide +kernel
theorem dX7_isBeingRead_30 : decode cX7_isBeingRead 30 = .ok (.if_icmp .eq 13, 3) := by decide +kernel
theorem dX7_isBeingRead_33 : decode cX7_isBeingRead 33 = .ok (.aload_n 0, 1) := by decide +kernel
theorem dX7_isBeingRead_34 : decode cX7_isBeingRead 34 = .ok (.getfield 41, 3) := by decide +kernel
theorem dX7_isBeingRead_37 : decode cX7_isBeingRead 37 = .ok (.iload_n 3, 1) := by decide +kernel
theorem dX7_isBeingRead_38 : decode cX7_isBeingRead 38 = .ok (.iaload, 1) := by decide +kernel
theorem dX7_isBeingRead_39 : decode cX7_isBeingRead 39 = .ok (.iconst 5, 1) := by decide +kernel
theorem dX7_isBeingRead_40 : decode cX7_isBeingRead 40 = .ok (.if_icmp .ne 17, 3) := by decide +kernel
theorem dX7_isBeingRead_43 : decode cX7_isBeingRead 43 = .ok (.aload_n 0, 1) := by decide +kernel
theorem dX7_isBeingRead_44 : decode cX7_isBeingRead 44 = .ok (.getfield 44, 3) := by decide +kernel
theorem dX7_isBeingRead_47 : decode cX7_isBeingRead 47 = .ok (.iload_n 3, 1) := by decide +kernel
theorem dX7_isBeingRead_48 : decode cX7_isBeingRead 48 = .ok (.iaload, 1) := by decide +kernel
theorem dX7_isBeingRead_49 : decode cX7_isBeingRead 49 = .ok (.iload_n 1, 1) := by decide +kernel
theorem dX7_isBeingRead_50 : decode cX7_isBeingRead 50 = .ok (.if_icmp .ne 7, 3) := by decide +kernel
theorem dX7_isBeingRead_53 : decode cX7_isBeingRead 53 = .ok (.iconst 1, 1) := by decide +kernel
theorem dX7_isBeingRead_54 : decode cX7_isBeingRead 54 = .ok (.goto 4, 3) := by decide +kernel
theorem dX7_isBeingRead_57 : decode cX7_isBeingRead 57 = .ok (.iconst 0, 1) := by decide +kernel
theorem dX7_isBeingRead_58 : decode cX7_isBeingRead 58 = .ok (.istore_n 2, 1) := by decide +kernel
theorem dX7_isBeingRead_59 : decode cX7_isBeingRead 59 = .ok (.aload_n 0, 1) := by decide +kernel
theorem dX7_isBeingRead_60 : decode cX7_isBeingRead 60 = .ok (.getfield 50, 3) := by decide +kernel
theorem dX7_isBeingRead_63 : decode cX7_isBeingRead 63 = .ok (.iload_n 3, 1) := by decide +kernel
theorem dX7_isBeingRead_64 : decode cX7_isBeingRead 64 = .ok (.iaload, 1) := by decide +kernel
theorem dX7_isBeingRead_65 : decode cX7_isBeingRead 65 = .ok (.istore_n 3, 1) := by decide +kernel
theorem dX7_isBeingRead_66 : decode cX7_isBeingRead 66 = .ok (.goto (-52), 3) := by decide +kernel
theorem dX7_isBeingRead_69 : decode cX7_isBeingRead 69 = .ok (.iload_n 2, 1) := by decide +kernel
theorem dX7_isBeingRead_70 : decode cX7_isBeingRead 70 = .ok (.ireturn, 1) := by decide +kernel
theorem dX7_read_0 : decode cX7_read 0 = .ok (.aload_n 0, 1) := by decide +kernel
theorem dX7_read_1 : decode cX7_read 1 = .ok (.iconst 0, 1) := by decide +kernel
theorem dX7_read_2 : decode cX7_read 2 = .ok (.putfield 160, 3) := by decide +kernel
theorem dX7_read_5 : decode cX7_read 5 = .ok (.aload_n 0, 1) := by decide +kernel
theorem dX7_read_6 : decode cX7_read 6 = .ok (.iconst 0, 1) := by decide +kernel
theorem dX7_read_7 : decode cX7_read 7 = .ok (.putfield 157, 3) := by decide +kernel
theorem dX7_read_10 : decode cX7_read 10 = .ok (.aload_n 0, 1) := by decide +kernel
theorem dX7_read_11 : decode cX7_read 11 = .ok (.iconst 0, 1) := by decide +kernel
theorem dX7_read_12 : decode cX7_read 12 = .ok (.aload_n 0, 1) := by decide +kernel
theorem dX7_read_13 : decode cX7_read 13 = .ok (.getfield 7, 3) := by decide +kernel
theorem dX7_read_16 : decode cX7_read 16 = .ok (.iload_n 1, 1) := by decide +kernel
theorem dX7_read_17 : decode cX7_read 17 = .ok (.iaload, 1) := by decide +kernel
theorem dX7_read_18 : decode cX7_read 18 = .ok (.iconst (-1), 1) := by decide +kernel
theorem dX7_read_19 : decode cX7_read 19 = .ok (.iconst (-1), 1) := by decide +kernel
theorem dX7_read_20 : decode cX7_read 20 = .ok (.iconst (-1), 1) := by decide +kernel
theorem dX7_read_21 : decode cX7_read 21 = .ok (.iconst (-1), 1) := by decide +kernel
theorem dX7_read_22 : decode cX7_read 22 = .ok (.invokevirtual 163, 3) := by decide +kernel
theorem dX7_read_25 : decode cX7_read 25 = .ok (.aload_n 0, 1) := by decide +kernel
theorem dX7_read_26 : decode cX7_read 26 = .ok (.getfield 157, 3) := by decide +kernel
theorem dX7_read_29 : decode cX7_read 29 = .ok (.ifCond .le 55, 3) := by decide +kernel
theorem dX7_read_32 : decode cX7_read 32 = .ok (.aload_n 0, 1) := by decide +kernel
theorem dX7_read_33 : decode cX7_read 33 = .ok (.getfield 65, 3) := by decide +kernel
theorem dX7_read_36 : decode cX7_read 36 = .ok (.aload_n 0, 1) := by decide +kernel
theorem dX7_read_37 : decode cX7_read 37 = .ok (.getfield 157, 3) := by decide +kernel
theorem dX7_read_40 : decode cX7_read 40 = .ok (.iconst 1, 1) := by decide +kernel
theorem dX7_read_41 : decode cX7_read 41 = .ok (.isub, 1) := by decide +kernel
theorem dX7_read_42 : decode cX7_read 42 = .ok (.iaload, 1) := by decide +kernel
theorem dX7_read_43 : decode cX7_read 43 = .ok (.istore_n 2, 1) := by decide +kernel
theorem dX7_read_44 : decode cX7_read 44 = .ok (.iload_n 2, 1) := by decide +kernel
theorem dX7_read_45 : decode cX7_read 45 = .ok (.aload_n 0, 1) := by decide +kernel
theorem dX7_read_46 : decode cX7_read 46 = .ok (.getfield 68, 3) := by decide +kernel
theorem dX7_read_49 : decode cX7_read 49 = .ok (.aload_n 0, 1) := by decide +kernel
theorem dX7_read_50 : decode cX7_read 50 = .ok (.getfield 157, 3) := by decide +kernel
theorem dX7_read_53 : decode cX7_read 53 = .ok (.iconst 1, 1) := by decide +kernel
theorem dX7_read_54 : decode cX7_read 54 = .ok (.isub, 1) := by decide +kernel
theorem dX7_read_55 : decode cX7_read 55 = .ok (.iaload, 1) := by decide +kernel
theorem dX7_read_56 : decode cX7_read 56 = .ok (.if_icmp .ge 15, 3) := by decide +kernel
theorem dX7_read_59 : decode cX7_read 59 = .ok (.aload_n 0, 1) := by decide +kernel
theorem dX7_read_60 : decode cX7_read 60 = .ok (.bipush 60, 2) := by decide +kernel
theorem dX7_read_62 : decode cX7_read 62 = .ok (.iload_n 1, 1) := by decide +kernel
theorem dX7_read_63 : decode cX7_read 63 = .ok (.imul, 1) := by decide +kernel
theorem dX7_read_64 : decode cX7_read 64 = .ok (.iload_n 2, 1) := by decide +kernel
theorem dX7_read_65 : decode cX7_read 65 = .ok (.invokevirtual 166, 3) := by decide +kernel
theorem dX7_read_68 : decode cX7_read 68 = .ok (.goto 13, 3) := by decide +kernel
theorem dX7_read_71 : decode cX7_read 71 = .ok (.aload_n 0, 1) := by decide +kernel
theorem dX7_read_72 : decode cX7_read 72 = .ok (.dup, 1) := by decide +kernel
theorem dX7_read_73 : decode cX7_read 73 = .ok (.getfield 157, 3) := by decide +kernel
theorem dX7_read_76 : decode cX7_read 76 = .ok (.iconst 1, 1) := by decide +kernel
theorem dX7_read_77 : decode cX7_read 77 = .ok (.isub, 1) := by decide +kernel
theorem dX7_read_78 : decode cX7_read 78 = .ok (.putfield 157, 3) := by decide +kernel
theorem dX7_read_81 : decode cX7_read 81 = .ok (.goto (-56), 3) := by decide +kernel
theorem dX7_read_84 : decode cX7_read 84 = .ok (.return_, 1) := by decide +kernel
theorem dX7_readAt_0 : decode cX7_readAt 0 = .ok (.aload_n 0, 1) := by decide +kernel
theorem dX7_readAt_1 : decode cX7_readAt 1 = .ok (.getfield 157, 3) := by decide +kernel
theorem dX7_readAt_4 : decode cX7_readAt 4 = .ok (.iconst 1, 1) := by decide +kernel
theorem dX7_readAt_5 : decode cX7_readAt 5 = .ok (.isub, 1) := by decide +kernel
theorem dX7_readAt_6 : decode cX7_readAt 6 = .ok (.istore_n 3, 1) := by decide +kernel
theorem dX7_readAt_7 : decode cX7_readAt 7 = .ok (.aload_n 0, 1) := by decide +kernel
theorem dX7_readAt_8 : decode cX7_readAt 8 = .ok (.getfield 68, 3) := by decide +kernel
theorem dX7_readAt_11 : decode cX7_readAt 11 = .ok (.iload_n 3, 1) := by decide +kernel
theorem dX7_readAt_12 : decode cX7_readAt 12 = .ok (.iaload, 1) := by decide +kernel
theorem dX7_readAt_13 : decode cX7_readAt 13 = .ok (.istore 4, 2) := by decide +kernel
theorem dX7_readAt_15 : decode cX7_readAt 15 = .ok (.iconst (-1), 1) := by decide +kernel
theorem dX7_readAt_16 : decode cX7_readAt 16 = .ok (.istore 5, 2) := by decide +kernel
theorem dX7_readAt_18 : decode cX7_readAt 18 = .ok (.iload_n 2, 1) := by decide +kernel
theorem dX7_readAt_19 : decode cX7_readAt 19 = .ok (.istore 6, 2) := by decide +kernel
theorem dX7_readAt_21 : decode cX7_readAt 21 = .ok (.iload 6, 2) := by decide +kernel
theorem dX7_readAt_23 : decode cX7_readAt 23 = .ok (.iload 4, 2) := by decide +kernel
theorem dX7_readAt_25 : decode cX7_readAt 25 = .ok (.if_icmp .ge 42, 3) := by decide +kernel
theorem dX7_readAt_28 : decode cX7_readAt 28 = .ok (.aload_n 0, 1) := by decide +kernel
theorem dX7_readAt_29 : decode cX7_readAt 29 = .ok (.iload_n 1, 1) := by decide +kernel
theorem dX7_readAt_30 : decode cX7_readAt 30 = .ok (.iload 6, 2) := by decide +kernel
theorem dX7_readAt_32 : decode cX7_readAt 32 = .ok (.iadd, 1) := by decide +kernel
theorem dX7_readAt_33 : decode cX7_readAt 33 = .ok (.invokevirtual 154, 3) := by decide +kernel
theorem dX7_readAt_36 : decode cX7_readAt 36 = .ok (.ifCond .eq 21, 3) := by decide +kernel
theorem dX7_readAt_39 : decode cX7_readAt 39 = .ok (.aload_n 0, 1) := by decide +kernel
theorem dX7_readAt_40 : decode cX7_readAt 40 = .ok (.getfield 22, 3) := by decide +kernel
theorem dX7_readAt_43 : decode cX7_readAt 43 = .ok (.iload_n 1, 1) := by decide +kernel
theorem dX7_readAt_44 : decode cX7_readAt 44 = .ok (.iload 6, 2) := by decide +kernel
theorem dX7_readAt_46 : decode cX7_readAt 46 = .ok (.iadd, 1) := by decide +kernel
theorem dX7_readAt_47 : decode cX7_readAt 47 = .ok (.iaload, 1) := by decide +kernel
theorem dX7_readAt_48 : decode cX7_readAt 48 = .ok (.iload_n 2, 1) := by decide +kernel
theorem dX7_readAt_49 : decode cX7_readAt 49 = .ok (.if_icmp .ne 8, 3) := by decide +kernel
theorem dX7_readAt_52 : decode cX7_readAt 52 = .ok (.iload 6, 2) := by decide +kernel
theorem dX7_readAt_54 : decode cX7_readAt 54 = .ok (.goto 5, 3) := by decide +kernel
theorem dX7_readAt_57 : decode cX7_readAt 57 = .ok (.iload 5, 2) := by decide +kernel
theorem dX7_readAt_59 : decode cX7_readAt 59 = .ok (.istore 5, 2) := by decide +kernel
theorem dX7_readAt_61 : decode cX7_readAt 61 = .ok (.iinc 6 1, 3) := by decide +kernel
theorem dX7_readAt_64 : decode cX7_readAt 64 = .ok (.goto (-43), 3) := by decide +kernel
theorem dX7_readAt_67 : decode cX7_readAt 67 = .ok (.iload 5, 2) := by decide +kernel
theorem dX7_readAt_69 : decode cX7_readAt 69 = .ok (.iconst (-1), 1) := by decide +kernel
theorem dX7_readAt_70 : decode cX7_readAt 70 = .ok (.if_icmp .eq 20, 3) := by decide +kernel
theorem dX7_readAt_73 : decode cX7_readAt 73 = .ok (.aload_n 0, 1) := by decide +kernel
theorem dX7_readAt_74 : decode cX7_readAt 74 = .ok (.iload_n 2, 1) := by decide +kernel
theorem dX7_readAt_75 : decode cX7_readAt 75 = .ok (.invokevirtual 170, 3) := by decide +kernel
theorem dX7_readAt_78 : decode cX7_readAt 78 = .ok (.ifCond .ne 12, 3) := by decide +kernel
theorem dX7_readAt_81 : decode cX7_readAt 81 = .ok (.aload_n 0, 1) := by decide +kernel
theorem dX7_readAt_82 : decode cX7_readAt 82 = .ok (.iload_n 1, 1) := by decide +kernel
theorem dX7_readAt_83 : decode cX7_readAt 83 = .ok (.iload_n 2, 1) := by decide +kernel
theorem dX7_readAt_84 : decode cX7_readAt 84 = .ok (.iload 5, 2) := by decide +kernel
theorem dX7_readAt_86 : decode cX7_readAt 86 = .ok (.invokevirtual 173, 3) := by decide +kernel
theorem dX7_readAt_89 : decode cX7_readAt 89 = .ok (.return_, 1) := by decide +kernel
theorem dX7_readAt_90 : decode cX7_readAt 90 = .ok (.iload_n 1, 1) := by decide +kernel
theorem dX7_readAt_91 : decode cX7_readAt 91 = .ok (.iload_n 2, 1) := by decide +kernel
theorem dX7_readAt_92 : decode cX7_readAt 92 = .ok (.iadd, 1) := by decide +kernel
theorem dX7_readAt_93 : decode cX7_readAt 93 = .ok (.istore 6, 2) := by decide +kernel
theorem dX7_readAt_95 : decode cX7_readAt 95 = .ok (.aload_n 0, 1) := by decide +kernel
theorem dX7_readAt_96 : decode cX7_readAt 96 = .ok (.getfield 16, 3) := by decide +kernel
theorem dX7_readAt_99 : decode cX7_readAt 99 = .ok (.iload 6, 2) := by decide +kernel
theorem dX7_readAt_101 : decode cX7_readAt 101 = .ok (.iaload, 1) := by decide +kernel
theorem dX7_readAt_102 : decode cX7_readAt 102 = .ok (.istore 7, 2) := by decide +kernel
theorem dX7_readAt_104 : decode cX7_readAt 104 = .ok (.aload_n 0, 1) := by decide +kernel
theorem dX7_readAt_105 : decode cX7_readAt 105 = .ok (.getfield 19, 3) := by decide +kernel
theorem dX7_readAt_108 : decode cX7_readAt 108 = .ok (.iload 6, 2) := by decide +kernel
theorem dX7_readAt_110 : decode cX7_readAt 110 = .ok (.iaload, 1) := by decide +kernel
theorem dX7_readAt_111 : decode cX7_readAt 111 = .ok (.istore 8, 2) := by decide +kernel
theorem dX7_readAt_113 : decode cX7_readAt 113 = .ok (.aload_n 0, 1) := by decide +kernel
theorem dX7_readAt_114 : decode cX7_readAt 114 = .ok (.getfield 22, 3) := by decide +kernel
theorem dX7_readAt_117 : decode cX7_readAt 117 = .ok (.iload 6, 2) := by decide +kernel
theorem dX7_readAt_119 : decode cX7_readAt 119 = .ok (.iaload, 1) := by decide +kernel
theorem dX7_readAt_120 : decode cX7_readAt 120 = .ok (.istore 9, 2) := by decide +kernel
theorem dX7_readAt_122 : decode cX7_readAt 122 = .ok (.aload_n 0, 1) := by decide +kernel
theorem dX7_readAt_123 : decode cX7_readAt 123 = .ok (.iload 6, 2) := by decide +kernel
theorem dX7_readAt_125 : decode cX7_readAt 125 = .ok (.invokevirtual 154, 3) := by decide +kernel
theorem dX7_readAt_128 : decode cX7_readAt 128 = .ok (.ifCond .eq 18, 3) := by decide +kernel
theorem dX7_readAt_131 : decode cX7_readAt 131 = .ok (.iload 9, 2) := by decide +kernel
theorem dX7_readAt_133 : decode cX7_readAt 133 = .ok (.aload_n 0, 1) := by decide +kernel
theorem dX7_readAt_134 : decode cX7_readAt 134 = .ok (.getfield 71, 3) := by decide +kernel
theorem dX7_readAt_137 : decode cX7_readAt 137 = .ok (.iload_n 3, 1) := by decide +kernel
theorem dX7_readAt_138 : decode cX7_readAt 138 = .ok (.iaload, 1) := by decide +kernel
theorem dX7_readAt_139 : decode cX7_readAt 139 = .ok (.if_icmp .ne 7, 3) := by decide +kernel
theorem dX7_readAt_142 : decode cX7_readAt 142 = .ok (.iconst 1, 1) := by decide +kernel
theorem dX7_readAt_143 : decode cX7_readAt 143 = .ok (.goto 4, 3) := by decide +kernel
theorem dX7_readAt_146 : decode cX7_readAt 146 = .ok (.iconst 0, 1) := by decide +kernel
theorem dX7_readAt_147 : decode cX7_readAt 147 = .ok (.istore 10, 2) := by decide +kernel
theorem dX7_readAt_149 : decode cX7_readAt 149 = .ok (.aload_n 0, 1) := by decide +kernel
theorem dX7_readAt_150 : decode cX7_readAt 150 = .ok (.iload 6, 2) := by decide +kernel
theorem dX7_readAt_152 : decode cX7_readAt 152 = .ok (.invokevirtual 154, 3) := by decide +kernel
theorem dX7_readAt_155 : decode cX7_readAt 155 = .ok (.ifCond .eq 18, 3) := by decide +kernel
theorem dX7_readAt_158 : decode cX7_readAt 158 = .ok (.iload 9, 2) := by decide +kernel
theorem dX7_readAt_160 : decode cX7_readAt 160 = .ok (.aload_n 0, 1) := by decide +kernel
theorem dX7_readAt_161 : decode cX7_readAt 161 = .ok (.getfield 74, 3) := by decide +kernel
theorem dX7_readAt_164 : decode cX7_readAt 164 = .ok (.iload_n 3, 1) := by decide +kernel
theorem dX7_readAt_165 : decode cX7_readAt 165 = .ok (.iaload, 1) := by decide +kernel
theorem dX7_readAt_166 : decode cX7_readAt 166 = .ok (.if_icmp .ne 7, 3) := by decide +kernel
theorem dX7_readAt_169 : decode cX7_readAt 169 = .ok (.iconst 1, 1) := by decide +kernel
theorem dX7_readAt_170 : decode cX7_readAt 170 = .ok (.goto 4, 3) := by decide +kernel
theorem dX7_readAt_173 : decode cX7_readAt 173 = .ok (.iconst 0, 1) := by decide +kernel
theorem dX7_readAt_174 : decode cX7_readAt 174 = .ok (.istore 11, 2) := by decide +kernel
theorem dX7_readAt_176 : decode cX7_readAt 176 = .ok (.aload_n 0, 1) := by decide +kernel
theorem dX7_readAt_177 : decode cX7_readAt 177 = .ok (.getfield 65, 3) := by decide +kernel
theorem dX7_readAt_180 : decode cX7_readAt 180 = .ok (.iload_n 3, 1) := by decide +kernel
theorem dX7_readAt_181 : decode cX7_readAt 181 = .ok (.iload_n 2, 1) := by decide +kernel
theorem dX7_readAt_182 : decode cX7_readAt 182 = .ok (.iconst 1, 1) := by decide +kernel
theorem dX7_readAt_183 : decode cX7_readAt 183 = .ok (.iadd, 1) := by decide +kernel
theorem dX7_readAt_184 : decode cX7_readAt 184 = .ok (.iastore, 1) := by decide +kernel
theorem dX7_readAt_185 : decode cX7_readAt 185 = .ok (.iconst (-1), 1) := by decide +kernel
theorem dX7_readAt_186 : decode cX7_readAt 186 = .ok (.istore 12, 2) := by decide +kernel
theorem dX7_readAt_188 : decode cX7_readAt 188 = .ok (.aload_n 0, 1) := by decide +kernel
theorem dX7_readAt_189 : decode cX7_readAt 189 = .ok (.getfield 13, 3) := by decide +kernel
theorem dX7_readAt_192 : decode cX7_readAt 192 = .ok (.iload 6, 2) := by decide +kernel
theorem dX7_readAt_194 : decode cX7_readAt 194 = .ok (.iaload, 1) := by decide +kernel
theorem dX7_readAt_195 : decode cX7_readAt 195 = .ok (.iconst 2, 1) := by decide +kernel
theorem dX7_readAt_196 : decode cX7_readAt 196 = .ok (.if_icmp .ne 42, 3) := by decide +kernel
theorem dX7_readAt_199 : decode cX7_readAt 199 = .ok (.aload_n 0, 1) := by decide +kernel
theorem dX7_readAt_200 : decode cX7_readAt 200 = .ok (.iload 10, 2) := by decide +kernel
theorem dX7_readAt_202 : decode cX7_readAt 202 = .ok (.ifCond .eq 8, 3) := by decide +kernel
theorem dX7_readAt_205 : decode cX7_readAt 205 = .ok (.bipush 6, 2) := by decide +kernel
theorem dX7_readAt_207 : decode cX7_readAt 207 = .ok (.goto 15, 3) := by decide +kernel
theorem dX7_readAt_210 : decode cX7_readAt 210 = .ok (.iload 11, 2) := by decide +kernel
theorem dX7_readAt_212 : decode cX7_readAt 212 = .ok (.ifCond .eq 8, 3) := by decide +kernel
theorem dX7_readAt_215 : decode cX7_readAt 215 = .ok (.bipush 7, 2) := by decide +kernel
theorem dX7_readAt_217 : decode cX7_readAt 217 = .ok (.goto 5, 3) := by decide +kernel
theorem dX7_readAt_220 : decode cX7_readAt 220 = .ok (.bipush 8, 2) := by decide +kernel
theorem dX7_readAt_222 : decode cX7_readAt 222 = .ok (.iload_n 2, 1) := by decide +kernel
theorem dX7_readAt_223 : decode cX7_readAt 223 = .ok (.iload_n 2, 1) := by decide +kernel
theorem dX7_readAt_224 : decode cX7_readAt 224 = .ok (.iconst 1, 1) := by decide +kernel
theorem dX7_readAt_225 : decode cX7_readAt 225 = .ok (.iadd, 1) := by decide +kernel
theorem dX7_readAt_226 : decode cX7_readAt 226 = .ok (.iconst 0, 1) := by decide +kernel
theorem dX7_readAt_227 : decode cX7_readAt 227 = .ok (.iconst 0, 1) := by decide +kernel
theorem dX7_readAt_228 : decode cX7_readAt 228 = .ok (.iload 9, 2) := by decide +kernel
theorem dX7_readAt_230 : decode cX7_readAt 230 = .ok (.invokevirtual 177, 3) := by decide +kernel
theorem dX7_readAt_233 : decode cX7_readAt 233 = .ok (.istore 12, 2) := by decide +kernel
theorem dX7_readAt_235 : decode cX7_readAt 235 = .ok (.goto 111, 3) := by decide +kernel
theorem dX7_readAt_238 : decode cX7_readAt 238 = .ok (.aload_n 0, 1) := by decide +kernel
theorem dX7_readAt_239 : decode cX7_readAt 239 = .ok (.getfield 13, 3) := by decide +kernel
theorem dX7_readAt_242 : decode cX7_readAt 242 = .ok (.iload 6, 2) := by decide +kernel
theorem dX7_readAt_244 : decode cX7_readAt 244 = .ok (.iaload, 1) := by decide +kernel
theorem dX7_readAt_245 : decode cX7_readAt 245 = .ok (.iconst 3, 1) := by decide +kernel
theorem dX7_readAt_246 : decode cX7_readAt 246 = .ok (.if_icmp .eq 28, 3) := by decide +kernel
theorem dX7_readAt_249 : decode cX7_readAt 249 = .ok (.aload_n 0, 1) := by decide +kernel
theorem dX7_readAt_250 : decode cX7_readAt 250 = .ok (.iconst 0, 1) := by decide +kernel
theorem dX7_readAt_251 : decode cX7_readAt 251 = .ok (.iload_n 2, 1) := by decide +kernel
theorem dX7_readAt_252 : decode cX7_readAt 252 = .ok (.iload_n 2, 1) := by decide +kernel
theorem dX7_readAt_253 : decode cX7_readAt 253 = .ok (.iconst 1, 1) := by decide +kernel
theorem dX7_readAt_254 : decode cX7_readAt 254 = .ok (.iadd, 1) := by decide +kernel
theorem dX7_readAt_255 : decode cX7_readAt 255 = .ok (.iload 7, 2) := by decide +kernel
theorem dX7_readAt_257 : decode cX7_readAt 257 = .ok (.iload 8, 2) := by decide +kernel
theorem dX7_readAt_259 : decode cX7_readAt 259 = .ok (.aload_n 0, 1) := by decide +kernel
theorem dX7_readAt_260 : decode cX7_readAt 260 = .ok (.getfield 13, 3) := by decide +kernel
theorem dX7_readAt_263 : decode cX7_readAt 263 = .ok (.iload 6, 2) := by decide +kernel
theorem dX7_readAt_265 : decode cX7_readAt 265 = .ok (.iaload, 1) := by decide +kernel
theorem dX7_readAt_266 : decode cX7_readAt 266 = .ok (.invokevirtual 177, 3) := by decide +kernel
theorem dX7_readAt_269 : decode cX7_readAt 269 = .ok (.istore 12, 2) := by decide +kernel
theorem dX7_readAt_271 : decode cX7_readAt 271 = .ok (.goto 75, 3) := by decide +kernel
theorem dX7_readAt_274 : decode cX7_readAt 274 = .ok (.iload 10, 2) := by decide +kernel
theorem dX7_readAt_276 : decode cX7_readAt 276 = .ok (.ifCond .ne 21, 3) := by decide +kernel
theorem dX7_readAt_279 : decode cX7_readAt 279 = .ok (.iload 11, 2) := by decide +kernel
theorem dX7_readAt_281 : decode cX7_readAt 281 = .ok (.ifCond .ne 16, 3) := by decide +kernel
theorem dX7_readAt_284 : decode cX7_readAt 284 = .ok (.iload 9, 2) := by decide +kernel
theorem dX7_readAt_286 : decode cX7_readAt 286 = .ok (.iload_n 2, 1) := by decide +kernel
theorem dX7_readAt_287 : decode cX7_readAt 287 = .ok (.if_icmp .le 10, 3) := by decide +kernel
theorem dX7_readAt_290 : decode cX7_readAt 290 = .ok (.iload 9, 2) := by decide +kernel
theorem dX7_readAt_292 : decode cX7_readAt 292 = .ok (.iload 4, 2) := by decide +kernel
theorem dX7_readAt_294 : decode cX7_readAt 294 = .ok (.if_icmp .le 44, 3) := by decide +kernel
theorem dX7_readAt_297 : decode cX7_readAt 297 = .ok (.aload_n 0, 1) := by decide +kernel
theorem dX7_readAt_298 : decode cX7_readAt 298 = .ok (.iload 10, 2) := by decide +kernel
theorem dX7_readAt_300 : decode cX7_readAt 300 = .ok (.ifCond .eq 8, 3) := by decide +kernel
theorem dX7_readAt_303 : decode cX7_readAt 303 = .ok (.bipush 9, 2) := by decide +kernel
theorem dX7_readAt_305 : decode cX7_readAt 305 = .ok (.goto 15, 3) := by decide +kernel
theorem dX7_readAt_308 : decode cX7_readAt 308 = .ok (.iload 11, 2) := by decide +kernel
theorem dX7_readAt_310 : decode cX7_readAt 310 = .ok (.ifCond .eq 8, 3) := by decide +kernel
theorem dX7_readAt_313 : decode cX7_readAt 313 = .ok (.bipush 10, 2) := by decide +kernel
theorem dX7_readAt_315 : decode cX7_readAt 315 = .ok (.goto 5, 3) := by decide +kernel
theorem dX7_readAt_318 : decode cX7_readAt 318 = .ok (.bipush 11, 2) := by decide +kernel
theorem dX7_readAt_320 : decode cX7_readAt 320 = .ok (.iload_n 2, 1) := by decide +kernel
theorem dX7_readAt_321 : decode cX7_readAt 321 = .ok (.iload_n 2, 1) := by decide +kernel
theorem dX7_readAt_322 : decode cX7_readAt 322 = .ok (.iconst 1, 1) := by decide +kernel
theorem dX7_readAt_323 : decode cX7_readAt 323 = .ok (.iadd, 1) := by decide +kernel
theorem dX7_readAt_324 : decode cX7_readAt 324 = .ok (.iload 7, 2) := by decide +kernel
theorem dX7_readAt_326 : decode cX7_readAt 326 = .ok (.iload 8, 2) := by decide +kernel
theorem dX7_readAt_328 : decode cX7_readAt 328 = .ok (.iload 9, 2) := by decide +kernel
theorem dX7_readAt_330 : decode cX7_readAt 330 = .ok (.invokevirtual 177, 3) := by decide +kernel
theorem dX7_readAt_333 : decode cX7_readAt 333 = .ok (.istore 12, 2) := by decide +kernel
theorem dX7_readAt_335 : decode cX7_readAt 335 = .ok (.goto 11, 3) := by decide +kernel
theorem dX7_readAt_338 : decode cX7_readAt 338 = .ok (.aload_n 0, 1) := by decide +kernel
theorem dX7_readAt_339 : decode cX7_readAt 339 = .ok (.iload_n 1, 1) := by decide +kernel
theorem dX7_readAt_340 : decode cX7_readAt 340 = .ok (.iload_n 2, 1) := by decide +kernel
theorem dX7_readAt_341 : decode cX7_readAt 341 = .ok (.iload 9, 2) := by decide +kernel
theorem dX7_readAt_343 : decode cX7_readAt 343 = .ok (.invokevirtual 181, 3) := by decide +kernel
theorem dX7_readAt_346 : decode cX7_readAt 346 = .ok (.return_, 1) := by decide +kernel
theorem dX7_readIf_0 : decode cX7_readIf 0 = .ok (.aload_n 0, 1) := by decide +kernel
theorem dX7_readIf_1 : decode cX7_readIf 1 = .ok (.getfield 157, 3) := by decide +kernel
theorem dX7_readIf_4 : decode cX7_readIf 4 = .ok (.iconst 1, 1) := by decide +kernel
theorem dX7_readIf_5 : decode cX7_readIf 5 = .ok (.isub, 1) := by decide +kernel
theorem dX7_readIf_6 : decode cX7_readIf 6 = .ok (.istore 4, 2) := by decide +kernel
theorem dX7_readIf_8 : decode cX7_readIf 8 = .ok (.iload_n 1, 1) := by decide +kernel
theorem dX7_readIf_9 : decode cX7_readIf 9 = .ok (.iload_n 2, 1) := by decide +kernel
theorem dX7_readIf_10 : decode cX7_readIf 10 = .ok (.iadd, 1) := by decide +kernel
theorem dX7_readIf_11 : decode cX7_readIf 11 = .ok (.istore 5, 2) := by decide +kernel
theorem dX7_readIf_13 : decode cX7_readIf 13 = .ok (.aload_n 0, 1) := by decide +kernel
theorem dX7_readIf_14 : decode cX7_readIf 14 = .ok (.getfield 71, 3) := by decide +kernel
theorem dX7_readIf_17 : decode cX7_readIf 17 = .ok (.iload 4, 2) := by decide +kernel
theorem dX7_readIf_19 : decode cX7_readIf 19 = .ok (.iaload, 1) := by decide +kernel
theorem dX7_readIf_20 : decode cX7_readIf 20 = .ok (.istore 6, 2) := by decide +kernel
theorem dX7_readIf_22 : decode cX7_readIf 22 = .ok (.aload_n 0, 1) := by decide +kernel
theorem dX7_readIf_23 : decode cX7_readIf 23 = .ok (.getfield 74, 3) := by decide +kernel
theorem dX7_readIf_26 : decode cX7_readIf 26 = .ok (.iload 4, 2) := by decide +kernel
theorem dX7_readIf_28 : decode cX7_readIf 28 = .ok (.iaload, 1) := by decide +kernel
theorem dX7_readIf_29 : decode cX7_readIf 29 = .ok (.istore 7, 2) := by decide +kernel
theorem dX7_readIf_31 : decode cX7_readIf 31 = .ok (.iload_n 3, 1) := by decide +kernel
theorem dX7_readIf_32 : decode cX7_readIf 32 = .ok (.iconst 1, 1) := by decide +kernel
theorem dX7_readIf_33 : decode cX7_readIf 33 = .ok (.isub, 1) := by decide +kernel
theorem dX7_readIf_34 : decode cX7_readIf 34 = .ok (.iload_n 2, 1) := by decide +kernel
theorem dX7_readIf_35 : decode cX7_readIf 35 = .ok (.if_icmp .le 30, 3) := by decide +kernel
theorem dX7_readIf_38 : decode cX7_readIf 38 = .ok (.aload_n 0, 1) := by decide +kernel
theorem dX7_readIf_39 : decode cX7_readIf 39 = .ok (.getfield 13, 3) := by decide +kernel
theorem dX7_readIf_42 : decode cX7_readIf 42 = .ok (.iload_n 1, 1) := by decide +kernel
theorem dX7_readIf_43 : decode cX7_readIf 43 = .ok (.iload_n 3, 1) := by decide +kernel
theorem dX7_readIf_44 : decode cX7_readIf 44 = .ok (.iadd, 1) := by decide +kernel
theorem dX7_readIf_45 : decode cX7_readIf 45 = .ok (.iconst 1, 1) := by decide +kernel
theorem dX7_readIf_46 : decode cX7_readIf 46 = .ok (.isub, 1) := by decide +kernel
theorem dX7_readIf_47 : decode cX7_readIf 47 = .ok (.iaload, 1) := by decide +kernel
theorem dX7_readIf_48 : decode cX7_readIf 48 = .ok (.iconst 2, 1) := by decide +kernel
theorem dX7_readIf_49 : decode cX7_readIf 49 = .ok (.if_icmp .ne 16, 3) := by decide +kernel
theorem dX7_readIf_52 : decode cX7_readIf 52 = .ok (.aload_n 0, 1) := by decide +kernel
theorem dX7_readIf_53 : decode cX7_readIf 53 = .ok (.getfield 22, 3) := by decide +kernel
theorem dX7_readIf_56 : decode cX7_readIf 56 = .ok (.iload_n 1, 1) := by decide +kernel
theorem dX7_readIf_57 : decode cX7_readIf 57 = .ok (.iload_n 3, 1) := by decide +kernel
theorem dX7_readIf_58 : decode cX7_readIf 58 = .ok (.iadd, 1) := by decide +kernel
theorem dX7_readIf_59 : decode cX7_readIf 59 = .ok (.iconst 1, 1) := by decide +kernel
theorem dX7_readIf_60 : decode cX7_readIf 60 = .ok (.isub, 1) := by decide +kernel
theorem dX7_readIf_61 : decode cX7_readIf 61 = .ok (.iaload, 1) := by decide +kernel
theorem dX7_readIf_62 : decode cX7_readIf 62 = .ok (.goto 4, 3) := by decide +kernel
theorem dX7_readIf_65 : decode cX7_readIf 65 = .ok (.iconst (-1), 1) := by decide +kernel
theorem dX7_readIf_66 : decode cX7_readIf 66 = .ok (.istore 8, 2) := by decide +kernel
theorem dX7_readIf_68 : decode cX7_readIf 68 = .ok (.iload 8, 2) := by decide +kernel
theorem dX7_readIf_70 : decode cX7_readIf 70 = .ok (.iload_n 3, 1) := by decide +kernel
theorem dX7_readIf_71 : decode cX7_readIf 71 = .ok (.if_icmp .le 33, 3) := by decide +kernel
theorem dX7_readIf_74 : decode cX7_readIf 74 = .ok (.iload 8, 2) := by decide +kernel
theorem dX7_readIf_76 : decode cX7_readIf 76 = .ok (.aload_n 0, 1) := by decide +kernel
theorem dX7_readIf_77 : decode cX7_readIf 77 = .ok (.getfield 68, 3) := by decide +kernel
theorem dX7_readIf_80 : decode cX7_readIf 80 = .ok (.iload 4, 2) := by decide +kernel
theorem dX7_readIf_82 : decode cX7_readIf 82 = .ok (.iaload, 1) := by decide +kernel
theorem dX7_readIf_83 : decode cX7_readIf 83 = .ok (.if_icmp .gt 21, 3) := by decide +kernel
theorem dX7_readIf_86 : decode cX7_readIf 86 = .ok (.iload 8, 2) := by decide +kernel
theorem dX7_readIf_88 : decode cX7_readIf 88 = .ok (.iload 6, 2) := by decide +kernel
theorem dX7_readIf_90 : decode cX7_readIf 90 = .ok (.if_icmp .eq 14, 3) := by decide +kernel
theorem dX7_readIf_93 : decode cX7_readIf 93 = .ok (.iload 8, 2) := by decide +kernel
theorem dX7_readIf_95 : decode cX7_readIf 95 = .ok (.iload 7, 2) := by decide +kernel
theorem dX7_readIf_97 : decode cX7_readIf 97 = .ok (.if_icmp .eq 7, 3) := by decide +kernel
theorem dX7_readIf_100 : decode cX7_readIf 100 = .ok (.iconst 1, 1) := by decide +kernel
theorem dX7_readIf_101 : decode cX7_readIf 101 = .ok (.goto 4, 3) := by decide +kernel
theorem dX7_readIf_104 : decode cX7_readIf 104 = .ok (.iconst 0, 1) := by decide +kernel
theorem dX7_readIf_105 : decode cX7_readIf 105 = .ok (.istore 9, 2) := by decide +kernel
theorem dX7_readIf_107 : decode cX7_readIf 107 = .ok (.aload_n 0, 1) := by decide +kernel
theorem dX7_readIf_108 : decode cX7_readIf 108 = .ok (.iload 9, 2) := by decide +kernel
theorem dX7_readIf_110 : decode cX7_readIf 110 = .ok (.ifCond .eq 7, 3) := by decide +kernel
theorem dX7_readIf_113 : decode cX7_readIf 113 = .ok (.iconst 2, 1) := by decide +kernel
theorem dX7_readIf_114 : decode cX7_readIf 114 = .ok (.goto 4, 3) := by decide +kernel
theorem dX7_readIf_117 : decode cX7_readIf 117 = .ok (.iconst 1, 1) := by decide +kernel
theorem dX7_readIf_118 : decode cX7_readIf 118 = .ok (.iload_n 2, 1) := by decide +kernel
theorem dX7_readIf_119 : decode cX7_readIf 119 = .ok (.iload 9, 2) := by decide +kernel
theorem dX7_readIf_121 : decode cX7_readIf 121 = .ok (.ifCond .eq 8, 3) := by decide +kernel
theorem dX7_readIf_124 : decode cX7_readIf 124 = .ok (.iload 8, 2) := by decide +kernel
theorem dX7_readIf_126 : decode cX7_readIf 126 = .ok (.goto 4, 3) := by decide +kernel
theorem dX7_readIf_129 : decode cX7_readIf 129 = .ok (.iload_n 3, 1) := by decide +kernel
theorem dX7_readIf_130 : decode cX7_readIf 130 = .ok (.aload_n 0, 1) := by decide +kernel
theorem dX7_readIf_131 : decode cX7_readIf 131 = .ok (.getfield 16, 3) := by decide +kernel
theorem dX7_readIf_134 : decode cX7_readIf 134 = .ok (.iload 5, 2) := by decide +kernel
theorem dX7_readIf_136 : decode cX7_readIf 136 = .ok (.iaload, 1) := by decide +kernel
theorem dX7_readIf_137 : decode cX7_readIf 137 = .ok (.aload_n 0, 1) := by decide +kernel
theorem dX7_readIf_138 : decode cX7_readIf 138 = .ok (.getfield 19, 3) := by decide +kernel
theorem dX7_readIf_141 : decode cX7_readIf 141 = .ok (.iload 5, 2) := by decide +kernel
theorem dX7_readIf_143 : decode cX7_readIf 143 = .ok (.iaload, 1) := by decide +kernel
theorem dX7_readIf_144 : decode cX7_readIf 144 = .ok (.iload_n 3, 1) := by decide +kernel
theorem dX7_readIf_145 : decode cX7_readIf 145 = .ok (.invokevirtual 177, 3) := by decide +kernel
theorem dX7_readIf_148 : decode cX7_readIf 148 = .ok (.istore 10, 2) := by decide +kernel
theorem dX7_readIf_150 : decode cX7_readIf 150 = .ok (.aload_n 0, 1) := by decide +kernel
theorem dX7_readIf_151 : decode cX7_readIf 151 = .ok (.getfield 65, 3) := by decide +kernel
theorem dX7_readIf_154 : decode cX7_readIf 154 = .ok (.iload 4, 2) := by decide +kernel
theorem dX7_readIf_156 : decode cX7_readIf 156 = .ok (.iload 9, 2) := by decide +kernel
theorem dX7_readIf_158 : decode cX7_readIf 158 = .ok (.ifCond .eq 8, 3) := by decide +kernel
theorem dX7_readIf_161 : decode cX7_readIf 161 = .ok (.iload 8, 2) := by decide +kernel
theorem dX7_readIf_163 : decode cX7_readIf 163 = .ok (.goto 4, 3) := by decide +kernel
theorem dX7_readIf_166 : decode cX7_readIf 166 = .ok (.iload_n 3, 1) := by decide +kernel
theorem dX7_readIf_167 : decode cX7_readIf 167 = .ok (.iastore, 1) := by decide +kernel
theorem dX7_readIf_168 : decode cX7_readIf 168 = .ok (.iload 9, 2) := by decide +kernel
theorem dX7_readIf_170 : decode cX7_readIf 170 = .ok (.ifCond .eq 37, 3) := by decide +kernel
theorem dX7_readIf_173 : decode cX7_readIf 173 = .ok (.aload_n 0, 1) := by decide +kernel
theorem dX7_readIf_174 : decode cX7_readIf 174 = .ok (.iload_n 3, 1) := by decide +kernel
theorem dX7_readIf_175 : decode cX7_readIf 175 = .ok (.iload 8, 2) := by decide +kernel
theorem dX7_readIf_177 : decode cX7_readIf 177 = .ok (.iload 6, 2) := by decide +kernel
theorem dX7_readIf_179 : decode cX7_readIf 179 = .ok (.iload 7, 2) := by decide +kernel
theorem dX7_readIf_181 : decode cX7_readIf 181 = .ok (.iload 10, 2) := by decide +kernel
theorem dX7_readIf_183 : decode cX7_readIf 183 = .ok (.iconst 1, 1) := by decide +kernel
theorem dX7_readIf_184 : decode cX7_readIf 184 = .ok (.invokevirtual 163, 3) := by decide +kernel
theorem dX7_readIf_187 : decode cX7_readIf 187 = .ok (.aload_n 0, 1) := by decide +kernel
theorem dX7_readIf_188 : decode cX7_readIf 188 = .ok (.iload_n 2, 1) := by decide +kernel
theorem dX7_readIf_189 : decode cX7_readIf 189 = .ok (.iconst 1, 1) := by decide +kernel
theorem dX7_readIf_190 : decode cX7_readIf 190 = .ok (.iadd, 1) := by decide +kernel
theorem dX7_readIf_191 : decode cX7_readIf 191 = .ok (.iload_n 3, 1) := by decide +kernel
theorem dX7_readIf_192 : decode cX7_readIf 192 = .ok (.iconst 1, 1) := by decide +kernel
theorem dX7_readIf_193 : decode cX7_readIf 193 = .ok (.isub, 1) := by decide +kernel
theorem dX7_readIf_194 : decode cX7_readIf 194 = .ok (.iload 6, 2) := by decide +kernel
theorem dX7_readIf_196 : decode cX7_readIf 196 = .ok (.iload 7, 2) := by decide +kernel
theorem dX7_readIf_198 : decode cX7_readIf 198 = .ok (.iload 10, 2) := by decide +kernel
theorem dX7_readIf_200 : decode cX7_readIf 200 = .ok (.iconst 0, 1) := by decide +kernel
theorem dX7_readIf_201 : decode cX7_readIf 201 = .ok (.invokevirtual 163, 3) := by decide +kernel
theorem dX7_readIf_204 : decode cX7_readIf 204 = .ok (.goto 18, 3) := by decide +kernel
theorem dX7_readIf_207 : decode cX7_readIf 207 = .ok (.aload_n 0, 1) := by decide +kernel
theorem dX7_readIf_208 : decode cX7_readIf 208 = .ok (.iload_n 2, 1) := by decide +kernel
theorem dX7_readIf_209 : decode cX7_readIf 209 = .ok (.iconst 1, 1) := by decide +kernel
theorem dX7_readIf_210 : decode cX7_readIf 210 = .ok (.iadd, 1) := by decide +kernel
theorem dX7_readIf_211 : decode cX7_readIf 211 = .ok (.iload_n 3, 1) := by decide +kernel
theorem dX7_readIf_212 : decode cX7_readIf 212 = .ok (.iload 6, 2) := by decide +kernel
theorem dX7_readIf_214 : decode cX7_readIf 214 = .ok (.iload 7, 2) := by decide +kernel
theorem dX7_readIf_216 : decode cX7_readIf 216 = .ok (.iload 10, 2) := by decide +kernel
theorem dX7_readIf_218 : decode cX7_readIf 218 = .ok (.iconst 0, 1) := by decide +kernel
theorem dX7_readIf_219 : decode cX7_readIf 219 = .ok (.invokevirtual 163, 3) := by decide +kernel
theorem dX7_readIf_222 : decode cX7_readIf 222 = .ok (.return_, 1) := by decide +kernel
end
section
theorem dX7_readLoop_0 : decode cX7_readLoop 0 = .ok (.iload_n 1, 1) := by decide +kernel
theorem dX7_readLoop_1 : decode cX7_readLoop 1 = .ok (.iload_n 3, 1) := by decide +kernel
theorem dX7_readLoop_2 : decode cX7_readLoop 2 = .ok (.iadd, 1) := by decide +kernel
theorem dX7_readLoop_3 : decode cX7_readLoop 3 = .ok (.istore 4, 2) := by decide +kernel
theorem dX7_readLoop_5 : decode cX7_readLoop 5 = .ok (.iload_n 1, 1) := by decide +kernel
theorem dX7_readLoop_6 : decode cX7_readLoop 6 = .ok (.iload_n 2, 1) := by decide +kernel
theorem dX7_readLoop_7 : decode cX7_readLoop 7 = .ok (.iadd, 1) := by decide +kernel
theorem dX7_readLoop_8 : decode cX7_readLoop 8 = .ok (.istore 5, 2) := by decide +kernel
theorem dX7_readLoop_10 : decode cX7_readLoop 10 = .ok (.aload_n 0, 1) := by decide +kernel
theorem dX7_readLoop_11 : decode cX7_readLoop 11 = .ok (.getfield 65, 3) := by decide +kernel
theorem dX7_readLoop_14 : decode cX7_readLoop 14 = .ok (.aload_n 0, 1) := by decide +kernel
theorem dX7_readLoop_15 : decode cX7_readLoop 15 = .ok (.getfield 157, 3) := by decide +kernel
theorem dX7_readLoop_18 : decode cX7_readLoop 18 = .ok (.iconst 1, 1) := by decide +kernel
theorem dX7_readLoop_19 : decode cX7_readLoop 19 = .ok (.isub, 1) := by decide +kernel
theorem dX7_readLoop_20 : decode cX7_readLoop 20 = .ok (.iload_n 3, 1) := by decide +kernel
theorem dX7_readLoop_21 : decode cX7_readLoop 21 = .ok (.iconst 1, 1) := by decide +kernel
theorem dX7_readLoop_22 : decode cX7_readLoop 22 = .ok (.iadd, 1) := by decide +kernel
theorem dX7_readLoop_23 : decode cX7_readLoop 23 = .ok (.iastore, 1) := by decide +kernel
theorem dX7_readLoop_24 : decode cX7_readLoop 24 = .ok (.aload_n 0, 1) := by decide +kernel
theorem dX7_readLoop_25 : decode cX7_readLoop 25 = .ok (.getfield 13, 3) := by decide +kernel
theorem dX7_readLoop_28 : decode cX7_readLoop 28 = .ok (.iload 4, 2) := by decide +kernel
theorem dX7_readLoop_30 : decode cX7_readLoop 30 = .ok (.iaload, 1) := by decide +kernel
theorem dX7_readLoop_31 : decode cX7_readLoop 31 = .ok (.iconst 3, 1) := by decide +kernel
theorem dX7_readLoop_32 : decode cX7_readLoop 32 = .ok (.if_icmp .ne 45, 3) := by decide +kernel
theorem dX7_readLoop_35 : decode cX7_readLoop 35 = .ok (.aload_n 0, 1) := by decide +kernel
theorem dX7_readLoop_36 : decode cX7_readLoop 36 = .ok (.iconst 5, 1) := by decide +kernel
theorem dX7_readLoop_37 : decode cX7_readLoop 37 = .ok (.iload_n 2, 1) := by decide +kernel
theorem dX7_readLoop_38 : decode cX7_readLoop 38 = .ok (.iload_n 3, 1) := by decide +kernel
theorem dX7_readLoop_39 : decode cX7_readLoop 39 = .ok (.iconst 1, 1) := by decide +kernel
theorem dX7_readLoop_40 : decode cX7_readLoop 40 = .ok (.iadd, 1) := by decide +kernel
theorem dX7_readLoop_41 : decode cX7_readLoop 41 = .ok (.aload_n 0, 1) := by decide +kernel
theorem dX7_readLoop_42 : decode cX7_readLoop 42 = .ok (.getfield 16, 3) := by decide +kernel
theorem dX7_readLoop_45 : decode cX7_readLoop 45 = .ok (.iload 4, 2) := by decide +kernel
theorem dX7_readLoop_47 : decode cX7_readLoop 47 = .ok (.iaload, 1) := by decide +kernel
theorem dX7_readLoop_48 : decode cX7_readLoop 48 = .ok (.aload_n 0, 1) := by decide +kernel
theorem dX7_readLoop_49 : decode cX7_readLoop 49 = .ok (.getfield 19, 3) := by decide +kernel
theorem dX7_readLoop_52 : decode cX7_readLoop 52 = .ok (.iload 4, 2) := by decide +kernel
theorem dX7_readLoop_54 : decode cX7_readLoop 54 = .ok (.iaload, 1) := by decide +kernel
theorem dX7_readLoop_55 : decode cX7_readLoop 55 = .ok (.iload_n 2, 1) := by decide +kernel
theorem dX7_readLoop_56 : decode cX7_readLoop 56 = .ok (.invokevirtual 177, 3) := by decide +kernel
theorem dX7_readLoop_59 : decode cX7_readLoop 59 = .ok (.istore 6, 2) := by decide +kernel
theorem dX7_readLoop_61 : decode cX7_readLoop 61 = .ok (.aload_n 0, 1) := by decide +kernel
theorem dX7_readLoop_62 : decode cX7_readLoop 62 = .ok (.iload_n 2, 1) := by decide +kernel
theorem dX7_readLoop_63 : decode cX7_readLoop 63 = .ok (.iload_n 3, 1) := by decide +kernel
theorem dX7_readLoop_64 : decode cX7_readLoop 64 = .ok (.iload_n 3, 1) := by decide +kernel
theorem dX7_readLoop_65 : decode cX7_readLoop 65 = .ok (.iconst 1, 1) := by decide +kernel
theorem dX7_readLoop_66 : decode cX7_readLoop 66 = .ok (.iadd, 1) := by decide +kernel
theorem dX7_readLoop_67 : decode cX7_readLoop 67 = .ok (.iload_n 3, 1) := by decide +kernel
theorem dX7_readLoop_68 : decode cX7_readLoop 68 = .ok (.iload 6, 2) := by decide +kernel
theorem dX7_readLoop_70 : decode cX7_readLoop 70 = .ok (.iconst 0, 1) := by decide +kernel
theorem dX7_readLoop_71 : decode cX7_readLoop 71 = .ok (.invokevirtual 163, 3) := by decide +kernel
theorem dX7_readLoop_74 : decode cX7_readLoop 74 = .ok (.goto 105, 3) := by decide +kernel
theorem dX7_readLoop_77 : decode cX7_readLoop 77 = .ok (.aload_n 0, 1) := by decide +kernel
theorem dX7_readLoop_78 : decode cX7_readLoop 78 = .ok (.getfield 13, 3) := by decide +kernel
theorem dX7_readLoop_81 : decode cX7_readLoop 81 = .ok (.iload 5, 2) := by decide +kernel
theorem dX7_readLoop_83 : decode cX7_readLoop 83 = .ok (.iaload, 1) := by decide +kernel
theorem dX7_readLoop_84 : decode cX7_readLoop 84 = .ok (.iconst 3, 1) := by decide +kernel
theorem dX7_readLoop_85 : decode cX7_readLoop 85 = .ok (.if_icmp .ne 67, 3) := by decide +kernel
theorem dX7_readLoop_88 : decode cX7_readLoop 88 = .ok (.aload_n 0, 1) := by decide +kernel
theorem dX7_readLoop_89 : decode cX7_readLoop 89 = .ok (.getfield 22, 3) := by decide +kernel
theorem dX7_readLoop_92 : decode cX7_readLoop 92 = .ok (.iload 5, 2) := by decide +kernel
theorem dX7_readLoop_94 : decode cX7_readLoop 94 = .ok (.iaload, 1) := by decide +kernel
theorem dX7_readLoop_95 : decode cX7_readLoop 95 = .ok (.iload_n 3, 1) := by decide +kernel
theorem dX7_readLoop_96 : decode cX7_readLoop 96 = .ok (.iconst 1, 1) := by decide +kernel
theorem dX7_readLoop_97 : decode cX7_readLoop 97 = .ok (.iadd, 1) := by decide +kernel
theorem dX7_readLoop_98 : decode cX7_readLoop 98 = .ok (.if_icmp .ne 54, 3) := by decide +kernel
theorem dX7_readLoop_101 : decode cX7_readLoop 101 = .ok (.iload_n 2, 1) := by decide +kernel
theorem dX7_readLoop_102 : decode cX7_readLoop 102 = .ok (.iload_n 3, 1) := by decide +kernel
theorem dX7_readLoop_103 : decode cX7_readLoop 103 = .ok (.if_icmp .eq 49, 3) := by decide +kernel
theorem dX7_readLoop_106 : decode cX7_readLoop 106 = .ok (.aload_n 0, 1) := by decide +kernel
theorem dX7_readLoop_107 : decode cX7_readLoop 107 = .ok (.iconst 4, 1) := by decide +kernel
theorem dX7_readLoop_108 : decode cX7_readLoop 108 = .ok (.iload_n 2, 1) := by decide +kernel
theorem dX7_readLoop_109 : decode cX7_readLoop 109 = .ok (.iload_n 3, 1) := by decide +kernel
theorem dX7_readLoop_110 : decode cX7_readLoop 110 = .ok (.iconst 1, 1) := by decide +kernel
theorem dX7_readLoop_111 : decode cX7_readLoop 111 = .ok (.iadd, 1) := by decide +kernel
theorem dX7_readLoop_112 : decode cX7_readLoop 112 = .ok (.aload_n 0, 1) := by decide +kernel
theorem dX7_readLoop_113 : decode cX7_readLoop 113 = .ok (.getfield 16, 3) := by decide +kernel
theorem dX7_readLoop_116 : decode cX7_readLoop 116 = .ok (.iload 5, 2) := by decide +kernel
theorem dX7_readLoop_118 : decode cX7_readLoop 118 = .ok (.iaload, 1) := by decide +kernel
theorem dX7_readLoop_119 : decode cX7_readLoop 119 = .ok (.aload_n 0, 1) := by decide +kernel
theorem dX7_readLoop_120 : decode cX7_readLoop 120 = .ok (.getfield 19, 3) := by decide +kernel
theorem dX7_readLoop_123 : decode cX7_readLoop 123 = .ok (.iload 5, 2) := by decide +kernel
theorem dX7_readLoop_125 : decode cX7_readLoop 125 = .ok (.iaload, 1) := by decide +kernel
theorem dX7_readLoop_126 : decode cX7_readLoop 126 = .ok (.iload_n 3, 1) := by decide +kernel
theorem dX7_readLoop_127 : decode cX7_readLoop 127 = .ok (.iconst 1, 1) := by decide +kernel
theorem dX7_readLoop_128 : decode cX7_readLoop 128 = .ok (.iadd, 1) := by decide +kernel
theorem dX7_readLoop_129 : decode cX7_readLoop 129 = .ok (.invokevirtual 177, 3) := by decide +kernel
theorem dX7_readLoop_132 : decode cX7_readLoop 132 = .ok (.istore 6, 2) := by decide +kernel
theorem dX7_readLoop_134 : decode cX7_readLoop 134 = .ok (.aload_n 0, 1) := by decide +kernel
theorem dX7_readLoop_135 : decode cX7_readLoop 135 = .ok (.iload_n 2, 1) := by decide +kernel
theorem dX7_readLoop_136 : decode cX7_readLoop 136 = .ok (.iconst 1, 1) := by decide +kernel
theorem dX7_readLoop_137 : decode cX7_readLoop 137 = .ok (.iadd, 1) := by decide +kernel
theorem dX7_readLoop_138 : decode cX7_readLoop 138 = .ok (.iload_n 3, 1) := by decide +kernel
theorem dX7_readLoop_139 : decode cX7_readLoop 139 = .ok (.iload_n 3, 1) := by decide +kernel
theorem dX7_readLoop_140 : decode cX7_readLoop 140 = .ok (.iconst 1, 1) := by decide +kernel
theorem dX7_readLoop_141 : decode cX7_readLoop 141 = .ok (.iadd, 1) := by decide +kernel
theorem dX7_readLoop_142 : decode cX7_readLoop 142 = .ok (.iload_n 2, 1) := by decide +kernel
theorem dX7_readLoop_143 : decode cX7_readLoop 143 = .ok (.iload 6, 2) := by decide +kernel
theorem dX7_readLoop_145 : decode cX7_readLoop 145 = .ok (.iconst 0, 1) := by decide +kernel
theorem dX7_readLoop_146 : decode cX7_readLoop 146 = .ok (.invokevirtual 163, 3) := by decide +kernel
theorem dX7_readLoop_149 : decode cX7_readLoop 149 = .ok (.goto 30, 3) := by decide +kernel
theorem dX7_readLoop_152 : decode cX7_readLoop 152 = .ok (.aload_n 0, 1) := by decide +kernel
theorem dX7_readLoop_153 : decode cX7_readLoop 153 = .ok (.iconst 3, 1) := by decide +kernel
theorem dX7_readLoop_154 : decode cX7_readLoop 154 = .ok (.iload_n 2, 1) := by decide +kernel
theorem dX7_readLoop_155 : decode cX7_readLoop 155 = .ok (.iload_n 3, 1) := by decide +kernel
theorem dX7_readLoop_156 : decode cX7_readLoop 156 = .ok (.iconst 1, 1) := by decide +kernel
theorem dX7_readLoop_157 : decode cX7_readLoop 157 = .ok (.iadd, 1) := by decide +kernel
theorem dX7_readLoop_158 : decode cX7_readLoop 158 = .ok (.iconst 0, 1) := by decide +kernel
theorem dX7_readLoop_159 : decode cX7_readLoop 159 = .ok (.iconst 0, 1) := by decide +kernel
theorem dX7_readLoop_160 : decode cX7_readLoop 160 = .ok (.iload_n 2, 1) := by decide +kernel
theorem dX7_readLoop_161 : decode cX7_readLoop 161 = .ok (.invokevirtual 177, 3) := by decide +kernel
theorem dX7_readLoop_164 : decode cX7_readLoop 164 = .ok (.istore 6, 2) := by decide +kernel
theorem dX7_readLoop_166 : decode cX7_readLoop 166 = .ok (.aload_n 0, 1) := by decide +kernel
theorem dX7_readLoop_167 : decode cX7_readLoop 167 = .ok (.iload_n 2, 1) := by decide +kernel
theorem dX7_readLoop_168 : decode cX7_readLoop 168 = .ok (.iload_n 3, 1) := by decide +kernel
theorem dX7_readLoop_169 : decode cX7_readLoop 169 = .ok (.iload_n 3, 1) := by decide +kernel
theorem dX7_readLoop_170 : decode cX7_readLoop 170 = .ok (.iconst 1, 1) := by decide +kernel
theorem dX7_readLoop_171 : decode cX7_readLoop 171 = .ok (.iadd, 1) := by decide +kernel
theorem dX7_readLoop_172 : decode cX7_readLoop 172 = .ok (.iload_n 2, 1) := by decide +kernel
theorem dX7_readLoop_173 : decode cX7_readLoop 173 = .ok (.iload 6, 2) := by decide +kernel
theorem dX7_readLoop_175 : decode cX7_readLoop 175 = .ok (.iconst 0, 1) := by decide +kernel
theorem dX7_readLoop_176 : decode cX7_readLoop 176 = .ok (.invokevirtual 163, 3) := by decide +kernel
theorem dX7_readLoop_179 : decode cX7_readLoop 179 = .ok (.return_, 1) := by decide +kernel
theorem dX7_come_0 : decode cX7_come 0 = .ok (.aload_n 0, 1) := by decide +kernel
theorem dX7_come_1 : decode cX7_come 1 = .ok (.getfield 7, 3) := by decide +kernel
theorem dX7_come_4 : decode cX7_come 4 = .ok (.iload_n 1, 1) := by decide +kernel
theorem dX7_come_5 : decode cX7_come 5 = .ok (.iaload, 1) := by decide +kernel
theorem dX7_come_6 : decode cX7_come 6 = .ok (.istore_n 2, 1) := by decide +kernel
theorem dX7_come_7 : decode cX7_come 7 = .ok (.iconst 0, 1) := by decide +kernel
theorem dX7_come_8 : decode cX7_come 8 = .ok (.istore_n 3, 1) := by decide +kernel
theorem dX7_come_9 : decode cX7_come 9 = .ok (.iload_n 3, 1) := by decide +kernel
theorem dX7_come_10 : decode cX7_come 10 = .ok (.bipush 60, 2) := by decide +kernel
theorem dX7_come_12 : decode cX7_come 12 = .ok (.if_icmp .gt 24, 3) := by decide +kernel
theorem dX7_come_15 : decode cX7_come 15 = .ok (.aload_n 0, 1) := by decide +kernel
theorem dX7_come_16 : decode cX7_come 16 = .ok (.getfield 86, 3) := by decide +kernel
theorem dX7_come_19 : decode cX7_come 19 = .ok (.iload_n 3, 1) := by decide +kernel
theorem dX7_come_20 : decode cX7_come 20 = .ok (.iload_n 3, 1) := by decide +kernel
theorem dX7_come_21 : decode cX7_come 21 = .ok (.ifCond .ne 7, 3) := by decide +kernel
theorem dX7_come_24 : decode cX7_come 24 = .ok (.iconst 1, 1) := by decide +kernel
theorem dX7_come_25 : decode cX7_come 25 = .ok (.goto 4, 3) := by decide +kernel
theorem dX7_come_28 : decode cX7_come 28 = .ok (.iconst 0, 1) := by decide +kernel
theorem dX7_come_29 : decode cX7_come 29 = .ok (.bastore, 1) := by decide +kernel
theorem dX7_come_30 : decode cX7_come 30 = .ok (.iinc 3 1, 3) := by decide +kernel
theorem dX7_come_33 : decode cX7_come 33 = .ok (.goto (-24), 3) := by decide +kernel
theorem dX7_come_36 : decode cX7_come 36 = .ok (.iconst 1, 1) := by decide +kernel
theorem dX7_come_37 : decode cX7_come 37 = .ok (.istore_n 3, 1) := by decide +kernel
theorem dX7_come_38 : decode cX7_come 38 = .ok (.iload_n 3, 1) := by decide +kernel
theorem dX7_come_39 : decode cX7_come 39 = .ok (.ifCond .eq 194, 3) := by decide +kernel
theorem dX7_come_42 : decode cX7_come 42 = .ok (.iconst 0, 1) := by decide +kernel
theorem dX7_come_43 : decode cX7_come 43 = .ok (.istore_n 3, 1) := by decide +kernel
theorem dX7_come_44 : decode cX7_come 44 = .ok (.iconst 0, 1) := by decide +kernel
theorem dX7_come_45 : decode cX7_come 45 = .ok (.istore 4, 2) := by decide +kernel
theorem dX7_come_47 : decode cX7_come 47 = .ok (.iload 4, 2) := by decide +kernel
theorem dX7_come_49 : decode cX7_come 49 = .ok (.iload_n 2, 1) := by decide +kernel
theorem dX7_come_50 : decode cX7_come 50 = .ok (.if_icmp .ge 180, 3) := by decide +kernel
theorem dX7_come_53 : decode cX7_come 53 = .ok (.bipush 60, 2) := by decide +kernel
theorem dX7_come_55 : decode cX7_come 55 = .ok (.iload_n 1, 1) := by decide +kernel
theorem dX7_come_56 : decode cX7_come 56 = .ok (.imul, 1) := by decide +kernel
theorem dX7_come_57 : decode cX7_come 57 = .ok (.iload 4, 2) := by decide +kernel
theorem dX7_come_59 : decode cX7_come 59 = .ok (.iadd, 1) := by decide +kernel
theorem dX7_come_60 : decode cX7_come 60 = .ok (.istore 5, 2) := by decide +kernel
theorem dX7_come_62 : decode cX7_come 62 = .ok (.aload_n 0, 1) := by decide +kernel
theorem dX7_come_63 : decode cX7_come 63 = .ok (.getfield 86, 3) := by decide +kernel
theorem dX7_come_66 : decode cX7_come 66 = .ok (.iload 4, 2) := by decide +kernel
theorem dX7_come_68 : decode cX7_come 68 = .ok (.baload, 1) := by decide +kernel
theorem dX7_come_69 : decode cX7_come 69 = .ok (.ifCond .eq 155, 3) := by decide +kernel
theorem dX7_come_72 : decode cX7_come 72 = .ok (.aload_n 0, 1) := by decide +kernel
theorem dX7_come_73 : decode cX7_come 73 = .ok (.getfield 13, 3) := by decide +kernel
theorem dX7_come_76 : decode cX7_come 76 = .ok (.iload 5, 2) := by decide +kernel
theorem dX7_come_78 : decode cX7_come 78 = .ok (.iaload, 1) := by decide +kernel
theorem dX7_come_79 : decode cX7_come 79 = .ok (.iconst 2, 1) := by decide +kernel
theorem dX7_come_80 : decode cX7_come 80 = .ok (.if_icmp .eq 18, 3) := by decide +kernel
theorem dX7_come_83 : decode cX7_come 83 = .ok (.aload_n 0, 1) := by decide +kernel
theorem dX7_come_84 : decode cX7_come 84 = .ok (.getfield 13, 3) := by decide +kernel
theorem dX7_come_87 : decode cX7_come 87 = .ok (.iload 5, 2) := by decide +kernel
theorem dX7_come_89 : decode cX7_come 89 = .ok (.iaload, 1) := by decide +kernel
theorem dX7_come_90 : decode cX7_come 90 = .ok (.iconst 4, 1) := by decide +kernel
theorem dX7_come_91 : decode cX7_come 91 = .ok (.if_icmp .eq 7, 3) := by decide +kernel
theorem dX7_come_94 : decode cX7_come 94 = .ok (.iconst 1, 1) := by decide +kernel
theorem dX7_come_95 : decode cX7_come 95 = .ok (.goto 4, 3) := by decide +kernel
theorem dX7_come_98 : decode cX7_come 98 = .ok (.iconst 0, 1) := by decide +kernel
theorem dX7_come_99 : decode cX7_come 99 = .ok (.istore 6, 2) := by decide +kernel
theorem dX7_come_101 : decode cX7_come 101 = .ok (.iload_n 3, 1) := by decide +kernel
theorem dX7_come_102 : decode cX7_come 102 = .ok (.ifCond .ne 44, 3) := by decide +kernel
theorem dX7_come_105 : decode cX7_come 105 = .ok (.iload 6, 2) := by decide +kernel
theorem dX7_come_107 : decode cX7_come 107 = .ok (.ifCond .eq 15, 3) := by decide +kernel
theorem dX7_come_110 : decode cX7_come 110 = .ok (.aload_n 0, 1) := by decide +kernel
theorem dX7_come_111 : decode cX7_come 111 = .ok (.getfield 86, 3) := by decide +kernel
theorem dX7_come_114 : decode cX7_come 114 = .ok (.iload 4, 2) := by decide +kernel
theorem dX7_come_116 : decode cX7_come 116 = .ok (.iconst 1, 1) := by decide +kernel
theorem dX7_come_117 : decode cX7_come 117 = .ok (.iadd, 1) := by decide +kernel
theorem dX7_come_118 : decode cX7_come 118 = .ok (.baload, 1) := by decide +kernel
theorem dX7_come_119 : decode cX7_come 119 = .ok (.ifCond .eq 27, 3) := by decide +kernel
theorem dX7_come_122 : decode cX7_come 122 = .ok (.aload_n 0, 1) := by decide +kernel
theorem dX7_come_123 : decode cX7_come 123 = .ok (.iload 5, 2) := by decide +kernel
theorem dX7_come_125 : decode cX7_come 125 = .ok (.invokevirtual 154, 3) := by decide +kernel
theorem dX7_come_128 : decode cX7_come 128 = .ok (.ifCond .eq 22, 3) := by decide +kernel
theorem dX7_come_131 : decode cX7_come 131 = .ok (.aload_n 0, 1) := by decide +kernel
theorem dX7_come_132 : decode cX7_come 132 = .ok (.getfield 86, 3) := by decide +kernel
theorem dX7_come_135 : decode cX7_come 135 = .ok (.aload_n 0, 1) := by decide +kernel
theorem dX7_come_136 : decode cX7_come 136 = .ok (.getfield 22, 3) := by decide +kernel
theorem dX7_come_139 : decode cX7_come 139 = .ok (.iload 5, 2) := by decide +kernel
theorem dX7_come_141 : decode cX7_come 141 = .ok (.iaload, 1) := by decide +kernel
theorem dX7_come_142 : decode cX7_come 142 = .ok (.baload, 1) := by decide +kernel
theorem dX7_come_143 : decode cX7_come 143 = .ok (.ifCond .ne 7, 3) := by decide +kernel
theorem dX7_come_146 : decode cX7_come 146 = .ok (.iconst 1, 1) := by decide +kernel
theorem dX7_come_147 : decode cX7_come 147 = .ok (.goto 4, 3) := by decide +kernel
theorem dX7_come_150 : decode cX7_come 150 = .ok (.iconst 0, 1) := by decide +kernel
theorem dX7_come_151 : decode cX7_come 151 = .ok (.istore_n 3, 1) := by decide +kernel
theorem dX7_come_152 : decode cX7_come 152 = .ok (.aload_n 0, 1) := by decide +kernel
theorem dX7_come_153 : decode cX7_come 153 = .ok (.getfield 86, 3) := by decide +kernel
theorem dX7_come_156 : decode cX7_come 156 = .ok (.iload 4, 2) := by decide +kernel
theorem dX7_come_158 : decode cX7_come 158 = .ok (.iconst 1, 1) := by decide +kernel
theorem dX7_come_159 : decode cX7_come 159 = .ok (.iadd, 1) := by decide +kernel
theorem dX7_come_160 : decode cX7_come 160 = .ok (.aload_n 0, 1) := by decide +kernel
theorem dX7_come_161 : decode cX7_come 161 = .ok (.getfield 86, 3) := by decide +kernel
theorem dX7_come_164 : decode cX7_come 164 = .ok (.iload 4, 2) := by decide +kernel
theorem dX7_come_166 : decode cX7_come 166 = .ok (.iconst 1, 1) := by decide +kernel
theorem dX7_come_167 : decode cX7_come 167 = .ok (.iadd, 1) := by decide +kernel
theorem dX7_come_168 : decode cX7_come 168 = .ok (.baload, 1) := by decide +kernel
theorem dX7_come_169 : decode cX7_come 169 = .ok (.ifCond .ne 8, 3) := by decide +kernel
theorem dX7_come_172 : decode cX7_come 172 = .ok (.iload 6, 2) := by decide +kernel
theorem dX7_come_174 : decode cX7_come 174 = .ok (.ifCond .eq 7, 3) := by decide +kernel
theorem dX7_come_177 : decode cX7_come 177 = .ok (.iconst 1, 1) := by decide +kernel
theorem dX7_come_178 : decode cX7_come 178 = .ok (.goto 4, 3) := by decide +kernel
theorem dX7_come_181 : decode cX7_come 181 = .ok (.iconst 0, 1) := by decide +kernel
theorem dX7_come_182 : decode cX7_come 182 = .ok (.bastore, 1) := by decide +kernel
theorem dX7_come_183 : decode cX7_come 183 = .ok (.aload_n 0, 1) := by decide +kernel
theorem dX7_come_184 : decode cX7_come 184 = .ok (.getfield 86, 3) := by decide +kernel
theorem dX7_come_187 : decode cX7_come 187 = .ok (.aload_n 0, 1) := by decide +kernel
theorem dX7_come_188 : decode cX7_come 188 = .ok (.getfield 22, 3) := by decide +kernel
theorem dX7_come_191 : decode cX7_come 191 = .ok (.iload 5, 2) := by decide +kernel
theorem dX7_come_193 : decode cX7_come 193 = .ok (.iaload, 1) := by decide +kernel
theorem dX7_come_194 : decode cX7_come 194 = .ok (.aload_n 0, 1) := by decide +kernel
theorem dX7_come_195 : decode cX7_come 195 = .ok (.getfield 86, 3) := by decide +kernel
theorem dX7_come_198 : decode cX7_come 198 = .ok (.aload_n 0, 1) := by decide +kernel
theorem dX7_come_199 : decode cX7_come 199 = .ok (.getfield 22, 3) := by decide +kernel
theorem dX7_come_202 : decode cX7_come 202 = .ok (.iload 5, 2) := by decide +kernel
theorem dX7_come_204 : decode cX7_come 204 = .ok (.iaload, 1) := by decide +kernel
theorem dX7_come_205 : decode cX7_come 205 = .ok (.baload, 1) := by decide +kernel
theorem dX7_come_206 : decode cX7_come 206 = .ok (.ifCond .ne 12, 3) := by decide +kernel
theorem dX7_come_209 : decode cX7_come 209 = .ok (.aload_n 0, 1) := by decide +kernel
theorem dX7_come_210 : decode cX7_come 210 = .ok (.iload 5, 2) := by decide +kernel
theorem dX7_come_212 : decode cX7_come 212 = .ok (.invokevirtual 154, 3) := by decide +kernel
theorem dX7_come_215 : decode cX7_come 215 = .ok (.ifCond .eq 7, 3) := by decide +kernel
theorem dX7_come_218 : decode cX7_come 218 = .ok (.iconst 1, 1) := by decide +kernel
theorem dX7_come_219 : decode cX7_come 219 = .ok (.goto 4, 3) := by decide +kernel
theorem dX7_come_222 : decode cX7_come 222 = .ok (.iconst 0, 1) := by decide +kernel
theorem dX7_come_223 : decode cX7_come 223 = .ok (.bastore, 1) := by decide +kernel
theorem dX7_come_224 : decode cX7_come 224 = .ok (.iinc 4 1, 3) := by decide +kernel
theorem dX7_come_227 : decode cX7_come 227 = .ok (.goto (-180), 3) := by decide +kernel
theorem dX7_come_230 : decode cX7_come 230 = .ok (.goto (-192), 3) := by decide +kernel
theorem dX7_come_233 : decode cX7_come 233 = .ok (.return_, 1) := by decide +kernel
theorem dX7_told_0 : decode cX7_told 0 = .ok (.aload_n 0, 1) := by decide +kernel
theorem dX7_told_1 : decode cX7_told 1 = .ok (.iload_n 1, 1) := by decide +kernel
theorem dX7_told_2 : decode cX7_told 2 = .ok (.invokevirtual 142, 3) := by decide +kernel
theorem dX7_told_5 : decode cX7_told 5 = .ok (.ifCond .eq 28, 3) := by decide +kernel
theorem dX7_told_8 : decode cX7_told 8 = .ok (.iload_n 2, 1) := by decide +kernel
theorem dX7_told_9 : decode cX7_told 9 = .ok (.iconst 0, 1) := by decide +kernel
theorem dX7_told_10 : decode cX7_told 10 = .ok (.aload_n 0, 1) := by decide +kernel
theorem dX7_told_11 : decode cX7_told 11 = .ok (.getfield 7, 3) := by decide +kernel
theorem dX7_told_14 : decode cX7_told 14 = .ok (.iload_n 1, 1) := by decide +kernel
theorem dX7_told_15 : decode cX7_told 15 = .ok (.iaload, 1) := by decide +kernel
theorem dX7_told_16 : decode cX7_told 16 = .ok (.iconst 1, 1) := by decide +kernel
theorem dX7_told_17 : decode cX7_told 17 = .ok (.isub, 1) := by decide +kernel
theorem dX7_told_18 : decode cX7_told 18 = .ok (.invokestatic 138, 3) := by decide +kernel
theorem dX7_told_21 : decode cX7_told 21 = .ok (.ifCond .eq 12, 3) := by decide +kernel
theorem dX7_told_24 : decode cX7_told 24 = .ok (.iload_n 3, 1) := by decide +kernel
theorem dX7_told_25 : decode cX7_told 25 = .ok (.iconst 0, 1) := by decide +kernel
theorem dX7_told_26 : decode cX7_told 26 = .ok (.iconst 5, 1) := by decide +kernel
theorem dX7_told_27 : decode cX7_told 27 = .ok (.invokestatic 138, 3) := by decide +kernel
theorem dX7_told_30 : decode cX7_told 30 = .ok (.ifCond .ne 6, 3) := by decide +kernel
theorem dX7_told_33 : decode cX7_told 33 = .ok (.bipush (-2), 2) := by decide +kernel
theorem dX7_told_35 : decode cX7_told 35 = .ok (.ireturn, 1) := by decide +kernel
theorem dX7_told_36 : decode cX7_told 36 = .ok (.bipush 60, 2) := by decide +kernel
theorem dX7_told_38 : decode cX7_told 38 = .ok (.iload_n 1, 1) := by decide +kernel
theorem dX7_told_39 : decode cX7_told 39 = .ok (.imul, 1) := by decide +kernel
theorem dX7_told_40 : decode cX7_told 40 = .ok (.iload_n 2, 1) := by decide +kernel
theorem dX7_told_41 : decode cX7_told 41 = .ok (.iadd, 1) := by decide +kernel
theorem dX7_told_42 : decode cX7_told 42 = .ok (.istore 4, 2) := by decide +kernel
theorem dX7_told_44 : decode cX7_told 44 = .ok (.iload_n 3, 1) := by decide +kernel
theorem dX7_told_45 : decode cX7_told 45 = .ok (.iconst 4, 1) := by decide +kernel
theorem dX7_told_46 : decode cX7_told 46 = .ok (.if_icmp .ge 55, 3) := by decide +kernel
theorem dX7_told_49 : decode cX7_told 49 = .ok (.iload_n 3, 1) := by decide +kernel
theorem dX7_told_50 : decode cX7_told 50 = .ok (.ifCond .ne 13, 3) := by decide +kernel
theorem dX7_told_53 : decode cX7_told 53 = .ok (.aload_n 0, 1) := by decide +kernel
theorem dX7_told_54 : decode cX7_told 54 = .ok (.getfield 13, 3) := by decide +kernel
theorem dX7_told_57 : decode cX7_told 57 = .ok (.iload 4, 2) := by decide +kernel
theorem dX7_told_59 : decode cX7_told 59 = .ok (.iaload, 1) := by decide +kernel
theorem dX7_told_60 : decode cX7_told 60 = .ok (.goto 40, 3) := by decide +kernel
theorem dX7_told_63 : decode cX7_told 63 = .ok (.iload_n 3, 1) := by decide +kernel
theorem dX7_told_64 : decode cX7_told 64 = .ok (.iconst 1, 1) := by decide +kernel
theorem dX7_told_65 : decode cX7_told 65 = .ok (.if_icmp .ne 13, 3) := by decide +kernel
theorem dX7_told_68 : decode cX7_told 68 = .ok (.aload_n 0, 1) := by decide +kernel
theorem dX7_told_69 : decode cX7_told 69 = .ok (.getfield 16, 3) := by decide +kernel
theorem dX7_told_72 : decode cX7_told 72 = .ok (.iload 4, 2) := by decide +kernel
theorem dX7_told_74 : decode cX7_told 74 = .ok (.iaload, 1) := by decide +kernel
theorem dX7_told_75 : decode cX7_told 75 = .ok (.goto 25, 3) := by decide +kernel
theorem dX7_told_78 : decode cX7_told 78 = .ok (.iload_n 3, 1) := by decide +kernel
theorem dX7_told_79 : decode cX7_told 79 = .ok (.iconst 2, 1) := by decide +kernel
theorem dX7_told_80 : decode cX7_told 80 = .ok (.if_icmp .ne 13, 3) := by decide +kernel
theorem dX7_told_83 : decode cX7_told 83 = .ok (.aload_n 0, 1) := by decide +kernel
theorem dX7_told_84 : decode cX7_told 84 = .ok (.getfield 19, 3) := by decide +kernel
theorem dX7_told_87 : decode cX7_told 87 = .ok (.iload 4, 2) := by decide +kernel
theorem dX7_told_89 : decode cX7_told 89 = .ok (.iaload, 1) := by decide +kernel
theorem dX7_told_90 : decode cX7_told 90 = .ok (.goto 10, 3) := by decide +kernel
theorem dX7_told_93 : decode cX7_told 93 = .ok (.aload_n 0, 1) := by decide +kernel
theorem dX7_told_94 : decode cX7_told 94 = .ok (.getfield 22, 3) := by decide +kernel
theorem dX7_told_97 : decode cX7_told 97 = .ok (.iload 4, 2) := by decide +kernel
theorem dX7_told_99 : decode cX7_told 99 = .ok (.iaload, 1) := by decide +kernel
theorem dX7_told_100 : decode cX7_told 100 = .ok (.ireturn, 1) := by decide +kernel
theorem dX7_told_101 : decode cX7_told 101 = .ok (.aload_n 0, 1) := by decide +kernel
theorem dX7_told_102 : decode cX7_told 102 = .ok (.iload_n 1, 1) := by decide +kernel
theorem dX7_told_103 : decode cX7_told 103 = .ok (.invokevirtual 184, 3) := by decide +kernel
theorem dX7_told_106 : decode cX7_told 106 = .ok (.ifCond .ne 5, 3) := by decide +kernel
theorem dX7_told_109 : decode cX7_told 109 = .ok (.iconst (-1), 1) := by decide +kernel
theorem dX7_told_110 : decode cX7_told 110 = .ok (.ireturn, 1) := by decide +kernel
theorem dX7_told_111 : decode cX7_told 111 = .ok (.iload_n 3, 1) := by decide +kernel
theorem dX7_told_112 : decode cX7_told 112 = .ok (.iconst 5, 1) := by decide +kernel
theorem dX7_told_113 : decode cX7_told 113 = .ok (.if_icmp .ne 23, 3) := by decide +kernel
theorem dX7_told_116 : decode cX7_told 116 = .ok (.aload_n 0, 1) := by decide +kernel
theorem dX7_told_117 : decode cX7_told 117 = .ok (.iload_n 1, 1) := by decide +kernel
theorem dX7_told_118 : decode cX7_told 118 = .ok (.invokevirtual 187, 3) := by decide +kernel
theorem dX7_told_121 : decode cX7_told 121 = .ok (.aload_n 0, 1) := by decide +kernel
theorem dX7_told_122 : decode cX7_told 122 = .ok (.getfield 86, 3) := by decide +kernel
theorem dX7_told_125 : decode cX7_told 125 = .ok (.iload_n 2, 1) := by decide +kernel
theorem dX7_told_126 : decode cX7_told 126 = .ok (.baload, 1) := by decide +kernel
theorem dX7_told_127 : decode cX7_told 127 = .ok (.ifCond .eq 7, 3) := by decide +kernel
theorem dX7_told_130 : decode cX7_told 130 = .ok (.iconst 1, 1) := by decide +kernel
theorem dX7_told_131 : decode cX7_told 131 = .ok (.goto 4, 3) := by decide +kernel
theorem dX7_told_134 : decode cX7_told 134 = .ok (.iconst 0, 1) := by decide +kernel
theorem dX7_told_135 : decode cX7_told 135 = .ok (.ireturn, 1) := by decide +kernel
theorem dX7_told_136 : decode cX7_told 136 = .ok (.aload_n 0, 1) := by decide +kernel
theorem dX7_told_137 : decode cX7_told 137 = .ok (.iload_n 1, 1) := by decide +kernel
theorem dX7_told_138 : decode cX7_told 138 = .ok (.invokevirtual 191, 3) := by decide +kernel
theorem dX7_told_141 : decode cX7_told 141 = .ok (.iconst (-1), 1) := by decide +kernel
theorem dX7_told_142 : decode cX7_told 142 = .ok (.istore 5, 2) := by decide +kernel
theorem dX7_told_144 : decode cX7_told 144 = .ok (.iconst 0, 1) := by decide +kernel
theorem dX7_told_145 : decode cX7_told 145 = .ok (.istore 6, 2) := by decide +kernel
theorem dX7_told_147 : decode cX7_told 147 = .ok (.iload 6, 2) := by decide +kernel
theorem dX7_told_149 : decode cX7_told 149 = .ok (.aload_n 0, 1) := by decide +kernel
theorem dX7_told_150 : decode cX7_told 150 = .ok (.getfield 160, 3) := by decide +kernel
theorem dX7_told_153 : decode cX7_told 153 = .ok (.if_icmp .ge 133, 3) := by decide +kernel
theorem dX7_told_156 : decode cX7_told 156 = .ok (.aload_n 0, 1) := by decide +kernel
theorem dX7_told_157 : decode cX7_told 157 = .ok (.getfield 41, 3) := by decide +kernel
theorem dX7_told_160 : decode cX7_told 160 = .ok (.iload 6, 2) := by decide +kernel
theorem dX7_told_162 : decode cX7_told 162 = .ok (.iaload, 1) := by decide +kernel
theorem dX7_told_163 : decode cX7_told 163 = .ok (.istore 7, 2) := by decide +kernel
theorem dX7_told_165 : decode cX7_told 165 = .ok (.iload 7, 2) := by decide +kernel
theorem dX7_told_167 : decode cX7_told 167 = .ok (.ifCond .eq 27, 3) := by decide +kernel
theorem dX7_told_170 : decode cX7_told 170 = .ok (.iload 7, 2) := by decide +kernel
theorem dX7_told_172 : decode cX7_told 172 = .ok (.iconst 5, 1) := by decide +kernel
theorem dX7_told_173 : decode cX7_told 173 = .ok (.if_icmp .gt 21, 3) := by decide +kernel
theorem dX7_told_176 : decode cX7_told 176 = .ok (.iload 7, 2) := by decide +kernel
theorem dX7_told_178 : decode cX7_told 178 = .ok (.iconst 1, 1) := by decide +kernel
theorem dX7_told_179 : decode cX7_told 179 = .ok (.if_icmp .eq 15, 3) := by decide +kernel
theorem dX7_told_182 : decode cX7_told 182 = .ok (.iload 7, 2) := by decide +kernel
theorem dX7_told_184 : decode cX7_told 184 = .ok (.iconst 2, 1) := by decide +kernel
theorem dX7_told_185 : decode cX7_told 185 = .ok (.if_icmp .eq 9, 3) := by decide +kernel
theorem dX7_told_188 : decode cX7_told 188 = .ok (.iload 7, 2) := by decide +kernel
theorem dX7_told_190 : decode cX7_told 190 = .ok (.iconst 4, 1) := by decide +kernel
theorem dX7_told_191 : decode cX7_told 191 = .ok (.if_icmp .ne 7, 3) := by decide +kernel
theorem dX7_told_194 : decode cX7_told 194 = .ok (.iconst 1, 1) := by decide +kernel
theorem dX7_told_195 : decode cX7_told 195 = .ok (.goto 4, 3) := by decide +kernel
theorem dX7_told_198 : decode cX7_told 198 = .ok (.iconst 0, 1) := by decide +kernel
theorem dX7_told_199 : decode cX7_told 199 = .ok (.istore 8, 2) := by decide +kernel
theorem dX7_told_201 : decode cX7_told 201 = .ok (.iload 8, 2) := by decide +kernel
theorem dX7_told_203 : decode cX7_told 203 = .ok (.ifCond .eq 14, 3) := by decide +kernel
theorem dX7_told_206 : decode cX7_told 206 = .ok (.aload_n 0, 1) := by decide +kernel
theorem dX7_told_207 : decode cX7_told 207 = .ok (.getfield 44, 3) := by decide +kernel
theorem dX7_told_210 : decode cX7_told 210 = .ok (.iload 6, 2) := by decide +kernel
theorem dX7_told_212 : decode cX7_told 212 = .ok (.iaload, 1) := by decide +kernel
theorem dX7_told_213 : decode cX7_told 213 = .ok (.iload_n 2, 1) := by decide +kernel
theorem dX7_told_214 : decode cX7_told 214 = .ok (.if_icmp .eq 45, 3) := by decide +kernel
theorem dX7_told_217 : decode cX7_told 217 = .ok (.iload 7, 2) := by decide +kernel
theorem dX7_told_219 : decode cX7_told 219 = .ok (.iconst 3, 1) := by decide +kernel
theorem dX7_told_220 : decode cX7_told 220 = .ok (.iconst 5, 1) := by decide +kernel
theorem dX7_told_221 : decode cX7_told 221 = .ok (.invokestatic 138, 3) := by decide +kernel
theorem dX7_told_224 : decode cX7_told 224 = .ok (.ifCond .eq 16, 3) := by decide +kernel
theorem dX7_told_227 : decode cX7_told 227 = .ok (.aload_n 0, 1) := by decide +kernel
theorem dX7_told_228 : decode cX7_told 228 = .ok (.getfield 47, 3) := by decide +kernel
theorem dX7_told_231 : decode cX7_told 231 = .ok (.iload 6, 2) := by decide +kernel
theorem dX7_told_233 : decode cX7_told 233 = .ok (.iaload, 1) := by decide +kernel
theorem dX7_told_234 : decode cX7_told 234 = .ok (.iconst 1, 1) := by decide +kernel
theorem dX7_told_235 : decode cX7_told 235 = .ok (.isub, 1) := by decide +kernel
theorem dX7_told_236 : decode cX7_told 236 = .ok (.iload_n 2, 1) := by decide +kernel
theorem dX7_told_237 : decode cX7_told 237 = .ok (.if_icmp .eq 22, 3) := by decide +kernel
theorem dX7_told_240 : decode cX7_told 240 = .ok (.iload 7, 2) := by decide +kernel
theorem dX7_told_242 : decode cX7_told 242 = .ok (.iconst 2, 1) := by decide +kernel
theorem dX7_told_243 : decode cX7_told 243 = .ok (.if_icmp .ne 20, 3) := by decide +kernel
theorem dX7_told_246 : decode cX7_told 246 = .ok (.aload_n 0, 1) := by decide +kernel
theorem dX7_told_247 : decode cX7_told 247 = .ok (.getfield 62, 3) := by decide +kernel
theorem dX7_told_250 : decode cX7_told 250 = .ok (.iload 6, 2) := by decide +kernel
theorem dX7_told_252 : decode cX7_told 252 = .ok (.iaload, 1) := by decide +kernel
theorem dX7_told_253 : decode cX7_told 253 = .ok (.iconst 1, 1) := by decide +kernel
theorem dX7_told_254 : decode cX7_told 254 = .ok (.isub, 1) := by decide +kernel
theorem dX7_told_255 : decode cX7_told 255 = .ok (.iload_n 2, 1) := by decide +kernel
theorem dX7_told_256 : decode cX7_told 256 = .ok (.if_icmp .ne 7, 3) := by decide +kernel
theorem dX7_told_259 : decode cX7_told 259 = .ok (.iconst 1, 1) := by decide +kernel
theorem dX7_told_260 : decode cX7_told 260 = .ok (.goto 4, 3) := by decide +kernel
theorem dX7_told_263 : decode cX7_told 263 = .ok (.iconst 0, 1) := by decide +kernel
theorem dX7_told_264 : decode cX7_told 264 = .ok (.istore 9, 2) := by decide +kernel
theorem dX7_told_266 : decode cX7_told 266 = .ok (.iload 9, 2) := by decide +kernel
theorem dX7_told_268 : decode cX7_told 268 = .ok (.ifCond .eq 8, 3) := by decide +kernel
theorem dX7_told_271 : decode cX7_told 271 = .ok (.iload 6, 2) := by decide +kernel
theorem dX7_told_273 : decode cX7_told 273 = .ok (.goto 5, 3) := by decide +kernel
theorem dX7_told_276 : decode cX7_told 276 = .ok (.iload 5, 2) := by decide +kernel
theorem dX7_told_278 : decode cX7_told 278 = .ok (.istore 5, 2) := by decide +kernel
theorem dX7_told_280 : decode cX7_told 280 = .ok (.iinc 6 1, 3) := by decide +kernel
theorem dX7_told_283 : decode cX7_told 283 = .ok (.goto (-136), 3) := by decide +kernel
theorem dX7_told_286 : decode cX7_told 286 = .ok (.iload 5, 2) := by decide +kernel
theorem dX7_told_288 : decode cX7_told 288 = .ok (.ireturn, 1) := by decide +kernel
theorem dX7_areLike_0 : decode cX7_areLike 0 = .ok (.aload_n 0, 1) := by decide +kernel
theorem dX7_areLike_1 : decode cX7_areLike 1 = .ok (.getfield 7, 3) := by decide +kernel
theorem dX7_areLike_4 : decode cX7_areLike 4 = .ok (.iload_n 1, 1) := by decide +kernel
theorem dX7_areLike_5 : decode cX7_areLike 5 = .ok (.iaload, 1) := by decide +kernel
theorem dX7_areLike_6 : decode cX7_areLike 6 = .ok (.aload_n 0, 1) := by decide +kernel
theorem dX7_areLike_7 : decode cX7_areLike 7 = .ok (.getfield 7, 3) := by decide +kernel
theorem dX7_areLike_10 : decode cX7_areLike 10 = .ok (.iload_n 2, 1) := by decide +kernel
theorem dX7_areLike_11 : decode cX7_areLike 11 = .ok (.iaload, 1) := by decide +kernel
theorem dX7_areLike_12 : decode cX7_areLike 12 = .ok (.if_icmp .ne 7, 3) := by decide +kernel
theorem dX7_areLike_15 : decode cX7_areLike 15 = .ok (.iconst 1, 1) := by decide +kernel
theorem dX7_areLike_16 : decode cX7_areLike 16 = .ok (.goto 4, 3) := by decide +kernel
theorem dX7_areLike_19 : decode cX7_areLike 19 = .ok (.iconst 0, 1) := by decide +kernel
theorem dX7_areLike_20 : decode cX7_areLike 20 = .ok (.istore_n 3, 1) := by decide +kernel
theorem dX7_areLike_21 : decode cX7_areLike 21 = .ok (.iconst 0, 1) := by decide +kernel
theorem dX7_areLike_22 : decode cX7_areLike 22 = .ok (.istore 4, 2) := by decide +kernel
theorem dX7_areLike_24 : decode cX7_areLike 24 = .ok (.iload 4, 2) := by decide +kernel
theorem dX7_areLike_26 : decode cX7_areLike 26 = .ok (.aload_n 0, 1) := by decide +kernel
theorem dX7_areLike_27 : decode cX7_areLike 27 = .ok (.getfield 7, 3) := by decide +kernel
theorem dX7_areLike_30 : decode cX7_areLike 30 = .ok (.iload_n 1, 1) := by decide +kernel
theorem dX7_areLike_31 : decode cX7_areLike 31 = .ok (.iaload, 1) := by decide +kernel
theorem dX7_areLike_32 : decode cX7_areLike 32 = .ok (.if_icmp .ge 105, 3) := by decide +kernel
theorem dX7_areLike_35 : decode cX7_areLike 35 = .ok (.iload_n 3, 1) := by decide +kernel
theorem dX7_areLike_36 : decode cX7_areLike 36 = .ok (.ifCond .eq 101, 3) := by decide +kernel
theorem dX7_areLike_39 : decode cX7_areLike 39 = .ok (.bipush 60, 2) := by decide +kernel
theorem dX7_areLike_41 : decode cX7_areLike 41 = .ok (.iload_n 1, 1) := by decide +kernel
theorem dX7_areLike_42 : decode cX7_areLike 42 = .ok (.imul, 1) := by decide +kernel
theorem dX7_areLike_43 : decode cX7_areLike 43 = .ok (.iload 4, 2) := by decide +kernel
theorem dX7_areLike_45 : decode cX7_areLike 45 = .ok (.iadd, 1) := by decide +kernel
theorem dX7_areLike_46 : decode cX7_areLike 46 = .ok (.istore 5, 2) := by decide +kernel
theorem dX7_areLike_48 : decode cX7_areLike 48 = .ok (.bipush 60, 2) := by decide +kernel
theorem dX7_areLike_50 : decode cX7_areLike 50 = .ok (.iload_n 2, 1) := by decide +kernel
theorem dX7_areLike_51 : decode cX7_areLike 51 = .ok (.imul, 1) := by decide +kernel
theorem dX7_areLike_52 : decode cX7_areLike 52 = .ok (.iload 4, 2) := by decide +kernel
theorem dX7_areLike_54 : decode cX7_areLike 54 = .ok (.iadd, 1) := by decide +kernel
theorem dX7_areLike_55 : decode cX7_areLike 55 = .ok (.istore 6, 2) := by decide +kernel
theorem dX7_areLike_57 : decode cX7_areLike 57 = .ok (.aload_n 0, 1) := by decide +kernel
theorem dX7_areLike_58 : decode cX7_areLike 58 = .ok (.getfield 13, 3) := by decide +kernel
theorem dX7_areLike_61 : decode cX7_areLike 61 = .ok (.iload 5, 2) := by decide +kernel
theorem dX7_areLike_63 : decode cX7_areLike 63 = .ok (.iaload, 1) := by decide +kernel
theorem dX7_areLike_64 : decode cX7_areLike 64 = .ok (.aload_n 0, 1) := by decide +kernel
theorem dX7_areLike_65 : decode cX7_areLike 65 = .ok (.getfield 13, 3) := by decide +kernel
theorem dX7_areLike_68 : decode cX7_areLike 68 = .ok (.iload 6, 2) := by decide +kernel
theorem dX7_areLike_70 : decode cX7_areLike 70 = .ok (.iaload, 1) := by decide +kernel
theorem dX7_areLike_71 : decode cX7_areLike 71 = .ok (.if_icmp .ne 58, 3) := by decide +kernel
theorem dX7_areLike_74 : decode cX7_areLike 74 = .ok (.aload_n 0, 1) := by decide +kernel
theorem dX7_areLike_75 : decode cX7_areLike 75 = .ok (.getfield 16, 3) := by decide +kernel
theorem dX7_areLike_78 : decode cX7_areLike 78 = .ok (.iload 5, 2) := by decide +kernel
theorem dX7_areLike_80 : decode cX7_areLike 80 = .ok (.iaload, 1) := by decide +kernel
theorem dX7_areLike_81 : decode cX7_areLike 81 = .ok (.aload_n 0, 1) := by decide +kernel
theorem dX7_areLike_82 : decode cX7_areLike 82 = .ok (.getfield 16, 3) := by decide +kernel
theorem dX7_areLike_85 : decode cX7_areLike 85 = .ok (.iload 6, 2) := by decide +kernel
theorem dX7_areLike_87 : decode cX7_areLike 87 = .ok (.iaload, 1) := by decide +kernel
theorem dX7_areLike_88 : decode cX7_areLike 88 = .ok (.if_icmp .ne 41, 3) := by decide +kernel
theorem dX7_areLike_91 : decode cX7_areLike 91 = .ok (.aload_n 0, 1) := by decide +kernel
theorem dX7_areLike_92 : decode cX7_areLike 92 = .ok (.getfield 19, 3) := by decide +kernel
theorem dX7_areLike_95 : decode cX7_areLike 95 = .ok (.iload 5, 2) := by decide +kernel
theorem dX7_areLike_97 : decode cX7_areLike 97 = .ok (.iaload, 1) := by decide +kernel
theorem dX7_areLike_98 : decode cX7_areLike 98 = .ok (.aload_n 0, 1) := by decide +kernel
theorem dX7_areLike_99 : decode cX7_areLike 99 = .ok (.getfield 19, 3) := by decide +kernel
theorem dX7_areLike_102 : decode cX7_areLike 102 = .ok (.iload 6, 2) := by decide +kernel
theorem dX7_areLike_104 : decode cX7_areLike 104 = .ok (.iaload, 1) := by decide +kernel
theorem dX7_areLike_105 : decode cX7_areLike 105 = .ok (.if_icmp .ne 24, 3) := by decide +kernel
theorem dX7_areLike_108 : decode cX7_areLike 108 = .ok (.aload_n 0, 1) := by decide +kernel
theorem dX7_areLike_109 : decode cX7_areLike 109 = .ok (.getfield 22, 3) := by decide +kernel
theorem dX7_areLike_112 : decode cX7_areLike 112 = .ok (.iload 5, 2) := by decide +kernel
theorem dX7_areLike_114 : decode cX7_areLike 114 = .ok (.iaload, 1) := by decide +kernel
theorem dX7_areLike_115 : decode cX7_areLike 115 = .ok (.aload_n 0, 1) := by decide +kernel
theorem dX7_areLike_116 : decode cX7_areLike 116 = .ok (.getfield 22, 3) := by decide +kernel
theorem dX7_areLike_119 : decode cX7_areLike 119 = .ok (.iload 6, 2) := by decide +kernel
theorem dX7_areLike_121 : decode cX7_areLike 121 = .ok (.iaload, 1) := by decide +kernel
theorem dX7_areLike_122 : decode cX7_areLike 122 = .ok (.if_icmp .ne 7, 3) := by decide +kernel
theorem dX7_areLike_125 : decode cX7_areLike 125 = .ok (.iconst 1, 1) := by decide +kernel
theorem dX7_areLike_126 : decode cX7_areLike 126 = .ok (.goto 4, 3) := by decide +kernel
theorem dX7_areLike_129 : decode cX7_areLike 129 = .ok (.iconst 0, 1) := by decide +kernel
theorem dX7_areLike_130 : decode cX7_areLike 130 = .ok (.istore_n 3, 1) := by decide +kernel
theorem dX7_areLike_131 : decode cX7_areLike 131 = .ok (.iinc 4 1, 3) := by decide +kernel
theorem dX7_areLike_134 : decode cX7_areLike 134 = .ok (.goto (-110), 3) := by decide +kernel
theorem dX7_areLike_137 : decode cX7_areLike 137 = .ok (.iload_n 3, 1) := by decide +kernel
theorem dX7_areLike_138 : decode cX7_areLike 138 = .ok (.ireturn, 1) := by decide +kernel
theorem dX7_doesCall_0 : decode cX7_doesCall 0 = .ok (.iconst 0, 1) := by decide +kernel
theorem dX7_doesCall_1 : decode cX7_doesCall 1 = .ok (.istore_n 3, 1) := by decide +kernel
theorem dX7_doesCall_2 : decode cX7_doesCall 2 = .ok (.bipush 60, 2) := by decide +kernel
theorem dX7_doesCall_4 : decode cX7_doesCall 4 = .ok (.iload_n 1, 1) := by decide +kernel
theorem dX7_doesCall_5 : decode cX7_doesCall 5 = .ok (.imul, 1) := by decide +kernel
theorem dX7_doesCall_6 : decode cX7_doesCall 6 = .ok (.istore 4, 2) := by decide +kernel
theorem dX7_doesCall_8 : decode cX7_doesCall 8 = .ok (.iload 4, 2) := by decide +kernel
theorem dX7_doesCall_10 : decode cX7_doesCall 10 = .ok (.bipush 60, 2) := by decide +kernel
theorem dX7_doesCall_12 : decode cX7_doesCall 12 = .ok (.iload_n 1, 1) := by decide +kernel
theorem dX7_doesCall_13 : decode cX7_doesCall 13 = .ok (.imul, 1) := by decide +kernel
theorem dX7_doesCall_14 : decode cX7_doesCall 14 = .ok (.aload_n 0, 1) := by decide +kernel
theorem dX7_doesCall_15 : decode cX7_doesCall 15 = .ok (.getfield 7, 3) := by decide +kernel
theorem dX7_doesCall_18 : decode cX7_doesCall 18 = .ok (.iload_n 1, 1) := by decide +kernel
theorem dX7_doesCall_19 : decode cX7_doesCall 19 = .ok (.iaload, 1) := by decide +kernel
theorem dX7_doesCall_20 : decode cX7_doesCall 20 = .ok (.iadd, 1) := by decide +kernel
theorem dX7_doesCall_21 : decode cX7_doesCall 21 = .ok (.if_icmp .ge 41, 3) := by decide +kernel
theorem dX7_doesCall_24 : decode cX7_doesCall 24 = .ok (.iload_n 3, 1) := by decide +kernel
theorem dX7_doesCall_25 : decode cX7_doesCall 25 = .ok (.ifCond .ne 25, 3) := by decide +kernel
theorem dX7_doesCall_28 : decode cX7_doesCall 28 = .ok (.aload_n 0, 1) := by decide +kernel
theorem dX7_doesCall_29 : decode cX7_doesCall 29 = .ok (.getfield 13, 3) := by decide +kernel
theorem dX7_doesCall_32 : decode cX7_doesCall 32 = .ok (.iload 4, 2) := by decide +kernel
theorem dX7_doesCall_34 : decode cX7_doesCall 34 = .ok (.iaload, 1) := by decide +kernel
theorem dX7_doesCall_35 : decode cX7_doesCall 35 = .ok (.iconst 5, 1) := by decide +kernel
theorem dX7_doesCall_36 : decode cX7_doesCall 36 = .ok (.if_icmp .ne 18, 3) := by decide +kernel
theorem dX7_doesCall_39 : decode cX7_doesCall 39 = .ok (.aload_n 0, 1) := by decide +kernel
theorem dX7_doesCall_40 : decode cX7_doesCall 40 = .ok (.getfield 16, 3) := by decide +kernel
theorem dX7_doesCall_43 : decode cX7_doesCall 43 = .ok (.iload 4, 2) := by decide +kernel
theorem dX7_doesCall_45 : decode cX7_doesCall 45 = .ok (.iaload, 1) := by decide +kernel
theorem dX7_doesCall_46 : decode cX7_doesCall 46 = .ok (.iload_n 2, 1) := by decide +kernel
theorem dX7_doesCall_47 : decode cX7_doesCall 47 = .ok (.if_icmp .ne 7, 3) := by decide +kernel
theorem dX7_doesCall_50 : decode cX7_doesCall 50 = .ok (.iconst 1, 1) := by decide +kernel
theorem dX7_doesCall_51 : decode cX7_doesCall 51 = .ok (.goto 4, 3) := by decide +kernel
theorem dX7_doesCall_54 : decode cX7_doesCall 54 = .ok (.iconst 0, 1) := by decide +kernel
theorem dX7_doesCall_55 : decode cX7_doesCall 55 = .ok (.istore_n 3, 1) := by decide +kernel
theorem dX7_doesCall_56 : decode cX7_doesCall 56 = .ok (.iinc 4 1, 3) := by decide +kernel
theorem dX7_doesCall_59 : decode cX7_doesCall 59 = .ok (.goto (-51), 3) := by decide +kernel
theorem dX7_doesCall_62 : decode cX7_doesCall 62 = .ok (.iload_n 3, 1) := by decide +kernel
theorem dX7_doesCall_63 : decode cX7_doesCall 63 = .ok (.ireturn, 1) := by decide +kernel
theorem dX7_depthOf_0 : decode cX7_depthOf 0 = .ok (.iconst 1, 1) := by decide +kernel
theorem dX7_depthOf_1 : decode cX7_depthOf 1 = .ok (.istore_n 2, 1) := by decide +kernel
theorem dX7_depthOf_2 : decode cX7_depthOf 2 = .ok (.aload_n 0, 1) := by decide +kernel
theorem dX7_depthOf_3 : decode cX7_depthOf 3 = .ok (.getfield 50, 3) := by decide +kernel
theorem dX7_depthOf_6 : decode cX7_depthOf 6 = .ok (.iload_n 1, 1) := by decide +kernel
theorem dX7_depthOf_7 : decode cX7_depthOf 7 = .ok (.iaload, 1) := by decide +kernel
theorem dX7_depthOf_8 : decode cX7_depthOf 8 = .ok (.istore_n 3, 1) := by decide +kernel
theorem dX7_depthOf_9 : decode cX7_depthOf 9 = .ok (.iload_n 3, 1) := by decide +kernel
theorem dX7_depthOf_10 : decode cX7_depthOf 10 = .ok (.iconst (-1), 1) := by decide +kernel
theorem dX7_depthOf_11 : decode cX7_depthOf 11 = .ok (.if_icmp .eq 16, 3) := by decide +kernel
theorem dX7_depthOf_14 : decode cX7_depthOf 14 = .ok (.iinc 2 1, 3) := by decide +kernel
theorem dX7_depthOf_17 : decode cX7_depthOf 17 = .ok (.aload_n 0, 1) := by decide +kernel
theorem dX7_depthOf_18 : decode cX7_depthOf 18 = .ok (.getfield 50, 3) := by decide +kernel
theorem dX7_depthOf_21 : decode cX7_depthOf 21 = .ok (.iload_n 3, 1) := by decide +kernel
theorem dX7_depthOf_22 : decode cX7_depthOf 22 = .ok (.iaload, 1) := by decide +kernel
theorem dX7_depthOf_23 : decode cX7_depthOf 23 = .ok (.istore_n 3, 1) := by decide +kernel
theorem dX7_depthOf_24 : decode cX7_depthOf 24 = .ok (.goto (-15), 3) := by decide +kernel
theorem dX7_depthOf_27 : decode cX7_depthOf 27 = .ok (.iload_n 2, 1) := by decide +kernel
theorem dX7_depthOf_28 : decode cX7_depthOf 28 = .ok (.ireturn, 1) := by decide +kernel
theorem dX7_of_0 : decode cX7_of 0 = .ok (.aload_n 0, 1) := by decide +kernel
theorem dX7_of_1 : decode cX7_of 1 = .ok (.iload_n 1, 1) := by decide +kernel
theorem dX7_of_2 : decode cX7_of 2 = .ok (.invokevirtual 142, 3) := by decide +kernel
theorem dX7_of_5 : decode cX7_of 5 = .ok (.ifCond .eq 13, 3) := by decide +kernel
theorem dX7_of_8 : decode cX7_of 8 = .ok (.iload_n 2, 1) := by decide +kernel
theorem dX7_of_9 : decode cX7_of 9 = .ok (.iconst 0, 1) := by decide +kernel
theorem dX7_of_10 : decode cX7_of 10 = .ok (.bipush 7, 2) := by decide +kernel
theorem dX7_of_12 : decode cX7_of 12 = .ok (.invokestatic 138, 3) := by decide +kernel
theorem dX7_of_15 : decode cX7_of 15 = .ok (.ifCond .ne 6, 3) := by decide +kernel
theorem dX7_of_18 : decode cX7_of 18 = .ok (.bipush (-2), 2) := by decide +kernel
theorem dX7_of_20 : decode cX7_of 20 = .ok (.ireturn, 1) := by decide +kernel
theorem dX7_of_21 : decode cX7_of 21 = .ok (.iload_n 2, 1) := by decide +kernel
theorem dX7_of_22 : decode cX7_of 22 = .ok (.ifCond .ne 10, 3) := by decide +kernel
theorem dX7_of_25 : decode cX7_of 25 = .ok (.aload_n 0, 1) := by decide +kernel
theorem dX7_of_26 : decode cX7_of 26 = .ok (.getfield 7, 3) := by decide +kernel
theorem dX7_of_29 : decode cX7_of 29 = .ok (.iload_n 1, 1) := by decide +kernel
theorem dX7_of_30 : decode cX7_of 30 = .ok (.iaload, 1) := by decide +kernel
theorem dX7_of_31 : decode cX7_of 31 = .ok (.ireturn, 1) := by decide +kernel
theorem dX7_of_32 : decode cX7_of 32 = .ok (.iload_n 2, 1) := by decide +kernel
theorem dX7_of_33 : decode cX7_of 33 = .ok (.iconst 1, 1) := by decide +kernel
theorem dX7_of_34 : decode cX7_of 34 = .ok (.if_icmp .ne 17, 3) := by decide +kernel
theorem dX7_of_37 : decode cX7_of 37 = .ok (.aload_n 0, 1) := by decide +kernel
theorem dX7_of_38 : decode cX7_of 38 = .ok (.iload_n 1, 1) := by decide +kernel
theorem dX7_of_39 : decode cX7_of 39 = .ok (.invokevirtual 184, 3) := by decide +kernel
theorem dX7_of_42 : decode cX7_of 42 = .ok (.ifCond .eq 7, 3) := by decide +kernel
theorem dX7_of_45 : decode cX7_of 45 = .ok (.iconst 1, 1) := by decide +kernel
theorem dX7_of_46 : decode cX7_of 46 = .ok (.goto 4, 3) := by decide +kernel
theorem dX7_of_49 : decode cX7_of 49 = .ok (.iconst 0, 1) := by decide +kernel
theorem dX7_of_50 : decode cX7_of 50 = .ok (.ireturn, 1) := by decide +kernel
theorem dX7_of_51 : decode cX7_of 51 = .ok (.iload_n 2, 1) := by decide +kernel
theorem dX7_of_52 : decode cX7_of 52 = .ok (.iconst 2, 1) := by decide +kernel
theorem dX7_of_53 : decode cX7_of 53 = .ok (.if_icmp .ne 22, 3) := by decide +kernel
theorem dX7_of_56 : decode cX7_of 56 = .ok (.iconst 0, 1) := by decide +kernel
theorem dX7_of_57 : decode cX7_of 57 = .ok (.istore_n 3, 1) := by decide +kernel
theorem dX7_of_58 : decode cX7_of 58 = .ok (.aload_n 0, 1) := by decide +kernel
theorem dX7_of_59 : decode cX7_of 59 = .ok (.iload_n 3, 1) := by decide +kernel
theorem dX7_of_60 : decode cX7_of 60 = .ok (.iload_n 1, 1) := by decide +kernel
theorem dX7_of_61 : decode cX7_of 61 = .ok (.invokevirtual 194, 3) := by decide +kernel
theorem dX7_of_64 : decode cX7_of 64 = .ok (.ifCond .ne 9, 3) := by decide +kernel
theorem dX7_of_67 : decode cX7_of 67 = .ok (.iinc 3 1, 3) := by decide +kernel
theorem dX7_of_70 : decode cX7_of 70 = .ok (.goto (-12), 3) := by decide +kernel
theorem dX7_of_73 : decode cX7_of 73 = .ok (.iload_n 3, 1) := by decide +kernel
theorem dX7_of_74 : decode cX7_of 74 = .ok (.ireturn, 1) := by decide +kernel
theorem dX7_of_75 : decode cX7_of 75 = .ok (.aload_n 0, 1) := by decide +kernel
theorem dX7_of_76 : decode cX7_of 76 = .ok (.iload_n 1, 1) := by decide +kernel
theorem dX7_of_77 : decode cX7_of 77 = .ok (.invokevirtual 184, 3) := by decide +kernel
theorem dX7_of_80 : decode cX7_of 80 = .ok (.ifCond .ne 5, 3) := by decide +kernel
theorem dX7_of_83 : decode cX7_of 83 = .ok (.iconst (-1), 1) := by decide +kernel
theorem dX7_of_84 : decode cX7_of 84 = .ok (.ireturn, 1) := by decide +kernel
theorem dX7_of_85 : decode cX7_of 85 = .ok (.aload_n 0, 1) := by decide +kernel
theorem dX7_of_86 : decode cX7_of 86 = .ok (.iload_n 1, 1) := by decide +kernel
theorem dX7_of_87 : decode cX7_of 87 = .ok (.invokevirtual 191, 3) := by decide +kernel
theorem dX7_of_90 : decode cX7_of 90 = .ok (.iconst 0, 1) := by decide +kernel
theorem dX7_of_91 : decode cX7_of 91 = .ok (.istore_n 3, 1) := by decide +kernel
theorem dX7_of_92 : decode cX7_of 92 = .ok (.iload_n 2, 1) := by decide +kernel
theorem dX7_of_93 : decode cX7_of 93 = .ok (.iconst 3, 1) := by decide +kernel
theorem dX7_of_94 : decode cX7_of 94 = .ok (.if_icmp .ne 8, 3) := by decide +kernel
theorem dX7_of_97 : decode cX7_of 97 = .ok (.aload_n 0, 1) := by decide +kernel
theorem dX7_of_98 : decode cX7_of 98 = .ok (.getfield 160, 3) := by decide +kernel
theorem dX7_of_101 : decode cX7_of 101 = .ok (.ireturn, 1) := by decide +kernel
theorem dX7_of_102 : decode cX7_of 102 = .ok (.iload_n 2, 1) := by decide +kernel
theorem dX7_of_103 : decode cX7_of 103 = .ok (.iconst 4, 1) := by decide +kernel
theorem dX7_of_104 : decode cX7_of 104 = .ok (.if_icmp .ne 55, 3) := by decide +kernel
theorem dX7_of_107 : decode cX7_of 107 = .ok (.iconst 0, 1) := by decide +kernel
theorem dX7_of_108 : decode cX7_of 108 = .ok (.istore 4, 2) := by decide +kernel
theorem dX7_of_110 : decode cX7_of 110 = .ok (.iload 4, 2) := by decide +kernel
theorem dX7_of_112 : decode cX7_of 112 = .ok (.aload_n 0, 1) := by decide +kernel
theorem dX7_of_113 : decode cX7_of 113 = .ok (.getfield 160, 3) := by decide +kernel
theorem dX7_of_116 : decode cX7_of 116 = .ok (.if_icmp .ge 41, 3) := by decide +kernel
theorem dX7_of_119 : decode cX7_of 119 = .ok (.iload_n 3, 1) := by decide +kernel
theorem dX7_of_120 : decode cX7_of 120 = .ok (.aload_n 0, 1) := by decide +kernel
theorem dX7_of_121 : decode cX7_of 121 = .ok (.getfield 41, 3) := by decide +kernel
theorem dX7_of_124 : decode cX7_of 124 = .ok (.iload 4, 2) := by decide +kernel
theorem dX7_of_126 : decode cX7_of 126 = .ok (.iaload, 1) := by decide +kernel
theorem dX7_of_127 : decode cX7_of 127 = .ok (.bipush 8, 2) := by decide +kernel
theorem dX7_of_129 : decode cX7_of 129 = .ok (.if_icmp .eq 15, 3) := by decide +kernel
theorem dX7_of_132 : decode cX7_of 132 = .ok (.aload_n 0, 1) := by decide +kernel
theorem dX7_of_133 : decode cX7_of 133 = .ok (.getfield 41, 3) := by decide +kernel
theorem dX7_of_136 : decode cX7_of 136 = .ok (.iload 4, 2) := by decide +kernel
theorem dX7_of_138 : decode cX7_of 138 = .ok (.iaload, 1) := by decide +kernel
theorem dX7_of_139 : decode cX7_of 139 = .ok (.bipush 11, 2) := by decide +kernel
theorem dX7_of_141 : decode cX7_of 141 = .ok (.if_icmp .ne 7, 3) := by decide +kernel
theorem dX7_of_144 : decode cX7_of 144 = .ok (.iconst 1, 1) := by decide +kernel
theorem dX7_of_145 : decode cX7_of 145 = .ok (.goto 4, 3) := by decide +kernel
theorem dX7_of_148 : decode cX7_of 148 = .ok (.iconst 0, 1) := by decide +kernel
theorem dX7_of_149 : decode cX7_of 149 = .ok (.iadd, 1) := by decide +kernel
theorem dX7_of_150 : decode cX7_of 150 = .ok (.istore_n 3, 1) := by decide +kernel
theorem dX7_of_151 : decode cX7_of 151 = .ok (.iinc 4 1, 3) := by decide +kernel
theorem dX7_of_154 : decode cX7_of 154 = .ok (.goto (-44), 3) := by decide +kernel
theorem dX7_of_157 : decode cX7_of 157 = .ok (.iload_n 3, 1) := by decide +kernel
theorem dX7_of_158 : decode cX7_of 158 = .ok (.ireturn, 1) := by decide +kernel
theorem dX7_of_159 : decode cX7_of 159 = .ok (.iload_n 2, 1) := by decide +kernel
theorem dX7_of_160 : decode cX7_of 160 = .ok (.iconst 5, 1) := by decide +kernel
theorem dX7_of_161 : decode cX7_of 161 = .ok (.if_icmp .ne 48, 3) := by decide +kernel
theorem dX7_of_164 : decode cX7_of 164 = .ok (.aload_n 0, 1) := by decide +kernel
theorem dX7_of_165 : decode cX7_of 165 = .ok (.iload_n 1, 1) := by decide +kernel
theorem dX7_of_166 : decode cX7_of 166 = .ok (.invokevirtual 187, 3) := by decide +kernel
theorem dX7_of_169 : decode cX7_of 169 = .ok (.iconst 0, 1) := by decide +kernel
theorem dX7_of_170 : decode cX7_of 170 = .ok (.istore 4, 2) := by decide +kernel
theorem dX7_of_172 : decode cX7_of 172 = .ok (.iload 4, 2) := by decide +kernel
theorem dX7_of_174 : decode cX7_of 174 = .ok (.aload_n 0, 1) := by decide +kernel
theorem dX7_of_175 : decode cX7_of 175 = .ok (.getfield 7, 3) := by decide +kernel
theorem dX7_of_178 : decode cX7_of 178 = .ok (.iload_n 1, 1) := by decide +kernel
theorem dX7_of_179 : decode cX7_of 179 = .ok (.iaload, 1) := by decide +kernel
theorem dX7_of_180 : decode cX7_of 180 = .ok (.if_icmp .ge 27, 3) := by decide +kernel
theorem dX7_of_183 : decode cX7_of 183 = .ok (.iload_n 3, 1) := by decide +kernel
theorem dX7_of_184 : decode cX7_of 184 = .ok (.aload_n 0, 1) := by decide +kernel
theorem dX7_of_185 : decode cX7_of 185 = .ok (.getfield 86, 3) := by decide +kernel
theorem dX7_of_188 : decode cX7_of 188 = .ok (.iload 4, 2) := by decide +kernel
theorem dX7_of_190 : decode cX7_of 190 = .ok (.baload, 1) := by decide +kernel
theorem dX7_of_191 : decode cX7_of 191 = .ok (.ifCond .eq 7, 3) := by decide +kernel
theorem dX7_of_194 : decode cX7_of 194 = .ok (.iconst 0, 1) := by decide +kernel
theorem dX7_of_195 : decode cX7_of 195 = .ok (.goto 4, 3) := by decide +kernel
theorem dX7_of_198 : decode cX7_of 198 = .ok (.iconst 1, 1) := by decide +kernel
theorem dX7_of_199 : decode cX7_of 199 = .ok (.iadd, 1) := by decide +kernel
theorem dX7_of_200 : decode cX7_of 200 = .ok (.istore_n 3, 1) := by decide +kernel
theorem dX7_of_201 : decode cX7_of 201 = .ok (.iinc 4 1, 3) := by decide +kernel
theorem dX7_of_204 : decode cX7_of 204 = .ok (.goto (-32), 3) := by decide +kernel
theorem dX7_of_207 : decode cX7_of 207 = .ok (.iload_n 3, 1) := by decide +kernel
theorem dX7_of_208 : decode cX7_of 208 = .ok (.ireturn, 1) := by decide +kernel
theorem dX7_of_209 : decode cX7_of 209 = .ok (.iload_n 2, 1) := by decide +kernel
theorem dX7_of_210 : decode cX7_of 210 = .ok (.bipush 6, 2) := by decide +kernel
theorem dX7_of_212 : decode cX7_of 212 = .ok (.if_icmp .ne 67, 3) := by decide +kernel
theorem dX7_of_215 : decode cX7_of 215 = .ok (.iconst 1, 1) := by decide +kernel
theorem dX7_of_216 : decode cX7_of 216 = .ok (.istore_n 3, 1) := by decide +kernel
theorem dX7_of_217 : decode cX7_of 217 = .ok (.iconst 0, 1) := by decide +kernel
theorem dX7_of_218 : decode cX7_of 218 = .ok (.istore 4, 2) := by decide +kernel
theorem dX7_of_220 : decode cX7_of 220 = .ok (.iload 4, 2) := by decide +kernel
theorem dX7_of_222 : decode cX7_of 222 = .ok (.aload_n 0, 1) := by decide +kernel
theorem dX7_of_223 : decode cX7_of 223 = .ok (.getfield 160, 3) := by decide +kernel
theorem dX7_of_226 : decode cX7_of 226 = .ok (.if_icmp .ge 51, 3) := by decide +kernel
theorem dX7_of_229 : decode cX7_of 229 = .ok (.aload_n 0, 1) := by decide +kernel
theorem dX7_of_230 : decode cX7_of 230 = .ok (.iload 4, 2) := by decide +kernel
theorem dX7_of_232 : decode cX7_of 232 = .ok (.invokevirtual 198, 3) := by decide +kernel
theorem dX7_of_235 : decode cX7_of 235 = .ok (.aload_n 0, 1) := by decide +kernel
theorem dX7_of_236 : decode cX7_of 236 = .ok (.getfield 41, 3) := by decide +kernel
theorem dX7_of_239 : decode cX7_of 239 = .ok (.iload 4, 2) := by decide +kernel
theorem dX7_of_241 : decode cX7_of 241 = .ok (.iaload, 1) := by decide +kernel
theorem dX7_of_242 : decode cX7_of 242 = .ok (.iconst 1, 1) := by decide +kernel
theorem dX7_of_243 : decode cX7_of 243 = .ok (.iconst 5, 1) := by decide +kernel
theorem dX7_of_244 : decode cX7_of 244 = .ok (.invokestatic 138, 3) := by decide +kernel
theorem dX7_of_247 : decode cX7_of 247 = .ok (.ifCond .eq 7, 3) := by decide +kernel
theorem dX7_of_250 : decode cX7_of 250 = .ok (.iconst 1, 1) := by decide +kernel
theorem dX7_of_251 : decode cX7_of 251 = .ok (.goto 4, 3) := by decide +kernel
theorem dX7_of_254 : decode cX7_of 254 = .ok (.iconst 0, 1) := by decide +kernel
theorem dX7_of_255 : decode cX7_of 255 = .ok (.iadd, 1) := by decide +kernel
theorem dX7_of_256 : decode cX7_of 256 = .ok (.istore 5, 2) := by decide +kernel
theorem dX7_of_258 : decode cX7_of 258 = .ok (.iload 5, 2) := by decide +kernel
theorem dX7_of_260 : decode cX7_of 260 = .ok (.iload_n 3, 1) := by decide +kernel
theorem dX7_of_261 : decode cX7_of 261 = .ok (.if_icmp .le 8, 3) := by decide +kernel
theorem dX7_of_264 : decode cX7_of 264 = .ok (.iload 5, 2) := by decide +kernel
theorem dX7_of_266 : decode cX7_of 266 = .ok (.goto 4, 3) := by decide +kernel
theorem dX7_of_269 : decode cX7_of 269 = .ok (.iload_n 3, 1) := by decide +kernel
theorem dX7_of_270 : decode cX7_of 270 = .ok (.istore_n 3, 1) := by decide +kernel
theorem dX7_of_271 : decode cX7_of 271 = .ok (.iinc 4 1, 3) := by decide +kernel
theorem dX7_of_274 : decode cX7_of 274 = .ok (.goto (-54), 3) := by decide +kernel
theorem dX7_of_277 : decode cX7_of 277 = .ok (.iload_n 3, 1) := by decide +kernel
theorem dX7_of_278 : decode cX7_of 278 = .ok (.ireturn, 1) := by decide +kernel
theorem dX7_of_279 : decode cX7_of 279 = .ok (.iconst 0, 1) := by decide +kernel
theorem dX7_of_280 : decode cX7_of 280 = .ok (.istore 4, 2) := by decide +kernel
theorem dX7_of_282 : decode cX7_of 282 = .ok (.iload 4, 2) := by decide +kernel
theorem dX7_of_284 : decode cX7_of 284 = .ok (.aload_n 0, 1) := by decide +kernel
theorem dX7_of_285 : decode cX7_of 285 = .ok (.getfield 135, 3) := by decide +kernel
theorem dX7_of_288 : decode cX7_of 288 = .ok (.if_icmp .ge 27, 3) := by decide +kernel
theorem dX7_of_291 : decode cX7_of 291 = .ok (.iload_n 3, 1) := by decide +kernel
theorem dX7_of_292 : decode cX7_of 292 = .ok (.aload_n 0, 1) := by decide +kernel
theorem dX7_of_293 : decode cX7_of 293 = .ok (.iload 4, 2) := by decide +kernel
theorem dX7_of_295 : decode cX7_of 295 = .ok (.iload_n 1, 1) := by decide +kernel
theorem dX7_of_296 : decode cX7_of 296 = .ok (.invokevirtual 202, 3) := by decide +kernel
theorem dX7_of_299 : decode cX7_of 299 = .ok (.ifCond .eq 7, 3) := by decide +kernel
theorem dX7_of_302 : decode cX7_of 302 = .ok (.iconst 1, 1) := by decide +kernel
theorem dX7_of_303 : decode cX7_of 303 = .ok (.goto 4, 3) := by decide +kernel
theorem dX7_of_306 : decode cX7_of 306 = .ok (.iconst 0, 1) := by decide +kernel
theorem dX7_of_307 : decode cX7_of 307 = .ok (.iadd, 1) := by decide +kernel
theorem dX7_of_308 : decode cX7_of 308 = .ok (.istore_n 3, 1) := by decide +kernel
theorem dX7_of_309 : decode cX7_of 309 = .ok (.iinc 4 1, 3) := by decide +kernel
theorem dX7_of_312 : decode cX7_of 312 = .ok (.goto (-30), 3) := by decide +kernel
theorem dX7_of_315 : decode cX7_of 315 = .ok (.iload_n 3, 1) := by decide +kernel
theorem dX7_of_316 : decode cX7_of 316 = .ok (.ireturn, 1) := by decide +kernel
theorem dX7_isWithin_0 : decode cX7_isWithin 0 = .ok (.iconst 0, 1) := by decide +kernel
theorem dX7_isWithin_1 : decode cX7_isWithin 1 = .ok (.istore_n 3, 1) := by decide +kernel
theorem dX7_isWithin_2 : decode cX7_isWithin 2 = .ok (.aload_n 0, 1) := by decide +kernel
theorem dX7_isWithin_3 : decode cX7_isWithin 3 = .ok (.getfield 50, 3) := by decide +kernel
theorem dX7_isWithin_6 : decode cX7_isWithin 6 = .ok (.iload_n 1, 1) := by decide +kernel
theorem dX7_isWithin_7 : decode cX7_isWithin 7 = .ok (.iaload, 1) := by decide +kernel
theorem dX7_isWithin_8 : decode cX7_isWithin 8 = .ok (.istore 4, 2) := by decide +kernel
theorem dX7_isWithin_10 : decode cX7_isWithin 10 = .ok (.iload 4, 2) := by decide +kernel
theorem dX7_isWithin_12 : decode cX7_isWithin 12 = .ok (.iconst (-1), 1) := by decide +kernel
theorem dX7_isWithin_13 : decode cX7_isWithin 13 = .ok (.if_icmp .eq 31, 3) := by decide +kernel
theorem dX7_isWithin_16 : decode cX7_isWithin 16 = .ok (.iload_n 3, 1) := by decide +kernel
theorem dX7_isWithin_17 : decode cX7_isWithin 17 = .ok (.ifCond .ne 9, 3) := by decide +kernel
theorem dX7_isWithin_20 : decode cX7_isWithin 20 = .ok (.iload 4, 2) := by decide +kernel
theorem dX7_isWithin_22 : decode cX7_isWithin 22 = .ok (.iload_n 2, 1) := by decide +kernel
theorem dX7_isWithin_23 : decode cX7_isWithin 23 = .ok (.if_icmp .ne 7, 3) := by decide +kernel
theorem dX7_isWithin_26 : decode cX7_isWithin 26 = .ok (.iconst 1, 1) := by decide +kernel
theorem dX7_isWithin_27 : decode cX7_isWithin 27 = .ok (.goto 4, 3) := by decide +kernel
theorem dX7_isWithin_30 : decode cX7_isWithin 30 = .ok (.iconst 0, 1) := by decide +kernel
theorem dX7_isWithin_31 : decode cX7_isWithin 31 = .ok (.istore_n 3, 1) := by decide +kernel
theorem dX7_isWithin_32 : decode cX7_isWithin 32 = .ok (.aload_n 0, 1) := by decide +kernel
theorem dX7_isWithin_33 : decode cX7_isWithin 33 = .ok (.getfield 50, 3) := by decide +kernel
theorem dX7_isWithin_36 : decode cX7_isWithin 36 = .ok (.iload 4, 2) := by decide +kernel
theorem dX7_isWithin_38 : decode cX7_isWithin 38 = .ok (.iaload, 1) := by decide +kernel
theorem dX7_isWithin_39 : decode cX7_isWithin 39 = .ok (.istore 4, 2) := by decide +kernel
theorem dX7_isWithin_41 : decode cX7_isWithin 41 = .ok (.goto (-31), 3) := by decide +kernel
theorem dX7_isWithin_44 : decode cX7_isWithin 44 = .ok (.iload_n 3, 1) := by decide +kernel
theorem dX7_isWithin_45 : decode cX7_isWithin 45 = .ok (.ireturn, 1) := by decide +kernel
theorem dX7_statement_0 : decode cX7_statement 0 = .ok (.aload_n 0, 1) := by decide +kernel
theorem dX7_statement_1 : decode cX7_statement 1 = .ok (.iload_n 1, 1) := by decide +kernel
theorem dX7_statement_2 : decode cX7_statement 2 = .ok (.invokevirtual 142, 3) := by decide +kernel
theorem dX7_statement_5 : decode cX7_statement 5 = .ok (.ifCond .eq 12, 3) := by decide +kernel
theorem dX7_statement_8 : decode cX7_statement 8 = .ok (.iload_n 3, 1) := by decide +kernel
theorem dX7_statement_9 : decode cX7_statement 9 = .ok (.iconst 0, 1) := by decide +kernel
theorem dX7_statement_10 : decode cX7_statement 10 = .ok (.iconst 5, 1) := by decide +kernel
theorem dX7_statement_11 : decode cX7_statement 11 = .ok (.invokestatic 138, 3) := by decide +kernel
theorem dX7_statement_14 : decode cX7_statement 14 = .ok (.ifCond .ne 6, 3) := by decide +kernel
theorem dX7_statement_17 : decode cX7_statement 17 = .ok (.bipush (-2), 2) := by decide +kernel
theorem dX7_statement_19 : decode cX7_statement 19 = .ok (.ireturn, 1) := by decide +kernel
theorem dX7_statement_20 : decode cX7_statement 20 = .ok (.aload_n 0, 1) := by decide +kernel
theorem dX7_statement_21 : decode cX7_statement 21 = .ok (.iload_n 1, 1) := by decide +kernel
theorem dX7_statement_22 : decode cX7_statement 22 = .ok (.invokevirtual 184, 3) := by decide +kernel
theorem dX7_statement_25 : decode cX7_statement 25 = .ok (.ifCond .ne 6, 3) := by decide +kernel
theorem dX7_statement_28 : decode cX7_statement 28 = .ok (.bipush (-3), 2) := by decide +kernel
theorem dX7_statement_30 : decode cX7_statement 30 = .ok (.ireturn, 1) := by decide +kernel
theorem dX7_statement_31 : decode cX7_statement 31 = .ok (.aload_n 0, 1) := by decide +kernel
theorem dX7_statement_32 : decode cX7_statement 32 = .ok (.iload_n 1, 1) := by decide +kernel
theorem dX7_statement_33 : decode cX7_statement 33 = .ok (.invokevirtual 191, 3) := by decide +kernel
theorem dX7_statement_36 : decode cX7_statement 36 = .ok (.iload_n 2, 1) := by decide +kernel
theorem dX7_statement_37 : decode cX7_statement 37 = .ok (.iconst 0, 1) := by decide +kernel
theorem dX7_statement_38 : decode cX7_statement 38 = .ok (.aload_n 0, 1) := by decide +kernel
theorem dX7_statement_39 : decode cX7_statement 39 = .ok (.getfield 160, 3) := by decide +kernel
theorem dX7_statement_42 : decode cX7_statement 42 = .ok (.iconst 1, 1) := by decide +kernel
theorem dX7_statement_43 : decode cX7_statement 43 = .ok (.isub, 1) := by decide +kernel
theorem dX7_statement_44 : decode cX7_statement 44 = .ok (.invokestatic 138, 3) := by decide +kernel
theorem dX7_statement_47 : decode cX7_statement 47 = .ok (.ifCond .ne 6, 3) := by decide +kernel
theorem dX7_statement_50 : decode cX7_statement 50 = .ok (.bipush (-2), 2) := by decide +kernel
theorem dX7_statement_52 : decode cX7_statement 52 = .ok (.ireturn, 1) := by decide +kernel
theorem dX7_statement_53 : decode cX7_statement 53 = .ok (.iload_n 3, 1) := by decide +kernel
theorem dX7_statement_54 : decode cX7_statement 54 = .ok (.iconst 5, 1) := by decide +kernel
theorem dX7_statement_55 : decode cX7_statement 55 = .ok (.if_icmp .ge 65, 3) := by decide +kernel
theorem dX7_statement_58 : decode cX7_statement 58 = .ok (.iload_n 3, 1) := by decide +kernel
theorem dX7_statement_59 : decode cX7_statement 59 = .ok (.ifCond .ne 12, 3) := by decide +kernel
theorem dX7_statement_62 : decode cX7_statement 62 = .ok (.aload_n 0, 1) := by decide +kernel
theorem dX7_statement_63 : decode cX7_statement 63 = .ok (.getfield 41, 3) := by decide +kernel
theorem dX7_statement_66 : decode cX7_statement 66 = .ok (.iload_n 2, 1) := by decide +kernel
theorem dX7_statement_67 : decode cX7_statement 67 = .ok (.iaload, 1) := by decide +kernel
theorem dX7_statement_68 : decode cX7_statement 68 = .ok (.goto 51, 3) := by decide +kernel
theorem dX7_statement_71 : decode cX7_statement 71 = .ok (.iload_n 3, 1) := by decide +kernel
theorem dX7_statement_72 : decode cX7_statement 72 = .ok (.iconst 1, 1) := by decide +kernel
theorem dX7_statement_73 : decode cX7_statement 73 = .ok (.if_icmp .ne 12, 3) := by decide +kernel
theorem dX7_statement_76 : decode cX7_statement 76 = .ok (.aload_n 0, 1) := by decide +kernel
theorem dX7_statement_77 : decode cX7_statement 77 = .ok (.getfield 44, 3) := by decide +kernel
theorem dX7_statement_80 : decode cX7_statement 80 = .ok (.iload_n 2, 1) := by decide +kernel
theorem dX7_statement_81 : decode cX7_statement 81 = .ok (.iaload, 1) := by decide +kernel
theorem dX7_statement_82 : decode cX7_statement 82 = .ok (.goto 37, 3) := by decide +kernel
theorem dX7_statement_85 : decode cX7_statement 85 = .ok (.iload_n 3, 1) := by decide +kernel
theorem dX7_statement_86 : decode cX7_statement 86 = .ok (.iconst 2, 1) := by decide +kernel
theorem dX7_statement_87 : decode cX7_statement 87 = .ok (.if_icmp .ne 12, 3) := by decide +kernel
theorem dX7_statement_90 : decode cX7_statement 90 = .ok (.aload_n 0, 1) := by decide +kernel
theorem dX7_statement_91 : decode cX7_statement 91 = .ok (.getfield 47, 3) := by decide +kernel
theorem dX7_statement_94 : decode cX7_statement 94 = .ok (.iload_n 2, 1) := by decide +kernel
theorem dX7_statement_95 : decode cX7_statement 95 = .ok (.iaload, 1) := by decide +kernel
theorem dX7_statement_96 : decode cX7_statement 96 = .ok (.goto 23, 3) := by decide +kernel
theorem dX7_statement_99 : decode cX7_statement 99 = .ok (.iload_n 3, 1) := by decide +kernel
theorem dX7_statement_100 : decode cX7_statement 100 = .ok (.iconst 3, 1) := by decide +kernel
theorem dX7_statement_101 : decode cX7_statement 101 = .ok (.if_icmp .ne 12, 3) := by decide +kernel
theorem dX7_statement_104 : decode cX7_statement 104 = .ok (.aload_n 0, 1) := by decide +kernel
theorem dX7_statement_105 : decode cX7_statement 105 = .ok (.getfield 50, 3) := by decide +kernel
theorem dX7_statement_108 : decode cX7_statement 108 = .ok (.iload_n 2, 1) := by decide +kernel
theorem dX7_statement_109 : decode cX7_statement 109 = .ok (.iaload, 1) := by decide +kernel
theorem dX7_statement_110 : decode cX7_statement 110 = .ok (.goto 9, 3) := by decide +kernel
theorem dX7_statement_113 : decode cX7_statement 113 = .ok (.aload_n 0, 1) := by decide +kernel
theorem dX7_statement_114 : decode cX7_statement 114 = .ok (.getfield 53, 3) := by decide +kernel
theorem dX7_statement_117 : decode cX7_statement 117 = .ok (.iload_n 2, 1) := by decide +kernel
theorem dX7_statement_118 : decode cX7_statement 118 = .ok (.iaload, 1) := by decide +kernel
theorem dX7_statement_119 : decode cX7_statement 119 = .ok (.ireturn, 1) := by decide +kernel
theorem dX7_statement_120 : decode cX7_statement 120 = .ok (.iconst 0, 1) := by decide +kernel
theorem dX7_statement_121 : decode cX7_statement 121 = .ok (.istore 4, 2) := by decide +kernel
theorem dX7_statement_123 : decode cX7_statement 123 = .ok (.iconst 0, 1) := by decide +kernel
theorem dX7_statement_124 : decode cX7_statement 124 = .ok (.istore 5, 2) := by decide +kernel
theorem dX7_statement_126 : decode cX7_statement 126 = .ok (.iload 5, 2) := by decide +kernel
theorem dX7_statement_128 : decode cX7_statement 128 = .ok (.aload_n 0, 1) := by decide +kernel
theorem dX7_statement_129 : decode cX7_statement 129 = .ok (.getfield 160, 3) := by decide +kernel
theorem dX7_statement_132 : decode cX7_statement 132 = .ok (.if_icmp .ge 29, 3) := by decide +kernel
theorem dX7_statement_135 : decode cX7_statement 135 = .ok (.iload 4, 2) := by decide +kernel
theorem dX7_statement_137 : decode cX7_statement 137 = .ok (.aload_n 0, 1) := by decide +kernel
theorem dX7_statement_138 : decode cX7_statement 138 = .ok (.iload 5, 2) := by decide +kernel
theorem dX7_statement_140 : decode cX7_statement 140 = .ok (.iload_n 2, 1) := by decide +kernel
theorem dX7_statement_141 : decode cX7_statement 141 = .ok (.invokevirtual 205, 3) := by decide +kernel
theorem dX7_statement_144 : decode cX7_statement 144 = .ok (.ifCond .eq 7, 3) := by decide +kernel
theorem dX7_statement_147 : decode cX7_statement 147 = .ok (.iconst 1, 1) := by decide +kernel
theorem dX7_statement_148 : decode cX7_statement 148 = .ok (.goto 4, 3) := by decide +kernel
theorem dX7_statement_151 : decode cX7_statement 151 = .ok (.iconst 0, 1) := by decide +kernel
theorem dX7_statement_152 : decode cX7_statement 152 = .ok (.iadd, 1) := by decide +kernel
theorem dX7_statement_153 : decode cX7_statement 153 = .ok (.istore 4, 2) := by decide +kernel
theorem dX7_statement_155 : decode cX7_statement 155 = .ok (.iinc 5 1, 3) := by decide +kernel
theorem dX7_statement_158 : decode cX7_statement 158 = .ok (.goto (-32), 3) := by decide +kernel
theorem dX7_statement_161 : decode cX7_statement 161 = .ok (.iload 4, 2) := by decide +kernel
theorem dX7_statement_163 : decode cX7_statement 163 = .ok (.ireturn, 1) := by decide +kernel
theorem dX7_countIn_0 : decode cX7_countIn 0 = .ok (.iconst 0, 1) := by decide +kernel
theorem dX7_countIn_1 : decode cX7_countIn 1 = .ok (.istore_n 3, 1) := by decide +kernel
theorem dX7_countIn_2 : decode cX7_countIn 2 = .ok (.iconst 0, 1) := by decide +kernel
theorem dX7_countIn_3 : decode cX7_countIn 3 = .ok (.istore 4, 2) := by decide +kernel
theorem dX7_countIn_5 : decode cX7_countIn 5 = .ok (.iload 4, 2) := by decide +kernel
theorem dX7_countIn_7 : decode cX7_countIn 7 = .ok (.aload_n 0, 1) := by decide +kernel
theorem dX7_countIn_8 : decode cX7_countIn 8 = .ok (.getfield 160, 3) := by decide +kernel
theorem dX7_countIn_11 : decode cX7_countIn 11 = .ok (.if_icmp .ge 44, 3) := by decide +kernel
theorem dX7_countIn_14 : decode cX7_countIn 14 = .ok (.iload_n 3, 1) := by decide +kernel
theorem dX7_countIn_15 : decode cX7_countIn 15 = .ok (.aload_n 0, 1) := by decide +kernel
theorem dX7_countIn_16 : decode cX7_countIn 16 = .ok (.getfield 50, 3) := by decide +kernel
theorem dX7_countIn_19 : decode cX7_countIn 19 = .ok (.iload 4, 2) := by decide +kernel
theorem dX7_countIn_21 : decode cX7_countIn 21 = .ok (.iaload, 1) := by decide +kernel
theorem dX7_countIn_22 : decode cX7_countIn 22 = .ok (.iload_n 1, 1) := by decide +kernel
theorem dX7_countIn_23 : decode cX7_countIn 23 = .ok (.if_icmp .ne 23, 3) := by decide +kernel
theorem dX7_countIn_26 : decode cX7_countIn 26 = .ok (.iload_n 1, 1) := by decide +kernel
theorem dX7_countIn_27 : decode cX7_countIn 27 = .ok (.iconst (-1), 1) := by decide +kernel
theorem dX7_countIn_28 : decode cX7_countIn 28 = .ok (.if_icmp .eq 14, 3) := by decide +kernel
theorem dX7_countIn_31 : decode cX7_countIn 31 = .ok (.aload_n 0, 1) := by decide +kernel
theorem dX7_countIn_32 : decode cX7_countIn 32 = .ok (.getfield 53, 3) := by decide +kernel
theorem dX7_countIn_35 : decode cX7_countIn 35 = .ok (.iload 4, 2) := by decide +kernel
theorem dX7_countIn_37 : decode cX7_countIn 37 = .ok (.iaload, 1) := by decide +kernel
theorem dX7_countIn_38 : decode cX7_countIn 38 = .ok (.iload_n 2, 1) := by decide +kernel
theorem dX7_countIn_39 : decode cX7_countIn 39 = .ok (.if_icmp .ne 7, 3) := by decide +kernel
theorem dX7_countIn_42 : decode cX7_countIn 42 = .ok (.iconst 1, 1) := by decide +kernel
theorem dX7_countIn_43 : decode cX7_countIn 43 = .ok (.goto 4, 3) := by decide +kernel
theorem dX7_countIn_46 : decode cX7_countIn 46 = .ok (.iconst 0, 1) := by decide +kernel
theorem dX7_countIn_47 : decode cX7_countIn 47 = .ok (.iadd, 1) := by decide +kernel
theorem dX7_countIn_48 : decode cX7_countIn 48 = .ok (.istore_n 3, 1) := by decide +kernel
theorem dX7_countIn_49 : decode cX7_countIn 49 = .ok (.iinc 4 1, 3) := by decide +kernel
theorem dX7_countIn_52 : decode cX7_countIn 52 = .ok (.goto (-47), 3) := by decide +kernel
theorem dX7_countIn_55 : decode cX7_countIn 55 = .ok (.iload_n 3, 1) := by decide +kernel
theorem dX7_countIn_56 : decode cX7_countIn 56 = .ok (.ireturn, 1) := by decide +kernel
theorem dX7_tell_0 : decode cX7_tell 0 = .ok (.aload_n 0, 1) := by decide +kernel
theorem dX7_tell_1 : decode cX7_tell 1 = .ok (.getfield 83, 3) := by decide +kernel
theorem dX7_tell_4 : decode cX7_tell 4 = .ok (.aload_n 0, 1) := by decide +kernel
theorem dX7_tell_5 : decode cX7_tell 5 = .ok (.getfield 208, 3) := by decide +kernel
theorem dX7_tell_8 : decode cX7_tell 8 = .ok (.iload_n 1, 1) := by decide +kernel
theorem dX7_tell_9 : decode cX7_tell 9 = .ok (.iastore, 1) := by decide +kernel
theorem dX7_tell_10 : decode cX7_tell 10 = .ok (.aload_n 0, 1) := by decide +kernel
theorem dX7_tell_11 : decode cX7_tell 11 = .ok (.dup, 1) := by decide +kernel
theorem dX7_tell_12 : decode cX7_tell 12 = .ok (.getfield 208, 3) := by decide +kernel
theorem dX7_tell_15 : decode cX7_tell 15 = .ok (.iconst 1, 1) := by decide +kernel
theorem dX7_tell_16 : decode cX7_tell 16 = .ok (.iadd, 1) := by decide +kernel
theorem dX7_tell_17 : decode cX7_tell 17 = .ok (.putfield 208, 3) := by decide +kernel
theorem dX7_tell_20 : decode cX7_tell 20 = .ok (.return_, 1) := by decide +kernel
theorem dX7_tellAll_0 : decode cX7_tellAll 0 = .ok (.aload_n 0, 1) := by decide +kernel
theorem dX7_tellAll_1 : decode cX7_tellAll 1 = .ok (.iconst 0, 1) := by decide +kernel
theorem dX7_tellAll_2 : decode cX7_tellAll 2 = .ok (.putfield 208, 3) := by decide +kernel
theorem dX7_tellAll_5 : decode cX7_tellAll 5 = .ok (.aload_n 0, 1) := by decide +kernel
theorem dX7_tellAll_6 : decode cX7_tellAll 6 = .ok (.aload_n 0, 1) := by decide +kernel
theorem dX7_tellAll_7 : decode cX7_tellAll 7 = .ok (.iconst (-1), 1) := by decide +kernel
theorem dX7_tellAll_8 : decode cX7_tellAll 8 = .ok (.iconst 0, 1) := by decide +kernel
theorem dX7_tellAll_9 : decode cX7_tellAll 9 = .ok (.invokevirtual 211, 3) := by decide +kernel
theorem dX7_tellAll_12 : decode cX7_tellAll 12 = .ok (.invokevirtual 215, 3) := by decide +kernel
theorem dX7_tellAll_15 : decode cX7_tellAll 15 = .ok (.iconst 0, 1) := by decide +kernel
theorem dX7_tellAll_16 : decode cX7_tellAll 16 = .ok (.istore_n 1, 1) := by decide +kernel
theorem dX7_tellAll_17 : decode cX7_tellAll 17 = .ok (.iload_n 1, 1) := by decide +kernel
theorem dX7_tellAll_18 : decode cX7_tellAll 18 = .ok (.aload_n 0, 1) := by decide +kernel
theorem dX7_tellAll_19 : decode cX7_tellAll 19 = .ok (.getfield 160, 3) := by decide +kernel
theorem dX7_tellAll_22 : decode cX7_tellAll 22 = .ok (.if_icmp .ge 117, 3) := by decide +kernel
theorem dX7_tellAll_25 : decode cX7_tellAll 25 = .ok (.aload_n 0, 1) := by decide +kernel
theorem dX7_tellAll_26 : decode cX7_tellAll 26 = .ok (.iload_n 1, 1) := by decide +kernel
theorem dX7_tellAll_27 : decode cX7_tellAll 27 = .ok (.invokevirtual 218, 3) := by decide +kernel
theorem dX7_tellAll_30 : decode cX7_tellAll 30 = .ok (.aload_n 0, 1) := by decide +kernel
theorem dX7_tellAll_31 : decode cX7_tellAll 31 = .ok (.getfield 41, 3) := by decide +kernel
theorem dX7_tellAll_34 : decode cX7_tellAll 34 = .ok (.iload_n 1, 1) := by decide +kernel
theorem dX7_tellAll_35 : decode cX7_tellAll 35 = .ok (.iaload, 1) := by decide +kernel
theorem dX7_tellAll_36 : decode cX7_tellAll 36 = .ok (.istore_n 2, 1) := by decide +kernel
theorem dX7_tellAll_37 : decode cX7_tellAll 37 = .ok (.aload_n 0, 1) := by decide +kernel
theorem dX7_tellAll_38 : decode cX7_tellAll 38 = .ok (.iload_n 2, 1) := by decide +kernel
theorem dX7_tellAll_39 : decode cX7_tellAll 39 = .ok (.invokevirtual 215, 3) := by decide +kernel
theorem dX7_tellAll_42 : decode cX7_tellAll 42 = .ok (.iload_n 2, 1) := by decide +kernel
theorem dX7_tellAll_43 : decode cX7_tellAll 43 = .ok (.ifCond .ne 13, 3) := by decide +kernel
theorem dX7_tellAll_46 : decode cX7_tellAll 46 = .ok (.aload_n 0, 1) := by decide +kernel
theorem dX7_tellAll_47 : decode cX7_tellAll 47 = .ok (.aload_n 0, 1) := by decide +kernel
theorem dX7_tellAll_48 : decode cX7_tellAll 48 = .ok (.getfield 62, 3) := by decide +kernel
theorem dX7_tellAll_51 : decode cX7_tellAll 51 = .ok (.iload_n 1, 1) := by decide +kernel
theorem dX7_tellAll_52 : decode cX7_tellAll 52 = .ok (.iaload, 1) := by decide +kernel
theorem dX7_tellAll_53 : decode cX7_tellAll 53 = .ok (.invokevirtual 215, 3) := by decide +kernel
theorem dX7_tellAll_56 : decode cX7_tellAll 56 = .ok (.iload_n 2, 1) := by decide +kernel
theorem dX7_tellAll_57 : decode cX7_tellAll 57 = .ok (.iconst 3, 1) := by decide +kernel
theorem dX7_tellAll_58 : decode cX7_tellAll 58 = .ok (.if_icmp .eq 34, 3) := by decide +kernel
theorem dX7_tellAll_61 : decode cX7_tellAll 61 = .ok (.iload_n 2, 1) := by decide +kernel
theorem dX7_tellAll_62 : decode cX7_tellAll 62 = .ok (.bipush 6, 2) := by decide +kernel
theorem dX7_tellAll_64 : decode cX7_tellAll 64 = .ok (.bipush 8, 2) := by decide +kernel
theorem dX7_tellAll_66 : decode cX7_tellAll 66 = .ok (.invokestatic 138, 3) := by decide +kernel
theorem dX7_tellAll_69 : decode cX7_tellAll 69 = .ok (.ifCond .ne 23, 3) := by decide +kernel
theorem dX7_tellAll_72 : decode cX7_tellAll 72 = .ok (.aload_n 0, 1) := by decide +kernel
theorem dX7_tellAll_73 : decode cX7_tellAll 73 = .ok (.aload_n 0, 1) := by decide +kernel
theorem dX7_tellAll_74 : decode cX7_tellAll 74 = .ok (.getfield 56, 3) := by decide +kernel
theorem dX7_tellAll_77 : decode cX7_tellAll 77 = .ok (.iload_n 1, 1) := by decide +kernel
theorem dX7_tellAll_78 : decode cX7_tellAll 78 = .ok (.iaload, 1) := by decide +kernel
theorem dX7_tellAll_79 : decode cX7_tellAll 79 = .ok (.invokevirtual 215, 3) := by decide +kernel
theorem dX7_tellAll_82 : decode cX7_tellAll 82 = .ok (.aload_n 0, 1) := by decide +kernel
theorem dX7_tellAll_83 : decode cX7_tellAll 83 = .ok (.aload_n 0, 1) := by decide +kernel
theorem dX7_tellAll_84 : decode cX7_tellAll 84 = .ok (.getfield 59, 3) := by decide +kernel
theorem dX7_tellAll_87 : decode cX7_tellAll 87 = .ok (.iload_n 1, 1) := by decide +kernel
theorem dX7_tellAll_88 : decode cX7_tellAll 88 = .ok (.iaload, 1) := by decide +kernel
theorem dX7_tellAll_89 : decode cX7_tellAll 89 = .ok (.invokevirtual 215, 3) := by decide +kernel
theorem dX7_tellAll_92 : decode cX7_tellAll 92 = .ok (.iload_n 2, 1) := by decide +kernel
theorem dX7_tellAll_93 : decode cX7_tellAll 93 = .ok (.bipush 8, 2) := by decide +kernel
theorem dX7_tellAll_95 : decode cX7_tellAll 95 = .ok (.if_icmp .eq 9, 3) := by decide +kernel
theorem dX7_tellAll_98 : decode cX7_tellAll 98 = .ok (.iload_n 2, 1) := by decide +kernel
theorem dX7_tellAll_99 : decode cX7_tellAll 99 = .ok (.bipush 11, 2) := by decide +kernel
theorem dX7_tellAll_101 : decode cX7_tellAll 101 = .ok (.if_icmp .ne 13, 3) := by decide +kernel
theorem dX7_tellAll_104 : decode cX7_tellAll 104 = .ok (.aload_n 0, 1) := by decide +kernel
theorem dX7_tellAll_105 : decode cX7_tellAll 105 = .ok (.aload_n 0, 1) := by decide +kernel
theorem dX7_tellAll_106 : decode cX7_tellAll 106 = .ok (.getfield 62, 3) := by decide +kernel
theorem dX7_tellAll_109 : decode cX7_tellAll 109 = .ok (.iload_n 1, 1) := by decide +kernel
theorem dX7_tellAll_110 : decode cX7_tellAll 110 = .ok (.iaload, 1) := by decide +kernel
theorem dX7_tellAll_111 : decode cX7_tellAll 111 = .ok (.invokevirtual 215, 3) := by decide +kernel
theorem dX7_tellAll_114 : decode cX7_tellAll 114 = .ok (.iload_n 2, 1) := by decide +kernel
theorem dX7_tellAll_115 : decode cX7_tellAll 115 = .ok (.iconst 1, 1) := by decide +kernel
theorem dX7_tellAll_116 : decode cX7_tellAll 116 = .ok (.iconst 5, 1) := by decide +kernel
theorem dX7_tellAll_117 : decode cX7_tellAll 117 = .ok (.invokestatic 138, 3) := by decide +kernel
theorem dX7_tellAll_120 : decode cX7_tellAll 120 = .ok (.ifCond .eq 13, 3) := by decide +kernel
theorem dX7_tellAll_123 : decode cX7_tellAll 123 = .ok (.aload_n 0, 1) := by decide +kernel
theorem dX7_tellAll_124 : decode cX7_tellAll 124 = .ok (.aload_n 0, 1) := by decide +kernel
theorem dX7_tellAll_125 : decode cX7_tellAll 125 = .ok (.iload_n 1, 1) := by decide +kernel
theorem dX7_tellAll_126 : decode cX7_tellAll 126 = .ok (.iconst 0, 1) := by decide +kernel
theorem dX7_tellAll_127 : decode cX7_tellAll 127 = .ok (.invokevirtual 211, 3) := by decide +kernel
theorem dX7_tellAll_130 : decode cX7_tellAll 130 = .ok (.invokevirtual 215, 3) := by decide +kernel
theorem dX7_tellAll_133 : decode cX7_tellAll 133 = .ok (.iinc 1 1, 3) := by decide +kernel
theorem dX7_tellAll_136 : decode cX7_tellAll 136 = .ok (.goto (-119), 3) := by decide +kernel
theorem dX7_tellAll_139 : decode cX7_tellAll 139 = .ok (.aload_n 0, 1) := by decide +kernel
theorem dX7_tellAll_140 : decode cX7_tellAll 140 = .ok (.aload_n 0, 1) := by decide +kernel
theorem dX7_tellAll_141 : decode cX7_tellAll 141 = .ok (.getfield 160, 3) := by decide +kernel
theorem dX7_tellAll_144 : decode cX7_tellAll 144 = .ok (.invokevirtual 218, 3) := by decide +kernel
theorem dX7_tellAll_147 : decode cX7_tellAll 147 = .ok (.return_, 1) := by decide +kernel
theorem dX7_closeBodies_0 : decode cX7_closeBodies 0 = .ok (.iload_n 1, 1) := by decide +kernel
theorem dX7_closeBodies_1 : decode cX7_closeBodies 1 = .ok (.ifCond .ne 8, 3) := by decide +kernel
theorem dX7_closeBodies_4 : decode cX7_closeBodies 4 = .ok (.aload_n 0, 1) := by decide +kernel
theorem dX7_closeBodies_5 : decode cX7_closeBodies 5 = .ok (.iconst 0, 1) := by decide +kernel
theorem dX7_closeBodies_6 : decode cX7_closeBodies 6 = .ok (.putfield 221, 3) := by decide +kernel
theorem dX7_closeBodies_9 : decode cX7_closeBodies 9 = .ok (.iload_n 1, 1) := by decide +kernel
theorem dX7_closeBodies_10 : decode cX7_closeBodies 10 = .ok (.ifCond .le 37, 3) := by decide +kernel
theorem dX7_closeBodies_13 : decode cX7_closeBodies 13 = .ok (.aload_n 0, 1) := by decide +kernel
theorem dX7_closeBodies_14 : decode cX7_closeBodies 14 = .ok (.getfield 41, 3) := by decide +kernel
theorem dX7_closeBodies_17 : decode cX7_closeBodies 17 = .ok (.iload_n 1, 1) := by decide +kernel
theorem dX7_closeBodies_18 : decode cX7_closeBodies 18 = .ok (.iconst 1, 1) := by decide +kernel
theorem dX7_closeBodies_19 : decode cX7_closeBodies 19 = .ok (.isub, 1) := by decide +kernel
theorem dX7_closeBodies_20 : decode cX7_closeBodies 20 = .ok (.iaload, 1) := by decide +kernel
theorem dX7_closeBodies_21 : decode cX7_closeBodies 21 = .ok (.iconst 2, 1) := by decide +kernel
theorem dX7_closeBodies_22 : decode cX7_closeBodies 22 = .ok (.if_icmp .ne 25, 3) := by decide +kernel
theorem dX7_closeBodies_25 : decode cX7_closeBodies 25 = .ok (.aload_n 0, 1) := by decide +kernel
theorem dX7_closeBodies_26 : decode cX7_closeBodies 26 = .ok (.getfield 90, 3) := by decide +kernel
theorem dX7_closeBodies_29 : decode cX7_closeBodies 29 = .ok (.aload_n 0, 1) := by decide +kernel
theorem dX7_closeBodies_30 : decode cX7_closeBodies 30 = .ok (.getfield 221, 3) := by decide +kernel
theorem dX7_closeBodies_33 : decode cX7_closeBodies 33 = .ok (.iload_n 1, 1) := by decide +kernel
theorem dX7_closeBodies_34 : decode cX7_closeBodies 34 = .ok (.iconst 1, 1) := by decide +kernel
theorem dX7_closeBodies_35 : decode cX7_closeBodies 35 = .ok (.isub, 1) := by decide +kernel
theorem dX7_closeBodies_36 : decode cX7_closeBodies 36 = .ok (.iastore, 1) := by decide +kernel
theorem dX7_closeBodies_37 : decode cX7_closeBodies 37 = .ok (.aload_n 0, 1) := by decide +kernel
theorem dX7_closeBodies_38 : decode cX7_closeBodies 38 = .ok (.dup, 1) := by decide +kernel
theorem dX7_closeBodies_39 : decode cX7_closeBodies 39 = .ok (.getfield 221, 3) := by decide +kernel
theorem dX7_closeBodies_42 : decode cX7_closeBodies 42 = .ok (.iconst 1, 1) := by decide +kernel
theorem dX7_closeBodies_43 : decode cX7_closeBodies 43 = .ok (.iadd, 1) := by decide +kernel
theorem dX7_closeBodies_44 : decode cX7_closeBodies 44 = .ok (.putfield 221, 3) := by decide +kernel
theorem dX7_closeBodies_47 : decode cX7_closeBodies 47 = .ok (.aload_n 0, 1) := by decide +kernel
theorem dX7_closeBodies_48 : decode cX7_closeBodies 48 = .ok (.getfield 221, 3) := by decide +kernel
theorem dX7_closeBodies_51 : decode cX7_closeBodies 51 = .ok (.ifCond .le 7, 3) := by decide +kernel
theorem dX7_closeBodies_54 : decode cX7_closeBodies 54 = .ok (.iconst 1, 1) := by decide +kernel
theorem dX7_closeBodies_55 : decode cX7_closeBodies 55 = .ok (.goto 4, 3) := by decide +kernel
theorem dX7_closeBodies_58 : decode cX7_closeBodies 58 = .ok (.iconst 0, 1) := by decide +kernel
theorem dX7_closeBodies_59 : decode cX7_closeBodies 59 = .ok (.istore_n 2, 1) := by decide +kernel
theorem dX7_closeBodies_60 : decode cX7_closeBodies 60 = .ok (.iload_n 2, 1) := by decide +kernel
theorem dX7_closeBodies_61 : decode cX7_closeBodies 61 = .ok (.ifCond .eq 132, 3) := by decide +kernel
theorem dX7_closeBodies_64 : decode cX7_closeBodies 64 = .ok (.aload_n 0, 1) := by decide +kernel
theorem dX7_closeBodies_65 : decode cX7_closeBodies 65 = .ok (.getfield 90, 3) := by decide +kernel
theorem dX7_closeBodies_68 : decode cX7_closeBodies 68 = .ok (.aload_n 0, 1) := by decide +kernel
theorem dX7_closeBodies_69 : decode cX7_closeBodies 69 = .ok (.getfield 221, 3) := by decide +kernel
theorem dX7_closeBodies_72 : decode cX7_closeBodies 72 = .ok (.iconst 1, 1) := by decide +kernel
theorem dX7_closeBodies_73 : decode cX7_closeBodies 73 = .ok (.isub, 1) := by decide +kernel
theorem dX7_closeBodies_74 : decode cX7_closeBodies 74 = .ok (.iaload, 1) := by decide +kernel
theorem dX7_closeBodies_75 : decode cX7_closeBodies 75 = .ok (.istore_n 3, 1) := by decide +kernel
theorem dX7_closeBodies_76 : decode cX7_closeBodies 76 = .ok (.iload_n 1, 1) := by decide +kernel
theorem dX7_closeBodies_77 : decode cX7_closeBodies 77 = .ok (.istore 4, 2) := by decide +kernel
theorem dX7_closeBodies_79 : decode cX7_closeBodies 79 = .ok (.iload_n 1, 1) := by decide +kernel
theorem dX7_closeBodies_80 : decode cX7_closeBodies 80 = .ok (.aload_n 0, 1) := by decide +kernel
theorem dX7_closeBodies_81 : decode cX7_closeBodies 81 = .ok (.getfield 160, 3) := by decide +kernel
theorem dX7_closeBodies_84 : decode cX7_closeBodies 84 = .ok (.if_icmp .ge 32, 3) := by decide +kernel
theorem dX7_closeBodies_87 : decode cX7_closeBodies 87 = .ok (.iload 4, 2) := by decide +kernel
theorem dX7_closeBodies_89 : decode cX7_closeBodies 89 = .ok (.iconst (-1), 1) := by decide +kernel
theorem dX7_closeBodies_90 : decode cX7_closeBodies 90 = .ok (.if_icmp .eq 26, 3) := by decide +kernel
theorem dX7_closeBodies_93 : decode cX7_closeBodies 93 = .ok (.aload_n 0, 1) := by decide +kernel
theorem dX7_closeBodies_94 : decode cX7_closeBodies 94 = .ok (.getfield 50, 3) := by decide +kernel
theorem dX7_closeBodies_97 : decode cX7_closeBodies 97 = .ok (.iload 4, 2) := by decide +kernel
theorem dX7_closeBodies_99 : decode cX7_closeBodies 99 = .ok (.iaload, 1) := by decide +kernel
theorem dX7_closeBodies_100 : decode cX7_closeBodies 100 = .ok (.iload_n 3, 1) := by decide +kernel
theorem dX7_closeBodies_101 : decode cX7_closeBodies 101 = .ok (.if_icmp .eq 15, 3) := by decide +kernel
theorem dX7_closeBodies_104 : decode cX7_closeBodies 104 = .ok (.aload_n 0, 1) := by decide +kernel
theorem dX7_closeBodies_105 : decode cX7_closeBodies 105 = .ok (.getfield 50, 3) := by decide +kernel
theorem dX7_closeBodies_108 : decode cX7_closeBodies 108 = .ok (.iload 4, 2) := by decide +kernel
theorem dX7_closeBodies_110 : decode cX7_closeBodies 110 = .ok (.iaload, 1) := by decide +kernel
theorem dX7_closeBodies_111 : decode cX7_closeBodies 111 = .ok (.istore 4, 2) := by decide +kernel
theorem dX7_closeBodies_113 : decode cX7_closeBodies 113 = .ok (.goto (-34), 3) := by decide +kernel
theorem dX7_closeBodies_116 : decode cX7_closeBodies 116 = .ok (.iload_n 1, 1) := by decide +kernel
theorem dX7_closeBodies_117 : decode cX7_closeBodies 117 = .ok (.aload_n 0, 1) := by decide +kernel
theorem dX7_closeBodies_118 : decode cX7_closeBodies 118 = .ok (.getfield 160, 3) := by decide +kernel
theorem dX7_closeBodies_121 : decode cX7_closeBodies 121 = .ok (.if_icmp .ge 23, 3) := by decide +kernel
theorem dX7_closeBodies_124 : decode cX7_closeBodies 124 = .ok (.iload 4, 2) := by decide +kernel
theorem dX7_closeBodies_126 : decode cX7_closeBodies 126 = .ok (.iconst (-1), 1) := by decide +kernel
theorem dX7_closeBodies_127 : decode cX7_closeBodies 127 = .ok (.if_icmp .eq 17, 3) := by decide +kernel
theorem dX7_closeBodies_130 : decode cX7_closeBodies 130 = .ok (.aload_n 0, 1) := by decide +kernel
theorem dX7_closeBodies_131 : decode cX7_closeBodies 131 = .ok (.getfield 53, 3) := by decide +kernel
theorem dX7_closeBodies_134 : decode cX7_closeBodies 134 = .ok (.iload 4, 2) := by decide +kernel
theorem dX7_closeBodies_136 : decode cX7_closeBodies 136 = .ok (.iaload, 1) := by decide +kernel
theorem dX7_closeBodies_137 : decode cX7_closeBodies 137 = .ok (.ifCond .ne 7, 3) := by decide +kernel
theorem dX7_closeBodies_140 : decode cX7_closeBodies 140 = .ok (.iconst 1, 1) := by decide +kernel
theorem dX7_closeBodies_141 : decode cX7_closeBodies 141 = .ok (.goto 4, 3) := by decide +kernel
theorem dX7_closeBodies_144 : decode cX7_closeBodies 144 = .ok (.iconst 0, 1) := by decide +kernel
theorem dX7_closeBodies_145 : decode cX7_closeBodies 145 = .ok (.istore 5, 2) := by decide +kernel
theorem dX7_closeBodies_147 : decode cX7_closeBodies 147 = .ok (.iload 5, 2) := by decide +kernel
theorem dX7_closeBodies_149 : decode cX7_closeBodies 149 = .ok (.ifCond .ne 23, 3) := by decide +kernel
theorem dX7_closeBodies_152 : decode cX7_closeBodies 152 = .ok (.aload_n 0, 1) := by decide +kernel
theorem dX7_closeBodies_153 : decode cX7_closeBodies 153 = .ok (.aload_n 0, 1) := by decide +kernel
theorem dX7_closeBodies_154 : decode cX7_closeBodies 154 = .ok (.iload_n 3, 1) := by decide +kernel
theorem dX7_closeBodies_155 : decode cX7_closeBodies 155 = .ok (.iconst 1, 1) := by decide +kernel
theorem dX7_closeBodies_156 : decode cX7_closeBodies 156 = .ok (.invokevirtual 211, 3) := by decide +kernel
theorem dX7_closeBodies_159 : decode cX7_closeBodies 159 = .ok (.invokevirtual 215, 3) := by decide +kernel
theorem dX7_closeBodies_162 : decode cX7_closeBodies 162 = .ok (.aload_n 0, 1) := by decide +kernel
theorem dX7_closeBodies_163 : decode cX7_closeBodies 163 = .ok (.dup, 1) := by decide +kernel
theorem dX7_closeBodies_164 : decode cX7_closeBodies 164 = .ok (.getfield 221, 3) := by decide +kernel
theorem dX7_closeBodies_167 : decode cX7_closeBodies 167 = .ok (.iconst 1, 1) := by decide +kernel
theorem dX7_closeBodies_168 : decode cX7_closeBodies 168 = .ok (.isub, 1) := by decide +kernel
theorem dX7_closeBodies_169 : decode cX7_closeBodies 169 = .ok (.putfield 221, 3) := by decide +kernel
theorem dX7_closeBodies_172 : decode cX7_closeBodies 172 = .ok (.iload 5, 2) := by decide +kernel
theorem dX7_closeBodies_174 : decode cX7_closeBodies 174 = .ok (.ifCond .ne 14, 3) := by decide +kernel
theorem dX7_closeBodies_177 : decode cX7_closeBodies 177 = .ok (.aload_n 0, 1) := by decide +kernel
theorem dX7_closeBodies_178 : decode cX7_closeBodies 178 = .ok (.getfield 221, 3) := by decide +kernel
theorem dX7_closeBodies_181 : decode cX7_closeBodies 181 = .ok (.ifCond .le 7, 3) := by decide +kernel
theorem dX7_closeBodies_184 : decode cX7_closeBodies 184 = .ok (.iconst 1, 1) := by decide +kernel
theorem dX7_closeBodies_185 : decode cX7_closeBodies 185 = .ok (.goto 4, 3) := by decide +kernel
theorem dX7_closeBodies_188 : decode cX7_closeBodies 188 = .ok (.iconst 0, 1) := by decide +kernel
theorem dX7_closeBodies_189 : decode cX7_closeBodies 189 = .ok (.istore_n 2, 1) := by decide +kernel
theorem dX7_closeBodies_190 : decode cX7_closeBodies 190 = .ok (.goto (-130), 3) := by decide +kernel
theorem dX7_closeBodies_193 : decode cX7_closeBodies 193 = .ok (.return_, 1) := by decide +kernel
theorem dX7_text_0 : decode cX7_text 0 = .ok (.aload_n 0, 1) := by decide +kernel
theorem dX7_text_1 : decode cX7_text 1 = .ok (.iload_n 1, 1) := by decide +kernel
theorem dX7_text_2 : decode cX7_text 2 = .ok (.invokevirtual 142, 3) := by decide +kernel
theorem dX7_text_5 : decode cX7_text 5 = .ok (.ifCond .eq 8, 3) := by decide +kernel
theorem dX7_text_8 : decode cX7_text 8 = .ok (.iload_n 2, 1) := by decide +kernel
theorem dX7_text_9 : decode cX7_text 9 = .ok (.iconst (-1), 1) := by decide +kernel
theorem dX7_text_10 : decode cX7_text 10 = .ok (.if_icmp .ge 6, 3) := by decide +kernel
theorem dX7_text_13 : decode cX7_text 13 = .ok (.bipush (-2), 2) := by decide +kernel
theorem dX7_text_15 : decode cX7_text 15 = .ok (.ireturn, 1) := by decide +kernel
theorem dX7_text_16 : decode cX7_text 16 = .ok (.aload_n 0, 1) := by decide +kernel
theorem dX7_text_17 : decode cX7_text 17 = .ok (.iload_n 1, 1) := by decide +kernel
theorem dX7_text_18 : decode cX7_text 18 = .ok (.invokevirtual 184, 3) := by decide +kernel
theorem dX7_text_21 : decode cX7_text 21 = .ok (.ifCond .ne 6, 3) := by decide +kernel
theorem dX7_text_24 : decode cX7_text 24 = .ok (.bipush (-3), 2) := by decide +kernel
theorem dX7_text_26 : decode cX7_text 26 = .ok (.ireturn, 1) := by decide +kernel
theorem dX7_text_27 : decode cX7_text 27 = .ok (.aload_n 0, 1) := by decide +kernel
theorem dX7_text_28 : decode cX7_text 28 = .ok (.iload_n 1, 1) := by decide +kernel
theorem dX7_text_29 : decode cX7_text 29 = .ok (.invokevirtual 191, 3) := by decide +kernel
theorem dX7_text_32 : decode cX7_text 32 = .ok (.aload_n 0, 1) := by decide +kernel
theorem dX7_text_33 : decode cX7_text 33 = .ok (.invokevirtual 224, 3) := by decide +kernel
theorem dX7_text_36 : decode cX7_text 36 = .ok (.iload_n 2, 1) := by decide +kernel
theorem dX7_text_37 : decode cX7_text 37 = .ok (.iconst (-1), 1) := by decide +kernel
theorem dX7_text_38 : decode cX7_text 38 = .ok (.if_icmp .ne 10, 3) := by decide +kernel
theorem dX7_text_41 : decode cX7_text 41 = .ok (.aload_n 0, 1) := by decide +kernel
theorem dX7_text_42 : decode cX7_text 42 = .ok (.getfield 208, 3) := by decide +kernel
theorem dX7_text_45 : decode cX7_text 45 = .ok (.goto 28, 3) := by decide +kernel
theorem dX7_text_48 : decode cX7_text 48 = .ok (.iload_n 2, 1) := by decide +kernel
theorem dX7_text_49 : decode cX7_text 49 = .ok (.iconst 0, 1) := by decide +kernel
theorem dX7_text_50 : decode cX7_text 50 = .ok (.aload_n 0, 1) := by decide +kernel
theorem dX7_text_51 : decode cX7_text 51 = .ok (.getfield 208, 3) := by decide +kernel
theorem dX7_text_54 : decode cX7_text 54 = .ok (.iconst 1, 1) := by decide +kernel
theorem dX7_text_55 : decode cX7_text 55 = .ok (.isub, 1) := by decide +kernel
theorem dX7_text_56 : decode cX7_text 56 = .ok (.invokestatic 138, 3) := by decide +kernel
theorem dX7_text_59 : decode cX7_text 59 = .ok (.ifCond .eq 12, 3) := by decide +kernel
theorem dX7_text_62 : decode cX7_text 62 = .ok (.aload_n 0, 1) := by decide +kernel
theorem dX7_text_63 : decode cX7_text 63 = .ok (.getfield 83, 3) := by decide +kernel
theorem dX7_text_66 : decode cX7_text 66 = .ok (.iload_n 2, 1) := by decide +kernel
theorem dX7_text_67 : decode cX7_text 67 = .ok (.iaload, 1) := by decide +kernel
theorem dX7_text_68 : decode cX7_text 68 = .ok (.goto 5, 3) := by decide +kernel
theorem dX7_text_71 : decode cX7_text 71 = .ok (.bipush (-2), 2) := by decide +kernel
theorem dX7_text_73 : decode cX7_text 73 = .ok (.ireturn, 1) := by decide +kernel
theorem dX7_feed_0 : decode cX7_feed 0 = .ok (.aload_n 0, 1) := by decide +kernel
theorem dX7_feed_1 : decode cX7_feed 1 = .ok (.getfield 227, 3) := by decide +kernel
theorem dX7_feed_4 : decode cX7_feed 4 = .ok (.sipush 300, 3) := by decide +kernel
theorem dX7_feed_7 : decode cX7_feed 7 = .ok (.if_icmp .ne 6, 3) := by decide +kernel
theorem dX7_feed_10 : decode cX7_feed 10 = .ok (.bipush (-4), 2) := by decide +kernel
theorem dX7_feed_12 : decode cX7_feed 12 = .ok (.ireturn, 1) := by decide +kernel
theorem dX7_feed_13 : decode cX7_feed 13 = .ok (.aload_n 0, 1) := by decide +kernel
theorem dX7_feed_14 : decode cX7_feed 14 = .ok (.getfield 28, 3) := by decide +kernel
theorem dX7_feed_17 : decode cX7_feed 17 = .ok (.aload_n 0, 1) := by decide +kernel
theorem dX7_feed_18 : decode cX7_feed 18 = .ok (.getfield 227, 3) := by decide +kernel
theorem dX7_feed_21 : decode cX7_feed 21 = .ok (.iload_n 1, 1) := by decide +kernel
theorem dX7_feed_22 : decode cX7_feed 22 = .ok (.iastore, 1) := by decide +kernel
theorem dX7_feed_23 : decode cX7_feed 23 = .ok (.aload_n 0, 1) := by decide +kernel
theorem dX7_feed_24 : decode cX7_feed 24 = .ok (.dup, 1) := by decide +kernel
theorem dX7_feed_25 : decode cX7_feed 25 = .ok (.getfield 227, 3) := by decide +kernel
theorem dX7_feed_28 : decode cX7_feed 28 = .ok (.iconst 1, 1) := by decide +kernel
theorem dX7_feed_29 : decode cX7_feed 29 = .ok (.iadd, 1) := by decide +kernel
theorem dX7_feed_30 : decode cX7_feed 30 = .ok (.putfield 227, 3) := by decide +kernel
theorem dX7_feed_33 : decode cX7_feed 33 = .ok (.aload_n 0, 1) := by decide +kernel
theorem dX7_feed_34 : decode cX7_feed 34 = .ok (.getfield 227, 3) := by decide +kernel
theorem dX7_feed_37 : decode cX7_feed 37 = .ok (.ireturn, 1) := by decide +kernel
theorem dX7_copy_0 : decode cX7_copy 0 = .ok (.aload_n 0, 1) := by decide +kernel
theorem dX7_copy_1 : decode cX7_copy 1 = .ok (.iload_n 1, 1) := by decide +kernel
theorem dX7_copy_2 : decode cX7_copy 2 = .ok (.invokevirtual 142, 3) := by decide +kernel
theorem dX7_copy_5 : decode cX7_copy 5 = .ok (.ifCond .ne 6, 3) := by decide +kernel
theorem dX7_copy_8 : decode cX7_copy 8 = .ok (.bipush (-2), 2) := by decide +kernel
theorem dX7_copy_10 : decode cX7_copy 10 = .ok (.ireturn, 1) := by decide +kernel
theorem dX7_copy_11 : decode cX7_copy 11 = .ok (.aload_n 0, 1) := by decide +kernel
theorem dX7_copy_12 : decode cX7_copy 12 = .ok (.iload_n 1, 1) := by decide +kernel
theorem dX7_copy_13 : decode cX7_copy 13 = .ok (.invokevirtual 184, 3) := by decide +kernel
theorem dX7_copy_16 : decode cX7_copy 16 = .ok (.ifCond .ne 6, 3) := by decide +kernel
theorem dX7_copy_19 : decode cX7_copy 19 = .ok (.bipush (-3), 2) := by decide +kernel
theorem dX7_copy_21 : decode cX7_copy 21 = .ok (.ireturn, 1) := by decide +kernel
theorem dX7_copy_22 : decode cX7_copy 22 = .ok (.aload_n 0, 1) := by decide +kernel
theorem dX7_copy_23 : decode cX7_copy 23 = .ok (.iload_n 1, 1) := by decide +kernel
theorem dX7_copy_24 : decode cX7_copy 24 = .ok (.invokevirtual 191, 3) := by decide +kernel
theorem dX7_copy_27 : decode cX7_copy 27 = .ok (.aload_n 0, 1) := by decide +kernel
theorem dX7_copy_28 : decode cX7_copy 28 = .ok (.invokevirtual 224, 3) := by decide +kernel
theorem dX7_copy_31 : decode cX7_copy 31 = .ok (.aload_n 0, 1) := by decide +kernel
theorem dX7_copy_32 : decode cX7_copy 32 = .ok (.getfield 227, 3) := by decide +kernel
theorem dX7_copy_35 : decode cX7_copy 35 = .ok (.aload_n 0, 1) := by decide +kernel
theorem dX7_copy_36 : decode cX7_copy 36 = .ok (.getfield 208, 3) := by decide +kernel
theorem dX7_copy_39 : decode cX7_copy 39 = .ok (.iadd, 1) := by decide +kernel
theorem dX7_copy_40 : decode cX7_copy 40 = .ok (.sipush 300, 3) := by decide +kernel
theorem dX7_copy_43 : decode cX7_copy 43 = .ok (.if_icmp .le 6, 3) := by decide +kernel
theorem dX7_copy_46 : decode cX7_copy 46 = .ok (.bipush (-4), 2) := by decide +kernel
theorem dX7_copy_48 : decode cX7_copy 48 = .ok (.ireturn, 1) := by decide +kernel
theorem dX7_copy_49 : decode cX7_copy 49 = .ok (.iconst 0, 1) := by decide +kernel
theorem dX7_copy_50 : decode cX7_copy 50 = .ok (.istore_n 2, 1) := by decide +kernel
theorem dX7_copy_51 : decode cX7_copy 51 = .ok (.iload_n 2, 1) := by decide +kernel
theorem dX7_copy_52 : decode cX7_copy 52 = .ok (.aload_n 0, 1) := by decide +kernel
theorem dX7_copy_53 : decode cX7_copy 53 = .ok (.getfield 208, 3) := by decide +kernel
theorem dX7_copy_56 : decode cX7_copy 56 = .ok (.if_icmp .ge 26, 3) := by decide +kernel
theorem dX7_copy_59 : decode cX7_copy 59 = .ok (.aload_n 0, 1) := by decide +kernel
theorem dX7_copy_60 : decode cX7_copy 60 = .ok (.getfield 28, 3) := by decide +kernel
theorem dX7_copy_63 : decode cX7_copy 63 = .ok (.aload_n 0, 1) := by decide +kernel
theorem dX7_copy_64 : decode cX7_copy 64 = .ok (.getfield 227, 3) := by decide +kernel
theorem dX7_copy_67 : decode cX7_copy 67 = .ok (.iload_n 2, 1) := by decide +kernel
theorem dX7_copy_68 : decode cX7_copy 68 = .ok (.iadd, 1) := by decide +kernel
theorem dX7_copy_69 : decode cX7_copy 69 = .ok (.aload_n 0, 1) := by decide +kernel
theorem dX7_copy_70 : decode cX7_copy 70 = .ok (.getfield 83, 3) := by decide +kernel
theorem dX7_copy_73 : decode cX7_copy 73 = .ok (.iload_n 2, 1) := by decide +kernel
theorem dX7_copy_74 : decode cX7_copy 74 = .ok (.iaload, 1) := by decide +kernel
theorem dX7_copy_75 : decode cX7_copy 75 = .ok (.iastore, 1) := by decide +kernel
theorem dX7_copy_76 : decode cX7_copy 76 = .ok (.iinc 2 1, 3) := by decide +kernel
theorem dX7_copy_79 : decode cX7_copy 79 = .ok (.goto (-28), 3) := by decide +kernel
theorem dX7_copy_82 : decode cX7_copy 82 = .ok (.aload_n 0, 1) := by decide +kernel
theorem dX7_copy_83 : decode cX7_copy 83 = .ok (.dup, 1) := by decide +kernel
theorem dX7_copy_84 : decode cX7_copy 84 = .ok (.getfield 227, 3) := by decide +kernel
theorem dX7_copy_87 : decode cX7_copy 87 = .ok (.aload_n 0, 1) := by decide +kernel
theorem dX7_copy_88 : decode cX7_copy 88 = .ok (.getfield 208, 3) := by decide +kernel
theorem dX7_copy_91 : decode cX7_copy 91 = .ok (.iadd, 1) := by decide +kernel
theorem dX7_copy_92 : decode cX7_copy 92 = .ok (.putfield 227, 3) := by decide +kernel
theorem dX7_copy_95 : decode cX7_copy 95 = .ok (.aload_n 0, 1) := by decide +kernel
theorem dX7_copy_96 : decode cX7_copy 96 = .ok (.getfield 227, 3) := by decide +kernel
theorem dX7_copy_99 : decode cX7_copy 99 = .ok (.ireturn, 1) := by decide +kernel
theorem dX7_clear_0 : decode cX7_clear 0 = .ok (.aload_n 0, 1) := by decide +kernel
theorem dX7_clear_1 : decode cX7_clear 1 = .ok (.getfield 227, 3) := by decide +kernel
theorem dX7_clear_4 : decode cX7_clear 4 = .ok (.istore_n 1, 1) := by decide +kernel
theorem dX7_clear_5 : decode cX7_clear 5 = .ok (.aload_n 0, 1) := by decide +kernel
theorem dX7_clear_6 : decode cX7_clear 6 = .ok (.iconst 0, 1) := by decide +kernel
theorem dX7_clear_7 : decode cX7_clear 7 = .ok (.putfield 227, 3) := by decide +kernel
theorem dX7_clear_10 : decode cX7_clear 10 = .ok (.iload_n 1, 1) := by decide +kernel
theorem dX7_clear_11 : decode cX7_clear 11 = .ok (.ireturn, 1) := by decide +kernel
theorem dX7_next_0 : decode cX7_next 0 = .ok (.aload_n 0, 1) := by decide +kernel
theorem dX7_next_1 : decode cX7_next 1 = .ok (.getfield 230, 3) := by decide +kernel
theorem dX7_next_4 : decode cX7_next 4 = .ok (.ifCond .eq 5, 3) := by decide +kernel
theorem dX7_next_7 : decode cX7_next 7 = .ok (.iconst 0, 1) := by decide +kernel
theorem dX7_next_8 : decode cX7_next 8 = .ok (.ireturn, 1) := by decide +kernel
theorem dX7_next_9 : decode cX7_next 9 = .ok (.aload_n 0, 1) := by decide +kernel
theorem dX7_next_10 : decode cX7_next 10 = .ok (.getfield 233, 3) := by decide +kernel
theorem dX7_next_13 : decode cX7_next 13 = .ok (.aload_n 0, 1) := by decide +kernel
theorem dX7_next_14 : decode cX7_next 14 = .ok (.getfield 227, 3) := by decide +kernel
theorem dX7_next_17 : decode cX7_next 17 = .ok (.if_icmp .ne 10, 3) := by decide +kernel
theorem dX7_next_20 : decode cX7_next 20 = .ok (.aload_n 0, 1) := by decide +kernel
theorem dX7_next_21 : decode cX7_next 21 = .ok (.iconst 1, 1) := by decide +kernel
theorem dX7_next_22 : decode cX7_next 22 = .ok (.putfield 230, 3) := by decide +kernel
theorem dX7_next_25 : decode cX7_next 25 = .ok (.iconst 0, 1) := by decide +kernel
theorem dX7_next_26 : decode cX7_next 26 = .ok (.ireturn, 1) := by decide +kernel
theorem dX7_next_27 : decode cX7_next 27 = .ok (.aload_n 0, 1) := by decide +kernel
theorem dX7_next_28 : decode cX7_next 28 = .ok (.dup, 1) := by decide +kernel
theorem dX7_next_29 : decode cX7_next 29 = .ok (.getfield 233, 3) := by decide +kernel
theorem dX7_next_32 : decode cX7_next 32 = .ok (.iconst 1, 1) := by decide +kernel
theorem dX7_next_33 : decode cX7_next 33 = .ok (.iadd, 1) := by decide +kernel
theorem dX7_next_34 : decode cX7_next 34 = .ok (.putfield 233, 3) := by decide +kernel
theorem dX7_next_37 : decode cX7_next 37 = .ok (.aload_n 0, 1) := by decide +kernel
theorem dX7_next_38 : decode cX7_next 38 = .ok (.getfield 28, 3) := by decide +kernel
theorem dX7_next_41 : decode cX7_next 41 = .ok (.aload_n 0, 1) := by decide +kernel
theorem dX7_next_42 : decode cX7_next 42 = .ok (.getfield 233, 3) := by decide +kernel
theorem dX7_next_45 : decode cX7_next 45 = .ok (.iconst 1, 1) := by decide +kernel
theorem dX7_next_46 : decode cX7_next 46 = .ok (.isub, 1) := by decide +kernel
theorem dX7_next_47 : decode cX7_next 47 = .ok (.iaload, 1) := by decide +kernel
theorem dX7_next_48 : decode cX7_next 48 = .ok (.ireturn, 1) := by decide +kernel
theorem dX7_wrong_0 : decode cX7_wrong 0 = .ok (.aload_n 0, 1) := by decide +kernel
theorem dX7_wrong_1 : decode cX7_wrong 1 = .ok (.getfield 230, 3) := by decide +kernel
theorem dX7_wrong_4 : decode cX7_wrong 4 = .ok (.ifCond .ne 18, 3) := by decide +kernel
theorem dX7_wrong_7 : decode cX7_wrong 7 = .ok (.aload_n 0, 1) := by decide +kernel
theorem dX7_wrong_8 : decode cX7_wrong 8 = .ok (.iload_n 1, 1) := by decide +kernel
theorem dX7_wrong_9 : decode cX7_wrong 9 = .ok (.putfield 230, 3) := by decide +kernel
theorem dX7_wrong_12 : decode cX7_wrong 12 = .ok (.aload_n 0, 1) := by decide +kernel
theorem dX7_wrong_13 : decode cX7_wrong 13 = .ok (.dup, 1) := by decide +kernel
theorem dX7_wrong_14 : decode cX7_wrong 14 = .ok (.getfield 233, 3) := by decide +kernel
theorem dX7_wrong_17 : decode cX7_wrong 17 = .ok (.iconst 1, 1) := by decide +kernel
theorem dX7_wrong_18 : decode cX7_wrong 18 = .ok (.isub, 1) := by decide +kernel
theorem dX7_wrong_19 : decode cX7_wrong 19 = .ok (.putfield 233, 3) := by decide +kernel
theorem dX7_wrong_22 : decode cX7_wrong 22 = .ok (.return_, 1) := by decide +kernel
theorem dX7_make_0 : decode cX7_make 0 = .ok (.aload_n 0, 1) := by decide +kernel
theorem dX7_make_1 : decode cX7_make 1 = .ok (.getfield 236, 3) := by decide +kernel
theorem dX7_make_4 : decode cX7_make 4 = .ok (.sipush 400, 3) := by decide +kernel
theorem dX7_make_7 : decode cX7_make 7 = .ok (.if_icmp .ge 64, 3) := by decide +kernel
theorem dX7_make_10 : decode cX7_make 10 = .ok (.aload_n 0, 1) := by decide +kernel
theorem dX7_make_11 : decode cX7_make 11 = .ok (.getfield 93, 3) := by decide +kernel
theorem dX7_make_14 : decode cX7_make 14 = .ok (.aload_n 0, 1) := by decide +kernel
theorem dX7_make_15 : decode cX7_make 15 = .ok (.getfield 236, 3) := by decide +kernel
theorem dX7_make_18 : decode cX7_make 18 = .ok (.iload_n 1, 1) := by decide +kernel
theorem dX7_make_19 : decode cX7_make 19 = .ok (.iastore, 1) := by decide +kernel
theorem dX7_make_20 : decode cX7_make 20 = .ok (.aload_n 0, 1) := by decide +kernel
theorem dX7_make_21 : decode cX7_make 21 = .ok (.getfield 96, 3) := by decide +kernel
theorem dX7_make_24 : decode cX7_make 24 = .ok (.aload_n 0, 1) := by decide +kernel
theorem dX7_make_25 : decode cX7_make 25 = .ok (.getfield 236, 3) := by decide +kernel
theorem dX7_make_28 : decode cX7_make 28 = .ok (.iload_n 2, 1) := by decide +kernel
theorem dX7_make_29 : decode cX7_make 29 = .ok (.iastore, 1) := by decide +kernel
theorem dX7_make_30 : decode cX7_make 30 = .ok (.aload_n 0, 1) := by decide +kernel
theorem dX7_make_31 : decode cX7_make 31 = .ok (.getfield 99, 3) := by decide +kernel
theorem dX7_make_34 : decode cX7_make 34 = .ok (.aload_n 0, 1) := by decide +kernel
theorem dX7_make_35 : decode cX7_make 35 = .ok (.getfield 236, 3) := by decide +kernel
theorem dX7_make_38 : decode cX7_make 38 = .ok (.iload_n 3, 1) := by decide +kernel
theorem dX7_make_39 : decode cX7_make 39 = .ok (.iastore, 1) := by decide +kernel
theorem dX7_make_40 : decode cX7_make 40 = .ok (.aload_n 0, 1) := by decide +kernel
theorem dX7_make_41 : decode cX7_make 41 = .ok (.getfield 102, 3) := by decide +kernel
theorem dX7_make_44 : decode cX7_make 44 = .ok (.aload_n 0, 1) := by decide +kernel
theorem dX7_make_45 : decode cX7_make 45 = .ok (.getfield 236, 3) := by decide +kernel
theorem dX7_make_48 : decode cX7_make 48 = .ok (.iload 4, 2) := by decide +kernel
theorem dX7_make_50 : decode cX7_make 50 = .ok (.iastore, 1) := by decide +kernel
theorem dX7_make_51 : decode cX7_make 51 = .ok (.aload_n 0, 1) := by decide +kernel
theorem dX7_make_52 : decode cX7_make 52 = .ok (.getfield 105, 3) := by decide +kernel
theorem dX7_make_55 : decode cX7_make 55 = .ok (.aload_n 0, 1) := by decide +kernel
theorem dX7_make_56 : decode cX7_make 56 = .ok (.getfield 236, 3) := by decide +kernel
theorem dX7_make_59 : decode cX7_make 59 = .ok (.iconst 0, 1) := by decide +kernel
theorem dX7_make_60 : decode cX7_make 60 = .ok (.iastore, 1) := by decide +kernel
theorem dX7_make_61 : decode cX7_make 61 = .ok (.aload_n 0, 1) := by decide +kernel
theorem dX7_make_62 : decode cX7_make 62 = .ok (.dup, 1) := by decide +kernel
theorem dX7_make_63 : decode cX7_make 63 = .ok (.getfield 236, 3) := by decide +kernel
theorem dX7_make_66 : decode cX7_make 66 = .ok (.iconst 1, 1) := by decide +kernel
theorem dX7_make_67 : decode cX7_make 67 = .ok (.iadd, 1) := by decide +kernel
theorem dX7_make_68 : decode cX7_make 68 = .ok (.putfield 236, 3) := by decide +kernel
theorem dX7_make_71 : decode cX7_make 71 = .ok (.return_, 1) := by decide +kernel
theorem dX7_testing_0 : decode cX7_testing 0 = .ok (.aload_n 0, 1) := by decide +kernel
theorem dX7_testing_1 : decode cX7_testing 1 = .ok (.invokevirtual 239, 3) := by decide +kernel
theorem dX7_testing_4 : decode cX7_testing 4 = .ok (.istore_n 2, 1) := by decide +kernel
theorem dX7_testing_5 : decode cX7_testing 5 = .ok (.iload_n 2, 1) := by decide +kernel
theorem dX7_testing_6 : decode cX7_testing 6 = .ok (.iconst 0, 1) := by decide +kernel
theorem dX7_testing_7 : decode cX7_testing 7 = .ok (.iload_n 1, 1) := by decide +kernel
theorem dX7_testing_8 : decode cX7_testing 8 = .ok (.ifCond .ne 7, 3) := by decide +kernel
theorem dX7_testing_11 : decode cX7_testing 11 = .ok (.iconst 3, 1) := by decide +kernel
theorem dX7_testing_12 : decode cX7_testing 12 = .ok (.goto 4, 3) := by decide +kernel
theorem dX7_testing_15 : decode cX7_testing 15 = .ok (.iconst 5, 1) := by decide +kernel
theorem dX7_testing_16 : decode cX7_testing 16 = .ok (.invokestatic 138, 3) := by decide +kernel
theorem dX7_testing_19 : decode cX7_testing 19 = .ok (.ifCond .ne 8, 3) := by decide +kernel
theorem dX7_testing_22 : decode cX7_testing 22 = .ok (.aload_n 0, 1) := by decide +kernel
theorem dX7_testing_23 : decode cX7_testing 23 = .ok (.iconst 4, 1) := by decide +kernel
theorem dX7_testing_24 : decode cX7_testing 24 = .ok (.invokevirtual 243, 3) := by decide +kernel
theorem dX7_testing_27 : decode cX7_testing 27 = .ok (.iload_n 2, 1) := by decide +kernel
theorem dX7_testing_28 : decode cX7_testing 28 = .ok (.ireturn, 1) := by decide +kernel
theorem dX7_beginBody_0 : decode cX7_beginBody 0 = .ok (.aload_n 0, 1) := by decide +kernel
theorem dX7_beginBody_1 : decode cX7_beginBody 1 = .ok (.invokevirtual 239, 3) := by decide +kernel
theorem dX7_beginBody_4 : decode cX7_beginBody 4 = .ok (.istore 5, 2) := by decide +kernel
theorem dX7_beginBody_6 : decode cX7_beginBody 6 = .ok (.aload_n 0, 1) := by decide +kernel
theorem dX7_beginBody_7 : decode cX7_beginBody 7 = .ok (.getfield 230, 3) := by decide +kernel
theorem dX7_beginBody_10 : decode cX7_beginBody 10 = .ok (.ifCond .ne 20, 3) := by decide +kernel
theorem dX7_beginBody_13 : decode cX7_beginBody 13 = .ok (.aload_n 0, 1) := by decide +kernel
theorem dX7_beginBody_14 : decode cX7_beginBody 14 = .ok (.getfield 246, 3) := by decide +kernel
theorem dX7_beginBody_17 : decode cX7_beginBody 17 = .ok (.bipush 61, 2) := by decide +kernel
theorem dX7_beginBody_19 : decode cX7_beginBody 19 = .ok (.if_icmp .ne 11, 3) := by decide +kernel
theorem dX7_beginBody_22 : decode cX7_beginBody 22 = .ok (.aload_n 0, 1) := by decide +kernel
theorem dX7_beginBody_23 : decode cX7_beginBody 23 = .ok (.iconst 2, 1) := by decide +kernel
theorem dX7_beginBody_24 : decode cX7_beginBody 24 = .ok (.invokevirtual 243, 3) := by decide +kernel
theorem dX7_beginBody_27 : decode cX7_beginBody 27 = .ok (.goto 13, 3) := by decide +kernel
theorem dX7_beginBody_30 : decode cX7_beginBody 30 = .ok (.iload 5, 2) := by decide +kernel
theorem dX7_beginBody_32 : decode cX7_beginBody 32 = .ok (.ifCond .ge 8, 3) := by decide +kernel
theorem dX7_beginBody_35 : decode cX7_beginBody 35 = .ok (.aload_n 0, 1) := by decide +kernel
theorem dX7_beginBody_36 : decode cX7_beginBody 36 = .ok (.iconst 3, 1) := by decide +kernel
theorem dX7_beginBody_37 : decode cX7_beginBody 37 = .ok (.invokevirtual 243, 3) := by decide +kernel
theorem dX7_beginBody_40 : decode cX7_beginBody 40 = .ok (.aload_n 0, 1) := by decide +kernel
theorem dX7_beginBody_41 : decode cX7_beginBody 41 = .ok (.getfield 230, 3) := by decide +kernel
theorem dX7_beginBody_44 : decode cX7_beginBody 44 = .ok (.ifCond .ne 78, 3) := by decide +kernel
theorem dX7_beginBody_47 : decode cX7_beginBody 47 = .ok (.aload_n 0, 1) := by decide +kernel
theorem dX7_beginBody_48 : decode cX7_beginBody 48 = .ok (.getfield 111, 3) := by decide +kernel
theorem dX7_beginBody_51 : decode cX7_beginBody 51 = .ok (.aload_n 0, 1) := by decide +kernel
theorem dX7_beginBody_52 : decode cX7_beginBody 52 = .ok (.getfield 246, 3) := by decide +kernel
theorem dX7_beginBody_55 : decode cX7_beginBody 55 = .ok (.iload 5, 2) := by decide +kernel
theorem dX7_beginBody_57 : decode cX7_beginBody 57 = .ok (.iastore, 1) := by decide +kernel
theorem dX7_beginBody_58 : decode cX7_beginBody 58 = .ok (.aload_n 0, 1) := by decide +kernel
theorem dX7_beginBody_59 : decode cX7_beginBody 59 = .ok (.getfield 114, 3) := by decide +kernel
theorem dX7_beginBody_62 : decode cX7_beginBody 62 = .ok (.aload_n 0, 1) := by decide +kernel
theorem dX7_beginBody_63 : decode cX7_beginBody 63 = .ok (.getfield 246, 3) := by decide +kernel
theorem dX7_beginBody_66 : decode cX7_beginBody 66 = .ok (.iload_n 1, 1) := by decide +kernel
theorem dX7_beginBody_67 : decode cX7_beginBody 67 = .ok (.iastore, 1) := by decide +kernel
theorem dX7_beginBody_68 : decode cX7_beginBody 68 = .ok (.aload_n 0, 1) := by decide +kernel
theorem dX7_beginBody_69 : decode cX7_beginBody 69 = .ok (.getfield 117, 3) := by decide +kernel
theorem dX7_beginBody_72 : decode cX7_beginBody 72 = .ok (.aload_n 0, 1) := by decide +kernel
theorem dX7_beginBody_73 : decode cX7_beginBody 73 = .ok (.getfield 246, 3) := by decide +kernel
theorem dX7_beginBody_76 : decode cX7_beginBody 76 = .ok (.aload_n 0, 1) := by decide +kernel
theorem dX7_beginBody_77 : decode cX7_beginBody 77 = .ok (.getfield 236, 3) := by decide +kernel
theorem dX7_beginBody_80 : decode cX7_beginBody 80 = .ok (.iastore, 1) := by decide +kernel
theorem dX7_beginBody_81 : decode cX7_beginBody 81 = .ok (.aload_n 0, 1) := by decide +kernel
theorem dX7_beginBody_82 : decode cX7_beginBody 82 = .ok (.getfield 120, 3) := by decide +kernel
theorem dX7_beginBody_85 : decode cX7_beginBody 85 = .ok (.aload_n 0, 1) := by decide +kernel
theorem dX7_beginBody_86 : decode cX7_beginBody 86 = .ok (.getfield 246, 3) := by decide +kernel
theorem dX7_beginBody_89 : decode cX7_beginBody 89 = .ok (.iload_n 2, 1) := by decide +kernel
theorem dX7_beginBody_90 : decode cX7_beginBody 90 = .ok (.iastore, 1) := by decide +kernel
theorem dX7_beginBody_91 : decode cX7_beginBody 91 = .ok (.aload_n 0, 1) := by decide +kernel
theorem dX7_beginBody_92 : decode cX7_beginBody 92 = .ok (.getfield 123, 3) := by decide +kernel
theorem dX7_beginBody_95 : decode cX7_beginBody 95 = .ok (.aload_n 0, 1) := by decide +kernel
theorem dX7_beginBody_96 : decode cX7_beginBody 96 = .ok (.getfield 246, 3) := by decide +kernel
theorem dX7_beginBody_99 : decode cX7_beginBody 99 = .ok (.iload_n 3, 1) := by decide +kernel
theorem dX7_beginBody_100 : decode cX7_beginBody 100 = .ok (.iastore, 1) := by decide +kernel
theorem dX7_beginBody_101 : decode cX7_beginBody 101 = .ok (.aload_n 0, 1) := by decide +kernel
theorem dX7_beginBody_102 : decode cX7_beginBody 102 = .ok (.getfield 126, 3) := by decide +kernel
theorem dX7_beginBody_105 : decode cX7_beginBody 105 = .ok (.aload_n 0, 1) := by decide +kernel
theorem dX7_beginBody_106 : decode cX7_beginBody 106 = .ok (.getfield 246, 3) := by decide +kernel
theorem dX7_beginBody_109 : decode cX7_beginBody 109 = .ok (.iload 4, 2) := by decide +kernel
theorem dX7_beginBody_111 : decode cX7_beginBody 111 = .ok (.iastore, 1) := by decide +kernel
theorem dX7_beginBody_112 : decode cX7_beginBody 112 = .ok (.aload_n 0, 1) := by decide +kernel
theorem dX7_beginBody_113 : decode cX7_beginBody 113 = .ok (.dup, 1) := by decide +kernel
theorem dX7_beginBody_114 : decode cX7_beginBody 114 = .ok (.getfield 246, 3) := by decide +kernel
theorem dX7_beginBody_117 : decode cX7_beginBody 117 = .ok (.iconst 1, 1) := by decide +kernel
theorem dX7_beginBody_118 : decode cX7_beginBody 118 = .ok (.iadd, 1) := by decide +kernel
theorem dX7_beginBody_119 : decode cX7_beginBody 119 = .ok (.putfield 246, 3) := by decide +kernel
theorem dX7_beginBody_122 : decode cX7_beginBody 122 = .ok (.return_, 1) := by decide +kernel
theorem dX7_innermost_0 : decode cX7_innermost 0 = .ok (.iconst (-1), 1) := by decide +kernel
theorem dX7_innermost_1 : decode cX7_innermost 1 = .ok (.istore_n 1, 1) := by decide +kernel
theorem dX7_innermost_2 : decode cX7_innermost 2 = .ok (.iconst 0, 1) := by decide +kernel
theorem dX7_innermost_3 : decode cX7_innermost 3 = .ok (.istore_n 2, 1) := by decide +kernel
theorem dX7_innermost_4 : decode cX7_innermost 4 = .ok (.iload_n 2, 1) := by decide +kernel
theorem dX7_innermost_5 : decode cX7_innermost 5 = .ok (.aload_n 0, 1) := by decide +kernel
theorem dX7_innermost_6 : decode cX7_innermost 6 = .ok (.getfield 246, 3) := by decide +kernel
theorem dX7_innermost_9 : decode cX7_innermost 9 = .ok (.if_icmp .ge 29, 3) := by decide +kernel
theorem dX7_innermost_12 : decode cX7_innermost 12 = .ok (.aload_n 0, 1) := by decide +kernel
theorem dX7_innermost_13 : decode cX7_innermost 13 = .ok (.getfield 114, 3) := by decide +kernel
theorem dX7_innermost_16 : decode cX7_innermost 16 = .ok (.iload_n 2, 1) := by decide +kernel
theorem dX7_innermost_17 : decode cX7_innermost 17 = .ok (.iaload, 1) := by decide +kernel
theorem dX7_innermost_18 : decode cX7_innermost 18 = .ok (.iconst 3, 1) := by decide +kernel
theorem dX7_innermost_19 : decode cX7_innermost 19 = .ok (.iconst 5, 1) := by decide +kernel
theorem dX7_innermost_20 : decode cX7_innermost 20 = .ok (.invokestatic 138, 3) := by decide +kernel
theorem dX7_innermost_23 : decode cX7_innermost 23 = .ok (.ifCond .eq 7, 3) := by decide +kernel
theorem dX7_innermost_26 : decode cX7_innermost 26 = .ok (.iload_n 2, 1) := by decide +kernel
theorem dX7_innermost_27 : decode cX7_innermost 27 = .ok (.goto 4, 3) := by decide +kernel
theorem dX7_innermost_30 : decode cX7_innermost 30 = .ok (.iload_n 1, 1) := by decide +kernel
theorem dX7_innermost_31 : decode cX7_innermost 31 = .ok (.istore_n 1, 1) := by decide +kernel
theorem dX7_innermost_32 : decode cX7_innermost 32 = .ok (.iinc 2 1, 3) := by decide +kernel
theorem dX7_innermost_35 : decode cX7_innermost 35 = .ok (.goto (-31), 3) := by decide +kernel
theorem dX7_innermost_38 : decode cX7_innermost 38 = .ok (.iload_n 1, 1) := by decide +kernel
theorem dX7_innermost_39 : decode cX7_innermost 39 = .ok (.ireturn, 1) := by decide +kernel
end
section
theorem dX7_leave_0 : decode cX7_leave 0 = .ok (.aload_n 0, 1) := by decide +kernel
theorem dX7_leave_1 : decode cX7_leave 1 = .ok (.iload_n 2, 1) := by decide +kernel
theorem dX7_leave_2 : decode cX7_leave 2 = .ok (.ifCond .eq 7, 3) := by decide +kernel
theorem dX7_leave_5 : decode cX7_leave 5 = .ok (.iconst 3, 1) := by decide +kernel
theorem dX7_leave_6 : decode cX7_leave 6 = .ok (.goto 4, 3) := by decide +kernel
theorem dX7_leave_9 : decode cX7_leave 9 = .ok (.iconst 2, 1) := by decide +kernel
theorem dX7_leave_10 : decode cX7_leave 10 = .ok (.iload_n 3, 1) := by decide +kernel
theorem dX7_leave_11 : decode cX7_leave 11 = .ok (.iload 4, 2) := by decide +kernel
theorem dX7_leave_13 : decode cX7_leave 13 = .ok (.iconst 0, 1) := by decide +kernel
theorem dX7_leave_14 : decode cX7_leave 14 = .ok (.invokevirtual 249, 3) := by decide +kernel
theorem dX7_leave_17 : decode cX7_leave 17 = .ok (.aload_n 0, 1) := by decide +kernel
theorem dX7_leave_18 : decode cX7_leave 18 = .ok (.getfield 105, 3) := by decide +kernel
theorem dX7_leave_21 : decode cX7_leave 21 = .ok (.aload_n 0, 1) := by decide +kernel
theorem dX7_leave_22 : decode cX7_leave 22 = .ok (.getfield 236, 3) := by decide +kernel
theorem dX7_leave_25 : decode cX7_leave 25 = .ok (.iconst 1, 1) := by decide +kernel
theorem dX7_leave_26 : decode cX7_leave 26 = .ok (.isub, 1) := by decide +kernel
theorem dX7_leave_27 : decode cX7_leave 27 = .ok (.iload_n 1, 1) := by decide +kernel
theorem dX7_leave_28 : decode cX7_leave 28 = .ok (.iastore, 1) := by decide +kernel
theorem dX7_leave_29 : decode cX7_leave 29 = .ok (.aload_n 0, 1) := by decide +kernel
theorem dX7_leave_30 : decode cX7_leave 30 = .ok (.getfield 108, 3) := by decide +kernel
theorem dX7_leave_33 : decode cX7_leave 33 = .ok (.aload_n 0, 1) := by decide +kernel
theorem dX7_leave_34 : decode cX7_leave 34 = .ok (.getfield 236, 3) := by decide +kernel
theorem dX7_leave_37 : decode cX7_leave 37 = .ok (.iconst 1, 1) := by decide +kernel
theorem dX7_leave_38 : decode cX7_leave 38 = .ok (.isub, 1) := by decide +kernel
theorem dX7_leave_39 : decode cX7_leave 39 = .ok (.aload_n 0, 1) := by decide +kernel
theorem dX7_leave_40 : decode cX7_leave 40 = .ok (.invokevirtual 253, 3) := by decide +kernel
theorem dX7_leave_43 : decode cX7_leave 43 = .ok (.iastore, 1) := by decide +kernel
theorem dX7_leave_44 : decode cX7_leave 44 = .ok (.return_, 1) := by decide +kernel
theorem dX7_writeAct_0 : decode cX7_writeAct 0 = .ok (.aload_n 0, 1) := by decide +kernel
theorem dX7_writeAct_1 : decode cX7_writeAct 1 = .ok (.invokevirtual 239, 3) := by decide +kernel
theorem dX7_writeAct_4 : decode cX7_writeAct 4 = .ok (.istore_n 1, 1) := by decide +kernel
theorem dX7_writeAct_5 : decode cX7_writeAct 5 = .ok (.aload_n 0, 1) := by decide +kernel
theorem dX7_writeAct_6 : decode cX7_writeAct 6 = .ok (.getfield 230, 3) := by decide +kernel
theorem dX7_writeAct_9 : decode cX7_writeAct 9 = .ok (.ifCond .ne 27, 3) := by decide +kernel
theorem dX7_writeAct_12 : decode cX7_writeAct 12 = .ok (.iload_n 1, 1) := by decide +kernel
theorem dX7_writeAct_13 : decode cX7_writeAct 13 = .ok (.ifCond .eq 23, 3) := by decide +kernel
theorem dX7_writeAct_16 : decode cX7_writeAct 16 = .ok (.iload_n 1, 1) := by decide +kernel
theorem dX7_writeAct_17 : decode cX7_writeAct 17 = .ok (.iconst 1, 1) := by decide +kernel
theorem dX7_writeAct_18 : decode cX7_writeAct 18 = .ok (.if_icmp .eq 18, 3) := by decide +kernel
theorem dX7_writeAct_21 : decode cX7_writeAct 21 = .ok (.iload_n 1, 1) := by decide +kernel
theorem dX7_writeAct_22 : decode cX7_writeAct 22 = .ok (.iconst 4, 1) := by decide +kernel
theorem dX7_writeAct_23 : decode cX7_writeAct 23 = .ok (.if_icmp .eq 13, 3) := by decide +kernel
theorem dX7_writeAct_26 : decode cX7_writeAct 26 = .ok (.iload_n 1, 1) := by decide +kernel
theorem dX7_writeAct_27 : decode cX7_writeAct 27 = .ok (.iconst 5, 1) := by decide +kernel
theorem dX7_writeAct_28 : decode cX7_writeAct 28 = .ok (.if_icmp .eq 8, 3) := by decide +kernel
theorem dX7_writeAct_31 : decode cX7_writeAct 31 = .ok (.aload_n 0, 1) := by decide +kernel
theorem dX7_writeAct_32 : decode cX7_writeAct 32 = .ok (.iconst 4, 1) := by decide +kernel
theorem dX7_writeAct_33 : decode cX7_writeAct 33 = .ok (.invokevirtual 243, 3) := by decide +kernel
theorem dX7_writeAct_36 : decode cX7_writeAct 36 = .ok (.aload_n 0, 1) := by decide +kernel
theorem dX7_writeAct_37 : decode cX7_writeAct 37 = .ok (.invokevirtual 239, 3) := by decide +kernel
theorem dX7_writeAct_40 : decode cX7_writeAct 40 = .ok (.istore_n 2, 1) := by decide +kernel
theorem dX7_writeAct_41 : decode cX7_writeAct 41 = .ok (.aload_n 0, 1) := by decide +kernel
theorem dX7_writeAct_42 : decode cX7_writeAct 42 = .ok (.getfield 230, 3) := by decide +kernel
theorem dX7_writeAct_45 : decode cX7_writeAct 45 = .ok (.ifCond .ne 30, 3) := by decide +kernel
theorem dX7_writeAct_48 : decode cX7_writeAct 48 = .ok (.iload_n 1, 1) := by decide +kernel
theorem dX7_writeAct_49 : decode cX7_writeAct 49 = .ok (.iconst 4, 1) := by decide +kernel
theorem dX7_writeAct_50 : decode cX7_writeAct 50 = .ok (.if_icmp .ne 10, 3) := by decide +kernel
theorem dX7_writeAct_53 : decode cX7_writeAct 53 = .ok (.iload_n 2, 1) := by decide +kernel
theorem dX7_writeAct_54 : decode cX7_writeAct 54 = .ok (.ifCond .eq 21, 3) := by decide +kernel
theorem dX7_writeAct_57 : decode cX7_writeAct 57 = .ok (.goto 13, 3) := by decide +kernel
theorem dX7_writeAct_60 : decode cX7_writeAct 60 = .ok (.iload_n 1, 1) := by decide +kernel
theorem dX7_writeAct_61 : decode cX7_writeAct 61 = .ok (.iload_n 2, 1) := by decide +kernel
theorem dX7_writeAct_62 : decode cX7_writeAct 62 = .ok (.iconst 0, 1) := by decide +kernel
theorem dX7_writeAct_63 : decode cX7_writeAct 63 = .ok (.iconst 0, 1) := by decide +kernel
theorem dX7_writeAct_64 : decode cX7_writeAct 64 = .ok (.invokestatic 146, 3) := by decide +kernel
theorem dX7_writeAct_67 : decode cX7_writeAct 67 = .ok (.ifCond .ne 8, 3) := by decide +kernel
theorem dX7_writeAct_70 : decode cX7_writeAct 70 = .ok (.aload_n 0, 1) := by decide +kernel
theorem dX7_writeAct_71 : decode cX7_writeAct 71 = .ok (.iconst 4, 1) := by decide +kernel
theorem dX7_writeAct_72 : decode cX7_writeAct 72 = .ok (.invokevirtual 243, 3) := by decide +kernel
theorem dX7_writeAct_75 : decode cX7_writeAct 75 = .ok (.aload_n 0, 1) := by decide +kernel
theorem dX7_writeAct_76 : decode cX7_writeAct 76 = .ok (.invokevirtual 239, 3) := by decide +kernel
theorem dX7_writeAct_79 : decode cX7_writeAct 79 = .ok (.istore_n 3, 1) := by decide +kernel
theorem dX7_writeAct_80 : decode cX7_writeAct 80 = .ok (.aload_n 0, 1) := by decide +kernel
theorem dX7_writeAct_81 : decode cX7_writeAct 81 = .ok (.getfield 230, 3) := by decide +kernel
theorem dX7_writeAct_84 : decode cX7_writeAct 84 = .ok (.ifCond .ne 17, 3) := by decide +kernel
theorem dX7_writeAct_87 : decode cX7_writeAct 87 = .ok (.iload_n 1, 1) := by decide +kernel
theorem dX7_writeAct_88 : decode cX7_writeAct 88 = .ok (.iconst 1, 1) := by decide +kernel
theorem dX7_writeAct_89 : decode cX7_writeAct 89 = .ok (.if_icmp .eq 12, 3) := by decide +kernel
theorem dX7_writeAct_92 : decode cX7_writeAct 92 = .ok (.iload_n 3, 1) := by decide +kernel
theorem dX7_writeAct_93 : decode cX7_writeAct 93 = .ok (.ifCond .eq 8, 3) := by decide +kernel
theorem dX7_writeAct_96 : decode cX7_writeAct 96 = .ok (.aload_n 0, 1) := by decide +kernel
theorem dX7_writeAct_97 : decode cX7_writeAct 97 = .ok (.iconst 4, 1) := by decide +kernel
theorem dX7_writeAct_98 : decode cX7_writeAct 98 = .ok (.invokevirtual 243, 3) := by decide +kernel
theorem dX7_writeAct_101 : decode cX7_writeAct 101 = .ok (.aload_n 0, 1) := by decide +kernel
theorem dX7_writeAct_102 : decode cX7_writeAct 102 = .ok (.iload_n 1, 1) := by decide +kernel
theorem dX7_writeAct_103 : decode cX7_writeAct 103 = .ok (.iload_n 2, 1) := by decide +kernel
theorem dX7_writeAct_104 : decode cX7_writeAct 104 = .ok (.iload_n 3, 1) := by decide +kernel
theorem dX7_writeAct_105 : decode cX7_writeAct 105 = .ok (.iconst 0, 1) := by decide +kernel
theorem dX7_writeAct_106 : decode cX7_writeAct 106 = .ok (.invokevirtual 249, 3) := by decide +kernel
theorem dX7_writeAct_109 : decode cX7_writeAct 109 = .ok (.return_, 1) := by decide +kernel
theorem dX7_writeStatement_0 : decode cX7_writeStatement 0 = .ok (.aload_n 0, 1) := by decide +kernel
theorem dX7_writeStatement_1 : decode cX7_writeStatement 1 = .ok (.invokevirtual 239, 3) := by decide +kernel
theorem dX7_writeStatement_4 : decode cX7_writeStatement 4 = .ok (.istore_n 1, 1) := by decide +kernel
theorem dX7_writeStatement_5 : decode cX7_writeStatement 5 = .ok (.aload_n 0, 1) := by decide +kernel
theorem dX7_writeStatement_6 : decode cX7_writeStatement 6 = .ok (.getfield 230, 3) := by decide +kernel
theorem dX7_writeStatement_9 : decode cX7_writeStatement 9 = .ok (.ifCond .ne 18, 3) := by decide +kernel
theorem dX7_writeStatement_12 : decode cX7_writeStatement 12 = .ok (.iload_n 1, 1) := by decide +kernel
theorem dX7_writeStatement_13 : decode cX7_writeStatement 13 = .ok (.iconst 0, 1) := by decide +kernel
theorem dX7_writeStatement_14 : decode cX7_writeStatement 14 = .ok (.bipush 11, 2) := by decide +kernel
theorem dX7_writeStatement_16 : decode cX7_writeStatement 16 = .ok (.invokestatic 138, 3) := by decide +kernel
theorem dX7_writeStatement_19 : decode cX7_writeStatement 19 = .ok (.ifCond .ne 8, 3) := by decide +kernel
theorem dX7_writeStatement_22 : decode cX7_writeStatement 22 = .ok (.aload_n 0, 1) := by decide +kernel
theorem dX7_writeStatement_23 : decode cX7_writeStatement 23 = .ok (.iconst 2, 1) := by decide +kernel
theorem dX7_writeStatement_24 : decode cX7_writeStatement 24 = .ok (.invokevirtual 243, 3) := by decide +kernel
theorem dX7_writeStatement_27 : decode cX7_writeStatement 27 = .ok (.iload_n 1, 1) := by decide +kernel
theorem dX7_writeStatement_28 : decode cX7_writeStatement 28 = .ok (.bipush 6, 2) := by decide +kernel
theorem dX7_writeStatement_30 : decode cX7_writeStatement 30 = .ok (.if_icmp .eq 21, 3) := by decide +kernel
theorem dX7_writeStatement_33 : decode cX7_writeStatement 33 = .ok (.iload_n 1, 1) := by decide +kernel
theorem dX7_writeStatement_34 : decode cX7_writeStatement 34 = .ok (.bipush 7, 2) := by decide +kernel
theorem dX7_writeStatement_36 : decode cX7_writeStatement 36 = .ok (.if_icmp .eq 15, 3) := by decide +kernel
theorem dX7_writeStatement_39 : decode cX7_writeStatement 39 = .ok (.iload_n 1, 1) := by decide +kernel
theorem dX7_writeStatement_40 : decode cX7_writeStatement 40 = .ok (.bipush 9, 2) := by decide +kernel
theorem dX7_writeStatement_42 : decode cX7_writeStatement 42 = .ok (.if_icmp .eq 9, 3) := by decide +kernel
theorem dX7_writeStatement_45 : decode cX7_writeStatement 45 = .ok (.iload_n 1, 1) := by decide +kernel
theorem dX7_writeStatement_46 : decode cX7_writeStatement 46 = .ok (.bipush 10, 2) := by decide +kernel
theorem dX7_writeStatement_48 : decode cX7_writeStatement 48 = .ok (.if_icmp .ne 7, 3) := by decide +kernel
theorem dX7_writeStatement_51 : decode cX7_writeStatement 51 = .ok (.iconst 1, 1) := by decide +kernel
theorem dX7_writeStatement_52 : decode cX7_writeStatement 52 = .ok (.goto 4, 3) := by decide +kernel
theorem dX7_writeStatement_55 : decode cX7_writeStatement 55 = .ok (.iconst 0, 1) := by decide +kernel
theorem dX7_writeStatement_56 : decode cX7_writeStatement 56 = .ok (.istore_n 2, 1) := by decide +kernel
theorem dX7_writeStatement_57 : decode cX7_writeStatement 57 = .ok (.aload_n 0, 1) := by decide +kernel
theorem dX7_writeStatement_58 : decode cX7_writeStatement 58 = .ok (.getfield 230, 3) := by decide +kernel
theorem dX7_writeStatement_61 : decode cX7_writeStatement 61 = .ok (.ifCond .ne 20, 3) := by decide +kernel
theorem dX7_writeStatement_64 : decode cX7_writeStatement 64 = .ok (.iload_n 2, 1) := by decide +kernel
theorem dX7_writeStatement_65 : decode cX7_writeStatement 65 = .ok (.ifCond .eq 16, 3) := by decide +kernel
theorem dX7_writeStatement_68 : decode cX7_writeStatement 68 = .ok (.aload_n 0, 1) := by decide +kernel
theorem dX7_writeStatement_69 : decode cX7_writeStatement 69 = .ok (.invokevirtual 253, 3) := by decide +kernel
theorem dX7_writeStatement_72 : decode cX7_writeStatement 72 = .ok (.iconst (-1), 1) := by decide +kernel
theorem dX7_writeStatement_73 : decode cX7_writeStatement 73 = .ok (.if_icmp .ne 8, 3) := by decide +kernel
theorem dX7_writeStatement_76 : decode cX7_writeStatement 76 = .ok (.aload_n 0, 1) := by decide +kernel
theorem dX7_writeStatement_77 : decode cX7_writeStatement 77 = .ok (.iconst 5, 1) := by decide +kernel
theorem dX7_writeStatement_78 : decode cX7_writeStatement 78 = .ok (.invokevirtual 243, 3) := by decide +kernel
theorem dX7_writeStatement_81 : decode cX7_writeStatement 81 = .ok (.aload_n 0, 1) := by decide +kernel
theorem dX7_writeStatement_82 : decode cX7_writeStatement 82 = .ok (.getfield 230, 3) := by decide +kernel
theorem dX7_writeStatement_85 : decode cX7_writeStatement 85 = .ok (.ifCond .eq 4, 3) := by decide +kernel
theorem dX7_writeStatement_88 : decode cX7_writeStatement 88 = .ok (.return_, 1) := by decide +kernel
theorem dX7_writeStatement_89 : decode cX7_writeStatement 89 = .ok (.iload_n 1, 1) := by decide +kernel
theorem dX7_writeStatement_90 : decode cX7_writeStatement 90 = .ok (.ifCond .ne 8, 3) := by decide +kernel
theorem dX7_writeStatement_93 : decode cX7_writeStatement 93 = .ok (.aload_n 0, 1) := by decide +kernel
theorem dX7_writeStatement_94 : decode cX7_writeStatement 94 = .ok (.invokevirtual 256, 3) := by decide +kernel
theorem dX7_writeStatement_97 : decode cX7_writeStatement 97 = .ok (.return_, 1) := by decide +kernel
theorem dX7_writeStatement_98 : decode cX7_writeStatement 98 = .ok (.iload_n 1, 1) := by decide +kernel
theorem dX7_writeStatement_99 : decode cX7_writeStatement 99 = .ok (.iconst 3, 1) := by decide +kernel
theorem dX7_writeStatement_100 : decode cX7_writeStatement 100 = .ok (.if_icmp .eq 18, 3) := by decide +kernel
theorem dX7_writeStatement_103 : decode cX7_writeStatement 103 = .ok (.iload_n 1, 1) := by decide +kernel
theorem dX7_writeStatement_104 : decode cX7_writeStatement 104 = .ok (.bipush 6, 2) := by decide +kernel
theorem dX7_writeStatement_106 : decode cX7_writeStatement 106 = .ok (.bipush 8, 2) := by decide +kernel
theorem dX7_writeStatement_108 : decode cX7_writeStatement 108 = .ok (.invokestatic 138, 3) := by decide +kernel
theorem dX7_writeStatement_111 : decode cX7_writeStatement 111 = .ok (.ifCond .ne 7, 3) := by decide +kernel
theorem dX7_writeStatement_114 : decode cX7_writeStatement 114 = .ok (.iconst 1, 1) := by decide +kernel
theorem dX7_writeStatement_115 : decode cX7_writeStatement 115 = .ok (.goto 4, 3) := by decide +kernel
theorem dX7_writeStatement_118 : decode cX7_writeStatement 118 = .ok (.iconst 0, 1) := by decide +kernel
theorem dX7_writeStatement_119 : decode cX7_writeStatement 119 = .ok (.istore_n 3, 1) := by decide +kernel
theorem dX7_writeStatement_120 : decode cX7_writeStatement 120 = .ok (.iload_n 3, 1) := by decide +kernel
theorem dX7_writeStatement_121 : decode cX7_writeStatement 121 = .ok (.ifCond .eq 11, 3) := by decide +kernel
theorem dX7_writeStatement_124 : decode cX7_writeStatement 124 = .ok (.aload_n 0, 1) := by decide +kernel
theorem dX7_writeStatement_125 : decode cX7_writeStatement 125 = .ok (.iconst 0, 1) := by decide +kernel
theorem dX7_writeStatement_126 : decode cX7_writeStatement 126 = .ok (.invokevirtual 259, 3) := by decide +kernel
theorem dX7_writeStatement_129 : decode cX7_writeStatement 129 = .ok (.goto 4, 3) := by decide +kernel
theorem dX7_writeStatement_132 : decode cX7_writeStatement 132 = .ok (.iconst 0, 1) := by decide +kernel
theorem dX7_writeStatement_133 : decode cX7_writeStatement 133 = .ok (.istore 4, 2) := by decide +kernel
theorem dX7_writeStatement_135 : decode cX7_writeStatement 135 = .ok (.iload_n 3, 1) := by decide +kernel
theorem dX7_writeStatement_136 : decode cX7_writeStatement 136 = .ok (.ifCond .eq 11, 3) := by decide +kernel
theorem dX7_writeStatement_139 : decode cX7_writeStatement 139 = .ok (.aload_n 0, 1) := by decide +kernel
theorem dX7_writeStatement_140 : decode cX7_writeStatement 140 = .ok (.iconst 1, 1) := by decide +kernel
theorem dX7_writeStatement_141 : decode cX7_writeStatement 141 = .ok (.invokevirtual 259, 3) := by decide +kernel
theorem dX7_writeStatement_144 : decode cX7_writeStatement 144 = .ok (.goto 4, 3) := by decide +kernel
theorem dX7_writeStatement_147 : decode cX7_writeStatement 147 = .ok (.iconst 0, 1) := by decide +kernel
theorem dX7_writeStatement_148 : decode cX7_writeStatement 148 = .ok (.istore 5, 2) := by decide +kernel
theorem dX7_writeStatement_150 : decode cX7_writeStatement 150 = .ok (.iload_n 2, 1) := by decide +kernel
theorem dX7_writeStatement_151 : decode cX7_writeStatement 151 = .ok (.ifCond .eq 32, 3) := by decide +kernel
theorem dX7_writeStatement_154 : decode cX7_writeStatement 154 = .ok (.aload_n 0, 1) := by decide +kernel
theorem dX7_writeStatement_155 : decode cX7_writeStatement 155 = .ok (.iload_n 1, 1) := by decide +kernel
theorem dX7_writeStatement_156 : decode cX7_writeStatement 156 = .ok (.bipush 6, 2) := by decide +kernel
theorem dX7_writeStatement_158 : decode cX7_writeStatement 158 = .ok (.if_icmp .eq 9, 3) := by decide +kernel
theorem dX7_writeStatement_161 : decode cX7_writeStatement 161 = .ok (.iload_n 1, 1) := by decide +kernel
theorem dX7_writeStatement_162 : decode cX7_writeStatement 162 = .ok (.bipush 9, 2) := by decide +kernel
theorem dX7_writeStatement_164 : decode cX7_writeStatement 164 = .ok (.if_icmp .ne 7, 3) := by decide +kernel
theorem dX7_writeStatement_167 : decode cX7_writeStatement 167 = .ok (.iconst 1, 1) := by decide +kernel
theorem dX7_writeStatement_168 : decode cX7_writeStatement 168 = .ok (.goto 4, 3) := by decide +kernel
theorem dX7_writeStatement_171 : decode cX7_writeStatement 171 = .ok (.iconst 2, 1) := by decide +kernel
theorem dX7_writeStatement_172 : decode cX7_writeStatement 172 = .ok (.iload_n 3, 1) := by decide +kernel
theorem dX7_writeStatement_173 : decode cX7_writeStatement 173 = .ok (.iload 4, 2) := by decide +kernel
theorem dX7_writeStatement_175 : decode cX7_writeStatement 175 = .ok (.iload 5, 2) := by decide +kernel
theorem dX7_writeStatement_177 : decode cX7_writeStatement 177 = .ok (.invokevirtual 262, 3) := by decide +kernel
theorem dX7_writeStatement_180 : decode cX7_writeStatement 180 = .ok (.goto 96, 3) := by decide +kernel
theorem dX7_writeStatement_183 : decode cX7_writeStatement 183 = .ok (.iload_n 1, 1) := by decide +kernel
theorem dX7_writeStatement_184 : decode cX7_writeStatement 184 = .ok (.bipush 8, 2) := by decide +kernel
theorem dX7_writeStatement_186 : decode cX7_writeStatement 186 = .ok (.if_icmp .eq 9, 3) := by decide +kernel
theorem dX7_writeStatement_189 : decode cX7_writeStatement 189 = .ok (.iload_n 1, 1) := by decide +kernel
theorem dX7_writeStatement_190 : decode cX7_writeStatement 190 = .ok (.bipush 11, 2) := by decide +kernel
theorem dX7_writeStatement_192 : decode cX7_writeStatement 192 = .ok (.if_icmp .ne 42, 3) := by decide +kernel
theorem dX7_writeStatement_195 : decode cX7_writeStatement 195 = .ok (.aload_n 0, 1) := by decide +kernel
theorem dX7_writeStatement_196 : decode cX7_writeStatement 196 = .ok (.invokevirtual 239, 3) := by decide +kernel
theorem dX7_writeStatement_199 : decode cX7_writeStatement 199 = .ok (.istore 6, 2) := by decide +kernel
theorem dX7_writeStatement_201 : decode cX7_writeStatement 201 = .ok (.iload 6, 2) := by decide +kernel
theorem dX7_writeStatement_203 : decode cX7_writeStatement 203 = .ok (.ifCond .ge 9, 3) := by decide +kernel
theorem dX7_writeStatement_206 : decode cX7_writeStatement 206 = .ok (.aload_n 0, 1) := by decide +kernel
theorem dX7_writeStatement_207 : decode cX7_writeStatement 207 = .ok (.bipush 6, 2) := by decide +kernel
theorem dX7_writeStatement_209 : decode cX7_writeStatement 209 = .ok (.invokevirtual 243, 3) := by decide +kernel
theorem dX7_writeStatement_212 : decode cX7_writeStatement 212 = .ok (.aload_n 0, 1) := by decide +kernel
theorem dX7_writeStatement_213 : decode cX7_writeStatement 213 = .ok (.iload_n 3, 1) := by decide +kernel
theorem dX7_writeStatement_214 : decode cX7_writeStatement 214 = .ok (.ifCond .eq 7, 3) := by decide +kernel
theorem dX7_writeStatement_217 : decode cX7_writeStatement 217 = .ok (.iconst 3, 1) := by decide +kernel
theorem dX7_writeStatement_218 : decode cX7_writeStatement 218 = .ok (.goto 4, 3) := by decide +kernel
theorem dX7_writeStatement_221 : decode cX7_writeStatement 221 = .ok (.iconst 2, 1) := by decide +kernel
theorem dX7_writeStatement_222 : decode cX7_writeStatement 222 = .ok (.iload 4, 2) := by decide +kernel
theorem dX7_writeStatement_224 : decode cX7_writeStatement 224 = .ok (.iload 5, 2) := by decide +kernel
theorem dX7_writeStatement_226 : decode cX7_writeStatement 226 = .ok (.iload 6, 2) := by decide +kernel
theorem dX7_writeStatement_228 : decode cX7_writeStatement 228 = .ok (.invokevirtual 249, 3) := by decide +kernel
theorem dX7_writeStatement_231 : decode cX7_writeStatement 231 = .ok (.goto 45, 3) := by decide +kernel
theorem dX7_writeStatement_234 : decode cX7_writeStatement 234 = .ok (.aload_n 0, 1) := by decide +kernel
theorem dX7_writeStatement_235 : decode cX7_writeStatement 235 = .ok (.getfield 236, 3) := by decide +kernel
theorem dX7_writeStatement_238 : decode cX7_writeStatement 238 = .ok (.istore 6, 2) := by decide +kernel
theorem dX7_writeStatement_240 : decode cX7_writeStatement 240 = .ok (.iload_n 1, 1) := by decide +kernel
theorem dX7_writeStatement_241 : decode cX7_writeStatement 241 = .ok (.iconst 1, 1) := by decide +kernel
theorem dX7_writeStatement_242 : decode cX7_writeStatement 242 = .ok (.if_icmp .eq 13, 3) := by decide +kernel
theorem dX7_writeStatement_245 : decode cX7_writeStatement 245 = .ok (.iload_n 1, 1) := by decide +kernel
theorem dX7_writeStatement_246 : decode cX7_writeStatement 246 = .ok (.iconst 2, 1) := by decide +kernel
theorem dX7_writeStatement_247 : decode cX7_writeStatement 247 = .ok (.if_icmp .eq 8, 3) := by decide +kernel
theorem dX7_writeStatement_250 : decode cX7_writeStatement 250 = .ok (.iload_n 1, 1) := by decide +kernel
theorem dX7_writeStatement_251 : decode cX7_writeStatement 251 = .ok (.iconst 4, 1) := by decide +kernel
theorem dX7_writeStatement_252 : decode cX7_writeStatement 252 = .ok (.if_icmp .ne 13, 3) := by decide +kernel
theorem dX7_writeStatement_255 : decode cX7_writeStatement 255 = .ok (.aload_n 0, 1) := by decide +kernel
theorem dX7_writeStatement_256 : decode cX7_writeStatement 256 = .ok (.iconst 3, 1) := by decide +kernel
theorem dX7_writeStatement_257 : decode cX7_writeStatement 257 = .ok (.iload 4, 2) := by decide +kernel
theorem dX7_writeStatement_259 : decode cX7_writeStatement 259 = .ok (.iload 5, 2) := by decide +kernel
theorem dX7_writeStatement_261 : decode cX7_writeStatement 261 = .ok (.iconst 0, 1) := by decide +kernel
theorem dX7_writeStatement_262 : decode cX7_writeStatement 262 = .ok (.invokevirtual 249, 3) := by decide +kernel
theorem dX7_writeStatement_265 : decode cX7_writeStatement 265 = .ok (.aload_n 0, 1) := by decide +kernel
theorem dX7_writeStatement_266 : decode cX7_writeStatement 266 = .ok (.iload_n 1, 1) := by decide +kernel
theorem dX7_writeStatement_267 : decode cX7_writeStatement 267 = .ok (.iload 4, 2) := by decide +kernel
theorem dX7_writeStatement_269 : decode cX7_writeStatement 269 = .ok (.iload 5, 2) := by decide +kernel
theorem dX7_writeStatement_271 : decode cX7_writeStatement 271 = .ok (.iload 6, 2) := by decide +kernel
theorem dX7_writeStatement_273 : decode cX7_writeStatement 273 = .ok (.invokevirtual 266, 3) := by decide +kernel
theorem dX7_writeStatement_276 : decode cX7_writeStatement 276 = .ok (.return_, 1) := by decide +kernel
theorem dX7_close_0 : decode cX7_close 0 = .ok (.iconst 0, 1) := by decide +kernel
theorem dX7_close_1 : decode cX7_close 1 = .ok (.istore_n 3, 1) := by decide +kernel
theorem dX7_close_2 : decode cX7_close 2 = .ok (.iload_n 3, 1) := by decide +kernel
theorem dX7_close_3 : decode cX7_close 3 = .ok (.aload_n 0, 1) := by decide +kernel
theorem dX7_close_4 : decode cX7_close 4 = .ok (.getfield 236, 3) := by decide +kernel
theorem dX7_close_7 : decode cX7_close 7 = .ok (.if_icmp .ge 61, 3) := by decide +kernel
theorem dX7_close_10 : decode cX7_close 10 = .ok (.aload_n 0, 1) := by decide +kernel
theorem dX7_close_11 : decode cX7_close 11 = .ok (.getfield 105, 3) := by decide +kernel
theorem dX7_close_14 : decode cX7_close 14 = .ok (.iload_n 3, 1) := by decide +kernel
theorem dX7_close_15 : decode cX7_close 15 = .ok (.iaload, 1) := by decide +kernel
theorem dX7_close_16 : decode cX7_close 16 = .ok (.ifCond .le 46, 3) := by decide +kernel
theorem dX7_close_19 : decode cX7_close 19 = .ok (.aload_n 0, 1) := by decide +kernel
theorem dX7_close_20 : decode cX7_close 20 = .ok (.getfield 108, 3) := by decide +kernel
theorem dX7_close_23 : decode cX7_close 23 = .ok (.iload_n 3, 1) := by decide +kernel
theorem dX7_close_24 : decode cX7_close 24 = .ok (.iaload, 1) := by decide +kernel
theorem dX7_close_25 : decode cX7_close 25 = .ok (.aload_n 0, 1) := by decide +kernel
theorem dX7_close_26 : decode cX7_close 26 = .ok (.getfield 246, 3) := by decide +kernel
theorem dX7_close_29 : decode cX7_close 29 = .ok (.iconst 1, 1) := by decide +kernel
theorem dX7_close_30 : decode cX7_close 30 = .ok (.isub, 1) := by decide +kernel
theorem dX7_close_31 : decode cX7_close 31 = .ok (.if_icmp .ne 31, 3) := by decide +kernel
theorem dX7_close_34 : decode cX7_close 34 = .ok (.aload_n 0, 1) := by decide +kernel
theorem dX7_close_35 : decode cX7_close 35 = .ok (.getfield 102, 3) := by decide +kernel
theorem dX7_close_38 : decode cX7_close 38 = .ok (.iload_n 3, 1) := by decide +kernel
theorem dX7_close_39 : decode cX7_close 39 = .ok (.aload_n 0, 1) := by decide +kernel
theorem dX7_close_40 : decode cX7_close 40 = .ok (.getfield 105, 3) := by decide +kernel
theorem dX7_close_43 : decode cX7_close 43 = .ok (.iload_n 3, 1) := by decide +kernel
theorem dX7_close_44 : decode cX7_close 44 = .ok (.iaload, 1) := by decide +kernel
theorem dX7_close_45 : decode cX7_close 45 = .ok (.iconst 1, 1) := by decide +kernel
theorem dX7_close_46 : decode cX7_close 46 = .ok (.if_icmp .ne 7, 3) := by decide +kernel
theorem dX7_close_49 : decode cX7_close 49 = .ok (.iload_n 1, 1) := by decide +kernel
theorem dX7_close_50 : decode cX7_close 50 = .ok (.goto 4, 3) := by decide +kernel
theorem dX7_close_53 : decode cX7_close 53 = .ok (.iload_n 2, 1) := by decide +kernel
theorem dX7_close_54 : decode cX7_close 54 = .ok (.iastore, 1) := by decide +kernel
theorem dX7_close_55 : decode cX7_close 55 = .ok (.aload_n 0, 1) := by decide +kernel
theorem dX7_close_56 : decode cX7_close 56 = .ok (.getfield 105, 3) := by decide +kernel
theorem dX7_close_59 : decode cX7_close 59 = .ok (.iload_n 3, 1) := by decide +kernel
theorem dX7_close_60 : decode cX7_close 60 = .ok (.iconst 0, 1) := by decide +kernel
theorem dX7_close_61 : decode cX7_close 61 = .ok (.iastore, 1) := by decide +kernel
theorem dX7_close_62 : decode cX7_close 62 = .ok (.iinc 3 1, 3) := by decide +kernel
theorem dX7_close_65 : decode cX7_close 65 = .ok (.goto (-63), 3) := by decide +kernel
theorem dX7_close_68 : decode cX7_close 68 = .ok (.return_, 1) := by decide +kernel
theorem dX7_endBody_0 : decode cX7_endBody 0 = .ok (.aload_n 0, 1) := by decide +kernel
theorem dX7_endBody_1 : decode cX7_endBody 1 = .ok (.getfield 246, 3) := by decide +kernel
theorem dX7_endBody_4 : decode cX7_endBody 4 = .ok (.iconst 1, 1) := by decide +kernel
theorem dX7_endBody_5 : decode cX7_endBody 5 = .ok (.isub, 1) := by decide +kernel
theorem dX7_endBody_6 : decode cX7_endBody 6 = .ok (.istore_n 1, 1) := by decide +kernel
theorem dX7_endBody_7 : decode cX7_endBody 7 = .ok (.aload_n 0, 1) := by decide +kernel
theorem dX7_endBody_8 : decode cX7_endBody 8 = .ok (.getfield 126, 3) := by decide +kernel
theorem dX7_endBody_11 : decode cX7_endBody 11 = .ok (.iload_n 1, 1) := by decide +kernel
theorem dX7_endBody_12 : decode cX7_endBody 12 = .ok (.iaload, 1) := by decide +kernel
theorem dX7_endBody_13 : decode cX7_endBody 13 = .ok (.istore_n 2, 1) := by decide +kernel
theorem dX7_endBody_14 : decode cX7_endBody 14 = .ok (.aload_n 0, 1) := by decide +kernel
theorem dX7_endBody_15 : decode cX7_endBody 15 = .ok (.getfield 114, 3) := by decide +kernel
theorem dX7_endBody_18 : decode cX7_endBody 18 = .ok (.iload_n 1, 1) := by decide +kernel
theorem dX7_endBody_19 : decode cX7_endBody 19 = .ok (.iaload, 1) := by decide +kernel
theorem dX7_endBody_20 : decode cX7_endBody 20 = .ok (.tableswitch 214 (-1) 5 #[99, 214, 44, 57, 112, 142, 172], 44) := by decide +kernel
theorem dX7_endBody_64 : decode cX7_endBody 64 = .ok (.aload_n 0, 1) := by decide +kernel
theorem dX7_endBody_65 : decode cX7_endBody 65 = .ok (.getfield 102, 3) := by decide +kernel
theorem dX7_endBody_68 : decode cX7_endBody 68 = .ok (.iload_n 2, 1) := by decide +kernel
theorem dX7_endBody_69 : decode cX7_endBody 69 = .ok (.aload_n 0, 1) := by decide +kernel
theorem dX7_endBody_70 : decode cX7_endBody 70 = .ok (.getfield 236, 3) := by decide +kernel
theorem dX7_endBody_73 : decode cX7_endBody 73 = .ok (.iastore, 1) := by decide +kernel
theorem dX7_endBody_74 : decode cX7_endBody 74 = .ok (.goto 160, 3) := by decide +kernel
theorem dX7_endBody_77 : decode cX7_endBody 77 = .ok (.aload_n 0, 1) := by decide +kernel
theorem dX7_endBody_78 : decode cX7_endBody 78 = .ok (.getfield 236, 3) := by decide +kernel
theorem dX7_endBody_81 : decode cX7_endBody 81 = .ok (.istore_n 3, 1) := by decide +kernel
theorem dX7_endBody_82 : decode cX7_endBody 82 = .ok (.aload_n 0, 1) := by decide +kernel
theorem dX7_endBody_83 : decode cX7_endBody 83 = .ok (.iconst 2, 1) := by decide +kernel
theorem dX7_endBody_84 : decode cX7_endBody 84 = .ok (.iconst 0, 1) := by decide +kernel
theorem dX7_endBody_85 : decode cX7_endBody 85 = .ok (.iconst 0, 1) := by decide +kernel
theorem dX7_endBody_86 : decode cX7_endBody 86 = .ok (.iconst 0, 1) := by decide +kernel
theorem dX7_endBody_87 : decode cX7_endBody 87 = .ok (.invokevirtual 249, 3) := by decide +kernel
theorem dX7_endBody_90 : decode cX7_endBody 90 = .ok (.aload_n 0, 1) := by decide +kernel
theorem dX7_endBody_91 : decode cX7_endBody 91 = .ok (.getfield 102, 3) := by decide +kernel
theorem dX7_endBody_94 : decode cX7_endBody 94 = .ok (.iload_n 2, 1) := by decide +kernel
theorem dX7_endBody_95 : decode cX7_endBody 95 = .ok (.aload_n 0, 1) := by decide +kernel
theorem dX7_endBody_96 : decode cX7_endBody 96 = .ok (.getfield 236, 3) := by decide +kernel
theorem dX7_endBody_99 : decode cX7_endBody 99 = .ok (.iastore, 1) := by decide +kernel
theorem dX7_endBody_100 : decode cX7_endBody 100 = .ok (.aload_n 0, 1) := by decide +kernel
theorem dX7_endBody_101 : decode cX7_endBody 101 = .ok (.dup, 1) := by decide +kernel
theorem dX7_endBody_102 : decode cX7_endBody 102 = .ok (.getfield 246, 3) := by decide +kernel
theorem dX7_endBody_105 : decode cX7_endBody 105 = .ok (.iconst 1, 1) := by decide +kernel
theorem dX7_endBody_106 : decode cX7_endBody 106 = .ok (.isub, 1) := by decide +kernel
theorem dX7_endBody_107 : decode cX7_endBody 107 = .ok (.putfield 246, 3) := by decide +kernel
theorem dX7_endBody_110 : decode cX7_endBody 110 = .ok (.aload_n 0, 1) := by decide +kernel
theorem dX7_endBody_111 : decode cX7_endBody 111 = .ok (.iconst (-1), 1) := by decide +kernel
theorem dX7_endBody_112 : decode cX7_endBody 112 = .ok (.iconst 0, 1) := by decide +kernel
theorem dX7_endBody_113 : decode cX7_endBody 113 = .ok (.iconst 0, 1) := by decide +kernel
theorem dX7_endBody_114 : decode cX7_endBody 114 = .ok (.iload_n 3, 1) := by decide +kernel
theorem dX7_endBody_115 : decode cX7_endBody 115 = .ok (.invokevirtual 266, 3) := by decide +kernel
theorem dX7_endBody_118 : decode cX7_endBody 118 = .ok (.return_, 1) := by decide +kernel
theorem dX7_endBody_119 : decode cX7_endBody 119 = .ok (.aload_n 0, 1) := by decide +kernel
theorem dX7_endBody_120 : decode cX7_endBody 120 = .ok (.getfield 102, 3) := by decide +kernel
theorem dX7_endBody_123 : decode cX7_endBody 123 = .ok (.iload_n 2, 1) := by decide +kernel
theorem dX7_endBody_124 : decode cX7_endBody 124 = .ok (.aload_n 0, 1) := by decide +kernel
theorem dX7_endBody_125 : decode cX7_endBody 125 = .ok (.getfield 236, 3) := by decide +kernel
theorem dX7_endBody_128 : decode cX7_endBody 128 = .ok (.iastore, 1) := by decide +kernel
theorem dX7_endBody_129 : decode cX7_endBody 129 = .ok (.goto 105, 3) := by decide +kernel
theorem dX7_endBody_132 : decode cX7_endBody 132 = .ok (.aload_n 0, 1) := by decide +kernel
theorem dX7_endBody_133 : decode cX7_endBody 133 = .ok (.iconst 2, 1) := by decide +kernel
theorem dX7_endBody_134 : decode cX7_endBody 134 = .ok (.iconst 0, 1) := by decide +kernel
theorem dX7_endBody_135 : decode cX7_endBody 135 = .ok (.iconst 0, 1) := by decide +kernel
theorem dX7_endBody_136 : decode cX7_endBody 136 = .ok (.aload_n 0, 1) := by decide +kernel
theorem dX7_endBody_137 : decode cX7_endBody 137 = .ok (.getfield 117, 3) := by decide +kernel
theorem dX7_endBody_140 : decode cX7_endBody 140 = .ok (.iload_n 1, 1) := by decide +kernel
theorem dX7_endBody_141 : decode cX7_endBody 141 = .ok (.iaload, 1) := by decide +kernel
theorem dX7_endBody_142 : decode cX7_endBody 142 = .ok (.invokevirtual 249, 3) := by decide +kernel
theorem dX7_endBody_145 : decode cX7_endBody 145 = .ok (.aload_n 0, 1) := by decide +kernel
theorem dX7_endBody_146 : decode cX7_endBody 146 = .ok (.aload_n 0, 1) := by decide +kernel
theorem dX7_endBody_147 : decode cX7_endBody 147 = .ok (.getfield 236, 3) := by decide +kernel
theorem dX7_endBody_150 : decode cX7_endBody 150 = .ok (.aload_n 0, 1) := by decide +kernel
theorem dX7_endBody_151 : decode cX7_endBody 151 = .ok (.getfield 117, 3) := by decide +kernel
theorem dX7_endBody_154 : decode cX7_endBody 154 = .ok (.iload_n 1, 1) := by decide +kernel
theorem dX7_endBody_155 : decode cX7_endBody 155 = .ok (.iaload, 1) := by decide +kernel
theorem dX7_endBody_156 : decode cX7_endBody 156 = .ok (.invokevirtual 269, 3) := by decide +kernel
theorem dX7_endBody_159 : decode cX7_endBody 159 = .ok (.goto 75, 3) := by decide +kernel
theorem dX7_endBody_162 : decode cX7_endBody 162 = .ok (.aload_n 0, 1) := by decide +kernel
theorem dX7_endBody_163 : decode cX7_endBody 163 = .ok (.iconst 2, 1) := by decide +kernel
theorem dX7_endBody_164 : decode cX7_endBody 164 = .ok (.iconst 0, 1) := by decide +kernel
theorem dX7_endBody_165 : decode cX7_endBody 165 = .ok (.iconst 0, 1) := by decide +kernel
theorem dX7_endBody_166 : decode cX7_endBody 166 = .ok (.iload_n 2, 1) := by decide +kernel
theorem dX7_endBody_167 : decode cX7_endBody 167 = .ok (.invokevirtual 249, 3) := by decide +kernel
theorem dX7_endBody_170 : decode cX7_endBody 170 = .ok (.aload_n 0, 1) := by decide +kernel
theorem dX7_endBody_171 : decode cX7_endBody 171 = .ok (.getfield 102, 3) := by decide +kernel
theorem dX7_endBody_174 : decode cX7_endBody 174 = .ok (.iload_n 2, 1) := by decide +kernel
theorem dX7_endBody_175 : decode cX7_endBody 175 = .ok (.aload_n 0, 1) := by decide +kernel
theorem dX7_endBody_176 : decode cX7_endBody 176 = .ok (.getfield 236, 3) := by decide +kernel
theorem dX7_endBody_179 : decode cX7_endBody 179 = .ok (.iastore, 1) := by decide +kernel
theorem dX7_endBody_180 : decode cX7_endBody 180 = .ok (.aload_n 0, 1) := by decide +kernel
theorem dX7_endBody_181 : decode cX7_endBody 181 = .ok (.aload_n 0, 1) := by decide +kernel
theorem dX7_endBody_182 : decode cX7_endBody 182 = .ok (.getfield 236, 3) := by decide +kernel
theorem dX7_endBody_185 : decode cX7_endBody 185 = .ok (.iload_n 2, 1) := by decide +kernel
theorem dX7_endBody_186 : decode cX7_endBody 186 = .ok (.invokevirtual 269, 3) := by decide +kernel
theorem dX7_endBody_189 : decode cX7_endBody 189 = .ok (.goto 45, 3) := by decide +kernel
theorem dX7_endBody_192 : decode cX7_endBody 192 = .ok (.aload_n 0, 1) := by decide +kernel
theorem dX7_endBody_193 : decode cX7_endBody 193 = .ok (.getfield 236, 3) := by decide +kernel
theorem dX7_endBody_196 : decode cX7_endBody 196 = .ok (.istore 4, 2) := by decide +kernel
theorem dX7_endBody_198 : decode cX7_endBody 198 = .ok (.aload_n 0, 1) := by decide +kernel
theorem dX7_endBody_199 : decode cX7_endBody 199 = .ok (.iconst 3, 1) := by decide +kernel
theorem dX7_endBody_200 : decode cX7_endBody 200 = .ok (.aload_n 0, 1) := by decide +kernel
theorem dX7_endBody_201 : decode cX7_endBody 201 = .ok (.getfield 120, 3) := by decide +kernel
theorem dX7_endBody_204 : decode cX7_endBody 204 = .ok (.iload_n 1, 1) := by decide +kernel
theorem dX7_endBody_205 : decode cX7_endBody 205 = .ok (.iaload, 1) := by decide +kernel
theorem dX7_endBody_206 : decode cX7_endBody 206 = .ok (.aload_n 0, 1) := by decide +kernel
theorem dX7_endBody_207 : decode cX7_endBody 207 = .ok (.getfield 123, 3) := by decide +kernel
theorem dX7_endBody_210 : decode cX7_endBody 210 = .ok (.iload_n 1, 1) := by decide +kernel
theorem dX7_endBody_211 : decode cX7_endBody 211 = .ok (.iaload, 1) := by decide +kernel
theorem dX7_endBody_212 : decode cX7_endBody 212 = .ok (.aload_n 0, 1) := by decide +kernel
theorem dX7_endBody_213 : decode cX7_endBody 213 = .ok (.getfield 117, 3) := by decide +kernel
theorem dX7_endBody_216 : decode cX7_endBody 216 = .ok (.iload_n 1, 1) := by decide +kernel
theorem dX7_endBody_217 : decode cX7_endBody 217 = .ok (.iaload, 1) := by decide +kernel
theorem dX7_endBody_218 : decode cX7_endBody 218 = .ok (.invokevirtual 249, 3) := by decide +kernel
theorem dX7_endBody_221 : decode cX7_endBody 221 = .ok (.aload_n 0, 1) := by decide +kernel
theorem dX7_endBody_222 : decode cX7_endBody 222 = .ok (.aload_n 0, 1) := by decide +kernel
theorem dX7_endBody_223 : decode cX7_endBody 223 = .ok (.getfield 236, 3) := by decide +kernel
theorem dX7_endBody_226 : decode cX7_endBody 226 = .ok (.iload 4, 2) := by decide +kernel
theorem dX7_endBody_228 : decode cX7_endBody 228 = .ok (.invokevirtual 269, 3) := by decide +kernel
theorem dX7_endBody_231 : decode cX7_endBody 231 = .ok (.goto 3, 3) := by decide +kernel
theorem dX7_endBody_234 : decode cX7_endBody 234 = .ok (.aload_n 0, 1) := by decide +kernel
theorem dX7_endBody_235 : decode cX7_endBody 235 = .ok (.dup, 1) := by decide +kernel
theorem dX7_endBody_236 : decode cX7_endBody 236 = .ok (.getfield 246, 3) := by decide +kernel
theorem dX7_endBody_239 : decode cX7_endBody 239 = .ok (.iconst 1, 1) := by decide +kernel
theorem dX7_endBody_240 : decode cX7_endBody 240 = .ok (.isub, 1) := by decide +kernel
theorem dX7_endBody_241 : decode cX7_endBody 241 = .ok (.putfield 246, 3) := by decide +kernel
theorem dX7_endBody_244 : decode cX7_endBody 244 = .ok (.return_, 1) := by decide +kernel
theorem dX7_write_0 : decode cX7_write 0 = .ok (.aload_n 0, 1) := by decide +kernel
theorem dX7_write_1 : decode cX7_write 1 = .ok (.getfield 135, 3) := by decide +kernel
theorem dX7_write_4 : decode cX7_write 4 = .ok (.bipush 12, 2) := by decide +kernel
theorem dX7_write_6 : decode cX7_write 6 = .ok (.if_icmp .ne 6, 3) := by decide +kernel
theorem dX7_write_9 : decode cX7_write 9 = .ok (.bipush (-4), 2) := by decide +kernel
theorem dX7_write_11 : decode cX7_write 11 = .ok (.ireturn, 1) := by decide +kernel
theorem dX7_write_12 : decode cX7_write 12 = .ok (.aload_n 0, 1) := by decide +kernel
theorem dX7_write_13 : decode cX7_write 13 = .ok (.iconst 0, 1) := by decide +kernel
theorem dX7_write_14 : decode cX7_write 14 = .ok (.putfield 233, 3) := by decide +kernel
theorem dX7_write_17 : decode cX7_write 17 = .ok (.aload_n 0, 1) := by decide +kernel
theorem dX7_write_18 : decode cX7_write 18 = .ok (.iconst 0, 1) := by decide +kernel
theorem dX7_write_19 : decode cX7_write 19 = .ok (.putfield 230, 3) := by decide +kernel
theorem dX7_write_22 : decode cX7_write 22 = .ok (.aload_n 0, 1) := by decide +kernel
theorem dX7_write_23 : decode cX7_write 23 = .ok (.iconst 0, 1) := by decide +kernel
theorem dX7_write_24 : decode cX7_write 24 = .ok (.putfield 236, 3) := by decide +kernel
theorem dX7_write_27 : decode cX7_write 27 = .ok (.aload_n 0, 1) := by decide +kernel
theorem dX7_write_28 : decode cX7_write 28 = .ok (.iconst 0, 1) := by decide +kernel
theorem dX7_write_29 : decode cX7_write 29 = .ok (.putfield 246, 3) := by decide +kernel
theorem dX7_write_32 : decode cX7_write 32 = .ok (.aload_n 0, 1) := by decide +kernel
theorem dX7_write_33 : decode cX7_write 33 = .ok (.iconst 0, 1) := by decide +kernel
theorem dX7_write_34 : decode cX7_write 34 = .ok (.iconst 0, 1) := by decide +kernel
theorem dX7_write_35 : decode cX7_write 35 = .ok (.iconst 0, 1) := by decide +kernel
theorem dX7_write_36 : decode cX7_write 36 = .ok (.iconst 0, 1) := by decide +kernel
theorem dX7_write_37 : decode cX7_write 37 = .ok (.invokevirtual 266, 3) := by decide +kernel
theorem dX7_write_40 : decode cX7_write 40 = .ok (.aload_n 0, 1) := by decide +kernel
theorem dX7_write_41 : decode cX7_write 41 = .ok (.getfield 230, 3) := by decide +kernel
theorem dX7_write_44 : decode cX7_write 44 = .ok (.ifCond .ne 53, 3) := by decide +kernel
theorem dX7_write_47 : decode cX7_write 47 = .ok (.aload_n 0, 1) := by decide +kernel
theorem dX7_write_48 : decode cX7_write 48 = .ok (.getfield 246, 3) := by decide +kernel
theorem dX7_write_51 : decode cX7_write 51 = .ok (.ifCond .le 46, 3) := by decide +kernel
theorem dX7_write_54 : decode cX7_write 54 = .ok (.aload_n 0, 1) := by decide +kernel
theorem dX7_write_55 : decode cX7_write 55 = .ok (.getfield 111, 3) := by decide +kernel
theorem dX7_write_58 : decode cX7_write 58 = .ok (.aload_n 0, 1) := by decide +kernel
theorem dX7_write_59 : decode cX7_write 59 = .ok (.getfield 246, 3) := by decide +kernel
theorem dX7_write_62 : decode cX7_write 62 = .ok (.iconst 1, 1) := by decide +kernel
theorem dX7_write_63 : decode cX7_write 63 = .ok (.isub, 1) := by decide +kernel
theorem dX7_write_64 : decode cX7_write 64 = .ok (.iaload, 1) := by decide +kernel
theorem dX7_write_65 : decode cX7_write 65 = .ok (.ifCond .le 25, 3) := by decide +kernel
theorem dX7_write_68 : decode cX7_write 68 = .ok (.aload_n 0, 1) := by decide +kernel
theorem dX7_write_69 : decode cX7_write 69 = .ok (.getfield 111, 3) := by decide +kernel
theorem dX7_write_72 : decode cX7_write 72 = .ok (.aload_n 0, 1) := by decide +kernel
theorem dX7_write_73 : decode cX7_write 73 = .ok (.getfield 246, 3) := by decide +kernel
theorem dX7_write_76 : decode cX7_write 76 = .ok (.iconst 1, 1) := by decide +kernel
theorem dX7_write_77 : decode cX7_write 77 = .ok (.isub, 1) := by decide +kernel
theorem dX7_write_78 : decode cX7_write 78 = .ok (.dup2, 1) := by decide +kernel
theorem dX7_write_79 : decode cX7_write 79 = .ok (.iaload, 1) := by decide +kernel
theorem dX7_write_80 : decode cX7_write 80 = .ok (.iconst 1, 1) := by decide +kernel
theorem dX7_write_81 : decode cX7_write 81 = .ok (.isub, 1) := by decide +kernel
theorem dX7_write_82 : decode cX7_write 82 = .ok (.iastore, 1) := by decide +kernel
theorem dX7_write_83 : decode cX7_write 83 = .ok (.aload_n 0, 1) := by decide +kernel
theorem dX7_write_84 : decode cX7_write 84 = .ok (.invokevirtual 272, 3) := by decide +kernel
theorem dX7_write_87 : decode cX7_write 87 = .ok (.goto (-47), 3) := by decide +kernel
theorem dX7_write_90 : decode cX7_write 90 = .ok (.aload_n 0, 1) := by decide +kernel
theorem dX7_write_91 : decode cX7_write 91 = .ok (.invokevirtual 275, 3) := by decide +kernel
theorem dX7_write_94 : decode cX7_write 94 = .ok (.goto (-54), 3) := by decide +kernel
theorem dX7_write_97 : decode cX7_write 97 = .ok (.aload_n 0, 1) := by decide +kernel
theorem dX7_write_98 : decode cX7_write 98 = .ok (.getfield 230, 3) := by decide +kernel
theorem dX7_write_101 : decode cX7_write 101 = .ok (.ifCond .ne 88, 3) := by decide +kernel
theorem dX7_write_104 : decode cX7_write 104 = .ok (.iconst 0, 1) := by decide +kernel
theorem dX7_write_105 : decode cX7_write 105 = .ok (.istore_n 1, 1) := by decide +kernel
theorem dX7_write_106 : decode cX7_write 106 = .ok (.iconst 0, 1) := by decide +kernel
theorem dX7_write_107 : decode cX7_write 107 = .ok (.istore_n 2, 1) := by decide +kernel
theorem dX7_write_108 : decode cX7_write 108 = .ok (.iload_n 2, 1) := by decide +kernel
theorem dX7_write_109 : decode cX7_write 109 = .ok (.aload_n 0, 1) := by decide +kernel
theorem dX7_write_110 : decode cX7_write 110 = .ok (.getfield 236, 3) := by decide +kernel
theorem dX7_write_113 : decode cX7_write 113 = .ok (.if_icmp .ge 32, 3) := by decide +kernel
theorem dX7_write_116 : decode cX7_write 116 = .ok (.iload_n 1, 1) := by decide +kernel
theorem dX7_write_117 : decode cX7_write 117 = .ok (.ifCond .ne 16, 3) := by decide +kernel
theorem dX7_write_120 : decode cX7_write 120 = .ok (.aload_n 0, 1) := by decide +kernel
theorem dX7_write_121 : decode cX7_write 121 = .ok (.getfield 102, 3) := by decide +kernel
theorem dX7_write_124 : decode cX7_write 124 = .ok (.iload_n 2, 1) := by decide +kernel
theorem dX7_write_125 : decode cX7_write 125 = .ok (.iaload, 1) := by decide +kernel
theorem dX7_write_126 : decode cX7_write 126 = .ok (.aload_n 0, 1) := by decide +kernel
theorem dX7_write_127 : decode cX7_write 127 = .ok (.getfield 236, 3) := by decide +kernel
theorem dX7_write_130 : decode cX7_write 130 = .ok (.if_icmp .le 7, 3) := by decide +kernel
theorem dX7_write_133 : decode cX7_write 133 = .ok (.iconst 1, 1) := by decide +kernel
theorem dX7_write_134 : decode cX7_write 134 = .ok (.goto 4, 3) := by decide +kernel
theorem dX7_write_137 : decode cX7_write 137 = .ok (.iconst 0, 1) := by decide +kernel
theorem dX7_write_138 : decode cX7_write 138 = .ok (.istore_n 1, 1) := by decide +kernel
theorem dX7_write_139 : decode cX7_write 139 = .ok (.iinc 2 1, 3) := by decide +kernel
theorem dX7_write_142 : decode cX7_write 142 = .ok (.goto (-34), 3) := by decide +kernel
theorem dX7_write_145 : decode cX7_write 145 = .ok (.aload_n 0, 1) := by decide +kernel
theorem dX7_write_146 : decode cX7_write 146 = .ok (.aload_n 0, 1) := by decide +kernel
theorem dX7_write_147 : decode cX7_write 147 = .ok (.getfield 233, 3) := by decide +kernel
theorem dX7_write_150 : decode cX7_write 150 = .ok (.aload_n 0, 1) := by decide +kernel
theorem dX7_write_151 : decode cX7_write 151 = .ok (.getfield 227, 3) := by decide +kernel
theorem dX7_write_154 : decode cX7_write 154 = .ok (.if_icmp .ge 8, 3) := by decide +kernel
theorem dX7_write_157 : decode cX7_write 157 = .ok (.bipush 7, 2) := by decide +kernel
theorem dX7_write_159 : decode cX7_write 159 = .ok (.goto 27, 3) := by decide +kernel
theorem dX7_write_162 : decode cX7_write 162 = .ok (.aload_n 0, 1) := by decide +kernel
theorem dX7_write_163 : decode cX7_write 163 = .ok (.getfield 236, 3) := by decide +kernel
theorem dX7_write_166 : decode cX7_write 166 = .ok (.bipush 60, 2) := by decide +kernel
theorem dX7_write_168 : decode cX7_write 168 = .ok (.if_icmp .le 8, 3) := by decide +kernel
theorem dX7_write_171 : decode cX7_write 171 = .ok (.bipush 8, 2) := by decide +kernel
theorem dX7_write_173 : decode cX7_write 173 = .ok (.goto 13, 3) := by decide +kernel
theorem dX7_write_176 : decode cX7_write 176 = .ok (.iload_n 1, 1) := by decide +kernel
theorem dX7_write_177 : decode cX7_write 177 = .ok (.ifCond .eq 8, 3) := by decide +kernel
theorem dX7_write_180 : decode cX7_write 180 = .ok (.bipush 9, 2) := by decide +kernel
theorem dX7_write_182 : decode cX7_write 182 = .ok (.goto 4, 3) := by decide +kernel
theorem dX7_write_185 : decode cX7_write 185 = .ok (.iconst 0, 1) := by decide +kernel
theorem dX7_write_186 : decode cX7_write 186 = .ok (.putfield 230, 3) := by decide +kernel
theorem dX7_write_189 : decode cX7_write 189 = .ok (.aload_n 0, 1) := by decide +kernel
theorem dX7_write_190 : decode cX7_write 190 = .ok (.iconst 0, 1) := by decide +kernel
theorem dX7_write_191 : decode cX7_write 191 = .ok (.putfield 227, 3) := by decide +kernel
theorem dX7_write_194 : decode cX7_write 194 = .ok (.aload_n 0, 1) := by decide +kernel
theorem dX7_write_195 : decode cX7_write 195 = .ok (.getfield 230, 3) := by decide +kernel
theorem dX7_write_198 : decode cX7_write 198 = .ok (.ifCond .eq 19, 3) := by decide +kernel
theorem dX7_write_201 : decode cX7_write 201 = .ok (.aload_n 0, 1) := by decide +kernel
theorem dX7_write_202 : decode cX7_write 202 = .ok (.aload_n 0, 1) := by decide +kernel
theorem dX7_write_203 : decode cX7_write 203 = .ok (.getfield 233, 3) := by decide +kernel
theorem dX7_write_206 : decode cX7_write 206 = .ok (.putfield 31, 3) := by decide +kernel
theorem dX7_write_209 : decode cX7_write 209 = .ok (.bipush (-10), 2) := by decide +kernel
theorem dX7_write_211 : decode cX7_write 211 = .ok (.aload_n 0, 1) := by decide +kernel
theorem dX7_write_212 : decode cX7_write 212 = .ok (.getfield 230, 3) := by decide +kernel
theorem dX7_write_215 : decode cX7_write 215 = .ok (.isub, 1) := by decide +kernel
theorem dX7_write_216 : decode cX7_write 216 = .ok (.ireturn, 1) := by decide +kernel
theorem dX7_write_217 : decode cX7_write 217 = .ok (.aload_n 0, 1) := by decide +kernel
theorem dX7_write_218 : decode cX7_write 218 = .ok (.getfield 135, 3) := by decide +kernel
theorem dX7_write_221 : decode cX7_write 221 = .ok (.istore_n 1, 1) := by decide +kernel
theorem dX7_write_222 : decode cX7_write 222 = .ok (.aload_n 0, 1) := by decide +kernel
theorem dX7_write_223 : decode cX7_write 223 = .ok (.dup, 1) := by decide +kernel
theorem dX7_write_224 : decode cX7_write 224 = .ok (.getfield 135, 3) := by decide +kernel
theorem dX7_write_227 : decode cX7_write 227 = .ok (.iconst 1, 1) := by decide +kernel
theorem dX7_write_228 : decode cX7_write 228 = .ok (.iadd, 1) := by decide +kernel
theorem dX7_write_229 : decode cX7_write 229 = .ok (.putfield 135, 3) := by decide +kernel
theorem dX7_write_232 : decode cX7_write 232 = .ok (.aload_n 0, 1) := by decide +kernel
theorem dX7_write_233 : decode cX7_write 233 = .ok (.getfield 7, 3) := by decide +kernel
theorem dX7_write_236 : decode cX7_write 236 = .ok (.iload_n 1, 1) := by decide +kernel
theorem dX7_write_237 : decode cX7_write 237 = .ok (.aload_n 0, 1) := by decide +kernel
theorem dX7_write_238 : decode cX7_write 238 = .ok (.getfield 236, 3) := by decide +kernel
theorem dX7_write_241 : decode cX7_write 241 = .ok (.iastore, 1) := by decide +kernel
theorem dX7_write_242 : decode cX7_write 242 = .ok (.iconst 0, 1) := by decide +kernel
theorem dX7_write_243 : decode cX7_write 243 = .ok (.istore_n 2, 1) := by decide +kernel
theorem dX7_write_244 : decode cX7_write 244 = .ok (.iload_n 2, 1) := by decide +kernel
theorem dX7_write_245 : decode cX7_write 245 = .ok (.aload_n 0, 1) := by decide +kernel
theorem dX7_write_246 : decode cX7_write 246 = .ok (.getfield 236, 3) := by decide +kernel
theorem dX7_write_249 : decode cX7_write 249 = .ok (.if_icmp .ge 39, 3) := by decide +kernel
theorem dX7_write_252 : decode cX7_write 252 = .ok (.aload_n 0, 1) := by decide +kernel
theorem dX7_write_253 : decode cX7_write 253 = .ok (.iload_n 1, 1) := by decide +kernel
theorem dX7_write_254 : decode cX7_write 254 = .ok (.iload_n 2, 1) := by decide +kernel
theorem dX7_write_255 : decode cX7_write 255 = .ok (.aload_n 0, 1) := by decide +kernel
theorem dX7_write_256 : decode cX7_write 256 = .ok (.getfield 93, 3) := by decide +kernel
theorem dX7_write_259 : decode cX7_write 259 = .ok (.iload_n 2, 1) := by decide +kernel
theorem dX7_write_260 : decode cX7_write 260 = .ok (.iaload, 1) := by decide +kernel
theorem dX7_write_261 : decode cX7_write 261 = .ok (.aload_n 0, 1) := by decide +kernel
theorem dX7_write_262 : decode cX7_write 262 = .ok (.getfield 96, 3) := by decide +kernel
theorem dX7_write_265 : decode cX7_write 265 = .ok (.iload_n 2, 1) := by decide +kernel
theorem dX7_write_266 : decode cX7_write 266 = .ok (.iaload, 1) := by decide +kernel
theorem dX7_write_267 : decode cX7_write 267 = .ok (.aload_n 0, 1) := by decide +kernel
theorem dX7_write_268 : decode cX7_write 268 = .ok (.getfield 99, 3) := by decide +kernel
theorem dX7_write_271 : decode cX7_write 271 = .ok (.iload_n 2, 1) := by decide +kernel
theorem dX7_write_272 : decode cX7_write 272 = .ok (.iaload, 1) := by decide +kernel
theorem dX7_write_273 : decode cX7_write 273 = .ok (.aload_n 0, 1) := by decide +kernel
theorem dX7_write_274 : decode cX7_write 274 = .ok (.getfield 102, 3) := by decide +kernel
theorem dX7_write_277 : decode cX7_write 277 = .ok (.iload_n 2, 1) := by decide +kernel
theorem dX7_write_278 : decode cX7_write 278 = .ok (.iaload, 1) := by decide +kernel
theorem dX7_write_279 : decode cX7_write 279 = .ok (.invokevirtual 150, 3) := by decide +kernel
theorem dX7_write_282 : decode cX7_write 282 = .ok (.iinc 2 1, 3) := by decide +kernel
theorem dX7_write_285 : decode cX7_write 285 = .ok (.goto (-41), 3) := by decide +kernel
theorem dX7_write_288 : decode cX7_write 288 = .ok (.iload_n 1, 1) := by decide +kernel
theorem dX7_write_289 : decode cX7_write 289 = .ok (.ireturn, 1) := by decide +kernel
theorem dX7_fault_0 : decode cX7_fault 0 = .ok (.aload_n 0, 1) := by decide +kernel
theorem dX7_fault_1 : decode cX7_fault 1 = .ok (.getfield 31, 3) := by decide +kernel
theorem dX7_fault_4 : decode cX7_fault 4 = .ok (.ireturn, 1) := by decide +kernel
theorem dX7_like_0 : decode cX7_like 0 = .ok (.aload_n 0, 1) := by decide +kernel
theorem dX7_like_1 : decode cX7_like 1 = .ok (.iload_n 1, 1) := by decide +kernel
theorem dX7_like_2 : decode cX7_like 2 = .ok (.invokevirtual 142, 3) := by decide +kernel
theorem dX7_like_5 : decode cX7_like 5 = .ok (.ifCond .eq 28, 3) := by decide +kernel
theorem dX7_like_8 : decode cX7_like 8 = .ok (.aload_n 0, 1) := by decide +kernel
theorem dX7_like_9 : decode cX7_like 9 = .ok (.iload_n 2, 1) := by decide +kernel
theorem dX7_like_10 : decode cX7_like 10 = .ok (.invokevirtual 142, 3) := by decide +kernel
theorem dX7_like_13 : decode cX7_like 13 = .ok (.ifCond .eq 20, 3) := by decide +kernel
theorem dX7_like_16 : decode cX7_like 16 = .ok (.aload_n 0, 1) := by decide +kernel
theorem dX7_like_17 : decode cX7_like 17 = .ok (.iload_n 1, 1) := by decide +kernel
theorem dX7_like_18 : decode cX7_like 18 = .ok (.iload_n 2, 1) := by decide +kernel
theorem dX7_like_19 : decode cX7_like 19 = .ok (.invokevirtual 194, 3) := by decide +kernel
theorem dX7_like_22 : decode cX7_like 22 = .ok (.ifCond .eq 7, 3) := by decide +kernel
theorem dX7_like_25 : decode cX7_like 25 = .ok (.iconst 1, 1) := by decide +kernel
theorem dX7_like_26 : decode cX7_like 26 = .ok (.goto 9, 3) := by decide +kernel
theorem dX7_like_29 : decode cX7_like 29 = .ok (.iconst 0, 1) := by decide +kernel
theorem dX7_like_30 : decode cX7_like 30 = .ok (.goto 5, 3) := by decide +kernel
theorem dX7_like_33 : decode cX7_like 33 = .ok (.bipush (-2), 2) := by decide +kernel
theorem dX7_like_35 : decode cX7_like 35 = .ok (.ireturn, 1) := by decide +kernel
theorem dX7_set_0 : decode cX7_set 0 = .ok (.iload_n 1, 1) := by decide +kernel
theorem dX7_set_1 : decode cX7_set 1 = .ok (.iconst 0, 1) := by decide +kernel
theorem dX7_set_2 : decode cX7_set 2 = .ok (.iconst 3, 1) := by decide +kernel
theorem dX7_set_3 : decode cX7_set 3 = .ok (.invokestatic 138, 3) := by decide +kernel
theorem dX7_set_6 : decode cX7_set 6 = .ok (.ifCond .ne 6, 3) := by decide +kernel
theorem dX7_set_9 : decode cX7_set 9 = .ok (.bipush (-2), 2) := by decide +kernel
theorem dX7_set_11 : decode cX7_set 11 = .ok (.ireturn, 1) := by decide +kernel
theorem dX7_set_12 : decode cX7_set 12 = .ok (.aload_n 0, 1) := by decide +kernel
theorem dX7_set_13 : decode cX7_set 13 = .ok (.getfield 25, 3) := by decide +kernel
theorem dX7_set_16 : decode cX7_set 16 = .ok (.iload_n 1, 1) := by decide +kernel
theorem dX7_set_17 : decode cX7_set 17 = .ok (.iaload, 1) := by decide +kernel
theorem dX7_set_18 : decode cX7_set 18 = .ok (.istore_n 3, 1) := by decide +kernel
theorem dX7_set_19 : decode cX7_set 19 = .ok (.aload_n 0, 1) := by decide +kernel
theorem dX7_set_20 : decode cX7_set 20 = .ok (.getfield 25, 3) := by decide +kernel
theorem dX7_set_23 : decode cX7_set 23 = .ok (.iload_n 1, 1) := by decide +kernel
theorem dX7_set_24 : decode cX7_set 24 = .ok (.iload_n 2, 1) := by decide +kernel
theorem dX7_set_25 : decode cX7_set 25 = .ok (.iastore, 1) := by decide +kernel
theorem dX7_set_26 : decode cX7_set 26 = .ok (.iload_n 3, 1) := by decide +kernel
theorem dX7_set_27 : decode cX7_set 27 = .ok (.ireturn, 1) := by decide +kernel
theorem dX7_isSo_0 : decode cX7_isSo 0 = .ok (.iload_n 1, 1) := by decide +kernel
theorem dX7_isSo_1 : decode cX7_isSo 1 = .ok (.ifCond .ne 15, 3) := by decide +kernel
theorem dX7_isSo_4 : decode cX7_isSo 4 = .ok (.iload_n 0, 1) := by decide +kernel
theorem dX7_isSo_5 : decode cX7_isSo 5 = .ok (.ifCond .ne 7, 3) := by decide +kernel
theorem dX7_isSo_8 : decode cX7_isSo 8 = .ok (.iconst 1, 1) := by decide +kernel
theorem dX7_isSo_9 : decode cX7_isSo 9 = .ok (.goto 84, 3) := by decide +kernel
theorem dX7_isSo_12 : decode cX7_isSo 12 = .ok (.iconst 0, 1) := by decide +kernel
theorem dX7_isSo_13 : decode cX7_isSo 13 = .ok (.goto 80, 3) := by decide +kernel
theorem dX7_isSo_16 : decode cX7_isSo 16 = .ok (.iload_n 1, 1) := by decide +kernel
theorem dX7_isSo_17 : decode cX7_isSo 17 = .ok (.iconst 1, 1) := by decide +kernel
theorem dX7_isSo_18 : decode cX7_isSo 18 = .ok (.if_icmp .ne 15, 3) := by decide +kernel
theorem dX7_isSo_21 : decode cX7_isSo 21 = .ok (.iload_n 0, 1) := by decide +kernel
theorem dX7_isSo_22 : decode cX7_isSo 22 = .ok (.ifCond .eq 7, 3) := by decide +kernel
theorem dX7_isSo_25 : decode cX7_isSo 25 = .ok (.iconst 1, 1) := by decide +kernel
theorem dX7_isSo_26 : decode cX7_isSo 26 = .ok (.goto 67, 3) := by decide +kernel
theorem dX7_isSo_29 : decode cX7_isSo 29 = .ok (.iconst 0, 1) := by decide +kernel
theorem dX7_isSo_30 : decode cX7_isSo 30 = .ok (.goto 63, 3) := by decide +kernel
theorem dX7_isSo_33 : decode cX7_isSo 33 = .ok (.iload_n 1, 1) := by decide +kernel
theorem dX7_isSo_34 : decode cX7_isSo 34 = .ok (.iconst 2, 1) := by decide +kernel
theorem dX7_isSo_35 : decode cX7_isSo 35 = .ok (.if_icmp .ne 15, 3) := by decide +kernel
theorem dX7_isSo_38 : decode cX7_isSo 38 = .ok (.iload_n 0, 1) := by decide +kernel
theorem dX7_isSo_39 : decode cX7_isSo 39 = .ok (.ifCond .ge 7, 3) := by decide +kernel
theorem dX7_isSo_42 : decode cX7_isSo 42 = .ok (.iconst 1, 1) := by decide +kernel
theorem dX7_isSo_43 : decode cX7_isSo 43 = .ok (.goto 50, 3) := by decide +kernel
theorem dX7_isSo_46 : decode cX7_isSo 46 = .ok (.iconst 0, 1) := by decide +kernel
theorem dX7_isSo_47 : decode cX7_isSo 47 = .ok (.goto 46, 3) := by decide +kernel
theorem dX7_isSo_50 : decode cX7_isSo 50 = .ok (.iload_n 1, 1) := by decide +kernel
theorem dX7_isSo_51 : decode cX7_isSo 51 = .ok (.iconst 3, 1) := by decide +kernel
theorem dX7_isSo_52 : decode cX7_isSo 52 = .ok (.if_icmp .ne 15, 3) := by decide +kernel
theorem dX7_isSo_55 : decode cX7_isSo 55 = .ok (.iload_n 0, 1) := by decide +kernel
theorem dX7_isSo_56 : decode cX7_isSo 56 = .ok (.ifCond .lt 7, 3) := by decide +kernel
theorem dX7_isSo_59 : decode cX7_isSo 59 = .ok (.iconst 1, 1) := by decide +kernel
theorem dX7_isSo_60 : decode cX7_isSo 60 = .ok (.goto 33, 3) := by decide +kernel
theorem dX7_isSo_63 : decode cX7_isSo 63 = .ok (.iconst 0, 1) := by decide +kernel
theorem dX7_isSo_64 : decode cX7_isSo 64 = .ok (.goto 29, 3) := by decide +kernel
theorem dX7_isSo_67 : decode cX7_isSo 67 = .ok (.iload_n 1, 1) := by decide +kernel
theorem dX7_isSo_68 : decode cX7_isSo 68 = .ok (.iconst 4, 1) := by decide +kernel
theorem dX7_isSo_69 : decode cX7_isSo 69 = .ok (.if_icmp .ne 15, 3) := by decide +kernel
theorem dX7_isSo_72 : decode cX7_isSo 72 = .ok (.iload_n 0, 1) := by decide +kernel
theorem dX7_isSo_73 : decode cX7_isSo 73 = .ok (.ifCond .le 7, 3) := by decide +kernel
theorem dX7_isSo_76 : decode cX7_isSo 76 = .ok (.iconst 1, 1) := by decide +kernel
theorem dX7_isSo_77 : decode cX7_isSo 77 = .ok (.goto 16, 3) := by decide +kernel
theorem dX7_isSo_80 : decode cX7_isSo 80 = .ok (.iconst 0, 1) := by decide +kernel
theorem dX7_isSo_81 : decode cX7_isSo 81 = .ok (.goto 12, 3) := by decide +kernel
theorem dX7_isSo_84 : decode cX7_isSo 84 = .ok (.iload_n 0, 1) := by decide +kernel
theorem dX7_isSo_85 : decode cX7_isSo 85 = .ok (.ifCond .gt 7, 3) := by decide +kernel
theorem dX7_isSo_88 : decode cX7_isSo 88 = .ok (.iconst 1, 1) := by decide +kernel
theorem dX7_isSo_89 : decode cX7_isSo 89 = .ok (.goto 4, 3) := by decide +kernel
theorem dX7_isSo_92 : decode cX7_isSo 92 = .ok (.iconst 0, 1) := by decide +kernel
theorem dX7_isSo_93 : decode cX7_isSo 93 = .ok (.ireturn, 1) := by decide +kernel
theorem dX7_run_0 : decode cX7_run 0 = .ok (.aload_n 0, 1) := by decide +kernel
theorem dX7_run_1 : decode cX7_run 1 = .ok (.iload_n 1, 1) := by decide +kernel
theorem dX7_run_2 : decode cX7_run 2 = .ok (.invokevirtual 142, 3) := by decide +kernel
theorem dX7_run_5 : decode cX7_run 5 = .ok (.ifCond .eq 14, 3) := by decide +kernel
theorem dX7_run_8 : decode cX7_run 8 = .ok (.iload_n 2, 1) := by decide +kernel
theorem dX7_run_9 : decode cX7_run 9 = .ok (.iconst 0, 1) := by decide +kernel
theorem dX7_run_10 : decode cX7_run 10 = .ok (.sipush 10000, 3) := by decide +kernel
theorem dX7_run_13 : decode cX7_run 13 = .ok (.invokestatic 138, 3) := by decide +kernel
theorem dX7_run_16 : decode cX7_run 16 = .ok (.ifCond .ne 6, 3) := by decide +kernel
theorem dX7_run_19 : decode cX7_run 19 = .ok (.bipush (-2), 2) := by decide +kernel
theorem dX7_run_21 : decode cX7_run 21 = .ok (.ireturn, 1) := by decide +kernel
theorem dX7_run_22 : decode cX7_run 22 = .ok (.aload_n 0, 1) := by decide +kernel
theorem dX7_run_23 : decode cX7_run 23 = .ok (.iload_n 1, 1) := by decide +kernel
theorem dX7_run_24 : decode cX7_run 24 = .ok (.invokevirtual 184, 3) := by decide +kernel
theorem dX7_run_27 : decode cX7_run 27 = .ok (.ifCond .ne 6, 3) := by decide +kernel
theorem dX7_run_30 : decode cX7_run 30 = .ok (.bipush (-3), 2) := by decide +kernel
theorem dX7_run_32 : decode cX7_run 32 = .ok (.ireturn, 1) := by decide +kernel
theorem dX7_run_33 : decode cX7_run 33 = .ok (.iconst 0, 1) := by decide +kernel
theorem dX7_run_34 : decode cX7_run 34 = .ok (.istore_n 3, 1) := by decide +kernel
theorem dX7_run_35 : decode cX7_run 35 = .ok (.iload_n 3, 1) := by decide +kernel
theorem dX7_run_36 : decode cX7_run 36 = .ok (.iconst 4, 1) := by decide +kernel
theorem dX7_run_37 : decode cX7_run 37 = .ok (.if_icmp .ge 21, 3) := by decide +kernel
theorem dX7_run_40 : decode cX7_run 40 = .ok (.aload_n 0, 1) := by decide +kernel
theorem dX7_run_41 : decode cX7_run 41 = .ok (.getfield 38, 3) := by decide +kernel
theorem dX7_run_44 : decode cX7_run 44 = .ok (.iload_n 3, 1) := by decide +kernel
theorem dX7_run_45 : decode cX7_run 45 = .ok (.aload_n 0, 1) := by decide +kernel
theorem dX7_run_46 : decode cX7_run 46 = .ok (.getfield 25, 3) := by decide +kernel
theorem dX7_run_49 : decode cX7_run 49 = .ok (.iload_n 3, 1) := by decide +kernel
theorem dX7_run_50 : decode cX7_run 50 = .ok (.iaload, 1) := by decide +kernel
theorem dX7_run_51 : decode cX7_run 51 = .ok (.iastore, 1) := by decide +kernel
theorem dX7_run_52 : decode cX7_run 52 = .ok (.iinc 3 1, 3) := by decide +kernel
theorem dX7_run_55 : decode cX7_run 55 = .ok (.goto (-20), 3) := by decide +kernel
theorem dX7_run_58 : decode cX7_run 58 = .ok (.aload_n 0, 1) := by decide +kernel
theorem dX7_run_59 : decode cX7_run 59 = .ok (.iconst 0, 1) := by decide +kernel
theorem dX7_run_60 : decode cX7_run 60 = .ok (.putfield 278, 3) := by decide +kernel
theorem dX7_run_63 : decode cX7_run 63 = .ok (.aload_n 0, 1) := by decide +kernel
theorem dX7_run_64 : decode cX7_run 64 = .ok (.iconst 1, 1) := by decide +kernel
theorem dX7_run_65 : decode cX7_run 65 = .ok (.putfield 281, 3) := by decide +kernel
theorem dX7_run_68 : decode cX7_run 68 = .ok (.aload_n 0, 1) := by decide +kernel
theorem dX7_run_69 : decode cX7_run 69 = .ok (.iconst 0, 1) := by decide +kernel
theorem dX7_run_70 : decode cX7_run 70 = .ok (.putfield 284, 3) := by decide +kernel
theorem dX7_run_73 : decode cX7_run 73 = .ok (.aload_n 0, 1) := by decide +kernel
theorem dX7_run_74 : decode cX7_run 74 = .ok (.getfield 129, 3) := by decide +kernel
theorem dX7_run_77 : decode cX7_run 77 = .ok (.iconst 0, 1) := by decide +kernel
theorem dX7_run_78 : decode cX7_run 78 = .ok (.iload_n 1, 1) := by decide +kernel
theorem dX7_run_79 : decode cX7_run 79 = .ok (.iastore, 1) := by decide +kernel
theorem dX7_run_80 : decode cX7_run 80 = .ok (.aload_n 0, 1) := by decide +kernel
theorem dX7_run_81 : decode cX7_run 81 = .ok (.getfield 132, 3) := by decide +kernel
theorem dX7_run_84 : decode cX7_run 84 = .ok (.iconst 0, 1) := by decide +kernel
theorem dX7_run_85 : decode cX7_run 85 = .ok (.iconst 0, 1) := by decide +kernel
theorem dX7_run_86 : decode cX7_run 86 = .ok (.iastore, 1) := by decide +kernel
theorem dX7_run_87 : decode cX7_run 87 = .ok (.iconst 1, 1) := by decide +kernel
theorem dX7_run_88 : decode cX7_run 88 = .ok (.istore_n 3, 1) := by decide +kernel
theorem dX7_run_89 : decode cX7_run 89 = .ok (.iload_n 3, 1) := by decide +kernel
theorem dX7_run_90 : decode cX7_run 90 = .ok (.ifCond .le 337, 3) := by decide +kernel
theorem dX7_run_93 : decode cX7_run 93 = .ok (.aload_n 0, 1) := by decide +kernel
theorem dX7_run_94 : decode cX7_run 94 = .ok (.getfield 129, 3) := by decide +kernel
theorem dX7_run_97 : decode cX7_run 97 = .ok (.iload_n 3, 1) := by decide +kernel
theorem dX7_run_98 : decode cX7_run 98 = .ok (.iconst 1, 1) := by decide +kernel
theorem dX7_run_99 : decode cX7_run 99 = .ok (.isub, 1) := by decide +kernel
theorem dX7_run_100 : decode cX7_run 100 = .ok (.iaload, 1) := by decide +kernel
theorem dX7_run_101 : decode cX7_run 101 = .ok (.istore 4, 2) := by decide +kernel
theorem dX7_run_103 : decode cX7_run 103 = .ok (.aload_n 0, 1) := by decide +kernel
theorem dX7_run_104 : decode cX7_run 104 = .ok (.getfield 132, 3) := by decide +kernel
theorem dX7_run_107 : decode cX7_run 107 = .ok (.iload_n 3, 1) := by decide +kernel
theorem dX7_run_108 : decode cX7_run 108 = .ok (.iconst 1, 1) := by decide +kernel
theorem dX7_run_109 : decode cX7_run 109 = .ok (.isub, 1) := by decide +kernel
theorem dX7_run_110 : decode cX7_run 110 = .ok (.iaload, 1) := by decide +kernel
theorem dX7_run_111 : decode cX7_run 111 = .ok (.istore 5, 2) := by decide +kernel
theorem dX7_run_113 : decode cX7_run 113 = .ok (.iload 5, 2) := by decide +kernel
theorem dX7_run_115 : decode cX7_run 115 = .ok (.aload_n 0, 1) := by decide +kernel
theorem dX7_run_116 : decode cX7_run 116 = .ok (.getfield 7, 3) := by decide +kernel
theorem dX7_run_119 : decode cX7_run 119 = .ok (.iload 4, 2) := by decide +kernel
theorem dX7_run_121 : decode cX7_run 121 = .ok (.iaload, 1) := by decide +kernel
theorem dX7_run_122 : decode cX7_run 122 = .ok (.if_icmp .ne 9, 3) := by decide +kernel
theorem dX7_run_125 : decode cX7_run 125 = .ok (.iinc 3 (-1), 3) := by decide +kernel
theorem dX7_run_128 : decode cX7_run 128 = .ok (.goto (-39), 3) := by decide +kernel
theorem dX7_run_131 : decode cX7_run 131 = .ok (.aload_n 0, 1) := by decide +kernel
theorem dX7_run_132 : decode cX7_run 132 = .ok (.getfield 278, 3) := by decide +kernel
theorem dX7_run_135 : decode cX7_run 135 = .ok (.iload_n 2, 1) := by decide +kernel
theorem dX7_run_136 : decode cX7_run 136 = .ok (.if_icmp .ne 5, 3) := by decide +kernel
theorem dX7_run_139 : decode cX7_run 139 = .ok (.iconst 1, 1) := by decide +kernel
theorem dX7_run_140 : decode cX7_run 140 = .ok (.ireturn, 1) := by decide +kernel
theorem dX7_run_141 : decode cX7_run 141 = .ok (.aload_n 0, 1) := by decide +kernel
theorem dX7_run_142 : decode cX7_run 142 = .ok (.dup, 1) := by decide +kernel
theorem dX7_run_143 : decode cX7_run 143 = .ok (.getfield 278, 3) := by decide +kernel
theorem dX7_run_146 : decode cX7_run 146 = .ok (.iconst 1, 1) := by decide +kernel
theorem dX7_run_147 : decode cX7_run 147 = .ok (.iadd, 1) := by decide +kernel
theorem dX7_run_148 : decode cX7_run 148 = .ok (.putfield 278, 3) := by decide +kernel
theorem dX7_run_151 : decode cX7_run 151 = .ok (.bipush 60, 2) := by decide +kernel
theorem dX7_run_153 : decode cX7_run 153 = .ok (.iload 4, 2) := by decide +kernel
theorem dX7_run_155 : decode cX7_run 155 = .ok (.imul, 1) := by decide +kernel
theorem dX7_run_156 : decode cX7_run 156 = .ok (.iload 5, 2) := by decide +kernel
theorem dX7_run_158 : decode cX7_run 158 = .ok (.iadd, 1) := by decide +kernel
theorem dX7_run_159 : decode cX7_run 159 = .ok (.istore 6, 2) := by decide +kernel
theorem dX7_run_161 : decode cX7_run 161 = .ok (.aload_n 0, 1) := by decide +kernel
theorem dX7_run_162 : decode cX7_run 162 = .ok (.getfield 132, 3) := by decide +kernel
theorem dX7_run_165 : decode cX7_run 165 = .ok (.iload_n 3, 1) := by decide +kernel
theorem dX7_run_166 : decode cX7_run 166 = .ok (.iconst 1, 1) := by decide +kernel
theorem dX7_run_167 : decode cX7_run 167 = .ok (.isub, 1) := by decide +kernel
theorem dX7_run_168 : decode cX7_run 168 = .ok (.iload 5, 2) := by decide +kernel
theorem dX7_run_170 : decode cX7_run 170 = .ok (.iconst 1, 1) := by decide +kernel
theorem dX7_run_171 : decode cX7_run 171 = .ok (.iadd, 1) := by decide +kernel
theorem dX7_run_172 : decode cX7_run 172 = .ok (.iastore, 1) := by decide +kernel
theorem dX7_run_173 : decode cX7_run 173 = .ok (.aload_n 0, 1) := by decide +kernel
theorem dX7_run_174 : decode cX7_run 174 = .ok (.getfield 13, 3) := by decide +kernel
theorem dX7_run_177 : decode cX7_run 177 = .ok (.iload 6, 2) := by decide +kernel
theorem dX7_run_179 : decode cX7_run 179 = .ok (.iaload, 1) := by decide +kernel
theorem dX7_run_180 : decode cX7_run 180 = .ok (.ifCond .ne 44, 3) := by decide +kernel
theorem dX7_run_183 : decode cX7_run 183 = .ok (.aload_n 0, 1) := by decide +kernel
theorem dX7_run_184 : decode cX7_run 184 = .ok (.getfield 284, 3) := by decide +kernel
theorem dX7_run_187 : decode cX7_run 187 = .ok (.sipush 200, 3) := by decide +kernel
theorem dX7_run_190 : decode cX7_run 190 = .ok (.if_icmp .ne 5, 3) := by decide +kernel
theorem dX7_run_193 : decode cX7_run 193 = .ok (.iconst 4, 1) := by decide +kernel
theorem dX7_run_194 : decode cX7_run 194 = .ok (.ireturn, 1) := by decide +kernel
theorem dX7_run_195 : decode cX7_run 195 = .ok (.aload_n 0, 1) := by decide +kernel
theorem dX7_run_196 : decode cX7_run 196 = .ok (.getfield 35, 3) := by decide +kernel
theorem dX7_run_199 : decode cX7_run 199 = .ok (.aload_n 0, 1) := by decide +kernel
theorem dX7_run_200 : decode cX7_run 200 = .ok (.getfield 284, 3) := by decide +kernel
theorem dX7_run_203 : decode cX7_run 203 = .ok (.aload_n 0, 1) := by decide +kernel
theorem dX7_run_204 : decode cX7_run 204 = .ok (.getfield 16, 3) := by decide +kernel
theorem dX7_run_207 : decode cX7_run 207 = .ok (.iload 6, 2) := by decide +kernel
theorem dX7_run_209 : decode cX7_run 209 = .ok (.iaload, 1) := by decide +kernel
theorem dX7_run_210 : decode cX7_run 210 = .ok (.iastore, 1) := by decide +kernel
theorem dX7_run_211 : decode cX7_run 211 = .ok (.aload_n 0, 1) := by decide +kernel
theorem dX7_run_212 : decode cX7_run 212 = .ok (.dup, 1) := by decide +kernel
theorem dX7_run_213 : decode cX7_run 213 = .ok (.getfield 284, 3) := by decide +kernel
theorem dX7_run_216 : decode cX7_run 216 = .ok (.iconst 1, 1) := by decide +kernel
theorem dX7_run_217 : decode cX7_run 217 = .ok (.iadd, 1) := by decide +kernel
theorem dX7_run_218 : decode cX7_run 218 = .ok (.putfield 284, 3) := by decide +kernel
theorem dX7_run_221 : decode cX7_run 221 = .ok (.goto 203, 3) := by decide +kernel
theorem dX7_run_224 : decode cX7_run 224 = .ok (.aload_n 0, 1) := by decide +kernel
theorem dX7_run_225 : decode cX7_run 225 = .ok (.getfield 13, 3) := by decide +kernel
theorem dX7_run_228 : decode cX7_run 228 = .ok (.iload 6, 2) := by decide +kernel
theorem dX7_run_230 : decode cX7_run 230 = .ok (.iaload, 1) := by decide +kernel
theorem dX7_run_231 : decode cX7_run 231 = .ok (.iconst 1, 1) := by decide +kernel
theorem dX7_run_232 : decode cX7_run 232 = .ok (.if_icmp .ne 28, 3) := by decide +kernel
theorem dX7_run_235 : decode cX7_run 235 = .ok (.aload_n 0, 1) := by decide +kernel
theorem dX7_run_236 : decode cX7_run 236 = .ok (.getfield 38, 3) := by decide +kernel
theorem dX7_run_239 : decode cX7_run 239 = .ok (.aload_n 0, 1) := by decide +kernel
theorem dX7_run_240 : decode cX7_run 240 = .ok (.getfield 16, 3) := by decide +kernel
theorem dX7_run_243 : decode cX7_run 243 = .ok (.iload 6, 2) := by decide +kernel
theorem dX7_run_245 : decode cX7_run 245 = .ok (.iaload, 1) := by decide +kernel
theorem dX7_run_246 : decode cX7_run 246 = .ok (.dup2, 1) := by decide +kernel
theorem dX7_run_247 : decode cX7_run 247 = .ok (.iaload, 1) := by decide +kernel
theorem dX7_run_248 : decode cX7_run 248 = .ok (.aload_n 0, 1) := by decide +kernel
theorem dX7_run_249 : decode cX7_run 249 = .ok (.getfield 19, 3) := by decide +kernel
theorem dX7_run_252 : decode cX7_run 252 = .ok (.iload 6, 2) := by decide +kernel
theorem dX7_run_254 : decode cX7_run 254 = .ok (.iaload, 1) := by decide +kernel
theorem dX7_run_255 : decode cX7_run 255 = .ok (.iadd, 1) := by decide +kernel
theorem dX7_run_256 : decode cX7_run 256 = .ok (.iastore, 1) := by decide +kernel
theorem dX7_run_257 : decode cX7_run 257 = .ok (.goto 167, 3) := by decide +kernel
theorem dX7_run_260 : decode cX7_run 260 = .ok (.aload_n 0, 1) := by decide +kernel
theorem dX7_run_261 : decode cX7_run 261 = .ok (.getfield 13, 3) := by decide +kernel
theorem dX7_run_264 : decode cX7_run 264 = .ok (.iload 6, 2) := by decide +kernel
theorem dX7_run_266 : decode cX7_run 266 = .ok (.iaload, 1) := by decide +kernel
theorem dX7_run_267 : decode cX7_run 267 = .ok (.iconst 2, 1) := by decide +kernel
theorem dX7_run_268 : decode cX7_run 268 = .ok (.if_icmp .eq 39, 3) := by decide +kernel
theorem dX7_run_271 : decode cX7_run 271 = .ok (.aload_n 0, 1) := by decide +kernel
theorem dX7_run_272 : decode cX7_run 272 = .ok (.getfield 13, 3) := by decide +kernel
theorem dX7_run_275 : decode cX7_run 275 = .ok (.iload 6, 2) := by decide +kernel
theorem dX7_run_277 : decode cX7_run 277 = .ok (.iaload, 1) := by decide +kernel
theorem dX7_run_278 : decode cX7_run 278 = .ok (.iconst 3, 1) := by decide +kernel
theorem dX7_run_279 : decode cX7_run 279 = .ok (.if_icmp .ne 46, 3) := by decide +kernel
theorem dX7_run_282 : decode cX7_run 282 = .ok (.aload_n 0, 1) := by decide +kernel
theorem dX7_run_283 : decode cX7_run 283 = .ok (.getfield 38, 3) := by decide +kernel
theorem dX7_run_286 : decode cX7_run 286 = .ok (.aload_n 0, 1) := by decide +kernel
theorem dX7_run_287 : decode cX7_run 287 = .ok (.getfield 16, 3) := by decide +kernel
theorem dX7_run_290 : decode cX7_run 290 = .ok (.iload 6, 2) := by decide +kernel
theorem dX7_run_292 : decode cX7_run 292 = .ok (.iaload, 1) := by decide +kernel
theorem dX7_run_293 : decode cX7_run 293 = .ok (.iaload, 1) := by decide +kernel
theorem dX7_run_294 : decode cX7_run 294 = .ok (.aload_n 0, 1) := by decide +kernel
theorem dX7_run_295 : decode cX7_run 295 = .ok (.getfield 19, 3) := by decide +kernel
theorem dX7_run_298 : decode cX7_run 298 = .ok (.iload 6, 2) := by decide +kernel
theorem dX7_run_300 : decode cX7_run 300 = .ok (.iaload, 1) := by decide +kernel
theorem dX7_run_301 : decode cX7_run 301 = .ok (.invokestatic 287, 3) := by decide +kernel
theorem dX7_run_304 : decode cX7_run 304 = .ok (.ifCond .eq 21, 3) := by decide +kernel
theorem dX7_run_307 : decode cX7_run 307 = .ok (.aload_n 0, 1) := by decide +kernel
theorem dX7_run_308 : decode cX7_run 308 = .ok (.getfield 132, 3) := by decide +kernel
theorem dX7_run_311 : decode cX7_run 311 = .ok (.iload_n 3, 1) := by decide +kernel
theorem dX7_run_312 : decode cX7_run 312 = .ok (.iconst 1, 1) := by decide +kernel
theorem dX7_run_313 : decode cX7_run 313 = .ok (.isub, 1) := by decide +kernel
theorem dX7_run_314 : decode cX7_run 314 = .ok (.aload_n 0, 1) := by decide +kernel
theorem dX7_run_315 : decode cX7_run 315 = .ok (.getfield 22, 3) := by decide +kernel
theorem dX7_run_318 : decode cX7_run 318 = .ok (.iload 6, 2) := by decide +kernel
theorem dX7_run_320 : decode cX7_run 320 = .ok (.iaload, 1) := by decide +kernel
theorem dX7_run_321 : decode cX7_run 321 = .ok (.iastore, 1) := by decide +kernel
theorem dX7_run_322 : decode cX7_run 322 = .ok (.goto 102, 3) := by decide +kernel
theorem dX7_run_325 : decode cX7_run 325 = .ok (.aload_n 0, 1) := by decide +kernel
theorem dX7_run_326 : decode cX7_run 326 = .ok (.getfield 13, 3) := by decide +kernel
theorem dX7_run_329 : decode cX7_run 329 = .ok (.iload 6, 2) := by decide +kernel
theorem dX7_run_331 : decode cX7_run 331 = .ok (.iaload, 1) := by decide +kernel
theorem dX7_run_332 : decode cX7_run 332 = .ok (.iconst 4, 1) := by decide +kernel
theorem dX7_run_333 : decode cX7_run 333 = .ok (.if_icmp .ne 9, 3) := by decide +kernel
theorem dX7_run_336 : decode cX7_run 336 = .ok (.iinc 3 (-1), 3) := by decide +kernel
theorem dX7_run_339 : decode cX7_run 339 = .ok (.goto 85, 3) := by decide +kernel
theorem dX7_run_342 : decode cX7_run 342 = .ok (.aload_n 0, 1) := by decide +kernel
theorem dX7_run_343 : decode cX7_run 343 = .ok (.getfield 13, 3) := by decide +kernel
theorem dX7_run_346 : decode cX7_run 346 = .ok (.iload 6, 2) := by decide +kernel
theorem dX7_run_348 : decode cX7_run 348 = .ok (.iaload, 1) := by decide +kernel
theorem dX7_run_349 : decode cX7_run 349 = .ok (.iconst 5, 1) := by decide +kernel
theorem dX7_run_350 : decode cX7_run 350 = .ok (.if_icmp .ne 74, 3) := by decide +kernel
theorem dX7_run_353 : decode cX7_run 353 = .ok (.aload_n 0, 1) := by decide +kernel
theorem dX7_run_354 : decode cX7_run 354 = .ok (.aload_n 0, 1) := by decide +kernel
theorem dX7_run_355 : decode cX7_run 355 = .ok (.getfield 16, 3) := by decide +kernel
theorem dX7_run_358 : decode cX7_run 358 = .ok (.iload 6, 2) := by decide +kernel
theorem dX7_run_360 : decode cX7_run 360 = .ok (.iaload, 1) := by decide +kernel
theorem dX7_run_361 : decode cX7_run 361 = .ok (.invokevirtual 142, 3) := by decide +kernel
theorem dX7_run_364 : decode cX7_run 364 = .ok (.ifCond .eq 17, 3) := by decide +kernel
theorem dX7_run_367 : decode cX7_run 367 = .ok (.aload_n 0, 1) := by decide +kernel
theorem dX7_run_368 : decode cX7_run 368 = .ok (.aload_n 0, 1) := by decide +kernel
theorem dX7_run_369 : decode cX7_run 369 = .ok (.getfield 16, 3) := by decide +kernel
theorem dX7_run_372 : decode cX7_run 372 = .ok (.iload 6, 2) := by decide +kernel
theorem dX7_run_374 : decode cX7_run 374 = .ok (.iaload, 1) := by decide +kernel
theorem dX7_run_375 : decode cX7_run 375 = .ok (.invokevirtual 184, 3) := by decide +kernel
theorem dX7_run_378 : decode cX7_run 378 = .ok (.ifCond .ne 5, 3) := by decide +kernel
theorem dX7_run_381 : decode cX7_run 381 = .ok (.iconst 2, 1) := by decide +kernel
theorem dX7_run_382 : decode cX7_run 382 = .ok (.ireturn, 1) := by decide +kernel
theorem dX7_run_383 : decode cX7_run 383 = .ok (.iload_n 3, 1) := by decide +kernel
theorem dX7_run_384 : decode cX7_run 384 = .ok (.bipush 8, 2) := by decide +kernel
theorem dX7_run_386 : decode cX7_run 386 = .ok (.if_icmp .ne 5, 3) := by decide +kernel
theorem dX7_run_389 : decode cX7_run 389 = .ok (.iconst 3, 1) := by decide +kernel
theorem dX7_run_390 : decode cX7_run 390 = .ok (.ireturn, 1) := by decide +kernel
theorem dX7_run_391 : decode cX7_run 391 = .ok (.aload_n 0, 1) := by decide +kernel
theorem dX7_run_392 : decode cX7_run 392 = .ok (.getfield 129, 3) := by decide +kernel
theorem dX7_run_395 : decode cX7_run 395 = .ok (.iload_n 3, 1) := by decide +kernel
theorem dX7_run_396 : decode cX7_run 396 = .ok (.aload_n 0, 1) := by decide +kernel
theorem dX7_run_397 : decode cX7_run 397 = .ok (.getfield 16, 3) := by decide +kernel
theorem dX7_run_400 : decode cX7_run 400 = .ok (.iload 6, 2) := by decide +kernel
theorem dX7_run_402 : decode cX7_run 402 = .ok (.iaload, 1) := by decide +kernel
theorem dX7_run_403 : decode cX7_run 403 = .ok (.iastore, 1) := by decide +kernel
theorem dX7_run_404 : decode cX7_run 404 = .ok (.aload_n 0, 1) := by decide +kernel
theorem dX7_run_405 : decode cX7_run 405 = .ok (.getfield 132, 3) := by decide +kernel
theorem dX7_run_408 : decode cX7_run 408 = .ok (.iload_n 3, 1) := by decide +kernel
theorem dX7_run_409 : decode cX7_run 409 = .ok (.iconst 0, 1) := by decide +kernel
theorem dX7_run_410 : decode cX7_run 410 = .ok (.iastore, 1) := by decide +kernel
theorem dX7_run_411 : decode cX7_run 411 = .ok (.iinc 3 1, 3) := by decide +kernel
theorem dX7_run_414 : decode cX7_run 414 = .ok (.aload_n 0, 1) := by decide +kernel
theorem dX7_run_415 : decode cX7_run 415 = .ok (.dup, 1) := by decide +kernel
theorem dX7_run_416 : decode cX7_run 416 = .ok (.getfield 281, 3) := by decide +kernel
theorem dX7_run_419 : decode cX7_run 419 = .ok (.iconst 1, 1) := by decide +kernel
theorem dX7_run_420 : decode cX7_run 420 = .ok (.iadd, 1) := by decide +kernel
theorem dX7_run_421 : decode cX7_run 421 = .ok (.putfield 281, 3) := by decide +kernel
theorem dX7_run_424 : decode cX7_run 424 = .ok (.goto (-335), 3) := by decide +kernel
theorem dX7_run_427 : decode cX7_run 427 = .ok (.iconst 0, 1) := by decide +kernel
theorem dX7_run_428 : decode cX7_run 428 = .ok (.ireturn, 1) := by decide +kernel
theorem dX7_ran_0 : decode cX7_ran 0 = .ok (.iload_n 1, 1) := by decide +kernel
theorem dX7_ran_1 : decode cX7_ran 1 = .ok (.iconst 0, 1) := by decide +kernel
theorem dX7_ran_2 : decode cX7_ran 2 = .ok (.bipush 7, 2) := by decide +kernel
theorem dX7_ran_4 : decode cX7_ran 4 = .ok (.invokestatic 138, 3) := by decide +kernel
theorem dX7_ran_7 : decode cX7_ran 7 = .ok (.ifCond .eq 8, 3) := by decide +kernel
theorem dX7_ran_10 : decode cX7_ran 10 = .ok (.iload_n 1, 1) := by decide +kernel
theorem dX7_ran_11 : decode cX7_ran 11 = .ok (.iconst 3, 1) := by decide +kernel
theorem dX7_ran_12 : decode cX7_ran 12 = .ok (.if_icmp .ne 6, 3) := by decide +kernel
theorem dX7_ran_15 : decode cX7_ran 15 = .ok (.bipush (-2), 2) := by decide +kernel
theorem dX7_ran_17 : decode cX7_ran 17 = .ok (.ireturn, 1) := by decide +kernel
theorem dX7_ran_18 : decode cX7_ran 18 = .ok (.iload_n 1, 1) := by decide +kernel
theorem dX7_ran_19 : decode cX7_ran 19 = .ok (.ifCond .ne 10, 3) := by decide +kernel
theorem dX7_ran_22 : decode cX7_ran 22 = .ok (.aload_n 0, 1) := by decide +kernel
theorem dX7_ran_23 : decode cX7_ran 23 = .ok (.getfield 278, 3) := by decide +kernel
theorem dX7_ran_26 : decode cX7_ran 26 = .ok (.goto 35, 3) := by decide +kernel
theorem dX7_ran_29 : decode cX7_ran 29 = .ok (.iload_n 1, 1) := by decide +kernel
theorem dX7_ran_30 : decode cX7_ran 30 = .ok (.iconst 1, 1) := by decide +kernel
theorem dX7_ran_31 : decode cX7_ran 31 = .ok (.if_icmp .ne 10, 3) := by decide +kernel
theorem dX7_ran_34 : decode cX7_ran 34 = .ok (.aload_n 0, 1) := by decide +kernel
theorem dX7_ran_35 : decode cX7_ran 35 = .ok (.getfield 284, 3) := by decide +kernel
theorem dX7_ran_38 : decode cX7_ran 38 = .ok (.goto 23, 3) := by decide +kernel
theorem dX7_ran_41 : decode cX7_ran 41 = .ok (.iload_n 1, 1) := by decide +kernel
theorem dX7_ran_42 : decode cX7_ran 42 = .ok (.iconst 2, 1) := by decide +kernel
theorem dX7_ran_43 : decode cX7_ran 43 = .ok (.if_icmp .ne 10, 3) := by decide +kernel
theorem dX7_ran_46 : decode cX7_ran 46 = .ok (.aload_n 0, 1) := by decide +kernel
theorem dX7_ran_47 : decode cX7_ran 47 = .ok (.getfield 281, 3) := by decide +kernel
theorem dX7_ran_50 : decode cX7_ran 50 = .ok (.goto 11, 3) := by decide +kernel
theorem dX7_ran_53 : decode cX7_ran 53 = .ok (.aload_n 0, 1) := by decide +kernel
theorem dX7_ran_54 : decode cX7_ran 54 = .ok (.getfield 38, 3) := by decide +kernel
theorem dX7_ran_57 : decode cX7_ran 57 = .ok (.iload_n 1, 1) := by decide +kernel
theorem dX7_ran_58 : decode cX7_ran 58 = .ok (.iconst 4, 1) := by decide +kernel
theorem dX7_ran_59 : decode cX7_ran 59 = .ok (.isub, 1) := by decide +kernel
theorem dX7_ran_60 : decode cX7_ran 60 = .ok (.iaload, 1) := by decide +kernel
theorem dX7_ran_61 : decode cX7_ran 61 = .ok (.ireturn, 1) := by decide +kernel
theorem dX7_out_0 : decode cX7_out 0 = .ok (.iload_n 1, 1) := by decide +kernel
theorem dX7_out_1 : decode cX7_out 1 = .ok (.iconst 0, 1) := by decide +kernel
theorem dX7_out_2 : decode cX7_out 2 = .ok (.aload_n 0, 1) := by decide +kernel
theorem dX7_out_3 : decode cX7_out 3 = .ok (.getfield 284, 3) := by decide +kernel
theorem dX7_out_6 : decode cX7_out 6 = .ok (.iconst 1, 1) := by decide +kernel
theorem dX7_out_7 : decode cX7_out 7 = .ok (.isub, 1) := by decide +kernel
theorem dX7_out_8 : decode cX7_out 8 = .ok (.invokestatic 138, 3) := by decide +kernel
theorem dX7_out_11 : decode cX7_out 11 = .ok (.ifCond .eq 12, 3) := by decide +kernel
theorem dX7_out_14 : decode cX7_out 14 = .ok (.aload_n 0, 1) := by decide +kernel
theorem dX7_out_15 : decode cX7_out 15 = .ok (.getfield 35, 3) := by decide +kernel
theorem dX7_out_18 : decode cX7_out 18 = .ok (.iload_n 1, 1) := by decide +kernel
theorem dX7_out_19 : decode cX7_out 19 = .ok (.iaload, 1) := by decide +kernel
theorem dX7_out_20 : decode cX7_out 20 = .ok (.goto 5, 3) := by decide +kernel
theorem dX7_out_23 : decode cX7_out 23 = .ok (.bipush (-2), 2) := by decide +kernel
theorem dX7_out_25 : decode cX7_out 25 = .ok (.ireturn, 1) := by decide +kernel
end
section
theorem dL_law_0 : decode cL_law 0 = .ok (.new 7, 3) := by decide +kernel
theorem dL_law_3 : decode cL_law 3 = .ok (.dup, 1) := by decide +kernel
theorem dL_law_4 : decode cL_law 4 = .ok (.invokespecial 9, 3) := by decide +kernel
theorem dL_law_7 : decode cL_law 7 = .ok (.astore_n 1, 1) := by decide +kernel
theorem dL_law_8 : decode cL_law 8 = .ok (.new 10, 3) := by decide +kernel
theorem dL_law_11 : decode cL_law 11 = .ok (.dup, 1) := by decide +kernel
theorem dL_law_12 : decode cL_law 12 = .ok (.invokespecial 12, 3) := by decide +kernel
theorem dL_law_15 : decode cL_law 15 = .ok (.astore_n 2, 1) := by decide +kernel
theorem dL_law_16 : decode cL_law 16 = .ok (.iconst 0, 1) := by decide +kernel
theorem dL_law_17 : decode cL_law 17 = .ok (.istore_n 3, 1) := by decide +kernel
theorem dL_law_18 : decode cL_law 18 = .ok (.iload_n 3, 1) := by decide +kernel
theorem dL_law_19 : decode cL_law 19 = .ok (.aload_n 0, 1) := by decide +kernel
theorem dL_law_20 : decode cL_law 20 = .ok (.arraylength, 1) := by decide +kernel
theorem dL_law_21 : decode cL_law 21 = .ok (.bipush 7, 2) := by decide +kernel
theorem dL_law_23 : decode cL_law 23 = .ok (.isub, 1) := by decide +kernel
theorem dL_law_24 : decode cL_law 24 = .ok (.if_icmp .gt 631, 3) := by decide +kernel
theorem dL_law_27 : decode cL_law 27 = .ok (.aload_n 0, 1) := by decide +kernel
theorem dL_law_28 : decode cL_law 28 = .ok (.iload_n 3, 1) := by decide +kernel
theorem dL_law_29 : decode cL_law 29 = .ok (.iaload, 1) := by decide +kernel
theorem dL_law_30 : decode cL_law 30 = .ok (.bipush 31, 2) := by decide +kernel
theorem dL_law_32 : decode cL_law 32 = .ok (.iand, 1) := by decide +kernel
theorem dL_law_33 : decode cL_law 33 = .ok (.tableswitch 616 0 16 #[83, 96, 159, 234, 277, 310, 353, 386, 409, 432, 445, 458, 471, 504, 537, 570, 593], 83) := by decide +kernel
theorem dL_law_116 : decode cL_law 116 = .ok (.aload_n 1, 1) := by decide +kernel
theorem dL_law_117 : decode cL_law 117 = .ok (.invokevirtual 13, 3) := by decide +kernel
theorem dL_law_120 : decode cL_law 120 = .ok (.aload_n 2, 1) := by decide +kernel
theorem dL_law_121 : decode cL_law 121 = .ok (.invokevirtual 17, 3) := by decide +kernel
theorem dL_law_124 : decode cL_law 124 = .ok (.if_icmp .eq 525, 3) := by decide +kernel
theorem dL_law_127 : decode cL_law 127 = .ok (.iconst 0, 1) := by decide +kernel
theorem dL_law_128 : decode cL_law 128 = .ok (.ireturn, 1) := by decide +kernel
theorem dL_law_129 : decode cL_law 129 = .ok (.aload_n 1, 1) := by decide +kernel
theorem dL_law_130 : decode cL_law 130 = .ok (.aload_n 0, 1) := by decide +kernel
theorem dL_law_131 : decode cL_law 131 = .ok (.iload_n 3, 1) := by decide +kernel
theorem dL_law_132 : decode cL_law 132 = .ok (.iconst 1, 1) := by decide +kernel
theorem dL_law_133 : decode cL_law 133 = .ok (.iadd, 1) := by decide +kernel
theorem dL_law_134 : decode cL_law 134 = .ok (.iaload, 1) := by decide +kernel
theorem dL_law_135 : decode cL_law 135 = .ok (.aload_n 0, 1) := by decide +kernel
theorem dL_law_136 : decode cL_law 136 = .ok (.iload_n 3, 1) := by decide +kernel
theorem dL_law_137 : decode cL_law 137 = .ok (.iconst 2, 1) := by decide +kernel
theorem dL_law_138 : decode cL_law 138 = .ok (.iadd, 1) := by decide +kernel
theorem dL_law_139 : decode cL_law 139 = .ok (.iaload, 1) := by decide +kernel
theorem dL_law_140 : decode cL_law 140 = .ok (.aload_n 0, 1) := by decide +kernel
theorem dL_law_141 : decode cL_law 141 = .ok (.iload_n 3, 1) := by decide +kernel
theorem dL_law_142 : decode cL_law 142 = .ok (.iconst 3, 1) := by decide +kernel
theorem dL_law_143 : decode cL_law 143 = .ok (.iadd, 1) := by decide +kernel
theorem dL_law_144 : decode cL_law 144 = .ok (.iaload, 1) := by decide +kernel
theorem dL_law_145 : decode cL_law 145 = .ok (.aload_n 0, 1) := by decide +kernel
theorem dL_law_146 : decode cL_law 146 = .ok (.iload_n 3, 1) := by decide +kernel
theorem dL_law_147 : decode cL_law 147 = .ok (.iconst 4, 1) := by decide +kernel
theorem dL_law_148 : decode cL_law 148 = .ok (.iadd, 1) := by decide +kernel
theorem dL_law_149 : decode cL_law 149 = .ok (.iaload, 1) := by decide +kernel
theorem dL_law_150 : decode cL_law 150 = .ok (.aload_n 0, 1) := by decide +kernel
theorem dL_law_151 : decode cL_law 151 = .ok (.iload_n 3, 1) := by decide +kernel
theorem dL_law_152 : decode cL_law 152 = .ok (.iconst 5, 1) := by decide +kernel
theorem dL_law_153 : decode cL_law 153 = .ok (.iadd, 1) := by decide +kernel
theorem dL_law_154 : decode cL_law 154 = .ok (.iaload, 1) := by decide +kernel
theorem dL_law_155 : decode cL_law 155 = .ok (.invokevirtual 18, 3) := by decide +kernel
theorem dL_law_158 : decode cL_law 158 = .ok (.aload_n 2, 1) := by decide +kernel
theorem dL_law_159 : decode cL_law 159 = .ok (.aload_n 0, 1) := by decide +kernel
theorem dL_law_160 : decode cL_law 160 = .ok (.iload_n 3, 1) := by decide +kernel
theorem dL_law_161 : decode cL_law 161 = .ok (.iconst 1, 1) := by decide +kernel
theorem dL_law_162 : decode cL_law 162 = .ok (.iadd, 1) := by decide +kernel
theorem dL_law_163 : decode cL_law 163 = .ok (.iaload, 1) := by decide +kernel
theorem dL_law_164 : decode cL_law 164 = .ok (.aload_n 0, 1) := by decide +kernel
theorem dL_law_165 : decode cL_law 165 = .ok (.iload_n 3, 1) := by decide +kernel
theorem dL_law_166 : decode cL_law 166 = .ok (.iconst 2, 1) := by decide +kernel
theorem dL_law_167 : decode cL_law 167 = .ok (.iadd, 1) := by decide +kernel
theorem dL_law_168 : decode cL_law 168 = .ok (.iaload, 1) := by decide +kernel
theorem dL_law_169 : decode cL_law 169 = .ok (.aload_n 0, 1) := by decide +kernel
theorem dL_law_170 : decode cL_law 170 = .ok (.iload_n 3, 1) := by decide +kernel
theorem dL_law_171 : decode cL_law 171 = .ok (.iconst 3, 1) := by decide +kernel
theorem dL_law_172 : decode cL_law 172 = .ok (.iadd, 1) := by decide +kernel
theorem dL_law_173 : decode cL_law 173 = .ok (.iaload, 1) := by decide +kernel
theorem dL_law_174 : decode cL_law 174 = .ok (.aload_n 0, 1) := by decide +kernel
theorem dL_law_175 : decode cL_law 175 = .ok (.iload_n 3, 1) := by decide +kernel
theorem dL_law_176 : decode cL_law 176 = .ok (.iconst 4, 1) := by decide +kernel
theorem dL_law_177 : decode cL_law 177 = .ok (.iadd, 1) := by decide +kernel
theorem dL_law_178 : decode cL_law 178 = .ok (.iaload, 1) := by decide +kernel
theorem dL_law_179 : decode cL_law 179 = .ok (.aload_n 0, 1) := by decide +kernel
theorem dL_law_180 : decode cL_law 180 = .ok (.iload_n 3, 1) := by decide +kernel
theorem dL_law_181 : decode cL_law 181 = .ok (.iconst 5, 1) := by decide +kernel
theorem dL_law_182 : decode cL_law 182 = .ok (.iadd, 1) := by decide +kernel
theorem dL_law_183 : decode cL_law 183 = .ok (.iaload, 1) := by decide +kernel
theorem dL_law_184 : decode cL_law 184 = .ok (.invokevirtual 22, 3) := by decide +kernel
theorem dL_law_187 : decode cL_law 187 = .ok (.if_icmp .eq 462, 3) := by decide +kernel
theorem dL_law_190 : decode cL_law 190 = .ok (.iconst 0, 1) := by decide +kernel
theorem dL_law_191 : decode cL_law 191 = .ok (.ireturn, 1) := by decide +kernel
theorem dL_law_192 : decode cL_law 192 = .ok (.aload_n 1, 1) := by decide +kernel
theorem dL_law_193 : decode cL_law 193 = .ok (.aload_n 0, 1) := by decide +kernel
theorem dL_law_194 : decode cL_law 194 = .ok (.iload_n 3, 1) := by decide +kernel
theorem dL_law_195 : decode cL_law 195 = .ok (.iconst 1, 1) := by decide +kernel
theorem dL_law_196 : decode cL_law 196 = .ok (.iadd, 1) := by decide +kernel
theorem dL_law_197 : decode cL_law 197 = .ok (.iaload, 1) := by decide +kernel
theorem dL_law_198 : decode cL_law 198 = .ok (.aload_n 0, 1) := by decide +kernel
theorem dL_law_199 : decode cL_law 199 = .ok (.iload_n 3, 1) := by decide +kernel
theorem dL_law_200 : decode cL_law 200 = .ok (.iconst 2, 1) := by decide +kernel
theorem dL_law_201 : decode cL_law 201 = .ok (.iadd, 1) := by decide +kernel
theorem dL_law_202 : decode cL_law 202 = .ok (.iaload, 1) := by decide +kernel
theorem dL_law_203 : decode cL_law 203 = .ok (.aload_n 0, 1) := by decide +kernel
theorem dL_law_204 : decode cL_law 204 = .ok (.iload_n 3, 1) := by decide +kernel
theorem dL_law_205 : decode cL_law 205 = .ok (.iconst 3, 1) := by decide +kernel
theorem dL_law_206 : decode cL_law 206 = .ok (.iadd, 1) := by decide +kernel
theorem dL_law_207 : decode cL_law 207 = .ok (.iaload, 1) := by decide +kernel
theorem dL_law_208 : decode cL_law 208 = .ok (.aload_n 0, 1) := by decide +kernel
theorem dL_law_209 : decode cL_law 209 = .ok (.iload_n 3, 1) := by decide +kernel
theorem dL_law_210 : decode cL_law 210 = .ok (.iconst 4, 1) := by decide +kernel
theorem dL_law_211 : decode cL_law 211 = .ok (.iadd, 1) := by decide +kernel
theorem dL_law_212 : decode cL_law 212 = .ok (.iaload, 1) := by decide +kernel
theorem dL_law_213 : decode cL_law 213 = .ok (.aload_n 0, 1) := by decide +kernel
theorem dL_law_214 : decode cL_law 214 = .ok (.iload_n 3, 1) := by decide +kernel
theorem dL_law_215 : decode cL_law 215 = .ok (.iconst 5, 1) := by decide +kernel
theorem dL_law_216 : decode cL_law 216 = .ok (.iadd, 1) := by decide +kernel
theorem dL_law_217 : decode cL_law 217 = .ok (.iaload, 1) := by decide +kernel
theorem dL_law_218 : decode cL_law 218 = .ok (.aload_n 0, 1) := by decide +kernel
theorem dL_law_219 : decode cL_law 219 = .ok (.iload_n 3, 1) := by decide +kernel
theorem dL_law_220 : decode cL_law 220 = .ok (.bipush 6, 2) := by decide +kernel
theorem dL_law_222 : decode cL_law 222 = .ok (.iadd, 1) := by decide +kernel
theorem dL_law_223 : decode cL_law 223 = .ok (.iaload, 1) := by decide +kernel
theorem dL_law_224 : decode cL_law 224 = .ok (.invokevirtual 23, 3) := by decide +kernel
theorem dL_law_227 : decode cL_law 227 = .ok (.aload_n 2, 1) := by decide +kernel
theorem dL_law_228 : decode cL_law 228 = .ok (.aload_n 0, 1) := by decide +kernel
theorem dL_law_229 : decode cL_law 229 = .ok (.iload_n 3, 1) := by decide +kernel
theorem dL_law_230 : decode cL_law 230 = .ok (.iconst 1, 1) := by decide +kernel
theorem dL_law_231 : decode cL_law 231 = .ok (.iadd, 1) := by decide +kernel
theorem dL_law_232 : decode cL_law 232 = .ok (.iaload, 1) := by decide +kernel
theorem dL_law_233 : decode cL_law 233 = .ok (.aload_n 0, 1) := by decide +kernel
theorem dL_law_234 : decode cL_law 234 = .ok (.iload_n 3, 1) := by decide +kernel
theorem dL_law_235 : decode cL_law 235 = .ok (.iconst 2, 1) := by decide +kernel
theorem dL_law_236 : decode cL_law 236 = .ok (.iadd, 1) := by decide +kernel
theorem dL_law_237 : decode cL_law 237 = .ok (.iaload, 1) := by decide +kernel
theorem dL_law_238 : decode cL_law 238 = .ok (.aload_n 0, 1) := by decide +kernel
theorem dL_law_239 : decode cL_law 239 = .ok (.iload_n 3, 1) := by decide +kernel
theorem dL_law_240 : decode cL_law 240 = .ok (.iconst 3, 1) := by decide +kernel
theorem dL_law_241 : decode cL_law 241 = .ok (.iadd, 1) := by decide +kernel
theorem dL_law_242 : decode cL_law 242 = .ok (.iaload, 1) := by decide +kernel
theorem dL_law_243 : decode cL_law 243 = .ok (.aload_n 0, 1) := by decide +kernel
theorem dL_law_244 : decode cL_law 244 = .ok (.iload_n 3, 1) := by decide +kernel
theorem dL_law_245 : decode cL_law 245 = .ok (.iconst 4, 1) := by decide +kernel
theorem dL_law_246 : decode cL_law 246 = .ok (.iadd, 1) := by decide +kernel
theorem dL_law_247 : decode cL_law 247 = .ok (.iaload, 1) := by decide +kernel
theorem dL_law_248 : decode cL_law 248 = .ok (.aload_n 0, 1) := by decide +kernel
theorem dL_law_249 : decode cL_law 249 = .ok (.iload_n 3, 1) := by decide +kernel
theorem dL_law_250 : decode cL_law 250 = .ok (.iconst 5, 1) := by decide +kernel
theorem dL_law_251 : decode cL_law 251 = .ok (.iadd, 1) := by decide +kernel
theorem dL_law_252 : decode cL_law 252 = .ok (.iaload, 1) := by decide +kernel
theorem dL_law_253 : decode cL_law 253 = .ok (.aload_n 0, 1) := by decide +kernel
theorem dL_law_254 : decode cL_law 254 = .ok (.iload_n 3, 1) := by decide +kernel
theorem dL_law_255 : decode cL_law 255 = .ok (.bipush 6, 2) := by decide +kernel
theorem dL_law_257 : decode cL_law 257 = .ok (.iadd, 1) := by decide +kernel
theorem dL_law_258 : decode cL_law 258 = .ok (.iaload, 1) := by decide +kernel
theorem dL_law_259 : decode cL_law 259 = .ok (.invokevirtual 27, 3) := by decide +kernel
theorem dL_law_262 : decode cL_law 262 = .ok (.if_icmp .eq 387, 3) := by decide +kernel
theorem dL_law_265 : decode cL_law 265 = .ok (.iconst 0, 1) := by decide +kernel
theorem dL_law_266 : decode cL_law 266 = .ok (.ireturn, 1) := by decide +kernel
theorem dL_law_267 : decode cL_law 267 = .ok (.aload_n 1, 1) := by decide +kernel
theorem dL_law_268 : decode cL_law 268 = .ok (.aload_n 0, 1) := by decide +kernel
theorem dL_law_269 : decode cL_law 269 = .ok (.iload_n 3, 1) := by decide +kernel
theorem dL_law_270 : decode cL_law 270 = .ok (.iconst 1, 1) := by decide +kernel
theorem dL_law_271 : decode cL_law 271 = .ok (.iadd, 1) := by decide +kernel
theorem dL_law_272 : decode cL_law 272 = .ok (.iaload, 1) := by decide +kernel
theorem dL_law_273 : decode cL_law 273 = .ok (.aload_n 0, 1) := by decide +kernel
theorem dL_law_274 : decode cL_law 274 = .ok (.iload_n 3, 1) := by decide +kernel
theorem dL_law_275 : decode cL_law 275 = .ok (.iconst 2, 1) := by decide +kernel
theorem dL_law_276 : decode cL_law 276 = .ok (.iadd, 1) := by decide +kernel
theorem dL_law_277 : decode cL_law 277 = .ok (.iaload, 1) := by decide +kernel
theorem dL_law_278 : decode cL_law 278 = .ok (.aload_n 0, 1) := by decide +kernel
theorem dL_law_279 : decode cL_law 279 = .ok (.iload_n 3, 1) := by decide +kernel
theorem dL_law_280 : decode cL_law 280 = .ok (.iconst 3, 1) := by decide +kernel
theorem dL_law_281 : decode cL_law 281 = .ok (.iadd, 1) := by decide +kernel
theorem dL_law_282 : decode cL_law 282 = .ok (.iaload, 1) := by decide +kernel
theorem dL_law_283 : decode cL_law 283 = .ok (.invokevirtual 28, 3) := by decide +kernel
theorem dL_law_286 : decode cL_law 286 = .ok (.aload_n 2, 1) := by decide +kernel
theorem dL_law_287 : decode cL_law 287 = .ok (.aload_n 0, 1) := by decide +kernel
theorem dL_law_288 : decode cL_law 288 = .ok (.iload_n 3, 1) := by decide +kernel
theorem dL_law_289 : decode cL_law 289 = .ok (.iconst 1, 1) := by decide +kernel
theorem dL_law_290 : decode cL_law 290 = .ok (.iadd, 1) := by decide +kernel
theorem dL_law_291 : decode cL_law 291 = .ok (.iaload, 1) := by decide +kernel
theorem dL_law_292 : decode cL_law 292 = .ok (.aload_n 0, 1) := by decide +kernel
theorem dL_law_293 : decode cL_law 293 = .ok (.iload_n 3, 1) := by decide +kernel
theorem dL_law_294 : decode cL_law 294 = .ok (.iconst 2, 1) := by decide +kernel
theorem dL_law_295 : decode cL_law 295 = .ok (.iadd, 1) := by decide +kernel
theorem dL_law_296 : decode cL_law 296 = .ok (.iaload, 1) := by decide +kernel
theorem dL_law_297 : decode cL_law 297 = .ok (.aload_n 0, 1) := by decide +kernel
theorem dL_law_298 : decode cL_law 298 = .ok (.iload_n 3, 1) := by decide +kernel
theorem dL_law_299 : decode cL_law 299 = .ok (.iconst 3, 1) := by decide +kernel
theorem dL_law_300 : decode cL_law 300 = .ok (.iadd, 1) := by decide +kernel
theorem dL_law_301 : decode cL_law 301 = .ok (.iaload, 1) := by decide +kernel
theorem dL_law_302 : decode cL_law 302 = .ok (.invokevirtual 32, 3) := by decide +kernel
theorem dL_law_305 : decode cL_law 305 = .ok (.if_icmp .eq 344, 3) := by decide +kernel
theorem dL_law_308 : decode cL_law 308 = .ok (.iconst 0, 1) := by decide +kernel
theorem dL_law_309 : decode cL_law 309 = .ok (.ireturn, 1) := by decide +kernel
theorem dL_law_310 : decode cL_law 310 = .ok (.aload_n 1, 1) := by decide +kernel
theorem dL_law_311 : decode cL_law 311 = .ok (.aload_n 0, 1) := by decide +kernel
theorem dL_law_312 : decode cL_law 312 = .ok (.iload_n 3, 1) := by decide +kernel
theorem dL_law_313 : decode cL_law 313 = .ok (.iconst 1, 1) := by decide +kernel
theorem dL_law_314 : decode cL_law 314 = .ok (.iadd, 1) := by decide +kernel
theorem dL_law_315 : decode cL_law 315 = .ok (.iaload, 1) := by decide +kernel
theorem dL_law_316 : decode cL_law 316 = .ok (.aload_n 0, 1) := by decide +kernel
theorem dL_law_317 : decode cL_law 317 = .ok (.iload_n 3, 1) := by decide +kernel
theorem dL_law_318 : decode cL_law 318 = .ok (.iconst 2, 1) := by decide +kernel
theorem dL_law_319 : decode cL_law 319 = .ok (.iadd, 1) := by decide +kernel
theorem dL_law_320 : decode cL_law 320 = .ok (.iaload, 1) := by decide +kernel
theorem dL_law_321 : decode cL_law 321 = .ok (.invokevirtual 33, 3) := by decide +kernel
theorem dL_law_324 : decode cL_law 324 = .ok (.aload_n 2, 1) := by decide +kernel
theorem dL_law_325 : decode cL_law 325 = .ok (.aload_n 0, 1) := by decide +kernel
theorem dL_law_326 : decode cL_law 326 = .ok (.iload_n 3, 1) := by decide +kernel
theorem dL_law_327 : decode cL_law 327 = .ok (.iconst 1, 1) := by decide +kernel
theorem dL_law_328 : decode cL_law 328 = .ok (.iadd, 1) := by decide +kernel
theorem dL_law_329 : decode cL_law 329 = .ok (.iaload, 1) := by decide +kernel
theorem dL_law_330 : decode cL_law 330 = .ok (.aload_n 0, 1) := by decide +kernel
theorem dL_law_331 : decode cL_law 331 = .ok (.iload_n 3, 1) := by decide +kernel
theorem dL_law_332 : decode cL_law 332 = .ok (.iconst 2, 1) := by decide +kernel
theorem dL_law_333 : decode cL_law 333 = .ok (.iadd, 1) := by decide +kernel
theorem dL_law_334 : decode cL_law 334 = .ok (.iaload, 1) := by decide +kernel
theorem dL_law_335 : decode cL_law 335 = .ok (.invokevirtual 37, 3) := by decide +kernel
theorem dL_law_338 : decode cL_law 338 = .ok (.if_icmp .eq 311, 3) := by decide +kernel
theorem dL_law_341 : decode cL_law 341 = .ok (.iconst 0, 1) := by decide +kernel
theorem dL_law_342 : decode cL_law 342 = .ok (.ireturn, 1) := by decide +kernel
theorem dL_law_343 : decode cL_law 343 = .ok (.aload_n 1, 1) := by decide +kernel
theorem dL_law_344 : decode cL_law 344 = .ok (.aload_n 0, 1) := by decide +kernel
theorem dL_law_345 : decode cL_law 345 = .ok (.iload_n 3, 1) := by decide +kernel
theorem dL_law_346 : decode cL_law 346 = .ok (.iconst 1, 1) := by decide +kernel
theorem dL_law_347 : decode cL_law 347 = .ok (.iadd, 1) := by decide +kernel
theorem dL_law_348 : decode cL_law 348 = .ok (.iaload, 1) := by decide +kernel
theorem dL_law_349 : decode cL_law 349 = .ok (.aload_n 0, 1) := by decide +kernel
theorem dL_law_350 : decode cL_law 350 = .ok (.iload_n 3, 1) := by decide +kernel
theorem dL_law_351 : decode cL_law 351 = .ok (.iconst 2, 1) := by decide +kernel
theorem dL_law_352 : decode cL_law 352 = .ok (.iadd, 1) := by decide +kernel
theorem dL_law_353 : decode cL_law 353 = .ok (.iaload, 1) := by decide +kernel
theorem dL_law_354 : decode cL_law 354 = .ok (.aload_n 0, 1) := by decide +kernel
theorem dL_law_355 : decode cL_law 355 = .ok (.iload_n 3, 1) := by decide +kernel
theorem dL_law_356 : decode cL_law 356 = .ok (.iconst 3, 1) := by decide +kernel
theorem dL_law_357 : decode cL_law 357 = .ok (.iadd, 1) := by decide +kernel
theorem dL_law_358 : decode cL_law 358 = .ok (.iaload, 1) := by decide +kernel
theorem dL_law_359 : decode cL_law 359 = .ok (.invokevirtual 38, 3) := by decide +kernel
theorem dL_law_362 : decode cL_law 362 = .ok (.aload_n 2, 1) := by decide +kernel
theorem dL_law_363 : decode cL_law 363 = .ok (.aload_n 0, 1) := by decide +kernel
theorem dL_law_364 : decode cL_law 364 = .ok (.iload_n 3, 1) := by decide +kernel
theorem dL_law_365 : decode cL_law 365 = .ok (.iconst 1, 1) := by decide +kernel
theorem dL_law_366 : decode cL_law 366 = .ok (.iadd, 1) := by decide +kernel
theorem dL_law_367 : decode cL_law 367 = .ok (.iaload, 1) := by decide +kernel
theorem dL_law_368 : decode cL_law 368 = .ok (.aload_n 0, 1) := by decide +kernel
theorem dL_law_369 : decode cL_law 369 = .ok (.iload_n 3, 1) := by decide +kernel
theorem dL_law_370 : decode cL_law 370 = .ok (.iconst 2, 1) := by decide +kernel
theorem dL_law_371 : decode cL_law 371 = .ok (.iadd, 1) := by decide +kernel
theorem dL_law_372 : decode cL_law 372 = .ok (.iaload, 1) := by decide +kernel
theorem dL_law_373 : decode cL_law 373 = .ok (.aload_n 0, 1) := by decide +kernel
theorem dL_law_374 : decode cL_law 374 = .ok (.iload_n 3, 1) := by decide +kernel
theorem dL_law_375 : decode cL_law 375 = .ok (.iconst 3, 1) := by decide +kernel
theorem dL_law_376 : decode cL_law 376 = .ok (.iadd, 1) := by decide +kernel
theorem dL_law_377 : decode cL_law 377 = .ok (.iaload, 1) := by decide +kernel
theorem dL_law_378 : decode cL_law 378 = .ok (.invokevirtual 41, 3) := by decide +kernel
theorem dL_law_381 : decode cL_law 381 = .ok (.if_icmp .eq 268, 3) := by decide +kernel
theorem dL_law_384 : decode cL_law 384 = .ok (.iconst 0, 1) := by decide +kernel
theorem dL_law_385 : decode cL_law 385 = .ok (.ireturn, 1) := by decide +kernel
theorem dL_law_386 : decode cL_law 386 = .ok (.aload_n 1, 1) := by decide +kernel
theorem dL_law_387 : decode cL_law 387 = .ok (.aload_n 0, 1) := by decide +kernel
theorem dL_law_388 : decode cL_law 388 = .ok (.iload_n 3, 1) := by decide +kernel
theorem dL_law_389 : decode cL_law 389 = .ok (.iconst 1, 1) := by decide +kernel
theorem dL_law_390 : decode cL_law 390 = .ok (.iadd, 1) := by decide +kernel
theorem dL_law_391 : decode cL_law 391 = .ok (.iaload, 1) := by decide +kernel
theorem dL_law_392 : decode cL_law 392 = .ok (.aload_n 0, 1) := by decide +kernel
theorem dL_law_393 : decode cL_law 393 = .ok (.iload_n 3, 1) := by decide +kernel
theorem dL_law_394 : decode cL_law 394 = .ok (.iconst 2, 1) := by decide +kernel
theorem dL_law_395 : decode cL_law 395 = .ok (.iadd, 1) := by decide +kernel
theorem dL_law_396 : decode cL_law 396 = .ok (.iaload, 1) := by decide +kernel
theorem dL_law_397 : decode cL_law 397 = .ok (.invokevirtual 42, 3) := by decide +kernel
theorem dL_law_400 : decode cL_law 400 = .ok (.aload_n 2, 1) := by decide +kernel
theorem dL_law_401 : decode cL_law 401 = .ok (.aload_n 0, 1) := by decide +kernel
theorem dL_law_402 : decode cL_law 402 = .ok (.iload_n 3, 1) := by decide +kernel
theorem dL_law_403 : decode cL_law 403 = .ok (.iconst 1, 1) := by decide +kernel
theorem dL_law_404 : decode cL_law 404 = .ok (.iadd, 1) := by decide +kernel
theorem dL_law_405 : decode cL_law 405 = .ok (.iaload, 1) := by decide +kernel
theorem dL_law_406 : decode cL_law 406 = .ok (.aload_n 0, 1) := by decide +kernel
theorem dL_law_407 : decode cL_law 407 = .ok (.iload_n 3, 1) := by decide +kernel
theorem dL_law_408 : decode cL_law 408 = .ok (.iconst 2, 1) := by decide +kernel
theorem dL_law_409 : decode cL_law 409 = .ok (.iadd, 1) := by decide +kernel
theorem dL_law_410 : decode cL_law 410 = .ok (.iaload, 1) := by decide +kernel
theorem dL_law_411 : decode cL_law 411 = .ok (.invokevirtual 45, 3) := by decide +kernel
theorem dL_law_414 : decode cL_law 414 = .ok (.if_icmp .eq 235, 3) := by decide +kernel
theorem dL_law_417 : decode cL_law 417 = .ok (.iconst 0, 1) := by decide +kernel
theorem dL_law_418 : decode cL_law 418 = .ok (.ireturn, 1) := by decide +kernel
theorem dL_law_419 : decode cL_law 419 = .ok (.aload_n 1, 1) := by decide +kernel
theorem dL_law_420 : decode cL_law 420 = .ok (.aload_n 0, 1) := by decide +kernel
theorem dL_law_421 : decode cL_law 421 = .ok (.iload_n 3, 1) := by decide +kernel
theorem dL_law_422 : decode cL_law 422 = .ok (.iconst 1, 1) := by decide +kernel
theorem dL_law_423 : decode cL_law 423 = .ok (.iadd, 1) := by decide +kernel
theorem dL_law_424 : decode cL_law 424 = .ok (.iaload, 1) := by decide +kernel
theorem dL_law_425 : decode cL_law 425 = .ok (.invokevirtual 46, 3) := by decide +kernel
theorem dL_law_428 : decode cL_law 428 = .ok (.aload_n 2, 1) := by decide +kernel
theorem dL_law_429 : decode cL_law 429 = .ok (.aload_n 0, 1) := by decide +kernel
theorem dL_law_430 : decode cL_law 430 = .ok (.iload_n 3, 1) := by decide +kernel
theorem dL_law_431 : decode cL_law 431 = .ok (.iconst 1, 1) := by decide +kernel
theorem dL_law_432 : decode cL_law 432 = .ok (.iadd, 1) := by decide +kernel
theorem dL_law_433 : decode cL_law 433 = .ok (.iaload, 1) := by decide +kernel
theorem dL_law_434 : decode cL_law 434 = .ok (.invokevirtual 50, 3) := by decide +kernel
theorem dL_law_437 : decode cL_law 437 = .ok (.if_icmp .eq 212, 3) := by decide +kernel
theorem dL_law_440 : decode cL_law 440 = .ok (.iconst 0, 1) := by decide +kernel
theorem dL_law_441 : decode cL_law 441 = .ok (.ireturn, 1) := by decide +kernel
theorem dL_law_442 : decode cL_law 442 = .ok (.aload_n 1, 1) := by decide +kernel
theorem dL_law_443 : decode cL_law 443 = .ok (.aload_n 0, 1) := by decide +kernel
theorem dL_law_444 : decode cL_law 444 = .ok (.iload_n 3, 1) := by decide +kernel
theorem dL_law_445 : decode cL_law 445 = .ok (.iconst 1, 1) := by decide +kernel
theorem dL_law_446 : decode cL_law 446 = .ok (.iadd, 1) := by decide +kernel
theorem dL_law_447 : decode cL_law 447 = .ok (.iaload, 1) := by decide +kernel
theorem dL_law_448 : decode cL_law 448 = .ok (.invokevirtual 51, 3) := by decide +kernel
theorem dL_law_451 : decode cL_law 451 = .ok (.aload_n 2, 1) := by decide +kernel
theorem dL_law_452 : decode cL_law 452 = .ok (.aload_n 0, 1) := by decide +kernel
theorem dL_law_453 : decode cL_law 453 = .ok (.iload_n 3, 1) := by decide +kernel
theorem dL_law_454 : decode cL_law 454 = .ok (.iconst 1, 1) := by decide +kernel
theorem dL_law_455 : decode cL_law 455 = .ok (.iadd, 1) := by decide +kernel
theorem dL_law_456 : decode cL_law 456 = .ok (.iaload, 1) := by decide +kernel
theorem dL_law_457 : decode cL_law 457 = .ok (.invokevirtual 54, 3) := by decide +kernel
theorem dL_law_460 : decode cL_law 460 = .ok (.if_icmp .eq 189, 3) := by decide +kernel
theorem dL_law_463 : decode cL_law 463 = .ok (.iconst 0, 1) := by decide +kernel
theorem dL_law_464 : decode cL_law 464 = .ok (.ireturn, 1) := by decide +kernel
theorem dL_law_465 : decode cL_law 465 = .ok (.aload_n 1, 1) := by decide +kernel
theorem dL_law_466 : decode cL_law 466 = .ok (.invokevirtual 55, 3) := by decide +kernel
theorem dL_law_469 : decode cL_law 469 = .ok (.aload_n 2, 1) := by decide +kernel
theorem dL_law_470 : decode cL_law 470 = .ok (.invokevirtual 58, 3) := by decide +kernel
theorem dL_law_473 : decode cL_law 473 = .ok (.if_icmp .eq 176, 3) := by decide +kernel
theorem dL_law_476 : decode cL_law 476 = .ok (.iconst 0, 1) := by decide +kernel
theorem dL_law_477 : decode cL_law 477 = .ok (.ireturn, 1) := by decide +kernel
theorem dL_law_478 : decode cL_law 478 = .ok (.aload_n 1, 1) := by decide +kernel
theorem dL_law_479 : decode cL_law 479 = .ok (.invokevirtual 59, 3) := by decide +kernel
theorem dL_law_482 : decode cL_law 482 = .ok (.aload_n 2, 1) := by decide +kernel
theorem dL_law_483 : decode cL_law 483 = .ok (.invokevirtual 62, 3) := by decide +kernel
theorem dL_law_486 : decode cL_law 486 = .ok (.if_icmp .eq 163, 3) := by decide +kernel
theorem dL_law_489 : decode cL_law 489 = .ok (.iconst 0, 1) := by decide +kernel
theorem dL_law_490 : decode cL_law 490 = .ok (.ireturn, 1) := by decide +kernel
theorem dL_law_491 : decode cL_law 491 = .ok (.aload_n 1, 1) := by decide +kernel
theorem dL_law_492 : decode cL_law 492 = .ok (.invokevirtual 63, 3) := by decide +kernel
theorem dL_law_495 : decode cL_law 495 = .ok (.aload_n 2, 1) := by decide +kernel
theorem dL_law_496 : decode cL_law 496 = .ok (.invokevirtual 66, 3) := by decide +kernel
theorem dL_law_499 : decode cL_law 499 = .ok (.if_icmp .eq 150, 3) := by decide +kernel
theorem dL_law_502 : decode cL_law 502 = .ok (.iconst 0, 1) := by decide +kernel
theorem dL_law_503 : decode cL_law 503 = .ok (.ireturn, 1) := by decide +kernel
theorem dL_law_504 : decode cL_law 504 = .ok (.aload_n 1, 1) := by decide +kernel
theorem dL_law_505 : decode cL_law 505 = .ok (.aload_n 0, 1) := by decide +kernel
theorem dL_law_506 : decode cL_law 506 = .ok (.iload_n 3, 1) := by decide +kernel
theorem dL_law_507 : decode cL_law 507 = .ok (.iconst 1, 1) := by decide +kernel
theorem dL_law_508 : decode cL_law 508 = .ok (.iadd, 1) := by decide +kernel
theorem dL_law_509 : decode cL_law 509 = .ok (.iaload, 1) := by decide +kernel
theorem dL_law_510 : decode cL_law 510 = .ok (.aload_n 0, 1) := by decide +kernel
theorem dL_law_511 : decode cL_law 511 = .ok (.iload_n 3, 1) := by decide +kernel
theorem dL_law_512 : decode cL_law 512 = .ok (.iconst 2, 1) := by decide +kernel
theorem dL_law_513 : decode cL_law 513 = .ok (.iadd, 1) := by decide +kernel
theorem dL_law_514 : decode cL_law 514 = .ok (.iaload, 1) := by decide +kernel
theorem dL_law_515 : decode cL_law 515 = .ok (.invokevirtual 67, 3) := by decide +kernel
theorem dL_law_518 : decode cL_law 518 = .ok (.aload_n 2, 1) := by decide +kernel
theorem dL_law_519 : decode cL_law 519 = .ok (.aload_n 0, 1) := by decide +kernel
theorem dL_law_520 : decode cL_law 520 = .ok (.iload_n 3, 1) := by decide +kernel
theorem dL_law_521 : decode cL_law 521 = .ok (.iconst 1, 1) := by decide +kernel
theorem dL_law_522 : decode cL_law 522 = .ok (.iadd, 1) := by decide +kernel
theorem dL_law_523 : decode cL_law 523 = .ok (.iaload, 1) := by decide +kernel
theorem dL_law_524 : decode cL_law 524 = .ok (.aload_n 0, 1) := by decide +kernel
theorem dL_law_525 : decode cL_law 525 = .ok (.iload_n 3, 1) := by decide +kernel
theorem dL_law_526 : decode cL_law 526 = .ok (.iconst 2, 1) := by decide +kernel
theorem dL_law_527 : decode cL_law 527 = .ok (.iadd, 1) := by decide +kernel
theorem dL_law_528 : decode cL_law 528 = .ok (.iaload, 1) := by decide +kernel
theorem dL_law_529 : decode cL_law 529 = .ok (.invokevirtual 70, 3) := by decide +kernel
theorem dL_law_532 : decode cL_law 532 = .ok (.if_icmp .eq 117, 3) := by decide +kernel
theorem dL_law_535 : decode cL_law 535 = .ok (.iconst 0, 1) := by decide +kernel
theorem dL_law_536 : decode cL_law 536 = .ok (.ireturn, 1) := by decide +kernel
theorem dL_law_537 : decode cL_law 537 = .ok (.aload_n 1, 1) := by decide +kernel
theorem dL_law_538 : decode cL_law 538 = .ok (.aload_n 0, 1) := by decide +kernel
theorem dL_law_539 : decode cL_law 539 = .ok (.iload_n 3, 1) := by decide +kernel
theorem dL_law_540 : decode cL_law 540 = .ok (.iconst 1, 1) := by decide +kernel
theorem dL_law_541 : decode cL_law 541 = .ok (.iadd, 1) := by decide +kernel
theorem dL_law_542 : decode cL_law 542 = .ok (.iaload, 1) := by decide +kernel
theorem dL_law_543 : decode cL_law 543 = .ok (.aload_n 0, 1) := by decide +kernel
theorem dL_law_544 : decode cL_law 544 = .ok (.iload_n 3, 1) := by decide +kernel
theorem dL_law_545 : decode cL_law 545 = .ok (.iconst 2, 1) := by decide +kernel
theorem dL_law_546 : decode cL_law 546 = .ok (.iadd, 1) := by decide +kernel
theorem dL_law_547 : decode cL_law 547 = .ok (.iaload, 1) := by decide +kernel
theorem dL_law_548 : decode cL_law 548 = .ok (.invokevirtual 71, 3) := by decide +kernel
theorem dL_law_551 : decode cL_law 551 = .ok (.aload_n 2, 1) := by decide +kernel
theorem dL_law_552 : decode cL_law 552 = .ok (.aload_n 0, 1) := by decide +kernel
theorem dL_law_553 : decode cL_law 553 = .ok (.iload_n 3, 1) := by decide +kernel
theorem dL_law_554 : decode cL_law 554 = .ok (.iconst 1, 1) := by decide +kernel
theorem dL_law_555 : decode cL_law 555 = .ok (.iadd, 1) := by decide +kernel
theorem dL_law_556 : decode cL_law 556 = .ok (.iaload, 1) := by decide +kernel
theorem dL_law_557 : decode cL_law 557 = .ok (.aload_n 0, 1) := by decide +kernel
theorem dL_law_558 : decode cL_law 558 = .ok (.iload_n 3, 1) := by decide +kernel
theorem dL_law_559 : decode cL_law 559 = .ok (.iconst 2, 1) := by decide +kernel
theorem dL_law_560 : decode cL_law 560 = .ok (.iadd, 1) := by decide +kernel
theorem dL_law_561 : decode cL_law 561 = .ok (.iaload, 1) := by decide +kernel
theorem dL_law_562 : decode cL_law 562 = .ok (.invokevirtual 74, 3) := by decide +kernel
theorem dL_law_565 : decode cL_law 565 = .ok (.if_icmp .eq 84, 3) := by decide +kernel
theorem dL_law_568 : decode cL_law 568 = .ok (.iconst 0, 1) := by decide +kernel
theorem dL_law_569 : decode cL_law 569 = .ok (.ireturn, 1) := by decide +kernel
theorem dL_law_570 : decode cL_law 570 = .ok (.aload_n 1, 1) := by decide +kernel
theorem dL_law_571 : decode cL_law 571 = .ok (.aload_n 0, 1) := by decide +kernel
theorem dL_law_572 : decode cL_law 572 = .ok (.iload_n 3, 1) := by decide +kernel
theorem dL_law_573 : decode cL_law 573 = .ok (.iconst 1, 1) := by decide +kernel
theorem dL_law_574 : decode cL_law 574 = .ok (.iadd, 1) := by decide +kernel
theorem dL_law_575 : decode cL_law 575 = .ok (.iaload, 1) := by decide +kernel
theorem dL_law_576 : decode cL_law 576 = .ok (.aload_n 0, 1) := by decide +kernel
theorem dL_law_577 : decode cL_law 577 = .ok (.iload_n 3, 1) := by decide +kernel
theorem dL_law_578 : decode cL_law 578 = .ok (.iconst 2, 1) := by decide +kernel
theorem dL_law_579 : decode cL_law 579 = .ok (.iadd, 1) := by decide +kernel
theorem dL_law_580 : decode cL_law 580 = .ok (.iaload, 1) := by decide +kernel
theorem dL_law_581 : decode cL_law 581 = .ok (.invokevirtual 75, 3) := by decide +kernel
theorem dL_law_584 : decode cL_law 584 = .ok (.aload_n 2, 1) := by decide +kernel
theorem dL_law_585 : decode cL_law 585 = .ok (.aload_n 0, 1) := by decide +kernel
theorem dL_law_586 : decode cL_law 586 = .ok (.iload_n 3, 1) := by decide +kernel
theorem dL_law_587 : decode cL_law 587 = .ok (.iconst 1, 1) := by decide +kernel
theorem dL_law_588 : decode cL_law 588 = .ok (.iadd, 1) := by decide +kernel
theorem dL_law_589 : decode cL_law 589 = .ok (.iaload, 1) := by decide +kernel
theorem dL_law_590 : decode cL_law 590 = .ok (.aload_n 0, 1) := by decide +kernel
theorem dL_law_591 : decode cL_law 591 = .ok (.iload_n 3, 1) := by decide +kernel
theorem dL_law_592 : decode cL_law 592 = .ok (.iconst 2, 1) := by decide +kernel
theorem dL_law_593 : decode cL_law 593 = .ok (.iadd, 1) := by decide +kernel
theorem dL_law_594 : decode cL_law 594 = .ok (.iaload, 1) := by decide +kernel
theorem dL_law_595 : decode cL_law 595 = .ok (.invokevirtual 78, 3) := by decide +kernel
theorem dL_law_598 : decode cL_law 598 = .ok (.if_icmp .eq 51, 3) := by decide +kernel
theorem dL_law_601 : decode cL_law 601 = .ok (.iconst 0, 1) := by decide +kernel
theorem dL_law_602 : decode cL_law 602 = .ok (.ireturn, 1) := by decide +kernel
theorem dL_law_603 : decode cL_law 603 = .ok (.aload_n 1, 1) := by decide +kernel
theorem dL_law_604 : decode cL_law 604 = .ok (.aload_n 0, 1) := by decide +kernel
theorem dL_law_605 : decode cL_law 605 = .ok (.iload_n 3, 1) := by decide +kernel
theorem dL_law_606 : decode cL_law 606 = .ok (.iconst 1, 1) := by decide +kernel
theorem dL_law_607 : decode cL_law 607 = .ok (.iadd, 1) := by decide +kernel
theorem dL_law_608 : decode cL_law 608 = .ok (.iaload, 1) := by decide +kernel
theorem dL_law_609 : decode cL_law 609 = .ok (.invokevirtual 79, 3) := by decide +kernel
theorem dL_law_612 : decode cL_law 612 = .ok (.aload_n 2, 1) := by decide +kernel
theorem dL_law_613 : decode cL_law 613 = .ok (.aload_n 0, 1) := by decide +kernel
theorem dL_law_614 : decode cL_law 614 = .ok (.iload_n 3, 1) := by decide +kernel
theorem dL_law_615 : decode cL_law 615 = .ok (.iconst 1, 1) := by decide +kernel
theorem dL_law_616 : decode cL_law 616 = .ok (.iadd, 1) := by decide +kernel
theorem dL_law_617 : decode cL_law 617 = .ok (.iaload, 1) := by decide +kernel
theorem dL_law_618 : decode cL_law 618 = .ok (.invokevirtual 82, 3) := by decide +kernel
theorem dL_law_621 : decode cL_law 621 = .ok (.if_icmp .eq 28, 3) := by decide +kernel
theorem dL_law_624 : decode cL_law 624 = .ok (.iconst 0, 1) := by decide +kernel
theorem dL_law_625 : decode cL_law 625 = .ok (.ireturn, 1) := by decide +kernel
theorem dL_law_626 : decode cL_law 626 = .ok (.aload_n 1, 1) := by decide +kernel
theorem dL_law_627 : decode cL_law 627 = .ok (.aload_n 0, 1) := by decide +kernel
theorem dL_law_628 : decode cL_law 628 = .ok (.iload_n 3, 1) := by decide +kernel
theorem dL_law_629 : decode cL_law 629 = .ok (.iconst 1, 1) := by decide +kernel
theorem dL_law_630 : decode cL_law 630 = .ok (.iadd, 1) := by decide +kernel
theorem dL_law_631 : decode cL_law 631 = .ok (.iaload, 1) := by decide +kernel
theorem dL_law_632 : decode cL_law 632 = .ok (.invokevirtual 83, 3) := by decide +kernel
theorem dL_law_635 : decode cL_law 635 = .ok (.aload_n 2, 1) := by decide +kernel
theorem dL_law_636 : decode cL_law 636 = .ok (.aload_n 0, 1) := by decide +kernel
theorem dL_law_637 : decode cL_law 637 = .ok (.iload_n 3, 1) := by decide +kernel
theorem dL_law_638 : decode cL_law 638 = .ok (.iconst 1, 1) := by decide +kernel
theorem dL_law_639 : decode cL_law 639 = .ok (.iadd, 1) := by decide +kernel
theorem dL_law_640 : decode cL_law 640 = .ok (.iaload, 1) := by decide +kernel
theorem dL_law_641 : decode cL_law 641 = .ok (.invokevirtual 86, 3) := by decide +kernel
theorem dL_law_644 : decode cL_law 644 = .ok (.if_icmp .eq 5, 3) := by decide +kernel
theorem dL_law_647 : decode cL_law 647 = .ok (.iconst 0, 1) := by decide +kernel
theorem dL_law_648 : decode cL_law 648 = .ok (.ireturn, 1) := by decide +kernel
theorem dL_law_649 : decode cL_law 649 = .ok (.iinc 3 7, 3) := by decide +kernel
theorem dL_law_652 : decode cL_law 652 = .ok (.goto (-634), 3) := by decide +kernel
theorem dL_law_655 : decode cL_law 655 = .ok (.iconst 1, 1) := by decide +kernel
theorem dL_law_656 : decode cL_law 656 = .ok (.ireturn, 1) := by decide +kernel
end
section
/-! The base: one list of words for all methods, one form of contract, rows that carry the pure function's equation along. -/
def x_TB : List Cond := lw_tbl.filter goodWord
abbrev x_W (y : MethodName) (cc : ByteArray) (n : Nat) (ret : Option FieldType) : List Cond := Cond.code y cc n ret :: x_TB
theorem x_in {w : Cond} (i : Nat) (h : tables_1[i]? = some w) (hg : goodWord w = true) : w ∈ x_TB := List.mem_filter.mpr ⟨List.mem_append_right _ (List.mem_of_getElem? h), hg⟩
theorem x_inp {w : Cond} (i : Nat) (h : (k2_sels lw_privs)[i]? = some w) (hg : goodWord w = true) : w ∈ x_TB := List.mem_filter.mpr ⟨List.mem_append_left _ (List.mem_of_getElem? h), hg⟩
theorem x_gd {y : MethodName} {cc : ByteArray} {n : Nat} {ret : Option FieldType} (h : Cond.code y cc n ret ∈ x_TB) : GoodIn x_TB (x_W y cc n ret) := by
  intro w hw
  have hm : w ∈ x_TB := by
    rcases List.mem_cons.mp hw with rfl | h1
    · exact h
    · exact h1
  exact ⟨hm, good_of_word (List.mem_filter.mp hm).2⟩
/-- the array classes -/
abbrev x_E : Type := va_G × ClassId × ClassId × ClassId
abbrev x_ty (E : x_E) : List (ClassId × FieldType) := [(E.2.1, .int), (E.2.2.1, .boolean), (E.2.2.2, .object "StoryDecompile$Routine")]
/-- links to a nest mate's members that nobody else may use -/
def x_nl : List (String × Nat × MethodName) := [("StoryDecompile", 21, yX1_init), ("StoryDecompile$Reader", 11, yX4_init), ("StoryDecompile", 31, yX0_init), ("StoryDecompile", 45, yX5_init), ("StoryDecompile$Writer", 11, yX2_init), ("StoryDecompile", 58, yX3_init), ("StoryDecompile", 63, yX2_init), ("StoryDecompile$Routine", 32, yX6_usesA), ("StoryDecompile$Routine", 36, yX6_usesB), ("StoryDecompile$Routine", 39, yX6_isJump), ("StoryDecompile$Reach", 37, yX6_isJump), ("StoryDecompile$Writer", 105, yX6_isJump), ("StoryDecompile$Writer", 119, yX6_mayHaveA), ("StoryDecompile$Writer", 123, yX6_mayHaveB)]
def x_N (U : State) : Prop := ∀ q ∈ x_nl, va_Nw (.methodLinkNest q.1 q.2.1 q.2.2 "StoryDecompile") U
theorem x_N.warm {s U : State} (hW : s.WarmedH U.vm) (h : x_N s) : x_N U := fun q hq => va_Nw.warmM hW (h q hq)
/-- a method's start and end: the world, and nothing else, may change -/
def x_B (E : x_E) (w : va_W) (sz : Nat) (U : State) : Prop := U.heap.size = sz ∧ va_P E.1 vwCl w U.heap ∧ va_K E.1 vwCl (x_ty E) U ∧ x_N U ∧ va_D (fun _ => True) w
def x_Q (E : x_E) (w w' : va_W) (rv : Option Value) (sz : Nat) : Array Value → State → Outcome → State → Prop := fun _ st oc t => oc = .returned rv ∧ va_P E.1 vwCl w' t.heap ∧ va_D (va_A w sz) w' ∧ va_F (va_A w sz) st t
def x_M (l : Launch) (y : MethodName) (cc : ByteArray) (n : Nat) (ret : Option FieldType) (fr lo : Nat) (E : x_E) (av : List Value) (w w' : va_W) (rv : Option Value) : Prop :=
  ∀ sz : Nat, Met l y (x_W y cc n ret) { frames := fr, cells := 0, slots := 0, locals := lo } (va_Pc av (x_B E w sz)) (x_Q E w w' rv sz) 0 0 (va_A w sz)
def x_I (E : x_E) (A : Nat → Prop) (H0 : Heap) (w : va_W) (H : Heap) (locs : List Loc) : Prop := va_P E.1 vwCl w H ∧ va_D A w ∧ va_S A H0 H locs
def x_C (p : Program) (s : State) (m : MethodId) (args : Array Value) (meth : Method) (c : Code) (cc : ByteArray) (nL : Nat) (own : String) (E : x_E) (A : Nat → Prop) : Prop :=
  p.tables.exec = Jvm.exec ∧ c.code = cc ∧ c.maxLocals = nL ∧ s.vm.findClass own = some m.cls ∧ (∀ w ∈ x_TB, w.before args s = true) ∧ va_K E.1 vwCl (x_ty E) s ∧ x_N s ∧ (∀ q, s.heap.size ≤ q → A q)
theorem x_blind (E : x_E) (w : va_W) (sz : Nat) (av : List Value) : FrameBlind (va_Pc av (x_B E w sz)) := fun a U g mk q => by
  obtain ⟨q0, q1, qP, qK, qN, qD⟩ := q
  exact ⟨q0, q1, qP, va_K.moved (u := U) (U := U.calling g mk a) (Vm.Alike.refl U.vm) qK, fun z hz => va_Nw.same (u := U) (U := U.calling g mk a) rfl rfl (qN z hz), qD⟩
/-! pure words -/
def x_let {α ρ : Type} (a : α) (k : α → Option ρ) : Option ρ := k a
def x_g {ρ : Type} (c : Prop) [Decidable c] (k : Option ρ) : Option ρ := if c then k else none
def x_loop {σ ρ : Type} (body : (σ → Option ρ) → σ → Option ρ) : Nat → σ → Option ρ
  | 0, _ => none
  | k + 1, z => body (x_loop body k) z
theorem x_g_eq {ρ : Type} {c : Prop} [Decidable c] {k : Option ρ} {r : ρ} (h : x_g c k = some r) : c ∧ k = some r := by
  unfold x_g at h
  by_cases hc : c
  · rw [if_pos hc] at h
    exact ⟨hc, h⟩
  · rw [if_neg hc] at h
    cases h
theorem x_loop_ind {σ ρ : Type} {body : (σ → Option ρ) → σ → Option ρ} {r : ρ} {P : σ → Prop} (h : ∀ (rec : σ → Option ρ), (∀ z, rec z = some r → P z) → ∀ z, body rec z = some r → P z) : ∀ (k : Nat) (z : σ), x_loop body k z = some r → P z := by
  intro k
  induction k with
  | zero => intro z hz; cases hz
  | succ k ih => intro z hz; exact h _ ih z hz
section XR
variable {p : Program} {l : Launch} {e : Env} {R : Room} {s : State} {m : MethodId} {args : Array Value} {below : List Frame} {meth : Method} {c : Code} {H : Heap} {locs : List Loc} {cells slots : Nat} {Q : State → Prop}
variable {cc : ByteArray} {nL pc : Nat} {own : String} {E : x_E} {A : Nat → Prop} {ls : Array Slot} {rest : List Value} {w w' : va_W} {a : Nat} {ρ : Type} {r : ρ}
/-! branches that take the pure function's branch along -/
theorem x_eq0 (hC : x_C p s m args meth c cc nL own E A) {x : Int32} {off : Int} (tgt : Nat) {F G : Option ρ} (hf : (if x = 0 then F else G) = some r) (hdg : decode cc pc = .ok (.ifCond .eq off, 3)) (ht : (pc : Int) + off = (tgt : Int)) (kt : F = some r → W p l e R s m args below meth c H locs cells slots Q (F0 m tgt ls rest)) (kf : G = some r → W p l e R s m args below meth c H locs cells slots Q (F0 m (pc + 3) ls rest)) : W p l e R s m args below meth c H locs cells slots Q (F0 m pc ls (.int x :: rest)) :=
  lv_if_eq hC.1 hC.2.1 hdg ht (fun h => kt (by rw [if_pos h] at hf; exact hf)) (fun h => kf (by rw [if_neg h] at hf; exact hf))
theorem x_ne0 (hC : x_C p s m args meth c cc nL own E A) {x : Int32} {off : Int} (tgt : Nat) {F G : Option ρ} (hf : (if x = 0 then G else F) = some r) (hdg : decode cc pc = .ok (.ifCond .ne off, 3)) (ht : (pc : Int) + off = (tgt : Int)) (kt : F = some r → W p l e R s m args below meth c H locs cells slots Q (F0 m tgt ls rest)) (kf : G = some r → W p l e R s m args below meth c H locs cells slots Q (F0 m (pc + 3) ls rest)) : W p l e R s m args below meth c H locs cells slots Q (F0 m pc ls (.int x :: rest)) :=
  lv_if_ne hC.1 hC.2.1 hdg ht (fun h => kt (by rw [if_neg h] at hf; exact hf)) (fun h => kf (by rw [if_pos h] at hf; exact hf))
theorem x_lt0 (hC : x_C p s m args meth c cc nL own E A) {x : Int32} {off : Int} (tgt : Nat) {F G : Option ρ} (hf : (if x < 0 then F else G) = some r) (hdg : decode cc pc = .ok (.ifCond .lt off, 3)) (ht : (pc : Int) + off = (tgt : Int)) (kt : F = some r → W p l e R s m args below meth c H locs cells slots Q (F0 m tgt ls rest)) (kf : G = some r → W p l e R s m args below meth c H locs cells slots Q (F0 m (pc + 3) ls rest)) : W p l e R s m args below meth c H locs cells slots Q (F0 m pc ls (.int x :: rest)) :=
  lv_if_lt hC.1 hC.2.1 hdg ht (fun h => kt (by rw [if_pos h] at hf; exact hf)) (fun h => kf (by rw [if_neg h] at hf; exact hf))
theorem x_ge0 (hC : x_C p s m args meth c cc nL own E A) {x : Int32} {off : Int} (tgt : Nat) {F G : Option ρ} (hf : (if 0 ≤ x then F else G) = some r) (hdg : decode cc pc = .ok (.ifCond .ge off, 3)) (ht : (pc : Int) + off = (tgt : Int)) (kt : F = some r → W p l e R s m args below meth c H locs cells slots Q (F0 m tgt ls rest)) (kf : G = some r → W p l e R s m args below meth c H locs cells slots Q (F0 m (pc + 3) ls rest)) : W p l e R s m args below meth c H locs cells slots Q (F0 m pc ls (.int x :: rest)) :=
  lv_if_ge hC.1 hC.2.1 hdg ht (fun h => kt (by rw [if_pos h] at hf; exact hf)) (fun h => kf (by rw [if_neg h] at hf; exact hf))
theorem x_gt0 (hC : x_C p s m args meth c cc nL own E A) {x : Int32} {off : Int} (tgt : Nat) {F G : Option ρ} (hf : (if 0 < x then F else G) = some r) (hdg : decode cc pc = .ok (.ifCond .gt off, 3)) (ht : (pc : Int) + off = (tgt : Int)) (kt : F = some r → W p l e R s m args below meth c H locs cells slots Q (F0 m tgt ls rest)) (kf : G = some r → W p l e R s m args below meth c H locs cells slots Q (F0 m (pc + 3) ls rest)) : W p l e R s m args below meth c H locs cells slots Q (F0 m pc ls (.int x :: rest)) :=
  lv_if_gt hC.1 hC.2.1 hdg ht (fun h => kt (by rw [if_pos h] at hf; exact hf)) (fun h => kf (by rw [if_neg h] at hf; exact hf))
theorem x_le0 (hC : x_C p s m args meth c cc nL own E A) {x : Int32} {off : Int} (tgt : Nat) {F G : Option ρ} (hf : (if x ≤ 0 then F else G) = some r) (hdg : decode cc pc = .ok (.ifCond .le off, 3)) (ht : (pc : Int) + off = (tgt : Int)) (kt : F = some r → W p l e R s m args below meth c H locs cells slots Q (F0 m tgt ls rest)) (kf : G = some r → W p l e R s m args below meth c H locs cells slots Q (F0 m (pc + 3) ls rest)) : W p l e R s m args below meth c H locs cells slots Q (F0 m pc ls (.int x :: rest)) :=
  lv_if_le hC.1 hC.2.1 hdg ht (fun h => kt (by rw [if_pos h] at hf; exact hf)) (fun h => kf (by rw [if_neg h] at hf; exact hf))
theorem x_ieq (hC : x_C p s m args meth c cc nL own E A) {x y : Int32} {off : Int} (tgt : Nat) {F G : Option ρ} (hf : (if x = y then F else G) = some r) (hdg : decode cc pc = .ok (.if_icmp .eq off, 3)) (ht : (pc : Int) + off = (tgt : Int)) (kt : F = some r → W p l e R s m args below meth c H locs cells slots Q (F0 m tgt ls rest)) (kf : G = some r → W p l e R s m args below meth c H locs cells slots Q (F0 m (pc + 3) ls rest)) : W p l e R s m args below meth c H locs cells slots Q (F0 m pc ls (.int y :: .int x :: rest)) :=
  lv_icmp_eq hC.1 hC.2.1 hdg ht (fun h => kt (by rw [if_pos h] at hf; exact hf)) (fun h => kf (by rw [if_neg h] at hf; exact hf))
theorem x_ine (hC : x_C p s m args meth c cc nL own E A) {x y : Int32} {off : Int} (tgt : Nat) {F G : Option ρ} (hf : (if x = y then G else F) = some r) (hdg : decode cc pc = .ok (.if_icmp .ne off, 3)) (ht : (pc : Int) + off = (tgt : Int)) (kt : F = some r → W p l e R s m args below meth c H locs cells slots Q (F0 m tgt ls rest)) (kf : G = some r → W p l e R s m args below meth c H locs cells slots Q (F0 m (pc + 3) ls rest)) : W p l e R s m args below meth c H locs cells slots Q (F0 m pc ls (.int y :: .int x :: rest)) :=
  lv_icmp_ne hC.1 hC.2.1 hdg ht (fun h => kt (by rw [if_neg h] at hf; exact hf)) (fun h => kf (by rw [if_pos h] at hf; exact hf))
theorem x_ilt (hC : x_C p s m args meth c cc nL own E A) {x y : Int32} {off : Int} (tgt : Nat) {F G : Option ρ} (hf : (if x < y then F else G) = some r) (hdg : decode cc pc = .ok (.if_icmp .lt off, 3)) (ht : (pc : Int) + off = (tgt : Int)) (kt : F = some r → W p l e R s m args below meth c H locs cells slots Q (F0 m tgt ls rest)) (kf : G = some r → W p l e R s m args below meth c H locs cells slots Q (F0 m (pc + 3) ls rest)) : W p l e R s m args below meth c H locs cells slots Q (F0 m pc ls (.int y :: .int x :: rest)) :=
  lv_icmp_lt hC.1 hC.2.1 hdg ht (fun h => kt (by rw [if_pos h] at hf; exact hf)) (fun h => kf (by rw [if_neg h] at hf; exact hf))
theorem x_ige (hC : x_C p s m args meth c cc nL own E A) {x y : Int32} {off : Int} (tgt : Nat) {F G : Option ρ} (hf : (if y ≤ x then F else G) = some r) (hdg : decode cc pc = .ok (.if_icmp .ge off, 3)) (ht : (pc : Int) + off = (tgt : Int)) (kt : F = some r → W p l e R s m args below meth c H locs cells slots Q (F0 m tgt ls rest)) (kf : G = some r → W p l e R s m args below meth c H locs cells slots Q (F0 m (pc + 3) ls rest)) : W p l e R s m args below meth c H locs cells slots Q (F0 m pc ls (.int y :: .int x :: rest)) :=
  lv_icmp_ge hC.1 hC.2.1 hdg ht (fun h => kt (by rw [if_pos h] at hf; exact hf)) (fun h => kf (by rw [if_neg h] at hf; exact hf))
theorem x_igt (hC : x_C p s m args meth c cc nL own E A) {x y : Int32} {off : Int} (tgt : Nat) {F G : Option ρ} (hf : (if y < x then F else G) = some r) (hdg : decode cc pc = .ok (.if_icmp .gt off, 3)) (ht : (pc : Int) + off = (tgt : Int)) (kt : F = some r → W p l e R s m args below meth c H locs cells slots Q (F0 m tgt ls rest)) (kf : G = some r → W p l e R s m args below meth c H locs cells slots Q (F0 m (pc + 3) ls rest)) : W p l e R s m args below meth c H locs cells slots Q (F0 m pc ls (.int y :: .int x :: rest)) :=
  lv_icmp_gt hC.1 hC.2.1 hdg ht (fun h => kt (by rw [if_pos h] at hf; exact hf)) (fun h => kf (by rw [if_neg h] at hf; exact hf))
theorem x_ile (hC : x_C p s m args meth c cc nL own E A) {x y : Int32} {off : Int} (tgt : Nat) {F G : Option ρ} (hf : (if x ≤ y then F else G) = some r) (hdg : decode cc pc = .ok (.if_icmp .le off, 3)) (ht : (pc : Int) + off = (tgt : Int)) (kt : F = some r → W p l e R s m args below meth c H locs cells slots Q (F0 m tgt ls rest)) (kf : G = some r → W p l e R s m args below meth c H locs cells slots Q (F0 m (pc + 3) ls rest)) : W p l e R s m args below meth c H locs cells slots Q (F0 m pc ls (.int y :: .int x :: rest)) :=
  lv_icmp_le hC.1 hC.2.1 hdg ht (fun h => kt (by rw [if_pos h] at hf; exact hf)) (fun h => kf (by rw [if_neg h] at hf; exact hf))
/-! fields and arrays -/
theorem x_get (hC : x_C p s m args meth c cc nL own E A) (hI : x_I E A s.heap w H locs) (q0 ci k : Nat) {C : String} {T : u_T} {N idx : Nat} {fs : List Value} {v : Value} (he : w[q0]? = some (a, .inr (ci, fs))) (hc : vwCl[ci]? = some (C, T, N)) (hin : ∀ z ∈ u_ws C T N, z ∈ x_TB) (hk : k < N) (hn : (T k).1 = C) (hlink : Cond.fieldLink own idx C (T k).2.1 (T k).2.2.1 ∈ x_TB) (hv : fs[k]? = some v) (hdg : decode cc pc = .ok (.getfield idx, 3))
    (kk : W p l e R s m args below meth c H locs cells slots Q (F0 m (pc + 3) ls (v :: rest))) : W p l e R s m args below meth c H locs cells slots Q (F0 m pc ls (.ref a :: rest)) := by
  obtain ⟨hx, hb, hml, hown, hts, hK, hN, hA⟩ := hC
  exact va_get (D := E.1) (cl := vwCl) (Ts := x_TB) hx hb hts hin hown hK hI.1 q0 he hc k hk (hts _ hlink) (fun x h => by rw [hn] at h; exact h) hv hdg kk
theorem x_put (hC : x_C p s m args meth c cc nL own E A) (hI : x_I E A s.heap w H locs) (q0 ci k : Nat) {C : String} {T : u_T} {N idx : Nat} {fs : List Value} {v : Value} (ty0 : Nat → FieldType) (hty : ∀ k, k < N → parseFieldDescriptor (T k).2.2.1 = some (ty0 k)) (hnm : ∀ a, a < N → ∀ b, b < N → a ≠ b → (T a).2.1 ≠ (T b).2.1) (he : w[q0]? = some (a, .inr (ci, fs))) (hc : vwCl[ci]? = some (C, T, N)) (hin : ∀ z ∈ u_ws C T N, z ∈ x_TB) (hk : k < N) (hn : (T k).1 = C) (hfin : (T k).2.2.2 = false) (hnar : narrow (ty0 k) v = v) (hfit : fits (ty0 k) v = true) (hlen : k < fs.length) (hw : w.set q0 (a, .inr (ci, fs.set k v)) = w') (hlink : Cond.fieldLink own idx C (T k).2.1 (T k).2.2.1 ∈ x_TB) (hdg : decode cc pc = .ok (.putfield idx, 3))
    (kk : ∀ (H1 : Heap) (locs1 : List Loc), x_I E A s.heap w' H1 locs1 → W p l e R s m args below meth c H1 locs1 cells slots Q (F0 m (pc + 3) ls rest)) : W p l e R s m args below meth c H locs cells slots Q (F0 m pc ls (v :: .ref a :: rest)) := by
  obtain ⟨hx, hb, hml, hown, hts, hK, hN, hA⟩ := hC
  subst hw
  exact va_put (D := E.1) (cl := vwCl) (Ts := x_TB) hx hb hts hin ty0 hty hnm hown hK hI.1 hI.2.1 hI.2.2 q0 he hc k hk (hts _ hlink) (fun x h => by rw [hn] at h; exact h) hfin (hty k hk) hnar hfit hlen hdg (fun H1 locs1 h1 h2 h3 => kk H1 locs1 ⟨h1, h2, h3⟩)
theorem x_iald (hC : x_C p s m args meth c cc nL own E A) (hI : x_I E A s.heap w H locs) (q0 : Nat) {n : Nat} {f : Nat → Int32} (he : w[q0]? = some (a, .inl (E.2.1, n, .inl f))) {i : Int32} (hin : ¬ (i < 0 ∨ n ≤ i.toNatClampNeg)) (hdg : decode cc pc = .ok (.iaload, 1))
    (kk : W p l e R s m args below meth c H locs cells slots Q (F0 m (pc + 1) ls (.int (f i.toNatClampNeg) :: rest))) : W p l e R s m args below meth c H locs cells slots Q (F0 m pc ls (.int i :: .ref a :: rest)) := by
  obtain ⟨hx, hb, hml, hown, hts, hK, hN, hA⟩ := hC
  exact va_iald (D := E.1) (cl := vwCl) hx hb hK hI.1 q0 0 he rfl hin hdg kk
theorem x_zald (hC : x_C p s m args meth c cc nL own E A) (hI : x_I E A s.heap w H locs) (q0 : Nat) {n : Nat} {f : Nat → Int32} (he : w[q0]? = some (a, .inl (E.2.2.1, n, .inl f))) {i : Int32} (hin : ¬ (i < 0 ∨ n ≤ i.toNatClampNeg)) (hdg : decode cc pc = .ok (.baload, 1))
    (kk : W p l e R s m args below meth c H locs cells slots Q (F0 m (pc + 1) ls (.int (f i.toNatClampNeg) :: rest))) : W p l e R s m args below meth c H locs cells slots Q (F0 m pc ls (.int i :: .ref a :: rest)) := by
  obtain ⟨hx, hb, hml, hown, hts, hK, hN, hA⟩ := hC
  exact va_zald (D := E.1) (cl := vwCl) hx hb hK hI.1 q0 1 he rfl hin hdg kk
theorem x_aald (hC : x_C p s m args meth c cc nL own E A) (hI : x_I E A s.heap w H locs) (q0 : Nat) {n : Nat} {f : Nat → Option Nat} (he : w[q0]? = some (a, .inl (E.2.2.2, n, .inr (.inr (.inr (.inr f)))))) {i : Int32} (hin : ¬ (i < 0 ∨ n ≤ i.toNatClampNeg)) (hdg : decode cc pc = .ok (.aaload, 1))
    (kk : W p l e R s m args below meth c H locs cells slots Q (F0 m (pc + 1) ls (va_rf (f i.toNatClampNeg) :: rest))) : W p l e R s m args below meth c H locs cells slots Q (F0 m pc ls (.int i :: .ref a :: rest)) := by
  obtain ⟨hx, hb, hml, hown, hts, hK, hN, hA⟩ := hC
  exact va_aldq (D := E.1) (cl := vwCl) hx hb hK hI.1 q0 2 he rfl hin hdg kk
theorem x_iast (hC : x_C p s m args meth c cc nL own E A) (hI : x_I E A s.heap w H locs) (q0 : Nat) {n : Nat} {f : Nat → Int32} (he : w[q0]? = some (a, .inl (E.2.1, n, .inl f))) {i x : Int32} (hw : w.set q0 (a, .inl (E.2.1, n, .inl (upd f i.toNatClampNeg x))) = w') (hin : ¬ (i < 0 ∨ n ≤ i.toNatClampNeg)) (hdg : decode cc pc = .ok (.iastore, 1))
    (kk : ∀ (H1 : Heap) (locs1 : List Loc), x_I E A s.heap w' H1 locs1 → W p l e R s m args below meth c H1 locs1 cells slots Q (F0 m (pc + 1) ls rest)) : W p l e R s m args below meth c H locs cells slots Q (F0 m pc ls (.int x :: .int i :: .ref a :: rest)) := by
  obtain ⟨hx, hb, hml, hown, hts, hK, hN, hA⟩ := hC
  subst hw
  exact va_iast (D := E.1) (cl := vwCl) hx hb hK hI.1 hI.2.1 hI.2.2 q0 0 he rfl hin hdg (fun H1 locs1 h1 h2 h3 => kk H1 locs1 ⟨h1, h2, h3⟩)
theorem x_nar1 {x : Int32} (h : x = 0 ∨ x = 1) : narrow .boolean (.int x) = .int x := by
  rcases h with rfl | rfl <;> rfl
theorem x_nar2 {x : Int32} (h : x = 0 ∨ x = 1) : vp_nar .boolean x = x := by
  rcases h with rfl | rfl <;> rfl
theorem x_fit1 {x : Int32} (h : x = 0 ∨ x = 1) : fits .boolean (.int x) = true := by
  rcases h with rfl | rfl <;> rfl
theorem x_zast (hC : x_C p s m args meth c cc nL own E A) (hI : x_I E A s.heap w H locs) (q0 : Nat) {n : Nat} {f : Nat → Int32} (he : w[q0]? = some (a, .inl (E.2.2.1, n, .inl f))) {i x : Int32} (hw : w.set q0 (a, .inl (E.2.2.1, n, .inl (upd f i.toNatClampNeg x))) = w') (hin : ¬ (i < 0 ∨ n ≤ i.toNatClampNeg)) (hz : x = 0 ∨ x = 1) (hdg : decode cc pc = .ok (.bastore, 1))
    (kk : ∀ (H1 : Heap) (locs1 : List Loc), x_I E A s.heap w' H1 locs1 → W p l e R s m args below meth c H1 locs1 cells slots Q (F0 m (pc + 1) ls rest)) : W p l e R s m args below meth c H locs cells slots Q (F0 m pc ls (.int x :: .int i :: .ref a :: rest)) := by
  obtain ⟨hx, hb, hml, hown, hts, hK, hN, hA⟩ := hC
  subst hw
  refine va_zast (D := E.1) (cl := vwCl) hx hb hK hI.1 hI.2.1 hI.2.2 q0 1 he rfl hin hdg (fun H1 locs1 h1 h2 h3 => ?_)
  rw [x_nar2 hz] at h1 h2
  exact kk H1 locs1 ⟨h1, h2, h3⟩
/-! ends -/
def x_Ri (p : Program) (l : Launch) (e : Env) (R : Room) (s : State) (m : MethodId) (args : Array Value) (below : List Frame) (meth : Method) (c : Code) (cc : ByteArray) (E : x_E) (A : Nat → Prop) (Q : State → Prop) (w' : va_W) (r : Int32) : Prop := ∀ (H : Heap) (locs : List Loc) (pc : Nat) (ls : Array Slot), x_I E A s.heap w' H locs → decode cc pc = .ok (.ireturn, 1) → W p l e R s m args below meth c H locs 0 0 Q (F0 m pc ls [.int r])
def x_Rz (p : Program) (l : Launch) (e : Env) (R : Room) (s : State) (m : MethodId) (args : Array Value) (below : List Frame) (meth : Method) (c : Code) (cc : ByteArray) (E : x_E) (A : Nat → Prop) (Q : State → Prop) (w' : va_W) (r : Int32) : Prop := ∀ (H : Heap) (locs : List Loc) (pc : Nat) (ls : Array Slot), (r = 0 ∨ r = 1) → x_I E A s.heap w' H locs → decode cc pc = .ok (.ireturn, 1) → W p l e R s m args below meth c H locs 0 0 Q (F0 m pc ls [.int r])
def x_Rv (p : Program) (l : Launch) (e : Env) (R : Room) (s : State) (m : MethodId) (args : Array Value) (below : List Frame) (meth : Method) (c : Code) (cc : ByteArray) (E : x_E) (A : Nat → Prop) (Q : State → Prop) (w' : va_W) : Prop := ∀ (H : Heap) (locs : List Loc) (pc : Nat) (ls : Array Slot), x_I E A s.heap w' H locs → decode cc pc = .ok (.return_, 1) → W p l e R s m args below meth c H locs 0 0 Q (F0 m pc ls [])
def x_Ra (p : Program) (l : Launch) (e : Env) (R : Room) (s : State) (m : MethodId) (args : Array Value) (below : List Frame) (meth : Method) (c : Code) (cc : ByteArray) (E : x_E) (A : Nat → Prop) (Q : State → Prop) (w' : va_W) (o : Option Nat) : Prop := ∀ (H : Heap) (locs : List Loc) (pc : Nat) (ls : Array Slot), x_I E A s.heap w' H locs → decode cc pc = .ok (.areturn, 1) → W p l e R s m args below meth c H locs 0 0 Q (F0 m pc ls [va_rf o])
end XR
/-! a method out of its walk -/
section XM
variable {l : Launch} {y : MethodName} {cc : ByteArray} {nL fr lo : Nat} {E : x_E} {av : List Value} {w w' : va_W}
theorem x_entV (hy : plainName y.cls = true) (hlen : (lg_sl av).length ≤ nL) (body : ∀ (p : Program) (e : Env) (s : State) (m : MethodId) (args : Array Value) (below : List Frame) (meth : Method) (c : Code) (A : Nat → Prop) (Q : State → Prop) (ls : Array Slot), x_C p s m args meth c cc nL y.cls E A → x_I E A s.heap w s.heap [] → x_Rv p l e { frames := fr, cells := 0, slots := 0, locals := lo } s m args below meth c cc E A Q w' → lv_has ls nL (lv_args 0 av) → W p l e { frames := fr, cells := 0, slots := 0, locals := lo } s m args below meth c s.heap [] 0 0 Q (F0 m 0 ls [])) : x_M l y cc nL none fr lo E av w w' none := by
  intro sz
  refine Met.ofW (cc := cc) (maxL := nL) (ret := none) hy rfl ?_
  intro p e s m args below meth c s₁ B hml hv
  obtain ⟨rfl, hsz, hP, hK, hN, hD0⟩ := hv
  have hts := atoms_spec (ws := x_W y cc nL none) B.pre
  have hown := findClass_of_methodNamed B.named
  subst hsz
  have hl := lv_entry av (n := nL) hlen
  rw [lg_entry_eq]
  exact body p e s m _ below meth c (va_A w s.heap.size) _ _ ⟨B.exec, B.bytes, hml, hown, fun z h => hts z (List.mem_cons_of_mem _ h), hK, hN, fun q h => Or.inr h⟩ ⟨hP, hD0.self (sz := s.heap.size), va_S.rf⟩ (fun H locs pc ls hI hd => W.vret B.exec B.bytes B.returns (fun t ht hW => ⟨rfl, by rw [ht]; exact hI.1, hI.2.1, hI.2.2.F ht⟩) hI.2.2.2.2 hd B.notSynchronized) hl
theorem x_entI {r : Int32} (hy : plainName y.cls = true) (hlen : (lg_sl av).length ≤ nL) (body : ∀ (p : Program) (e : Env) (s : State) (m : MethodId) (args : Array Value) (below : List Frame) (meth : Method) (c : Code) (A : Nat → Prop) (Q : State → Prop) (ls : Array Slot), x_C p s m args meth c cc nL y.cls E A → x_I E A s.heap w s.heap [] → x_Ri p l e { frames := fr, cells := 0, slots := 0, locals := lo } s m args below meth c cc E A Q w' r → lv_has ls nL (lv_args 0 av) → W p l e { frames := fr, cells := 0, slots := 0, locals := lo } s m args below meth c s.heap [] 0 0 Q (F0 m 0 ls [])) : x_M l y cc nL (some .int) fr lo E av w w' (some (.int r)) := by
  intro sz
  refine Met.ofW (cc := cc) (maxL := nL) (ret := some .int) hy rfl ?_
  intro p e s m args below meth c s₁ B hml hv
  obtain ⟨rfl, hsz, hP, hK, hN, hD0⟩ := hv
  have hts := atoms_spec (ws := x_W y cc nL (some .int)) B.pre
  have hown := findClass_of_methodNamed B.named
  subst hsz
  have hl := lv_entry av (n := nL) hlen
  rw [lg_entry_eq]
  exact body p e s m _ below meth c (va_A w s.heap.size) _ _ ⟨B.exec, B.bytes, hml, hown, fun z h => hts z (List.mem_cons_of_mem _ h), hK, hN, fun q h => Or.inr h⟩ ⟨hP, hD0.self (sz := s.heap.size), va_S.rf⟩ (fun H locs pc ls hI hd => W.iret B.exec B.bytes B.returns (fun t ht hW => ⟨rfl, by rw [ht]; exact hI.1, hI.2.1, hI.2.2.F ht⟩) hI.2.2.2.2 hd B.notSynchronized) hl
theorem x_entZ {r : Int32} (hy : plainName y.cls = true) (hlen : (lg_sl av).length ≤ nL) (body : ∀ (p : Program) (e : Env) (s : State) (m : MethodId) (args : Array Value) (below : List Frame) (meth : Method) (c : Code) (A : Nat → Prop) (Q : State → Prop) (ls : Array Slot), x_C p s m args meth c cc nL y.cls E A → x_I E A s.heap w s.heap [] → x_Rz p l e { frames := fr, cells := 0, slots := 0, locals := lo } s m args below meth c cc E A Q w' r → lv_has ls nL (lv_args 0 av) → W p l e { frames := fr, cells := 0, slots := 0, locals := lo } s m args below meth c s.heap [] 0 0 Q (F0 m 0 ls [])) : x_M l y cc nL (some .boolean) fr lo E av w w' (some (.int r)) := by
  intro sz
  refine Met.ofW (cc := cc) (maxL := nL) (ret := some .boolean) hy rfl ?_
  intro p e s m args below meth c s₁ B hml hv
  obtain ⟨rfl, hsz, hP, hK, hN, hD0⟩ := hv
  have hts := atoms_spec (ws := x_W y cc nL (some .boolean)) B.pre
  have hown := findClass_of_methodNamed B.named
  subst hsz
  have hl := lv_entry av (n := nL) hlen
  rw [lg_entry_eq]
  exact body p e s m _ below meth c (va_A w s.heap.size) _ _ ⟨B.exec, B.bytes, hml, hown, fun z h => hts z (List.mem_cons_of_mem _ h), hK, hN, fun q h => Or.inr h⟩ ⟨hP, hD0.self (sz := s.heap.size), va_S.rf⟩ (fun H locs pc ls hz hI hd => W.zret B.exec B.bytes B.returns (x_nar1 hz) (fun t ht hW => ⟨rfl, by rw [ht]; exact hI.1, hI.2.1, hI.2.2.F ht⟩) hI.2.2.2.2 hd B.notSynchronized) hl
theorem x_entA {o : Option Nat} {nm : String} (hy : plainName y.cls = true) (hlen : (lg_sl av).length ≤ nL) (body : ∀ (p : Program) (e : Env) (s : State) (m : MethodId) (args : Array Value) (below : List Frame) (meth : Method) (c : Code) (A : Nat → Prop) (Q : State → Prop) (ls : Array Slot), x_C p s m args meth c cc nL y.cls E A → x_I E A s.heap w s.heap [] → x_Ra p l e { frames := fr, cells := 0, slots := 0, locals := lo } s m args below meth c cc E A Q w' o → lv_has ls nL (lv_args 0 av) → W p l e { frames := fr, cells := 0, slots := 0, locals := lo } s m args below meth c s.heap [] 0 0 Q (F0 m 0 ls [])) : x_M l y cc nL (some (.object nm)) fr lo E av w w' (some (va_rf o)) := by
  intro sz
  refine Met.ofW (cc := cc) (maxL := nL) (ret := some (.object nm)) hy rfl ?_
  intro p e s m args below meth c s₁ B hml hv
  obtain ⟨rfl, hsz, hP, hK, hN, hD0⟩ := hv
  have hts := atoms_spec (ws := x_W y cc nL (some (.object nm))) B.pre
  have hown := findClass_of_methodNamed B.named
  subst hsz
  have hl := lv_entry av (n := nL) hlen
  rw [lg_entry_eq]
  exact body p e s m _ below meth c (va_A w s.heap.size) _ _ ⟨B.exec, B.bytes, hml, hown, fun z h => hts z (List.mem_cons_of_mem _ h), hK, hN, fun q h => Or.inr h⟩ ⟨hP, hD0.self (sz := s.heap.size), va_S.rf⟩ (fun H locs pc ls hI hd => W.aret B.exec B.bytes B.returns (Or.inl ⟨_, rfl⟩) (va_rf_or o) (fun t ht hW => ⟨rfl, by rw [ht]; exact hI.1, hI.2.1, hI.2.2.F ht⟩) hI.2.2.2.2 hd B.notSynchronized) hl
end XM
/-! calls: the callee's world is the whole world -/
section XC
variable {p : Program} {l : Launch} {e : Env} {R : Room} {s : State} {m : MethodId} {args : Array Value} {below : List Frame} {meth : Method} {c : Code} {H : Heap} {locs : List Loc} {cells slots : Nat} {Q : State → Prop}
variable {cc : ByteArray} {nL pc : Nat} {own : String} {E : x_E} {A : Nat → Prop} {ls : Array Slot} {rest st0 : List Value} {w w' : va_W} {a : Array Value} {rv : Option Value}
theorem x_after (hr : va_Run p l e R s m args below meth c H locs cells slots 0 0 (F0 m pc ls st0) rest (x_Q E w w' rv H.size a) (va_A w H.size)) (hA : ∀ q, s.heap.size ≤ q → A q) (hI : x_I E A s.heap w H locs)
    (kk : ∀ (H1 : Heap) (locs1 : List Loc), x_I E A s.heap w' H1 locs1 → W p l e R s m args below meth c H1 locs1 cells slots Q (F0 m (pc + 3) ls (rv.toList ++ rest))) : W p l e R s m args below meth c H locs cells slots Q (F0 m pc ls st0) := by
  obtain ⟨hP, hD, hS⟩ := hI
  have hF : ∀ q, va_A w H.size q → A q := by
    intro q hq
    rcases hq with ⟨k, e9, hk⟩ | hq
    · exact hD.2 k _ hk
    · exact hA q (Nat.le_trans hS.1 hq)
  intro T hT X
  obtain ⟨v, st₀, t, T', L, h0, X', hL, e1, e2, ⟨hv, hP1, hD1, hz, hk⟩, st⟩ := hr T hT X
  have hv2 : v = rv := Outcome.returned.inj hv
  subst hv2
  rw [h0] at hz hk
  have hI1 : x_I E A s.heap w' T'.heap (locs ++ L) := by
    refine ⟨by rw [e1]; exact hP1, hD1.weaken (fun _ _ _ h => hF _ h), ?_⟩
    exact ⟨Nat.le_trans hS.1 (by rw [e1]; exact hz), fun q h1 h2 => by rw [e1, hk q (Nat.lt_of_lt_of_le h1 hS.1) (fun z => h2 (hF q z))]; exact hS.2.1 q h1 h2, fun q hq => by
      rcases List.mem_append.mp hq with h | h
      · exact hS.2.2 q h
      · exact hF _ (hL q h)⟩
  obtain ⟨t2, a1, b1⟩ := kk T'.heap (locs ++ L) hI1 T' rfl X'
  exact ⟨t2, st t2 a1, b1⟩
theorem x_pre {As : List Value} (hC : x_C p s m args meth c cc nL own E A) (hI : x_I E A s.heap w H locs) : ∀ U : State, U.heap = H → s.WarmedH U.vm → va_Pc As (x_B E w H.size) As.toArray U := fun U hU hW => ⟨rfl, by rw [hU], by rw [hU]; exact hI.1, va_K.moved hW.alike hC.2.2.2.2.2.1, hC.2.2.2.2.2.2.1.warm hW, hI.2.1.weaken (fun _ _ _ _ => trivial)⟩
/-- the words of a call of an instance's method -/
def x_V (own : String) (idx : Nat) (C : String) (y : MethodName) (bytes : ByteArray) (maxL : Nat) (ret : Option FieldType) (n : Nat) : Prop := Cond.code y bytes maxL ret ∈ x_TB ∧ Cond.methodLink own idx y ∈ x_TB ∧ Cond.instanceMethod y ∈ x_TB ∧ Cond.selects C y y ∈ x_TB ∧ Cond.initialized C ∈ x_TB ∧ (y.cls = C ∧ y.cls ≠ "java/lang/invoke/MethodHandle" ∧ y.cls ≠ "java/lang/invoke/VarHandle" ∧ (parseMethodDescriptor y.desc).map (fun d => d.parameters.length) = some n)
theorem x_callV (hC : x_C p s m args meth c cc nL own E A) (hI : x_I E A s.heap w H locs) {y : MethodName} {bytes : ByteArray} {maxL fr lo n idx N b : Nat} {ret : Option FieldType} {C : String} {T : u_T} {As fs : List Value} (hM : x_M l y bytes maxL ret fr lo E (.ref b :: As) w w' rv) (q0 ci : Nat) (he : w[q0]? = some (b, .inr (ci, fs))) (hc : vwCl[ci]? = some (C, T, N)) (hV : x_V own idx C y bytes maxL ret n) (hn : As.length = n) (hroom : fr + 1 ≤ R.frames ∧ 8 + (maxL + 11) + lo ≤ R.locals) (hcap : cells ≤ R.cells ∧ slots ≤ R.slots) (hls : ls.size = nL) (hst : st0 = As.reverse ++ .ref b :: rest) (hrest : (rest.map fun v => v.category).sum ≤ 8) (hdg : decode cc pc = .ok (.invokevirtual idx, 3))
    (kk : ∀ (H1 : Heap) (locs1 : List Loc), x_I E A s.heap w' H1 locs1 → W p l e R s m args below meth c H1 locs1 cells slots Q (F0 m (pc + 3) ls (rv.toList ++ rest))) : W p l e R s m args below meth c H locs cells slots Q (F0 m pc ls st0) := by
  obtain ⟨hx, hb, hml, hown, hts, hK, hN, hA⟩ := id hC
  obtain ⟨v1, v2, v3, v4, v5, v6⟩ := hV
  have cb : CallB R s args own idx y bytes maxL ret (x_W y bytes maxL ret) { frames := fr, cells := 0, slots := 0, locals := lo } 0 0 n := callB_of n hts (x_gd v1) rfl rfl rfl (by rw [v6.1]; exact hts _ v5) (hts _ v2) ⟨v6.2.1, v6.2.2.1, v6.2.2.2⟩ hroom
  refine x_after (va_runV (As := As) (rest := rest) ⟨hx, hb, hml, hown, hts⟩ (hM H.size) ⟨cb, hts _ v3, hts _ v4⟩ ⟨x_blind E w H.size _, va_recv hK hI.1 hc he, x_pre (As := .ref b :: As) hC hI⟩ rfl hn hls hst (lv_room hrest) hdg hcap) hA hI kk
/-- the words of a call of a static method of the own class -/
def x_Vs (own : String) (idx : Nat) (y : MethodName) (bytes : ByteArray) (maxL : Nat) (ret : Option FieldType) (n : Nat) : Prop := Cond.code y bytes maxL ret ∈ x_TB ∧ Cond.methodLink own idx y ∈ x_TB ∧ Cond.static y ∈ x_TB ∧ Cond.initialized y.cls ∈ x_TB ∧ (y.cls ≠ "java/lang/invoke/MethodHandle" ∧ y.cls ≠ "java/lang/invoke/VarHandle" ∧ (parseMethodDescriptor y.desc).map (fun d => d.parameters.length) = some n)
theorem x_callS (hC : x_C p s m args meth c cc nL own E A) (hI : x_I E A s.heap w H locs) {y : MethodName} {bytes : ByteArray} {maxL fr lo n idx : Nat} {ret : Option FieldType} {As : List Value} (hM : x_M l y bytes maxL ret fr lo E As w w' rv) (hV : x_Vs own idx y bytes maxL ret n) (hn : As.length = n) (hroom : fr + 1 ≤ R.frames ∧ 8 + (maxL + 11) + lo ≤ R.locals) (hcap : cells ≤ R.cells ∧ slots ≤ R.slots) (hls : ls.size = nL) (hst : st0 = As.reverse ++ rest) (hrest : (rest.map fun v => v.category).sum ≤ 8) (hdg : decode cc pc = .ok (.invokestatic idx, 3))
    (kk : ∀ (H1 : Heap) (locs1 : List Loc), x_I E A s.heap w' H1 locs1 → W p l e R s m args below meth c H1 locs1 cells slots Q (F0 m (pc + 3) ls (rv.toList ++ rest))) : W p l e R s m args below meth c H locs cells slots Q (F0 m pc ls st0) := by
  obtain ⟨hx, hb, hml, hown, hts, hK, hN, hA⟩ := id hC
  obtain ⟨v1, v2, v3, v4, v5⟩ := hV
  have cb : CallB R s args own idx y bytes maxL ret (x_W y bytes maxL ret) { frames := fr, cells := 0, slots := 0, locals := lo } 0 0 n := callB_of n hts (x_gd v1) rfl rfl rfl (hts _ v4) (hts _ v2) v5 hroom
  exact x_after (va_runS (As := As) (rest := rest) ⟨hx, hb, hml, hown, hts⟩ (hM H.size) ⟨cb, hts _ v3⟩ ⟨x_blind E w H.size _, x_pre (As := As) hC hI⟩ rfl hn hls hst (lv_room hrest) hdg hcap) hA hI kk
/-- of a static method that only nest mates may call -/
def x_Vn (own : String) (idx : Nat) (y : MethodName) (bytes : ByteArray) (maxL : Nat) (ret : Option FieldType) (n : Nat) : Prop := Cond.code y bytes maxL ret ∈ x_TB ∧ (own, idx, y) ∈ x_nl ∧ Cond.static y ∈ x_TB ∧ Cond.initialized y.cls ∈ x_TB ∧ (y.cls ≠ "java/lang/invoke/MethodHandle" ∧ y.cls ≠ "java/lang/invoke/VarHandle" ∧ (parseMethodDescriptor y.desc).map (fun d => d.parameters.length) = some n)
theorem x_callN (hC : x_C p s m args meth c cc nL own E A) (hI : x_I E A s.heap w H locs) {y : MethodName} {bytes : ByteArray} {maxL fr lo n idx : Nat} {ret : Option FieldType} {As : List Value} (hM : x_M l y bytes maxL ret fr lo E As w w' rv) (hV : x_Vn own idx y bytes maxL ret n) (hn : As.length = n) (hroom : fr + 1 ≤ R.frames ∧ 8 + (maxL + 11) + lo ≤ R.locals) (hcap : cells ≤ R.cells ∧ slots ≤ R.slots) (hls : ls.size = nL) (hst : st0 = As.reverse ++ rest) (hrest : (rest.map fun v => v.category).sum ≤ 8) (hdg : decode cc pc = .ok (.invokestatic idx, 3))
    (kk : ∀ (H1 : Heap) (locs1 : List Loc), x_I E A s.heap w' H1 locs1 → W p l e R s m args below meth c H1 locs1 cells slots Q (F0 m (pc + 3) ls (rv.toList ++ rest))) : W p l e R s m args below meth c H locs cells slots Q (F0 m pc ls st0) := by
  obtain ⟨hx, hb, hml, hown, hts, hK, hN, hA⟩ := id hC
  obtain ⟨v1, v2, v3, v4, v5⟩ := hV
  exact x_after (va_runSN (As := As) (rest := rest) (host := "StoryDecompile") ⟨hx, hb, hml, hown, hts⟩ (hM H.size) ⟨va_cnB n hts (x_gd v1) rfl rfl rfl (hN _ v2) (hts _ v4) v5 hroom, hts _ v3, trivial⟩ ⟨x_blind E w H.size _, x_pre (As := As) hC hI⟩ rfl hn hls hst (lv_room hrest) hdg hcap) hA hI kk
end XC
end
section
/-! The state, and the worlds that hold it. Keys: 100 * (number of the class) + slot. -/
abbrev x_S : Type := (Nat → Int32) × (Nat → Nat → Int32) × Nat × (Nat → Nat → Int32) × (Nat → Nat → Nat → Int32) × (Nat → Option Nat) × (Nat → Nat → Option Nat)
def g_sc (S : x_S) (k : Nat) : Int32 := S.1 k
def s_sc (S : x_S) (k : Nat) (v : Int32) : x_S := (upd S.1 k v, S.2)
def g_ar (S : x_S) (k j : Nat) : Int32 := S.2.1 k j
def s_aw (S : x_S) (k : Nat) (f : Nat → Int32) : x_S := (S.1, va_up S.2.1 k f, S.2.2)
def s_ar (S : x_S) (k j : Nat) (v : Int32) : x_S := s_aw S k (upd (S.2.1 k) j v)
def g_np (S : x_S) : Nat := S.2.2.1
def g_ps (S : x_S) (k i : Nat) : Int32 := S.2.2.2.1 k i
def s_ps (S : x_S) (k i : Nat) (v : Int32) : x_S := (S.1, S.2.1, S.2.2.1, va_up S.2.2.2.1 k (upd (S.2.2.2.1 k) i v), S.2.2.2.2)
def g_pa (S : x_S) (k i j : Nat) : Int32 := S.2.2.2.2.1 k i j
def s_pa (S : x_S) (k i j : Nat) (v : Int32) : x_S := (S.1, S.2.1, S.2.2.1, S.2.2.2.1, va_up S.2.2.2.2.1 k (va_up (S.2.2.2.2.1 k) i (upd (S.2.2.2.2.1 k i) j v)), S.2.2.2.2.2)
def g_rf (S : x_S) (k : Nat) : Option Nat := S.2.2.2.2.2.1 k
def s_rf (S : x_S) (k : Nat) (r : Option Nat) : x_S := (S.1, S.2.1, S.2.2.1, S.2.2.2.1, S.2.2.2.2.1, va_up S.2.2.2.2.2.1 k r, S.2.2.2.2.2.2)
def g_ra (S : x_S) (k j : Nat) : Option Nat := S.2.2.2.2.2.2 k j
def s_ra (S : x_S) (k j : Nat) (r : Option Nat) : x_S := (S.1, S.2.1, S.2.2.1, S.2.2.2.1, S.2.2.2.2.1, S.2.2.2.2.2.1, va_up S.2.2.2.2.2.2 k (va_up (S.2.2.2.2.2.2 k) j r))
/-- a ROUTINE by its number among all that were made; THE TAPE or null -/
def x_rr (ap : Nat → Nat → Nat) (r : Option Nat) : Value := va_rf (r.map (fun i => ap i 0))
def x_nr (ad : Nat → Nat) (r : Option Nat) : Value := va_rf (r.map (fun _ => ad 605))
def x_rt (E : x_E) (ap : Nat → Nat → Nat) (S : x_S) (i : Nat) : va_W := [(ap i 0, .inr (2, [.ref (ap i 1), .ref (ap i 2), .ref (ap i 3), .ref (ap i 4), .int (g_ps S 4 i), .int (g_ps S 5 i)])), (ap i 1, .inl (E.2.1, 60, .inl (S.2.2.2.2.1 0 i))), (ap i 2, .inl (E.2.1, 60, .inl (S.2.2.2.2.1 1 i))), (ap i 3, .inl (E.2.1, 60, .inl (S.2.2.2.2.1 2 i))), (ap i 4, .inl (E.2.1, 60, .inl (S.2.2.2.2.1 3 i)))]
def x_fx (E : x_E) (ad : Nat → Nat) (ap : Nat → Nat → Nat) (S : x_S) : va_W := [(ad 699, .inr (6, [.ref (ad 600), .int (g_sc S 601), .ref (ad 199), .int (g_sc S 603), .ref (ad 99), .ref (ad 605), .int (g_sc S 606), .ref (ad 599), .int (g_sc S 608), .ref (ad 609), .ref (ad 399)])), (ad 99, .inr (0, [.ref (ad 0), .ref (ad 1), .int (g_sc S 2), .int (g_sc S 3)])), (ad 199, .inr (1, [.ref (ad 499), x_rr ap (g_rf S 101), .int (g_sc S 102), .ref (ad 103), .ref (ad 104), .ref (ad 105), .ref (ad 106), .ref (ad 107), .ref (ad 108)])), (ad 399, .inr (3, [.int (g_sc S 300), .int (g_sc S 301), .int (g_sc S 302), .ref (ad 303), .ref (ad 304), .int (g_sc S 305), .ref (ad 306), .ref (ad 307)])), (ad 499, .inr (4, [.ref (ad 400), .ref (ad 401), .ref (ad 402), .ref (ad 403), .ref (ad 404), .ref (ad 405), .ref (ad 406), .ref (ad 407), .int (g_sc S 408), .int (g_sc S 409), .int (g_sc S 410), .int (g_sc S 411)])), (ad 599, .inr (5, [.ref (ap 0 0), .int (g_sc S 501), x_nr ad (g_rf S 502), .int (g_sc S 503), .int (g_sc S 504), .int (g_sc S 505), .int (g_sc S 506), .int (g_sc S 507), .ref (ad 508), .int (g_sc S 509), .ref (ad 510), .ref (ad 511), .ref (ad 512), .ref (ad 513), .ref (ad 514), .ref (ad 515)])), (ad 600, .inl (E.2.2.2, 12, .inr (.inr (.inr (.inr (fun j => (g_ra S 600 j).map (fun i => ap i 0))))))), (ad 605, .inl (E.2.1, 300, .inl (S.2.1 605))), (ad 609, .inl (E.2.1, 4, .inl (S.2.1 609))), (ad 0, .inl (E.2.1, 60, .inl (S.2.1 0))), (ad 1, .inl (E.2.1, 60, .inl (S.2.1 1))), (ad 103, .inl (E.2.1, 61, .inl (S.2.1 103))), (ad 104, .inl (E.2.1, 61, .inl (S.2.1 104))), (ad 105, .inl (E.2.1, 61, .inl (S.2.1 105))), (ad 106, .inl (E.2.1, 61, .inl (S.2.1 106))), (ad 107, .inl (E.2.1, 61, .inl (S.2.1 107))), (ad 108, .inl (E.2.1, 61, .inl (S.2.1 108))), (ad 303, .inl (E.2.1, 200, .inl (S.2.1 303))), (ad 304, .inl (E.2.1, 4, .inl (S.2.1 304))), (ad 306, .inl (E.2.2.2, 8, .inr (.inr (.inr (.inr (fun j => (g_ra S 306 j).map (fun i => ap i 0))))))), (ad 307, .inl (E.2.1, 8, .inl (S.2.1 307))), (ad 400, .inl (E.2.1, 60, .inl (S.2.1 400))), (ad 401, .inl (E.2.1, 60, .inl (S.2.1 401))), (ad 402, .inl (E.2.1, 60, .inl (S.2.1 402))), (ad 403, .inl (E.2.1, 60, .inl (S.2.1 403))), (ad 404, .inl (E.2.1, 60, .inl (S.2.1 404))), (ad 405, .inl (E.2.1, 60, .inl (S.2.1 405))), (ad 406, .inl (E.2.1, 60, .inl (S.2.1 406))), (ad 407, .inl (E.2.1, 241, .inl (S.2.1 407))), (ad 508, .inl (E.2.1, 60, .inl (S.2.1 508))), (ad 510, .inl (E.2.1, 61, .inl (S.2.1 510))), (ad 511, .inl (E.2.1, 61, .inl (S.2.1 511))), (ad 512, .inl (E.2.1, 61, .inl (S.2.1 512))), (ad 513, .inl (E.2.1, 61, .inl (S.2.1 513))), (ad 514, .inl (E.2.1, 61, .inl (S.2.1 514))), (ad 515, .inl (E.2.1, 61, .inl (S.2.1 515)))]
def cw (E : x_E) (ad : Nat → Nat) (ap : Nat → Nat → Nat) (S : x_S) : va_W := x_fx E ad ap S ++ (List.range (g_np S)).flatMap (x_rt E ap S)
def mw (E : x_E) (ad : Nat → Nat) (S : x_S) : va_W := [(ad 799, .inr (7, [.int (g_sc S 700), .ref (ad 701), .ref (ad 702), .ref (ad 703), .ref (ad 704), .ref (ad 705), .ref (ad 706), .ref (ad 707), .int (g_sc S 708), .int (g_sc S 709), .int (g_sc S 710), .int (g_sc S 711), .int (g_sc S 712), .ref (ad 713), .ref (ad 714), .int (g_sc S 715), .ref (ad 716), .ref (ad 717), .ref (ad 718), .ref (ad 719), .ref (ad 720), .ref (ad 721), .ref (ad 722), .ref (ad 723), .int (g_sc S 724), .ref (ad 725), .ref (ad 726), .ref (ad 727), .ref (ad 728), .ref (ad 729), .ref (ad 730), .ref (ad 731), .int (g_sc S 732), .ref (ad 733), .int (g_sc S 734), .ref (ad 735), .int (g_sc S 736), .int (g_sc S 737), .int (g_sc S 738), .ref (ad 739), .ref (ad 740), .ref (ad 741), .ref (ad 742), .ref (ad 743), .ref (ad 744), .int (g_sc S 745), .ref (ad 746), .ref (ad 747), .ref (ad 748), .ref (ad 749), .ref (ad 750), .ref (ad 751), .ref (ad 752), .ref (ad 753)])), (ad 701, .inl (E.2.1, 12, .inl (S.2.1 701))), (ad 702, .inl (E.2.1, 720, .inl (S.2.1 702))), (ad 703, .inl (E.2.1, 720, .inl (S.2.1 703))), (ad 704, .inl (E.2.1, 720, .inl (S.2.1 704))), (ad 705, .inl (E.2.1, 720, .inl (S.2.1 705))), (ad 706, .inl (E.2.1, 4, .inl (S.2.1 706))), (ad 707, .inl (E.2.1, 300, .inl (S.2.1 707))), (ad 713, .inl (E.2.1, 200, .inl (S.2.1 713))), (ad 714, .inl (E.2.1, 4, .inl (S.2.1 714))), (ad 716, .inl (E.2.1, 200, .inl (S.2.1 716))), (ad 717, .inl (E.2.1, 200, .inl (S.2.1 717))), (ad 718, .inl (E.2.1, 200, .inl (S.2.1 718))), (ad 719, .inl (E.2.1, 200, .inl (S.2.1 719))), (ad 720, .inl (E.2.1, 200, .inl (S.2.1 720))), (ad 721, .inl (E.2.1, 200, .inl (S.2.1 721))), (ad 722, .inl (E.2.1, 200, .inl (S.2.1 722))), (ad 723, .inl (E.2.1, 200, .inl (S.2.1 723))), (ad 725, .inl (E.2.1, 200, .inl (S.2.1 725))), (ad 726, .inl (E.2.1, 200, .inl (S.2.1 726))), (ad 727, .inl (E.2.1, 200, .inl (S.2.1 727))), (ad 728, .inl (E.2.1, 200, .inl (S.2.1 728))), (ad 729, .inl (E.2.1, 200, .inl (S.2.1 729))), (ad 730, .inl (E.2.1, 200, .inl (S.2.1 730))), (ad 731, .inl (E.2.1, 1000, .inl (S.2.1 731))), (ad 733, .inl (E.2.2.1, 61, .inl (S.2.1 733))), (ad 735, .inl (E.2.1, 200, .inl (S.2.1 735))), (ad 739, .inl (E.2.1, 400, .inl (S.2.1 739))), (ad 740, .inl (E.2.1, 400, .inl (S.2.1 740))), (ad 741, .inl (E.2.1, 400, .inl (S.2.1 741))), (ad 742, .inl (E.2.1, 400, .inl (S.2.1 742))), (ad 743, .inl (E.2.1, 400, .inl (S.2.1 743))), (ad 744, .inl (E.2.1, 400, .inl (S.2.1 744))), (ad 746, .inl (E.2.1, 64, .inl (S.2.1 746))), (ad 747, .inl (E.2.1, 64, .inl (S.2.1 747))), (ad 748, .inl (E.2.1, 64, .inl (S.2.1 748))), (ad 749, .inl (E.2.1, 64, .inl (S.2.1 749))), (ad 750, .inl (E.2.1, 64, .inl (S.2.1 750))), (ad 751, .inl (E.2.1, 64, .inl (S.2.1 751))), (ad 752, .inl (E.2.1, 8, .inl (S.2.1 752))), (ad 753, .inl (E.2.1, 8, .inl (S.2.1 753)))]
theorem x_fx_len (E : x_E) (ad : Nat → Nat) (ap : Nat → Nat → Nat) (S : x_S) : (x_fx E ad ap S).length = 36 := rfl
theorem x_fmc {α : Type} {f g : Nat → List α} : ∀ (L : List Nat), (∀ x ∈ L, f x = g x) → L.flatMap f = L.flatMap g
  | [], _ => rfl
  | x :: L, h => by rw [List.flatMap_cons, List.flatMap_cons, h x List.mem_cons_self, x_fmc L (fun z hz => h z (List.mem_cons_of_mem _ hz))]
theorem x_fm_get {α : Type} (f : Nat → List α) (hf : ∀ i, (f i).length = 5) (j : Nat) (hj : j < 5) : ∀ (n b i : Nat), i < n → ((List.range' b n).flatMap f)[5 * i + j]? = (f (b + i))[j]? := by
  intro n
  induction n with
  | zero => intro b i h; omega
  | succ n ih =>
    intro b i h
    rw [List.range'_succ, List.flatMap_cons]
    cases i with
    | zero => rw [List.getElem?_append_left (by rw [hf]; omega)]; simp
    | succ i =>
      rw [List.getElem?_append_right (by rw [hf]; omega), hf]
      have h1 : 5 * (i + 1) + j - 5 = 5 * i + j := by omega
      rw [h1, ih (b + 1) i (by omega)]
      have h2 : b + 1 + i = b + (i + 1) := by omega
      rw [h2]
theorem x_fm_set {α : Type} (f : Nat → List α) (hf : ∀ i, (f i).length = 5) (j : Nat) (hj : j < 5) (v : α) : ∀ (n b i : Nat), i < n → ((List.range' b n).flatMap f).set (5 * i + j) v = (List.range' b n).flatMap (fun x => if x = b + i then (f x).set j v else f x) := by
  intro n
  induction n with
  | zero => intro b i h; omega
  | succ n ih =>
    intro b i h
    rw [List.range'_succ, List.flatMap_cons, List.flatMap_cons]
    cases i with
    | zero =>
      rw [List.set_append_left _ _ (by rw [hf]; omega)]
      simp only [Nat.mul_zero, Nat.zero_add, Nat.add_zero, if_true]
      congr 1
      refine x_fmc _ (fun x hx => ?_)
      have h3 := List.mem_range'_1.mp hx
      rw [if_neg (by omega)]
    | succ i =>
      rw [List.set_append_right _ _ (by rw [hf]; omega), hf]
      have h1 : 5 * (i + 1) + j - 5 = 5 * i + j := by omega
      rw [h1, ih (b + 1) i (by omega), if_neg (by omega)]
      congr 1
      refine x_fmc _ (fun x hx => ?_)
      have h2 : b + 1 + i = b + (i + 1) := by omega
      rw [h2]
theorem x_cw_get (E : x_E) (ad : Nat → Nat) (ap : Nat → Nat → Nat) (S : x_S) (i j : Nat) (hj : j < 5) (hi : i < g_np S) : (cw E ad ap S)[36 + (5 * i + j)]? = (x_rt E ap S i)[j]? := by
  unfold cw
  rw [List.getElem?_append_right (by rw [x_fx_len]; omega), x_fx_len, List.range_eq_range']
  have h1 : 36 + (5 * i + j) - 36 = 5 * i + j := by omega
  rw [h1, x_fm_get _ (fun _ => rfl) j hj (g_np S) 0 i hi, Nat.zero_add]
theorem x_cw_set (E : x_E) (ad : Nat → Nat) (ap : Nat → Nat → Nat) (S S1 : x_S) (i j : Nat) (v : Nat × va_E) (hj : j < 5) (hi : i < g_np S) (hn : g_np S1 = g_np S) (hx : x_fx E ad ap S1 = x_fx E ad ap S) (h1 : x_rt E ap S1 i = (x_rt E ap S i).set j v) (h2 : ∀ x, x ≠ i → x_rt E ap S1 x = x_rt E ap S x) : (cw E ad ap S).set (36 + (5 * i + j)) v = cw E ad ap S1 := by
  unfold cw
  rw [List.set_append_right _ _ (by rw [x_fx_len]; omega), x_fx_len, List.range_eq_range', hn, hx]
  have h3 : 36 + (5 * i + j) - 36 = 5 * i + j := by omega
  rw [h3, x_fm_set _ (fun _ => rfl) j hj v (g_np S) 0 i hi, List.range_eq_range', Nat.zero_add]
  congr 1
  refine x_fmc _ (fun x _ => ?_)
  by_cases q : x = i
  · rw [if_pos q, q, h1]
  · rw [if_neg q, h2 x q]
theorem x_cw_fx (E : x_E) (ad : Nat → Nat) (ap : Nat → Nat → Nat) (S S1 : x_S) (q : Nat) (v : Nat × va_E) (hq : q < 36) (hn : g_np S1 = g_np S) (hx : (x_fx E ad ap S).set q v = x_fx E ad ap S1) (h2 : x_rt E ap S1 = x_rt E ap S) : (cw E ad ap S).set q v = cw E ad ap S1 := by
  unfold cw
  rw [List.set_append_left _ _ (by rw [x_fx_len]; exact hq), hx, hn, h2]
theorem inX0 : ∀ z ∈ u_ws RX0 TX0 4, z ∈ x_TB := by decide +kernel
theorem inX1 : ∀ z ∈ u_ws RX1 TX1 9, z ∈ x_TB := by decide +kernel
theorem inX2 : ∀ z ∈ u_ws RX2 TX2 6, z ∈ x_TB := by decide +kernel
theorem inX3 : ∀ z ∈ u_ws RX3 TX3 8, z ∈ x_TB := by decide +kernel
theorem inX4 : ∀ z ∈ u_ws RX4 TX4 12, z ∈ x_TB := by decide +kernel
theorem inX5 : ∀ z ∈ u_ws RX5 TX5 16, z ∈ x_TB := by decide +kernel
theorem inX6 : ∀ z ∈ u_ws RX6 TX6 11, z ∈ x_TB := by decide +kernel
theorem inX7 : ∀ z ∈ u_ws RX7 TX7 54, z ∈ x_TB := by decide +kernel
end
section
section
variable {p : Program} {l : Launch} {e : Env} {R : Room} {s : State} {m : MethodId} {args : Array Value} {below : List Frame} {meth : Method} {c : Code} {H : Heap} {locs : List Loc} {cells slots : Nat} {Q : State → Prop}
variable {cc : ByteArray} {nL pc : Nat} {own : String} {E : x_E} {A : Nat → Prop} {ls : Array Slot} {rest : List Value} {ad : Nat → Nat} {ap : Nat → Nat → Nat} {S : x_S} {ρ : Type} {r : ρ} {idx : Nat}
theorem gX0_0 (hC : x_C p s m args meth c cc nL own E A) (hI : x_I E A s.heap (cw E ad ap S) H locs) (hlink : Cond.fieldLink own idx RX0 (TX0 0).2.1 (TX0 0).2.2.1 ∈ x_TB) (hdg : decode cc pc = .ok (.getfield idx, 3)) (kk : W p l e R s m args below meth c H locs cells slots Q (F0 m (pc + 3) ls (.ref (ad 0) :: rest))) : W p l e R s m args below meth c H locs cells slots Q (F0 m pc ls (.ref (ad 99) :: rest)) :=
  x_get hC hI 1 0 0 rfl rfl inX0 (by decide) rfl hlink rfl hdg kk
theorem aX0_0 (hC : x_C p s m args meth c cc nL own E A) (hI : x_I E A s.heap (cw E ad ap S) H locs) {i : Int32} {k : Int32 → Option ρ} (hf : x_g (¬ (i < 0 ∨ 60 ≤ i.toNatClampNeg)) (x_let (g_ar S 0 i.toNatClampNeg) k) = some r) (hdg : decode cc pc = .ok (.iaload, 1)) (kk : ∀ v : Int32, k v = some r → W p l e R s m args below meth c H locs cells slots Q (F0 m (pc + 1) ls (.int v :: rest))) : W p l e R s m args below meth c H locs cells slots Q (F0 m pc ls (.int i :: .ref (ad 0) :: rest)) :=
  x_iald hC hI 9 rfl (x_g_eq hf).1 hdg (kk _ (x_g_eq hf).2)
theorem tX0_0 (hC : x_C p s m args meth c cc nL own E A) (hI : x_I E A s.heap (cw E ad ap S) H locs) {i x : Int32} {k : x_S → Option ρ} (hf : x_g (¬ (i < 0 ∨ 60 ≤ i.toNatClampNeg)) (x_let (s_ar S 0 i.toNatClampNeg x) k) = some r) (hdg : decode cc pc = .ok (.iastore, 1)) (kk : ∀ (S1 : x_S) (H1 : Heap) (locs1 : List Loc), x_I E A s.heap (cw E ad ap S1) H1 locs1 → k S1 = some r → W p l e R s m args below meth c H1 locs1 cells slots Q (F0 m (pc + 1) ls rest)) : W p l e R s m args below meth c H locs cells slots Q (F0 m pc ls (.int x :: .int i :: .ref (ad 0) :: rest)) :=
  x_iast hC hI 9 rfl (x_cw_fx E ad ap S (s_ar S 0 i.toNatClampNeg x) 9 _ (by decide) rfl rfl rfl) (x_g_eq hf).1 hdg (fun H1 locs1 h => kk (s_ar S 0 i.toNatClampNeg x) H1 locs1 h (x_g_eq hf).2)
theorem gX0_1 (hC : x_C p s m args meth c cc nL own E A) (hI : x_I E A s.heap (cw E ad ap S) H locs) (hlink : Cond.fieldLink own idx RX0 (TX0 1).2.1 (TX0 1).2.2.1 ∈ x_TB) (hdg : decode cc pc = .ok (.getfield idx, 3)) (kk : W p l e R s m args below meth c H locs cells slots Q (F0 m (pc + 3) ls (.ref (ad 1) :: rest))) : W p l e R s m args below meth c H locs cells slots Q (F0 m pc ls (.ref (ad 99) :: rest)) :=
  x_get hC hI 1 0 1 rfl rfl inX0 (by decide) rfl hlink rfl hdg kk
theorem aX0_1 (hC : x_C p s m args meth c cc nL own E A) (hI : x_I E A s.heap (cw E ad ap S) H locs) {i : Int32} {k : Int32 → Option ρ} (hf : x_g (¬ (i < 0 ∨ 60 ≤ i.toNatClampNeg)) (x_let (g_ar S 1 i.toNatClampNeg) k) = some r) (hdg : decode cc pc = .ok (.iaload, 1)) (kk : ∀ v : Int32, k v = some r → W p l e R s m args below meth c H locs cells slots Q (F0 m (pc + 1) ls (.int v :: rest))) : W p l e R s m args below meth c H locs cells slots Q (F0 m pc ls (.int i :: .ref (ad 1) :: rest)) :=
  x_iald hC hI 10 rfl (x_g_eq hf).1 hdg (kk _ (x_g_eq hf).2)
theorem tX0_1 (hC : x_C p s m args meth c cc nL own E A) (hI : x_I E A s.heap (cw E ad ap S) H locs) {i x : Int32} {k : x_S → Option ρ} (hf : x_g (¬ (i < 0 ∨ 60 ≤ i.toNatClampNeg)) (x_let (s_ar S 1 i.toNatClampNeg x) k) = some r) (hdg : decode cc pc = .ok (.iastore, 1)) (kk : ∀ (S1 : x_S) (H1 : Heap) (locs1 : List Loc), x_I E A s.heap (cw E ad ap S1) H1 locs1 → k S1 = some r → W p l e R s m args below meth c H1 locs1 cells slots Q (F0 m (pc + 1) ls rest)) : W p l e R s m args below meth c H locs cells slots Q (F0 m pc ls (.int x :: .int i :: .ref (ad 1) :: rest)) :=
  x_iast hC hI 10 rfl (x_cw_fx E ad ap S (s_ar S 1 i.toNatClampNeg x) 10 _ (by decide) rfl rfl rfl) (x_g_eq hf).1 hdg (fun H1 locs1 h => kk (s_ar S 1 i.toNatClampNeg x) H1 locs1 h (x_g_eq hf).2)
theorem gX0_2 (hC : x_C p s m args meth c cc nL own E A) (hI : x_I E A s.heap (cw E ad ap S) H locs) {k : Int32 → Option ρ} (hf : x_let (g_sc S 2) k = some r) (hlink : Cond.fieldLink own idx RX0 (TX0 2).2.1 (TX0 2).2.2.1 ∈ x_TB) (hdg : decode cc pc = .ok (.getfield idx, 3)) (kk : ∀ v : Int32, k v = some r → W p l e R s m args below meth c H locs cells slots Q (F0 m (pc + 3) ls (.int v :: rest))) : W p l e R s m args below meth c H locs cells slots Q (F0 m pc ls (.ref (ad 99) :: rest)) :=
  x_get hC hI 1 0 2 rfl rfl inX0 (by decide) rfl hlink rfl hdg (kk _ hf)
theorem pX0_2 (hC : x_C p s m args meth c cc nL own E A) (hI : x_I E A s.heap (cw E ad ap S) H locs) {x : Int32} {k : x_S → Option ρ} (hf : x_let (s_sc S 2 x) k = some r) (hlink : Cond.fieldLink own idx RX0 (TX0 2).2.1 (TX0 2).2.2.1 ∈ x_TB) (hdg : decode cc pc = .ok (.putfield idx, 3)) (kk : ∀ (S1 : x_S) (H1 : Heap) (locs1 : List Loc), x_I E A s.heap (cw E ad ap S1) H1 locs1 → k S1 = some r → W p l e R s m args below meth c H1 locs1 cells slots Q (F0 m (pc + 3) ls rest)) : W p l e R s m args below meth c H locs cells slots Q (F0 m pc ls (.int x :: .ref (ad 99) :: rest)) :=
  x_put hC hI 1 0 2 tyX0 tyX0_ok nmX0 rfl rfl inX0 (by decide) rfl rfl rfl rfl (Nat.le_of_ble_eq_true rfl) (x_cw_fx E ad ap S (s_sc S 2 x) 1 _ (by decide) rfl rfl rfl) hlink hdg (fun H1 locs1 h => kk (s_sc S 2 x) H1 locs1 h hf)
theorem gX0_3 (hC : x_C p s m args meth c cc nL own E A) (hI : x_I E A s.heap (cw E ad ap S) H locs) {k : Int32 → Option ρ} (hf : x_let (g_sc S 3) k = some r) (hlink : Cond.fieldLink own idx RX0 (TX0 3).2.1 (TX0 3).2.2.1 ∈ x_TB) (hdg : decode cc pc = .ok (.getfield idx, 3)) (kk : ∀ v : Int32, k v = some r → W p l e R s m args below meth c H locs cells slots Q (F0 m (pc + 3) ls (.int v :: rest))) : W p l e R s m args below meth c H locs cells slots Q (F0 m pc ls (.ref (ad 99) :: rest)) :=
  x_get hC hI 1 0 3 rfl rfl inX0 (by decide) rfl hlink rfl hdg (kk _ hf)
theorem pX0_3 (hC : x_C p s m args meth c cc nL own E A) (hI : x_I E A s.heap (cw E ad ap S) H locs) {x : Int32} {k : x_S → Option ρ} (hf : x_let (s_sc S 3 x) k = some r) (hlink : Cond.fieldLink own idx RX0 (TX0 3).2.1 (TX0 3).2.2.1 ∈ x_TB) (hdg : decode cc pc = .ok (.putfield idx, 3)) (kk : ∀ (S1 : x_S) (H1 : Heap) (locs1 : List Loc), x_I E A s.heap (cw E ad ap S1) H1 locs1 → k S1 = some r → W p l e R s m args below meth c H1 locs1 cells slots Q (F0 m (pc + 3) ls rest)) : W p l e R s m args below meth c H locs cells slots Q (F0 m pc ls (.int x :: .ref (ad 99) :: rest)) :=
  x_put hC hI 1 0 3 tyX0 tyX0_ok nmX0 rfl rfl inX0 (by decide) rfl rfl rfl rfl (Nat.le_of_ble_eq_true rfl) (x_cw_fx E ad ap S (s_sc S 3 x) 1 _ (by decide) rfl rfl rfl) hlink hdg (fun H1 locs1 h => kk (s_sc S 3 x) H1 locs1 h hf)
theorem gX1_0 (hC : x_C p s m args meth c cc nL own E A) (hI : x_I E A s.heap (cw E ad ap S) H locs) (hlink : Cond.fieldLink own idx RX1 (TX1 0).2.1 (TX1 0).2.2.1 ∈ x_TB) (hdg : decode cc pc = .ok (.getfield idx, 3)) (kk : W p l e R s m args below meth c H locs cells slots Q (F0 m (pc + 3) ls (.ref (ad 499) :: rest))) : W p l e R s m args below meth c H locs cells slots Q (F0 m pc ls (.ref (ad 199) :: rest)) :=
  x_get hC hI 2 1 0 rfl rfl inX1 (by decide) rfl hlink rfl hdg kk
theorem gX1_1 (hC : x_C p s m args meth c cc nL own E A) (hI : x_I E A s.heap (cw E ad ap S) H locs) (hlink : Cond.fieldLink own idx RX1 (TX1 1).2.1 (TX1 1).2.2.1 ∈ x_TB) (hdg : decode cc pc = .ok (.getfield idx, 3)) (kk : W p l e R s m args below meth c H locs cells slots Q (F0 m (pc + 3) ls (x_rr ap (g_rf S 101) :: rest))) : W p l e R s m args below meth c H locs cells slots Q (F0 m pc ls (.ref (ad 199) :: rest)) :=
  x_get hC hI 2 1 1 rfl rfl inX1 (by decide) rfl hlink rfl hdg kk
theorem gX1_2 (hC : x_C p s m args meth c cc nL own E A) (hI : x_I E A s.heap (cw E ad ap S) H locs) {k : Int32 → Option ρ} (hf : x_let (g_sc S 102) k = some r) (hlink : Cond.fieldLink own idx RX1 (TX1 2).2.1 (TX1 2).2.2.1 ∈ x_TB) (hdg : decode cc pc = .ok (.getfield idx, 3)) (kk : ∀ v : Int32, k v = some r → W p l e R s m args below meth c H locs cells slots Q (F0 m (pc + 3) ls (.int v :: rest))) : W p l e R s m args below meth c H locs cells slots Q (F0 m pc ls (.ref (ad 199) :: rest)) :=
  x_get hC hI 2 1 2 rfl rfl inX1 (by decide) rfl hlink rfl hdg (kk _ hf)
theorem pX1_2 (hC : x_C p s m args meth c cc nL own E A) (hI : x_I E A s.heap (cw E ad ap S) H locs) {x : Int32} {k : x_S → Option ρ} (hf : x_let (s_sc S 102 x) k = some r) (hlink : Cond.fieldLink own idx RX1 (TX1 2).2.1 (TX1 2).2.2.1 ∈ x_TB) (hdg : decode cc pc = .ok (.putfield idx, 3)) (kk : ∀ (S1 : x_S) (H1 : Heap) (locs1 : List Loc), x_I E A s.heap (cw E ad ap S1) H1 locs1 → k S1 = some r → W p l e R s m args below meth c H1 locs1 cells slots Q (F0 m (pc + 3) ls rest)) : W p l e R s m args below meth c H locs cells slots Q (F0 m pc ls (.int x :: .ref (ad 199) :: rest)) :=
  x_put hC hI 2 1 2 tyX1 tyX1_ok nmX1 rfl rfl inX1 (by decide) rfl rfl rfl rfl (Nat.le_of_ble_eq_true rfl) (x_cw_fx E ad ap S (s_sc S 102 x) 2 _ (by decide) rfl rfl rfl) hlink hdg (fun H1 locs1 h => kk (s_sc S 102 x) H1 locs1 h hf)
theorem gX1_3 (hC : x_C p s m args meth c cc nL own E A) (hI : x_I E A s.heap (cw E ad ap S) H locs) (hlink : Cond.fieldLink own idx RX1 (TX1 3).2.1 (TX1 3).2.2.1 ∈ x_TB) (hdg : decode cc pc = .ok (.getfield idx, 3)) (kk : W p l e R s m args below meth c H locs cells slots Q (F0 m (pc + 3) ls (.ref (ad 103) :: rest))) : W p l e R s m args below meth c H locs cells slots Q (F0 m pc ls (.ref (ad 199) :: rest)) :=
  x_get hC hI 2 1 3 rfl rfl inX1 (by decide) rfl hlink rfl hdg kk
theorem aX1_3 (hC : x_C p s m args meth c cc nL own E A) (hI : x_I E A s.heap (cw E ad ap S) H locs) {i : Int32} {k : Int32 → Option ρ} (hf : x_g (¬ (i < 0 ∨ 61 ≤ i.toNatClampNeg)) (x_let (g_ar S 103 i.toNatClampNeg) k) = some r) (hdg : decode cc pc = .ok (.iaload, 1)) (kk : ∀ v : Int32, k v = some r → W p l e R s m args below meth c H locs cells slots Q (F0 m (pc + 1) ls (.int v :: rest))) : W p l e R s m args below meth c H locs cells slots Q (F0 m pc ls (.int i :: .ref (ad 103) :: rest)) :=
  x_iald hC hI 11 rfl (x_g_eq hf).1 hdg (kk _ (x_g_eq hf).2)
theorem tX1_3 (hC : x_C p s m args meth c cc nL own E A) (hI : x_I E A s.heap (cw E ad ap S) H locs) {i x : Int32} {k : x_S → Option ρ} (hf : x_g (¬ (i < 0 ∨ 61 ≤ i.toNatClampNeg)) (x_let (s_ar S 103 i.toNatClampNeg x) k) = some r) (hdg : decode cc pc = .ok (.iastore, 1)) (kk : ∀ (S1 : x_S) (H1 : Heap) (locs1 : List Loc), x_I E A s.heap (cw E ad ap S1) H1 locs1 → k S1 = some r → W p l e R s m args below meth c H1 locs1 cells slots Q (F0 m (pc + 1) ls rest)) : W p l e R s m args below meth c H locs cells slots Q (F0 m pc ls (.int x :: .int i :: .ref (ad 103) :: rest)) :=
  x_iast hC hI 11 rfl (x_cw_fx E ad ap S (s_ar S 103 i.toNatClampNeg x) 11 _ (by decide) rfl rfl rfl) (x_g_eq hf).1 hdg (fun H1 locs1 h => kk (s_ar S 103 i.toNatClampNeg x) H1 locs1 h (x_g_eq hf).2)
theorem gX1_4 (hC : x_C p s m args meth c cc nL own E A) (hI : x_I E A s.heap (cw E ad ap S) H locs) (hlink : Cond.fieldLink own idx RX1 (TX1 4).2.1 (TX1 4).2.2.1 ∈ x_TB) (hdg : decode cc pc = .ok (.getfield idx, 3)) (kk : W p l e R s m args below meth c H locs cells slots Q (F0 m (pc + 3) ls (.ref (ad 104) :: rest))) : W p l e R s m args below meth c H locs cells slots Q (F0 m pc ls (.ref (ad 199) :: rest)) :=
  x_get hC hI 2 1 4 rfl rfl inX1 (by decide) rfl hlink rfl hdg kk
theorem aX1_4 (hC : x_C p s m args meth c cc nL own E A) (hI : x_I E A s.heap (cw E ad ap S) H locs) {i : Int32} {k : Int32 → Option ρ} (hf : x_g (¬ (i < 0 ∨ 61 ≤ i.toNatClampNeg)) (x_let (g_ar S 104 i.toNatClampNeg) k) = some r) (hdg : decode cc pc = .ok (.iaload, 1)) (kk : ∀ v : Int32, k v = some r → W p l e R s m args below meth c H locs cells slots Q (F0 m (pc + 1) ls (.int v :: rest))) : W p l e R s m args below meth c H locs cells slots Q (F0 m pc ls (.int i :: .ref (ad 104) :: rest)) :=
  x_iald hC hI 12 rfl (x_g_eq hf).1 hdg (kk _ (x_g_eq hf).2)
theorem tX1_4 (hC : x_C p s m args meth c cc nL own E A) (hI : x_I E A s.heap (cw E ad ap S) H locs) {i x : Int32} {k : x_S → Option ρ} (hf : x_g (¬ (i < 0 ∨ 61 ≤ i.toNatClampNeg)) (x_let (s_ar S 104 i.toNatClampNeg x) k) = some r) (hdg : decode cc pc = .ok (.iastore, 1)) (kk : ∀ (S1 : x_S) (H1 : Heap) (locs1 : List Loc), x_I E A s.heap (cw E ad ap S1) H1 locs1 → k S1 = some r → W p l e R s m args below meth c H1 locs1 cells slots Q (F0 m (pc + 1) ls rest)) : W p l e R s m args below meth c H locs cells slots Q (F0 m pc ls (.int x :: .int i :: .ref (ad 104) :: rest)) :=
  x_iast hC hI 12 rfl (x_cw_fx E ad ap S (s_ar S 104 i.toNatClampNeg x) 12 _ (by decide) rfl rfl rfl) (x_g_eq hf).1 hdg (fun H1 locs1 h => kk (s_ar S 104 i.toNatClampNeg x) H1 locs1 h (x_g_eq hf).2)
theorem gX1_5 (hC : x_C p s m args meth c cc nL own E A) (hI : x_I E A s.heap (cw E ad ap S) H locs) (hlink : Cond.fieldLink own idx RX1 (TX1 5).2.1 (TX1 5).2.2.1 ∈ x_TB) (hdg : decode cc pc = .ok (.getfield idx, 3)) (kk : W p l e R s m args below meth c H locs cells slots Q (F0 m (pc + 3) ls (.ref (ad 105) :: rest))) : W p l e R s m args below meth c H locs cells slots Q (F0 m pc ls (.ref (ad 199) :: rest)) :=
  x_get hC hI 2 1 5 rfl rfl inX1 (by decide) rfl hlink rfl hdg kk
theorem aX1_5 (hC : x_C p s m args meth c cc nL own E A) (hI : x_I E A s.heap (cw E ad ap S) H locs) {i : Int32} {k : Int32 → Option ρ} (hf : x_g (¬ (i < 0 ∨ 61 ≤ i.toNatClampNeg)) (x_let (g_ar S 105 i.toNatClampNeg) k) = some r) (hdg : decode cc pc = .ok (.iaload, 1)) (kk : ∀ v : Int32, k v = some r → W p l e R s m args below meth c H locs cells slots Q (F0 m (pc + 1) ls (.int v :: rest))) : W p l e R s m args below meth c H locs cells slots Q (F0 m pc ls (.int i :: .ref (ad 105) :: rest)) :=
  x_iald hC hI 13 rfl (x_g_eq hf).1 hdg (kk _ (x_g_eq hf).2)
theorem tX1_5 (hC : x_C p s m args meth c cc nL own E A) (hI : x_I E A s.heap (cw E ad ap S) H locs) {i x : Int32} {k : x_S → Option ρ} (hf : x_g (¬ (i < 0 ∨ 61 ≤ i.toNatClampNeg)) (x_let (s_ar S 105 i.toNatClampNeg x) k) = some r) (hdg : decode cc pc = .ok (.iastore, 1)) (kk : ∀ (S1 : x_S) (H1 : Heap) (locs1 : List Loc), x_I E A s.heap (cw E ad ap S1) H1 locs1 → k S1 = some r → W p l e R s m args below meth c H1 locs1 cells slots Q (F0 m (pc + 1) ls rest)) : W p l e R s m args below meth c H locs cells slots Q (F0 m pc ls (.int x :: .int i :: .ref (ad 105) :: rest)) :=
  x_iast hC hI 13 rfl (x_cw_fx E ad ap S (s_ar S 105 i.toNatClampNeg x) 13 _ (by decide) rfl rfl rfl) (x_g_eq hf).1 hdg (fun H1 locs1 h => kk (s_ar S 105 i.toNatClampNeg x) H1 locs1 h (x_g_eq hf).2)
theorem gX1_6 (hC : x_C p s m args meth c cc nL own E A) (hI : x_I E A s.heap (cw E ad ap S) H locs) (hlink : Cond.fieldLink own idx RX1 (TX1 6).2.1 (TX1 6).2.2.1 ∈ x_TB) (hdg : decode cc pc = .ok (.getfield idx, 3)) (kk : W p l e R s m args below meth c H locs cells slots Q (F0 m (pc + 3) ls (.ref (ad 106) :: rest))) : W p l e R s m args below meth c H locs cells slots Q (F0 m pc ls (.ref (ad 199) :: rest)) :=
  x_get hC hI 2 1 6 rfl rfl inX1 (by decide) rfl hlink rfl hdg kk
theorem aX1_6 (hC : x_C p s m args meth c cc nL own E A) (hI : x_I E A s.heap (cw E ad ap S) H locs) {i : Int32} {k : Int32 → Option ρ} (hf : x_g (¬ (i < 0 ∨ 61 ≤ i.toNatClampNeg)) (x_let (g_ar S 106 i.toNatClampNeg) k) = some r) (hdg : decode cc pc = .ok (.iaload, 1)) (kk : ∀ v : Int32, k v = some r → W p l e R s m args below meth c H locs cells slots Q (F0 m (pc + 1) ls (.int v :: rest))) : W p l e R s m args below meth c H locs cells slots Q (F0 m pc ls (.int i :: .ref (ad 106) :: rest)) :=
  x_iald hC hI 14 rfl (x_g_eq hf).1 hdg (kk _ (x_g_eq hf).2)
theorem tX1_6 (hC : x_C p s m args meth c cc nL own E A) (hI : x_I E A s.heap (cw E ad ap S) H locs) {i x : Int32} {k : x_S → Option ρ} (hf : x_g (¬ (i < 0 ∨ 61 ≤ i.toNatClampNeg)) (x_let (s_ar S 106 i.toNatClampNeg x) k) = some r) (hdg : decode cc pc = .ok (.iastore, 1)) (kk : ∀ (S1 : x_S) (H1 : Heap) (locs1 : List Loc), x_I E A s.heap (cw E ad ap S1) H1 locs1 → k S1 = some r → W p l e R s m args below meth c H1 locs1 cells slots Q (F0 m (pc + 1) ls rest)) : W p l e R s m args below meth c H locs cells slots Q (F0 m pc ls (.int x :: .int i :: .ref (ad 106) :: rest)) :=
  x_iast hC hI 14 rfl (x_cw_fx E ad ap S (s_ar S 106 i.toNatClampNeg x) 14 _ (by decide) rfl rfl rfl) (x_g_eq hf).1 hdg (fun H1 locs1 h => kk (s_ar S 106 i.toNatClampNeg x) H1 locs1 h (x_g_eq hf).2)
theorem gX1_7 (hC : x_C p s m args meth c cc nL own E A) (hI : x_I E A s.heap (cw E ad ap S) H locs) (hlink : Cond.fieldLink own idx RX1 (TX1 7).2.1 (TX1 7).2.2.1 ∈ x_TB) (hdg : decode cc pc = .ok (.getfield idx, 3)) (kk : W p l e R s m args below meth c H locs cells slots Q (F0 m (pc + 3) ls (.ref (ad 107) :: rest))) : W p l e R s m args below meth c H locs cells slots Q (F0 m pc ls (.ref (ad 199) :: rest)) :=
  x_get hC hI 2 1 7 rfl rfl inX1 (by decide) rfl hlink rfl hdg kk
theorem aX1_7 (hC : x_C p s m args meth c cc nL own E A) (hI : x_I E A s.heap (cw E ad ap S) H locs) {i : Int32} {k : Int32 → Option ρ} (hf : x_g (¬ (i < 0 ∨ 61 ≤ i.toNatClampNeg)) (x_let (g_ar S 107 i.toNatClampNeg) k) = some r) (hdg : decode cc pc = .ok (.iaload, 1)) (kk : ∀ v : Int32, k v = some r → W p l e R s m args below meth c H locs cells slots Q (F0 m (pc + 1) ls (.int v :: rest))) : W p l e R s m args below meth c H locs cells slots Q (F0 m pc ls (.int i :: .ref (ad 107) :: rest)) :=
  x_iald hC hI 15 rfl (x_g_eq hf).1 hdg (kk _ (x_g_eq hf).2)
theorem tX1_7 (hC : x_C p s m args meth c cc nL own E A) (hI : x_I E A s.heap (cw E ad ap S) H locs) {i x : Int32} {k : x_S → Option ρ} (hf : x_g (¬ (i < 0 ∨ 61 ≤ i.toNatClampNeg)) (x_let (s_ar S 107 i.toNatClampNeg x) k) = some r) (hdg : decode cc pc = .ok (.iastore, 1)) (kk : ∀ (S1 : x_S) (H1 : Heap) (locs1 : List Loc), x_I E A s.heap (cw E ad ap S1) H1 locs1 → k S1 = some r → W p l e R s m args below meth c H1 locs1 cells slots Q (F0 m (pc + 1) ls rest)) : W p l e R s m args below meth c H locs cells slots Q (F0 m pc ls (.int x :: .int i :: .ref (ad 107) :: rest)) :=
  x_iast hC hI 15 rfl (x_cw_fx E ad ap S (s_ar S 107 i.toNatClampNeg x) 15 _ (by decide) rfl rfl rfl) (x_g_eq hf).1 hdg (fun H1 locs1 h => kk (s_ar S 107 i.toNatClampNeg x) H1 locs1 h (x_g_eq hf).2)
theorem gX1_8 (hC : x_C p s m args meth c cc nL own E A) (hI : x_I E A s.heap (cw E ad ap S) H locs) (hlink : Cond.fieldLink own idx RX1 (TX1 8).2.1 (TX1 8).2.2.1 ∈ x_TB) (hdg : decode cc pc = .ok (.getfield idx, 3)) (kk : W p l e R s m args below meth c H locs cells slots Q (F0 m (pc + 3) ls (.ref (ad 108) :: rest))) : W p l e R s m args below meth c H locs cells slots Q (F0 m pc ls (.ref (ad 199) :: rest)) :=
  x_get hC hI 2 1 8 rfl rfl inX1 (by decide) rfl hlink rfl hdg kk
theorem aX1_8 (hC : x_C p s m args meth c cc nL own E A) (hI : x_I E A s.heap (cw E ad ap S) H locs) {i : Int32} {k : Int32 → Option ρ} (hf : x_g (¬ (i < 0 ∨ 61 ≤ i.toNatClampNeg)) (x_let (g_ar S 108 i.toNatClampNeg) k) = some r) (hdg : decode cc pc = .ok (.iaload, 1)) (kk : ∀ v : Int32, k v = some r → W p l e R s m args below meth c H locs cells slots Q (F0 m (pc + 1) ls (.int v :: rest))) : W p l e R s m args below meth c H locs cells slots Q (F0 m pc ls (.int i :: .ref (ad 108) :: rest)) :=
  x_iald hC hI 16 rfl (x_g_eq hf).1 hdg (kk _ (x_g_eq hf).2)
theorem tX1_8 (hC : x_C p s m args meth c cc nL own E A) (hI : x_I E A s.heap (cw E ad ap S) H locs) {i x : Int32} {k : x_S → Option ρ} (hf : x_g (¬ (i < 0 ∨ 61 ≤ i.toNatClampNeg)) (x_let (s_ar S 108 i.toNatClampNeg x) k) = some r) (hdg : decode cc pc = .ok (.iastore, 1)) (kk : ∀ (S1 : x_S) (H1 : Heap) (locs1 : List Loc), x_I E A s.heap (cw E ad ap S1) H1 locs1 → k S1 = some r → W p l e R s m args below meth c H1 locs1 cells slots Q (F0 m (pc + 1) ls rest)) : W p l e R s m args below meth c H locs cells slots Q (F0 m pc ls (.int x :: .int i :: .ref (ad 108) :: rest)) :=
  x_iast hC hI 16 rfl (x_cw_fx E ad ap S (s_ar S 108 i.toNatClampNeg x) 16 _ (by decide) rfl rfl rfl) (x_g_eq hf).1 hdg (fun H1 locs1 h => kk (s_ar S 108 i.toNatClampNeg x) H1 locs1 h (x_g_eq hf).2)
theorem gX2_0 (hC : x_C p s m args meth c cc nL own E A) (hI : x_I E A s.heap (cw E ad ap S) H locs) {i : Nat} {k : Option ρ} (hf : x_g (i < g_np S) k = some r) (hlink : Cond.fieldLink own idx RX2 (TX2 0).2.1 (TX2 0).2.2.1 ∈ x_TB) (hdg : decode cc pc = .ok (.getfield idx, 3)) (kk : k = some r → W p l e R s m args below meth c H locs cells slots Q (F0 m (pc + 3) ls (.ref (ap i 1) :: rest))) : W p l e R s m args below meth c H locs cells slots Q (F0 m pc ls (.ref (ap i 0) :: rest)) :=
  x_get hC hI (36 + (5 * i + 0)) 2 0 (x_cw_get E ad ap S i 0 (by decide) (x_g_eq hf).1) rfl inX2 (by decide) rfl hlink rfl hdg (kk (x_g_eq hf).2)
theorem aX2_0 (hC : x_C p s m args meth c cc nL own E A) (hI : x_I E A s.heap (cw E ad ap S) H locs) {i : Nat} {j : Int32} {k : Int32 → Option ρ} (hf : x_g (i < g_np S) (x_g (¬ (j < 0 ∨ 60 ≤ j.toNatClampNeg)) (x_let (g_pa S 0 i j.toNatClampNeg) k)) = some r) (hdg : decode cc pc = .ok (.iaload, 1)) (kk : ∀ v : Int32, k v = some r → W p l e R s m args below meth c H locs cells slots Q (F0 m (pc + 1) ls (.int v :: rest))) : W p l e R s m args below meth c H locs cells slots Q (F0 m pc ls (.int j :: .ref (ap i 1) :: rest)) :=
  x_iald hC hI (36 + (5 * i + 1)) (x_cw_get E ad ap S i 1 (by decide) (x_g_eq hf).1) (x_g_eq (x_g_eq hf).2).1 hdg (kk _ (x_g_eq (x_g_eq hf).2).2)
theorem tX2_0 (hC : x_C p s m args meth c cc nL own E A) (hI : x_I E A s.heap (cw E ad ap S) H locs) {i : Nat} {j x : Int32} {k : x_S → Option ρ} (hf : x_g (i < g_np S) (x_g (¬ (j < 0 ∨ 60 ≤ j.toNatClampNeg)) (x_let (s_pa S 0 i j.toNatClampNeg x) k)) = some r) (hdg : decode cc pc = .ok (.iastore, 1)) (kk : ∀ (S1 : x_S) (H1 : Heap) (locs1 : List Loc), x_I E A s.heap (cw E ad ap S1) H1 locs1 → k S1 = some r → W p l e R s m args below meth c H1 locs1 cells slots Q (F0 m (pc + 1) ls rest)) : W p l e R s m args below meth c H locs cells slots Q (F0 m pc ls (.int x :: .int j :: .ref (ap i 1) :: rest)) :=
  x_iast hC hI (36 + (5 * i + 1)) (x_cw_get E ad ap S i 1 (by decide) (x_g_eq hf).1) (x_cw_set E ad ap S (s_pa S 0 i j.toNatClampNeg x) i 1 _ (by decide) (x_g_eq hf).1 rfl rfl (by simp [x_rt, s_pa, g_ps, va_up]) (fun y hy => by simp [x_rt, s_pa, g_ps, va_up, hy])) (x_g_eq (x_g_eq hf).2).1 hdg (fun H1 locs1 h => kk (s_pa S 0 i j.toNatClampNeg x) H1 locs1 h (x_g_eq (x_g_eq hf).2).2)
theorem gX2_1 (hC : x_C p s m args meth c cc nL own E A) (hI : x_I E A s.heap (cw E ad ap S) H locs) {i : Nat} {k : Option ρ} (hf : x_g (i < g_np S) k = some r) (hlink : Cond.fieldLink own idx RX2 (TX2 1).2.1 (TX2 1).2.2.1 ∈ x_TB) (hdg : decode cc pc = .ok (.getfield idx, 3)) (kk : k = some r → W p l e R s m args below meth c H locs cells slots Q (F0 m (pc + 3) ls (.ref (ap i 2) :: rest))) : W p l e R s m args below meth c H locs cells slots Q (F0 m pc ls (.ref (ap i 0) :: rest)) :=
  x_get hC hI (36 + (5 * i + 0)) 2 1 (x_cw_get E ad ap S i 0 (by decide) (x_g_eq hf).1) rfl inX2 (by decide) rfl hlink rfl hdg (kk (x_g_eq hf).2)
theorem aX2_1 (hC : x_C p s m args meth c cc nL own E A) (hI : x_I E A s.heap (cw E ad ap S) H locs) {i : Nat} {j : Int32} {k : Int32 → Option ρ} (hf : x_g (i < g_np S) (x_g (¬ (j < 0 ∨ 60 ≤ j.toNatClampNeg)) (x_let (g_pa S 1 i j.toNatClampNeg) k)) = some r) (hdg : decode cc pc = .ok (.iaload, 1)) (kk : ∀ v : Int32, k v = some r → W p l e R s m args below meth c H locs cells slots Q (F0 m (pc + 1) ls (.int v :: rest))) : W p l e R s m args below meth c H locs cells slots Q (F0 m pc ls (.int j :: .ref (ap i 2) :: rest)) :=
  x_iald hC hI (36 + (5 * i + 2)) (x_cw_get E ad ap S i 2 (by decide) (x_g_eq hf).1) (x_g_eq (x_g_eq hf).2).1 hdg (kk _ (x_g_eq (x_g_eq hf).2).2)
theorem tX2_1 (hC : x_C p s m args meth c cc nL own E A) (hI : x_I E A s.heap (cw E ad ap S) H locs) {i : Nat} {j x : Int32} {k : x_S → Option ρ} (hf : x_g (i < g_np S) (x_g (¬ (j < 0 ∨ 60 ≤ j.toNatClampNeg)) (x_let (s_pa S 1 i j.toNatClampNeg x) k)) = some r) (hdg : decode cc pc = .ok (.iastore, 1)) (kk : ∀ (S1 : x_S) (H1 : Heap) (locs1 : List Loc), x_I E A s.heap (cw E ad ap S1) H1 locs1 → k S1 = some r → W p l e R s m args below meth c H1 locs1 cells slots Q (F0 m (pc + 1) ls rest)) : W p l e R s m args below meth c H locs cells slots Q (F0 m pc ls (.int x :: .int j :: .ref (ap i 2) :: rest)) :=
  x_iast hC hI (36 + (5 * i + 2)) (x_cw_get E ad ap S i 2 (by decide) (x_g_eq hf).1) (x_cw_set E ad ap S (s_pa S 1 i j.toNatClampNeg x) i 2 _ (by decide) (x_g_eq hf).1 rfl rfl (by simp [x_rt, s_pa, g_ps, va_up]) (fun y hy => by simp [x_rt, s_pa, g_ps, va_up, hy])) (x_g_eq (x_g_eq hf).2).1 hdg (fun H1 locs1 h => kk (s_pa S 1 i j.toNatClampNeg x) H1 locs1 h (x_g_eq (x_g_eq hf).2).2)
theorem gX2_2 (hC : x_C p s m args meth c cc nL own E A) (hI : x_I E A s.heap (cw E ad ap S) H locs) {i : Nat} {k : Option ρ} (hf : x_g (i < g_np S) k = some r) (hlink : Cond.fieldLink own idx RX2 (TX2 2).2.1 (TX2 2).2.2.1 ∈ x_TB) (hdg : decode cc pc = .ok (.getfield idx, 3)) (kk : k = some r → W p l e R s m args below meth c H locs cells slots Q (F0 m (pc + 3) ls (.ref (ap i 3) :: rest))) : W p l e R s m args below meth c H locs cells slots Q (F0 m pc ls (.ref (ap i 0) :: rest)) :=
  x_get hC hI (36 + (5 * i + 0)) 2 2 (x_cw_get E ad ap S i 0 (by decide) (x_g_eq hf).1) rfl inX2 (by decide) rfl hlink rfl hdg (kk (x_g_eq hf).2)
theorem aX2_2 (hC : x_C p s m args meth c cc nL own E A) (hI : x_I E A s.heap (cw E ad ap S) H locs) {i : Nat} {j : Int32} {k : Int32 → Option ρ} (hf : x_g (i < g_np S) (x_g (¬ (j < 0 ∨ 60 ≤ j.toNatClampNeg)) (x_let (g_pa S 2 i j.toNatClampNeg) k)) = some r) (hdg : decode cc pc = .ok (.iaload, 1)) (kk : ∀ v : Int32, k v = some r → W p l e R s m args below meth c H locs cells slots Q (F0 m (pc + 1) ls (.int v :: rest))) : W p l e R s m args below meth c H locs cells slots Q (F0 m pc ls (.int j :: .ref (ap i 3) :: rest)) :=
  x_iald hC hI (36 + (5 * i + 3)) (x_cw_get E ad ap S i 3 (by decide) (x_g_eq hf).1) (x_g_eq (x_g_eq hf).2).1 hdg (kk _ (x_g_eq (x_g_eq hf).2).2)
theorem tX2_2 (hC : x_C p s m args meth c cc nL own E A) (hI : x_I E A s.heap (cw E ad ap S) H locs) {i : Nat} {j x : Int32} {k : x_S → Option ρ} (hf : x_g (i < g_np S) (x_g (¬ (j < 0 ∨ 60 ≤ j.toNatClampNeg)) (x_let (s_pa S 2 i j.toNatClampNeg x) k)) = some r) (hdg : decode cc pc = .ok (.iastore, 1)) (kk : ∀ (S1 : x_S) (H1 : Heap) (locs1 : List Loc), x_I E A s.heap (cw E ad ap S1) H1 locs1 → k S1 = some r → W p l e R s m args below meth c H1 locs1 cells slots Q (F0 m (pc + 1) ls rest)) : W p l e R s m args below meth c H locs cells slots Q (F0 m pc ls (.int x :: .int j :: .ref (ap i 3) :: rest)) :=
  x_iast hC hI (36 + (5 * i + 3)) (x_cw_get E ad ap S i 3 (by decide) (x_g_eq hf).1) (x_cw_set E ad ap S (s_pa S 2 i j.toNatClampNeg x) i 3 _ (by decide) (x_g_eq hf).1 rfl rfl (by simp [x_rt, s_pa, g_ps, va_up]) (fun y hy => by simp [x_rt, s_pa, g_ps, va_up, hy])) (x_g_eq (x_g_eq hf).2).1 hdg (fun H1 locs1 h => kk (s_pa S 2 i j.toNatClampNeg x) H1 locs1 h (x_g_eq (x_g_eq hf).2).2)
theorem gX2_3 (hC : x_C p s m args meth c cc nL own E A) (hI : x_I E A s.heap (cw E ad ap S) H locs) {i : Nat} {k : Option ρ} (hf : x_g (i < g_np S) k = some r) (hlink : Cond.fieldLink own idx RX2 (TX2 3).2.1 (TX2 3).2.2.1 ∈ x_TB) (hdg : decode cc pc = .ok (.getfield idx, 3)) (kk : k = some r → W p l e R s m args below meth c H locs cells slots Q (F0 m (pc + 3) ls (.ref (ap i 4) :: rest))) : W p l e R s m args below meth c H locs cells slots Q (F0 m pc ls (.ref (ap i 0) :: rest)) :=
  x_get hC hI (36 + (5 * i + 0)) 2 3 (x_cw_get E ad ap S i 0 (by decide) (x_g_eq hf).1) rfl inX2 (by decide) rfl hlink rfl hdg (kk (x_g_eq hf).2)
theorem aX2_3 (hC : x_C p s m args meth c cc nL own E A) (hI : x_I E A s.heap (cw E ad ap S) H locs) {i : Nat} {j : Int32} {k : Int32 → Option ρ} (hf : x_g (i < g_np S) (x_g (¬ (j < 0 ∨ 60 ≤ j.toNatClampNeg)) (x_let (g_pa S 3 i j.toNatClampNeg) k)) = some r) (hdg : decode cc pc = .ok (.iaload, 1)) (kk : ∀ v : Int32, k v = some r → W p l e R s m args below meth c H locs cells slots Q (F0 m (pc + 1) ls (.int v :: rest))) : W p l e R s m args below meth c H locs cells slots Q (F0 m pc ls (.int j :: .ref (ap i 4) :: rest)) :=
  x_iald hC hI (36 + (5 * i + 4)) (x_cw_get E ad ap S i 4 (by decide) (x_g_eq hf).1) (x_g_eq (x_g_eq hf).2).1 hdg (kk _ (x_g_eq (x_g_eq hf).2).2)
theorem tX2_3 (hC : x_C p s m args meth c cc nL own E A) (hI : x_I E A s.heap (cw E ad ap S) H locs) {i : Nat} {j x : Int32} {k : x_S → Option ρ} (hf : x_g (i < g_np S) (x_g (¬ (j < 0 ∨ 60 ≤ j.toNatClampNeg)) (x_let (s_pa S 3 i j.toNatClampNeg x) k)) = some r) (hdg : decode cc pc = .ok (.iastore, 1)) (kk : ∀ (S1 : x_S) (H1 : Heap) (locs1 : List Loc), x_I E A s.heap (cw E ad ap S1) H1 locs1 → k S1 = some r → W p l e R s m args below meth c H1 locs1 cells slots Q (F0 m (pc + 1) ls rest)) : W p l e R s m args below meth c H locs cells slots Q (F0 m pc ls (.int x :: .int j :: .ref (ap i 4) :: rest)) :=
  x_iast hC hI (36 + (5 * i + 4)) (x_cw_get E ad ap S i 4 (by decide) (x_g_eq hf).1) (x_cw_set E ad ap S (s_pa S 3 i j.toNatClampNeg x) i 4 _ (by decide) (x_g_eq hf).1 rfl rfl (by simp [x_rt, s_pa, g_ps, va_up]) (fun y hy => by simp [x_rt, s_pa, g_ps, va_up, hy])) (x_g_eq (x_g_eq hf).2).1 hdg (fun H1 locs1 h => kk (s_pa S 3 i j.toNatClampNeg x) H1 locs1 h (x_g_eq (x_g_eq hf).2).2)
theorem gX2_4 (hC : x_C p s m args meth c cc nL own E A) (hI : x_I E A s.heap (cw E ad ap S) H locs) {i : Nat} {k : Int32 → Option ρ} (hf : x_g (i < g_np S) (x_let (g_ps S 4 i) k) = some r) (hlink : Cond.fieldLink own idx RX2 (TX2 4).2.1 (TX2 4).2.2.1 ∈ x_TB) (hdg : decode cc pc = .ok (.getfield idx, 3)) (kk : ∀ v : Int32, k v = some r → W p l e R s m args below meth c H locs cells slots Q (F0 m (pc + 3) ls (.int v :: rest))) : W p l e R s m args below meth c H locs cells slots Q (F0 m pc ls (.ref (ap i 0) :: rest)) :=
  x_get hC hI (36 + (5 * i + 0)) 2 4 (x_cw_get E ad ap S i 0 (by decide) (x_g_eq hf).1) rfl inX2 (by decide) rfl hlink rfl hdg (kk _ (x_g_eq hf).2)
theorem pX2_4 (hC : x_C p s m args meth c cc nL own E A) (hI : x_I E A s.heap (cw E ad ap S) H locs) {i : Nat} {x : Int32} {k : x_S → Option ρ} (hf : x_g (i < g_np S) (x_let (s_ps S 4 i x) k) = some r) (hlink : Cond.fieldLink own idx RX2 (TX2 4).2.1 (TX2 4).2.2.1 ∈ x_TB) (hdg : decode cc pc = .ok (.putfield idx, 3)) (kk : ∀ (S1 : x_S) (H1 : Heap) (locs1 : List Loc), x_I E A s.heap (cw E ad ap S1) H1 locs1 → k S1 = some r → W p l e R s m args below meth c H1 locs1 cells slots Q (F0 m (pc + 3) ls rest)) : W p l e R s m args below meth c H locs cells slots Q (F0 m pc ls (.int x :: .ref (ap i 0) :: rest)) :=
  x_put hC hI (36 + (5 * i + 0)) 2 4 tyX2 tyX2_ok nmX2 (x_cw_get E ad ap S i 0 (by decide) (x_g_eq hf).1) rfl inX2 (by decide) rfl rfl rfl rfl (Nat.le_of_ble_eq_true rfl) (x_cw_set E ad ap S (s_ps S 4 i x) i 0 _ (by decide) (x_g_eq hf).1 rfl rfl (by simp [x_rt, s_ps, g_ps, va_up, upd]) (fun y hy => by simp [x_rt, s_ps, g_ps, va_up, upd, hy])) hlink hdg (fun H1 locs1 h => kk (s_ps S 4 i x) H1 locs1 h (x_g_eq hf).2)
theorem gX2_5 (hC : x_C p s m args meth c cc nL own E A) (hI : x_I E A s.heap (cw E ad ap S) H locs) {i : Nat} {k : Int32 → Option ρ} (hf : x_g (i < g_np S) (x_let (g_ps S 5 i) k) = some r) (hlink : Cond.fieldLink own idx RX2 (TX2 5).2.1 (TX2 5).2.2.1 ∈ x_TB) (hdg : decode cc pc = .ok (.getfield idx, 3)) (kk : ∀ v : Int32, k v = some r → W p l e R s m args below meth c H locs cells slots Q (F0 m (pc + 3) ls (.int v :: rest))) : W p l e R s m args below meth c H locs cells slots Q (F0 m pc ls (.ref (ap i 0) :: rest)) :=
  x_get hC hI (36 + (5 * i + 0)) 2 5 (x_cw_get E ad ap S i 0 (by decide) (x_g_eq hf).1) rfl inX2 (by decide) rfl hlink rfl hdg (kk _ (x_g_eq hf).2)
theorem pX2_5 (hC : x_C p s m args meth c cc nL own E A) (hI : x_I E A s.heap (cw E ad ap S) H locs) {i : Nat} {x : Int32} {k : x_S → Option ρ} (hf : x_g (i < g_np S) (x_g (x = 0 ∨ x = 1) (x_let (s_ps S 5 i x) k)) = some r) (hlink : Cond.fieldLink own idx RX2 (TX2 5).2.1 (TX2 5).2.2.1 ∈ x_TB) (hdg : decode cc pc = .ok (.putfield idx, 3)) (kk : ∀ (S1 : x_S) (H1 : Heap) (locs1 : List Loc), x_I E A s.heap (cw E ad ap S1) H1 locs1 → k S1 = some r → W p l e R s m args below meth c H1 locs1 cells slots Q (F0 m (pc + 3) ls rest)) : W p l e R s m args below meth c H locs cells slots Q (F0 m pc ls (.int x :: .ref (ap i 0) :: rest)) :=
  x_put hC hI (36 + (5 * i + 0)) 2 5 tyX2 tyX2_ok nmX2 (x_cw_get E ad ap S i 0 (by decide) (x_g_eq hf).1) rfl inX2 (by decide) rfl rfl (x_nar1 (x_g_eq (x_g_eq hf).2).1) (x_fit1 (x_g_eq (x_g_eq hf).2).1) (Nat.le_of_ble_eq_true rfl) (x_cw_set E ad ap S (s_ps S 5 i x) i 0 _ (by decide) (x_g_eq hf).1 rfl rfl (by simp [x_rt, s_ps, g_ps, va_up, upd]) (fun y hy => by simp [x_rt, s_ps, g_ps, va_up, upd, hy])) hlink hdg (fun H1 locs1 h => kk (s_ps S 5 i x) H1 locs1 h (x_g_eq (x_g_eq hf).2).2)
theorem gX3_0 (hC : x_C p s m args meth c cc nL own E A) (hI : x_I E A s.heap (cw E ad ap S) H locs) {k : Int32 → Option ρ} (hf : x_let (g_sc S 300) k = some r) (hlink : Cond.fieldLink own idx RX3 (TX3 0).2.1 (TX3 0).2.2.1 ∈ x_TB) (hdg : decode cc pc = .ok (.getfield idx, 3)) (kk : ∀ v : Int32, k v = some r → W p l e R s m args below meth c H locs cells slots Q (F0 m (pc + 3) ls (.int v :: rest))) : W p l e R s m args below meth c H locs cells slots Q (F0 m pc ls (.ref (ad 399) :: rest)) :=
  x_get hC hI 3 3 0 rfl rfl inX3 (by decide) rfl hlink rfl hdg (kk _ hf)
theorem pX3_0 (hC : x_C p s m args meth c cc nL own E A) (hI : x_I E A s.heap (cw E ad ap S) H locs) {x : Int32} {k : x_S → Option ρ} (hf : x_let (s_sc S 300 x) k = some r) (hlink : Cond.fieldLink own idx RX3 (TX3 0).2.1 (TX3 0).2.2.1 ∈ x_TB) (hdg : decode cc pc = .ok (.putfield idx, 3)) (kk : ∀ (S1 : x_S) (H1 : Heap) (locs1 : List Loc), x_I E A s.heap (cw E ad ap S1) H1 locs1 → k S1 = some r → W p l e R s m args below meth c H1 locs1 cells slots Q (F0 m (pc + 3) ls rest)) : W p l e R s m args below meth c H locs cells slots Q (F0 m pc ls (.int x :: .ref (ad 399) :: rest)) :=
  x_put hC hI 3 3 0 tyX3 tyX3_ok nmX3 rfl rfl inX3 (by decide) rfl rfl rfl rfl (Nat.le_of_ble_eq_true rfl) (x_cw_fx E ad ap S (s_sc S 300 x) 3 _ (by decide) rfl rfl rfl) hlink hdg (fun H1 locs1 h => kk (s_sc S 300 x) H1 locs1 h hf)
theorem gX3_1 (hC : x_C p s m args meth c cc nL own E A) (hI : x_I E A s.heap (cw E ad ap S) H locs) {k : Int32 → Option ρ} (hf : x_let (g_sc S 301) k = some r) (hlink : Cond.fieldLink own idx RX3 (TX3 1).2.1 (TX3 1).2.2.1 ∈ x_TB) (hdg : decode cc pc = .ok (.getfield idx, 3)) (kk : ∀ v : Int32, k v = some r → W p l e R s m args below meth c H locs cells slots Q (F0 m (pc + 3) ls (.int v :: rest))) : W p l e R s m args below meth c H locs cells slots Q (F0 m pc ls (.ref (ad 399) :: rest)) :=
  x_get hC hI 3 3 1 rfl rfl inX3 (by decide) rfl hlink rfl hdg (kk _ hf)
theorem pX3_1 (hC : x_C p s m args meth c cc nL own E A) (hI : x_I E A s.heap (cw E ad ap S) H locs) {x : Int32} {k : x_S → Option ρ} (hf : x_let (s_sc S 301 x) k = some r) (hlink : Cond.fieldLink own idx RX3 (TX3 1).2.1 (TX3 1).2.2.1 ∈ x_TB) (hdg : decode cc pc = .ok (.putfield idx, 3)) (kk : ∀ (S1 : x_S) (H1 : Heap) (locs1 : List Loc), x_I E A s.heap (cw E ad ap S1) H1 locs1 → k S1 = some r → W p l e R s m args below meth c H1 locs1 cells slots Q (F0 m (pc + 3) ls rest)) : W p l e R s m args below meth c H locs cells slots Q (F0 m pc ls (.int x :: .ref (ad 399) :: rest)) :=
  x_put hC hI 3 3 1 tyX3 tyX3_ok nmX3 rfl rfl inX3 (by decide) rfl rfl rfl rfl (Nat.le_of_ble_eq_true rfl) (x_cw_fx E ad ap S (s_sc S 301 x) 3 _ (by decide) rfl rfl rfl) hlink hdg (fun H1 locs1 h => kk (s_sc S 301 x) H1 locs1 h hf)
theorem gX3_2 (hC : x_C p s m args meth c cc nL own E A) (hI : x_I E A s.heap (cw E ad ap S) H locs) {k : Int32 → Option ρ} (hf : x_let (g_sc S 302) k = some r) (hlink : Cond.fieldLink own idx RX3 (TX3 2).2.1 (TX3 2).2.2.1 ∈ x_TB) (hdg : decode cc pc = .ok (.getfield idx, 3)) (kk : ∀ v : Int32, k v = some r → W p l e R s m args below meth c H locs cells slots Q (F0 m (pc + 3) ls (.int v :: rest))) : W p l e R s m args below meth c H locs cells slots Q (F0 m pc ls (.ref (ad 399) :: rest)) :=
  x_get hC hI 3 3 2 rfl rfl inX3 (by decide) rfl hlink rfl hdg (kk _ hf)
theorem pX3_2 (hC : x_C p s m args meth c cc nL own E A) (hI : x_I E A s.heap (cw E ad ap S) H locs) {x : Int32} {k : x_S → Option ρ} (hf : x_let (s_sc S 302 x) k = some r) (hlink : Cond.fieldLink own idx RX3 (TX3 2).2.1 (TX3 2).2.2.1 ∈ x_TB) (hdg : decode cc pc = .ok (.putfield idx, 3)) (kk : ∀ (S1 : x_S) (H1 : Heap) (locs1 : List Loc), x_I E A s.heap (cw E ad ap S1) H1 locs1 → k S1 = some r → W p l e R s m args below meth c H1 locs1 cells slots Q (F0 m (pc + 3) ls rest)) : W p l e R s m args below meth c H locs cells slots Q (F0 m pc ls (.int x :: .ref (ad 399) :: rest)) :=
  x_put hC hI 3 3 2 tyX3 tyX3_ok nmX3 rfl rfl inX3 (by decide) rfl rfl rfl rfl (Nat.le_of_ble_eq_true rfl) (x_cw_fx E ad ap S (s_sc S 302 x) 3 _ (by decide) rfl rfl rfl) hlink hdg (fun H1 locs1 h => kk (s_sc S 302 x) H1 locs1 h hf)
theorem gX3_3 (hC : x_C p s m args meth c cc nL own E A) (hI : x_I E A s.heap (cw E ad ap S) H locs) (hlink : Cond.fieldLink own idx RX3 (TX3 3).2.1 (TX3 3).2.2.1 ∈ x_TB) (hdg : decode cc pc = .ok (.getfield idx, 3)) (kk : W p l e R s m args below meth c H locs cells slots Q (F0 m (pc + 3) ls (.ref (ad 303) :: rest))) : W p l e R s m args below meth c H locs cells slots Q (F0 m pc ls (.ref (ad 399) :: rest)) :=
  x_get hC hI 3 3 3 rfl rfl inX3 (by decide) rfl hlink rfl hdg kk
theorem aX3_3 (hC : x_C p s m args meth c cc nL own E A) (hI : x_I E A s.heap (cw E ad ap S) H locs) {i : Int32} {k : Int32 → Option ρ} (hf : x_g (¬ (i < 0 ∨ 200 ≤ i.toNatClampNeg)) (x_let (g_ar S 303 i.toNatClampNeg) k) = some r) (hdg : decode cc pc = .ok (.iaload, 1)) (kk : ∀ v : Int32, k v = some r → W p l e R s m args below meth c H locs cells slots Q (F0 m (pc + 1) ls (.int v :: rest))) : W p l e R s m args below meth c H locs cells slots Q (F0 m pc ls (.int i :: .ref (ad 303) :: rest)) :=
  x_iald hC hI 17 rfl (x_g_eq hf).1 hdg (kk _ (x_g_eq hf).2)
theorem tX3_3 (hC : x_C p s m args meth c cc nL own E A) (hI : x_I E A s.heap (cw E ad ap S) H locs) {i x : Int32} {k : x_S → Option ρ} (hf : x_g (¬ (i < 0 ∨ 200 ≤ i.toNatClampNeg)) (x_let (s_ar S 303 i.toNatClampNeg x) k) = some r) (hdg : decode cc pc = .ok (.iastore, 1)) (kk : ∀ (S1 : x_S) (H1 : Heap) (locs1 : List Loc), x_I E A s.heap (cw E ad ap S1) H1 locs1 → k S1 = some r → W p l e R s m args below meth c H1 locs1 cells slots Q (F0 m (pc + 1) ls rest)) : W p l e R s m args below meth c H locs cells slots Q (F0 m pc ls (.int x :: .int i :: .ref (ad 303) :: rest)) :=
  x_iast hC hI 17 rfl (x_cw_fx E ad ap S (s_ar S 303 i.toNatClampNeg x) 17 _ (by decide) rfl rfl rfl) (x_g_eq hf).1 hdg (fun H1 locs1 h => kk (s_ar S 303 i.toNatClampNeg x) H1 locs1 h (x_g_eq hf).2)
theorem gX3_4 (hC : x_C p s m args meth c cc nL own E A) (hI : x_I E A s.heap (cw E ad ap S) H locs) (hlink : Cond.fieldLink own idx RX3 (TX3 4).2.1 (TX3 4).2.2.1 ∈ x_TB) (hdg : decode cc pc = .ok (.getfield idx, 3)) (kk : W p l e R s m args below meth c H locs cells slots Q (F0 m (pc + 3) ls (.ref (ad 304) :: rest))) : W p l e R s m args below meth c H locs cells slots Q (F0 m pc ls (.ref (ad 399) :: rest)) :=
  x_get hC hI 3 3 4 rfl rfl inX3 (by decide) rfl hlink rfl hdg kk
theorem aX3_4 (hC : x_C p s m args meth c cc nL own E A) (hI : x_I E A s.heap (cw E ad ap S) H locs) {i : Int32} {k : Int32 → Option ρ} (hf : x_g (¬ (i < 0 ∨ 4 ≤ i.toNatClampNeg)) (x_let (g_ar S 304 i.toNatClampNeg) k) = some r) (hdg : decode cc pc = .ok (.iaload, 1)) (kk : ∀ v : Int32, k v = some r → W p l e R s m args below meth c H locs cells slots Q (F0 m (pc + 1) ls (.int v :: rest))) : W p l e R s m args below meth c H locs cells slots Q (F0 m pc ls (.int i :: .ref (ad 304) :: rest)) :=
  x_iald hC hI 18 rfl (x_g_eq hf).1 hdg (kk _ (x_g_eq hf).2)
theorem tX3_4 (hC : x_C p s m args meth c cc nL own E A) (hI : x_I E A s.heap (cw E ad ap S) H locs) {i x : Int32} {k : x_S → Option ρ} (hf : x_g (¬ (i < 0 ∨ 4 ≤ i.toNatClampNeg)) (x_let (s_ar S 304 i.toNatClampNeg x) k) = some r) (hdg : decode cc pc = .ok (.iastore, 1)) (kk : ∀ (S1 : x_S) (H1 : Heap) (locs1 : List Loc), x_I E A s.heap (cw E ad ap S1) H1 locs1 → k S1 = some r → W p l e R s m args below meth c H1 locs1 cells slots Q (F0 m (pc + 1) ls rest)) : W p l e R s m args below meth c H locs cells slots Q (F0 m pc ls (.int x :: .int i :: .ref (ad 304) :: rest)) :=
  x_iast hC hI 18 rfl (x_cw_fx E ad ap S (s_ar S 304 i.toNatClampNeg x) 18 _ (by decide) rfl rfl rfl) (x_g_eq hf).1 hdg (fun H1 locs1 h => kk (s_ar S 304 i.toNatClampNeg x) H1 locs1 h (x_g_eq hf).2)
theorem gX3_5 (hC : x_C p s m args meth c cc nL own E A) (hI : x_I E A s.heap (cw E ad ap S) H locs) {k : Int32 → Option ρ} (hf : x_let (g_sc S 305) k = some r) (hlink : Cond.fieldLink own idx RX3 (TX3 5).2.1 (TX3 5).2.2.1 ∈ x_TB) (hdg : decode cc pc = .ok (.getfield idx, 3)) (kk : ∀ v : Int32, k v = some r → W p l e R s m args below meth c H locs cells slots Q (F0 m (pc + 3) ls (.int v :: rest))) : W p l e R s m args below meth c H locs cells slots Q (F0 m pc ls (.ref (ad 399) :: rest)) :=
  x_get hC hI 3 3 5 rfl rfl inX3 (by decide) rfl hlink rfl hdg (kk _ hf)
theorem pX3_5 (hC : x_C p s m args meth c cc nL own E A) (hI : x_I E A s.heap (cw E ad ap S) H locs) {x : Int32} {k : x_S → Option ρ} (hf : x_let (s_sc S 305 x) k = some r) (hlink : Cond.fieldLink own idx RX3 (TX3 5).2.1 (TX3 5).2.2.1 ∈ x_TB) (hdg : decode cc pc = .ok (.putfield idx, 3)) (kk : ∀ (S1 : x_S) (H1 : Heap) (locs1 : List Loc), x_I E A s.heap (cw E ad ap S1) H1 locs1 → k S1 = some r → W p l e R s m args below meth c H1 locs1 cells slots Q (F0 m (pc + 3) ls rest)) : W p l e R s m args below meth c H locs cells slots Q (F0 m pc ls (.int x :: .ref (ad 399) :: rest)) :=
  x_put hC hI 3 3 5 tyX3 tyX3_ok nmX3 rfl rfl inX3 (by decide) rfl rfl rfl rfl (Nat.le_of_ble_eq_true rfl) (x_cw_fx E ad ap S (s_sc S 305 x) 3 _ (by decide) rfl rfl rfl) hlink hdg (fun H1 locs1 h => kk (s_sc S 305 x) H1 locs1 h hf)
theorem gX3_6 (hC : x_C p s m args meth c cc nL own E A) (hI : x_I E A s.heap (cw E ad ap S) H locs) (hlink : Cond.fieldLink own idx RX3 (TX3 6).2.1 (TX3 6).2.2.1 ∈ x_TB) (hdg : decode cc pc = .ok (.getfield idx, 3)) (kk : W p l e R s m args below meth c H locs cells slots Q (F0 m (pc + 3) ls (.ref (ad 306) :: rest))) : W p l e R s m args below meth c H locs cells slots Q (F0 m pc ls (.ref (ad 399) :: rest)) :=
  x_get hC hI 3 3 6 rfl rfl inX3 (by decide) rfl hlink rfl hdg kk
theorem aX3_6 (hC : x_C p s m args meth c cc nL own E A) (hI : x_I E A s.heap (cw E ad ap S) H locs) {i : Int32} {k : Option Nat → Option ρ} (hf : x_g (¬ (i < 0 ∨ 8 ≤ i.toNatClampNeg)) (x_let (g_ra S 306 i.toNatClampNeg) k) = some r) (hdg : decode cc pc = .ok (.aaload, 1)) (kk : ∀ v : Option Nat, k v = some r → W p l e R s m args below meth c H locs cells slots Q (F0 m (pc + 1) ls (x_rr ap v :: rest))) : W p l e R s m args below meth c H locs cells slots Q (F0 m pc ls (.int i :: .ref (ad 306) :: rest)) :=
  x_aald hC hI 19 rfl (x_g_eq hf).1 hdg (kk _ (x_g_eq hf).2)
theorem gX3_7 (hC : x_C p s m args meth c cc nL own E A) (hI : x_I E A s.heap (cw E ad ap S) H locs) (hlink : Cond.fieldLink own idx RX3 (TX3 7).2.1 (TX3 7).2.2.1 ∈ x_TB) (hdg : decode cc pc = .ok (.getfield idx, 3)) (kk : W p l e R s m args below meth c H locs cells slots Q (F0 m (pc + 3) ls (.ref (ad 307) :: rest))) : W p l e R s m args below meth c H locs cells slots Q (F0 m pc ls (.ref (ad 399) :: rest)) :=
  x_get hC hI 3 3 7 rfl rfl inX3 (by decide) rfl hlink rfl hdg kk
theorem aX3_7 (hC : x_C p s m args meth c cc nL own E A) (hI : x_I E A s.heap (cw E ad ap S) H locs) {i : Int32} {k : Int32 → Option ρ} (hf : x_g (¬ (i < 0 ∨ 8 ≤ i.toNatClampNeg)) (x_let (g_ar S 307 i.toNatClampNeg) k) = some r) (hdg : decode cc pc = .ok (.iaload, 1)) (kk : ∀ v : Int32, k v = some r → W p l e R s m args below meth c H locs cells slots Q (F0 m (pc + 1) ls (.int v :: rest))) : W p l e R s m args below meth c H locs cells slots Q (F0 m pc ls (.int i :: .ref (ad 307) :: rest)) :=
  x_iald hC hI 20 rfl (x_g_eq hf).1 hdg (kk _ (x_g_eq hf).2)
theorem tX3_7 (hC : x_C p s m args meth c cc nL own E A) (hI : x_I E A s.heap (cw E ad ap S) H locs) {i x : Int32} {k : x_S → Option ρ} (hf : x_g (¬ (i < 0 ∨ 8 ≤ i.toNatClampNeg)) (x_let (s_ar S 307 i.toNatClampNeg x) k) = some r) (hdg : decode cc pc = .ok (.iastore, 1)) (kk : ∀ (S1 : x_S) (H1 : Heap) (locs1 : List Loc), x_I E A s.heap (cw E ad ap S1) H1 locs1 → k S1 = some r → W p l e R s m args below meth c H1 locs1 cells slots Q (F0 m (pc + 1) ls rest)) : W p l e R s m args below meth c H locs cells slots Q (F0 m pc ls (.int x :: .int i :: .ref (ad 307) :: rest)) :=
  x_iast hC hI 20 rfl (x_cw_fx E ad ap S (s_ar S 307 i.toNatClampNeg x) 20 _ (by decide) rfl rfl rfl) (x_g_eq hf).1 hdg (fun H1 locs1 h => kk (s_ar S 307 i.toNatClampNeg x) H1 locs1 h (x_g_eq hf).2)
theorem gX4_0 (hC : x_C p s m args meth c cc nL own E A) (hI : x_I E A s.heap (cw E ad ap S) H locs) (hlink : Cond.fieldLink own idx RX4 (TX4 0).2.1 (TX4 0).2.2.1 ∈ x_TB) (hdg : decode cc pc = .ok (.getfield idx, 3)) (kk : W p l e R s m args below meth c H locs cells slots Q (F0 m (pc + 3) ls (.ref (ad 400) :: rest))) : W p l e R s m args below meth c H locs cells slots Q (F0 m pc ls (.ref (ad 499) :: rest)) :=
  x_get hC hI 4 4 0 rfl rfl inX4 (by decide) rfl hlink rfl hdg kk
theorem aX4_0 (hC : x_C p s m args meth c cc nL own E A) (hI : x_I E A s.heap (cw E ad ap S) H locs) {i : Int32} {k : Int32 → Option ρ} (hf : x_g (¬ (i < 0 ∨ 60 ≤ i.toNatClampNeg)) (x_let (g_ar S 400 i.toNatClampNeg) k) = some r) (hdg : decode cc pc = .ok (.iaload, 1)) (kk : ∀ v : Int32, k v = some r → W p l e R s m args below meth c H locs cells slots Q (F0 m (pc + 1) ls (.int v :: rest))) : W p l e R s m args below meth c H locs cells slots Q (F0 m pc ls (.int i :: .ref (ad 400) :: rest)) :=
  x_iald hC hI 21 rfl (x_g_eq hf).1 hdg (kk _ (x_g_eq hf).2)
theorem tX4_0 (hC : x_C p s m args meth c cc nL own E A) (hI : x_I E A s.heap (cw E ad ap S) H locs) {i x : Int32} {k : x_S → Option ρ} (hf : x_g (¬ (i < 0 ∨ 60 ≤ i.toNatClampNeg)) (x_let (s_ar S 400 i.toNatClampNeg x) k) = some r) (hdg : decode cc pc = .ok (.iastore, 1)) (kk : ∀ (S1 : x_S) (H1 : Heap) (locs1 : List Loc), x_I E A s.heap (cw E ad ap S1) H1 locs1 → k S1 = some r → W p l e R s m args below meth c H1 locs1 cells slots Q (F0 m (pc + 1) ls rest)) : W p l e R s m args below meth c H locs cells slots Q (F0 m pc ls (.int x :: .int i :: .ref (ad 400) :: rest)) :=
  x_iast hC hI 21 rfl (x_cw_fx E ad ap S (s_ar S 400 i.toNatClampNeg x) 21 _ (by decide) rfl rfl rfl) (x_g_eq hf).1 hdg (fun H1 locs1 h => kk (s_ar S 400 i.toNatClampNeg x) H1 locs1 h (x_g_eq hf).2)
theorem gX4_1 (hC : x_C p s m args meth c cc nL own E A) (hI : x_I E A s.heap (cw E ad ap S) H locs) (hlink : Cond.fieldLink own idx RX4 (TX4 1).2.1 (TX4 1).2.2.1 ∈ x_TB) (hdg : decode cc pc = .ok (.getfield idx, 3)) (kk : W p l e R s m args below meth c H locs cells slots Q (F0 m (pc + 3) ls (.ref (ad 401) :: rest))) : W p l e R s m args below meth c H locs cells slots Q (F0 m pc ls (.ref (ad 499) :: rest)) :=
  x_get hC hI 4 4 1 rfl rfl inX4 (by decide) rfl hlink rfl hdg kk
theorem aX4_1 (hC : x_C p s m args meth c cc nL own E A) (hI : x_I E A s.heap (cw E ad ap S) H locs) {i : Int32} {k : Int32 → Option ρ} (hf : x_g (¬ (i < 0 ∨ 60 ≤ i.toNatClampNeg)) (x_let (g_ar S 401 i.toNatClampNeg) k) = some r) (hdg : decode cc pc = .ok (.iaload, 1)) (kk : ∀ v : Int32, k v = some r → W p l e R s m args below meth c H locs cells slots Q (F0 m (pc + 1) ls (.int v :: rest))) : W p l e R s m args below meth c H locs cells slots Q (F0 m pc ls (.int i :: .ref (ad 401) :: rest)) :=
  x_iald hC hI 22 rfl (x_g_eq hf).1 hdg (kk _ (x_g_eq hf).2)
theorem tX4_1 (hC : x_C p s m args meth c cc nL own E A) (hI : x_I E A s.heap (cw E ad ap S) H locs) {i x : Int32} {k : x_S → Option ρ} (hf : x_g (¬ (i < 0 ∨ 60 ≤ i.toNatClampNeg)) (x_let (s_ar S 401 i.toNatClampNeg x) k) = some r) (hdg : decode cc pc = .ok (.iastore, 1)) (kk : ∀ (S1 : x_S) (H1 : Heap) (locs1 : List Loc), x_I E A s.heap (cw E ad ap S1) H1 locs1 → k S1 = some r → W p l e R s m args below meth c H1 locs1 cells slots Q (F0 m (pc + 1) ls rest)) : W p l e R s m args below meth c H locs cells slots Q (F0 m pc ls (.int x :: .int i :: .ref (ad 401) :: rest)) :=
  x_iast hC hI 22 rfl (x_cw_fx E ad ap S (s_ar S 401 i.toNatClampNeg x) 22 _ (by decide) rfl rfl rfl) (x_g_eq hf).1 hdg (fun H1 locs1 h => kk (s_ar S 401 i.toNatClampNeg x) H1 locs1 h (x_g_eq hf).2)
theorem gX4_2 (hC : x_C p s m args meth c cc nL own E A) (hI : x_I E A s.heap (cw E ad ap S) H locs) (hlink : Cond.fieldLink own idx RX4 (TX4 2).2.1 (TX4 2).2.2.1 ∈ x_TB) (hdg : decode cc pc = .ok (.getfield idx, 3)) (kk : W p l e R s m args below meth c H locs cells slots Q (F0 m (pc + 3) ls (.ref (ad 402) :: rest))) : W p l e R s m args below meth c H locs cells slots Q (F0 m pc ls (.ref (ad 499) :: rest)) :=
  x_get hC hI 4 4 2 rfl rfl inX4 (by decide) rfl hlink rfl hdg kk
theorem aX4_2 (hC : x_C p s m args meth c cc nL own E A) (hI : x_I E A s.heap (cw E ad ap S) H locs) {i : Int32} {k : Int32 → Option ρ} (hf : x_g (¬ (i < 0 ∨ 60 ≤ i.toNatClampNeg)) (x_let (g_ar S 402 i.toNatClampNeg) k) = some r) (hdg : decode cc pc = .ok (.iaload, 1)) (kk : ∀ v : Int32, k v = some r → W p l e R s m args below meth c H locs cells slots Q (F0 m (pc + 1) ls (.int v :: rest))) : W p l e R s m args below meth c H locs cells slots Q (F0 m pc ls (.int i :: .ref (ad 402) :: rest)) :=
  x_iald hC hI 23 rfl (x_g_eq hf).1 hdg (kk _ (x_g_eq hf).2)
theorem tX4_2 (hC : x_C p s m args meth c cc nL own E A) (hI : x_I E A s.heap (cw E ad ap S) H locs) {i x : Int32} {k : x_S → Option ρ} (hf : x_g (¬ (i < 0 ∨ 60 ≤ i.toNatClampNeg)) (x_let (s_ar S 402 i.toNatClampNeg x) k) = some r) (hdg : decode cc pc = .ok (.iastore, 1)) (kk : ∀ (S1 : x_S) (H1 : Heap) (locs1 : List Loc), x_I E A s.heap (cw E ad ap S1) H1 locs1 → k S1 = some r → W p l e R s m args below meth c H1 locs1 cells slots Q (F0 m (pc + 1) ls rest)) : W p l e R s m args below meth c H locs cells slots Q (F0 m pc ls (.int x :: .int i :: .ref (ad 402) :: rest)) :=
  x_iast hC hI 23 rfl (x_cw_fx E ad ap S (s_ar S 402 i.toNatClampNeg x) 23 _ (by decide) rfl rfl rfl) (x_g_eq hf).1 hdg (fun H1 locs1 h => kk (s_ar S 402 i.toNatClampNeg x) H1 locs1 h (x_g_eq hf).2)
theorem gX4_3 (hC : x_C p s m args meth c cc nL own E A) (hI : x_I E A s.heap (cw E ad ap S) H locs) (hlink : Cond.fieldLink own idx RX4 (TX4 3).2.1 (TX4 3).2.2.1 ∈ x_TB) (hdg : decode cc pc = .ok (.getfield idx, 3)) (kk : W p l e R s m args below meth c H locs cells slots Q (F0 m (pc + 3) ls (.ref (ad 403) :: rest))) : W p l e R s m args below meth c H locs cells slots Q (F0 m pc ls (.ref (ad 499) :: rest)) :=
  x_get hC hI 4 4 3 rfl rfl inX4 (by decide) rfl hlink rfl hdg kk
theorem aX4_3 (hC : x_C p s m args meth c cc nL own E A) (hI : x_I E A s.heap (cw E ad ap S) H locs) {i : Int32} {k : Int32 → Option ρ} (hf : x_g (¬ (i < 0 ∨ 60 ≤ i.toNatClampNeg)) (x_let (g_ar S 403 i.toNatClampNeg) k) = some r) (hdg : decode cc pc = .ok (.iaload, 1)) (kk : ∀ v : Int32, k v = some r → W p l e R s m args below meth c H locs cells slots Q (F0 m (pc + 1) ls (.int v :: rest))) : W p l e R s m args below meth c H locs cells slots Q (F0 m pc ls (.int i :: .ref (ad 403) :: rest)) :=
  x_iald hC hI 24 rfl (x_g_eq hf).1 hdg (kk _ (x_g_eq hf).2)
theorem tX4_3 (hC : x_C p s m args meth c cc nL own E A) (hI : x_I E A s.heap (cw E ad ap S) H locs) {i x : Int32} {k : x_S → Option ρ} (hf : x_g (¬ (i < 0 ∨ 60 ≤ i.toNatClampNeg)) (x_let (s_ar S 403 i.toNatClampNeg x) k) = some r) (hdg : decode cc pc = .ok (.iastore, 1)) (kk : ∀ (S1 : x_S) (H1 : Heap) (locs1 : List Loc), x_I E A s.heap (cw E ad ap S1) H1 locs1 → k S1 = some r → W p l e R s m args below meth c H1 locs1 cells slots Q (F0 m (pc + 1) ls rest)) : W p l e R s m args below meth c H locs cells slots Q (F0 m pc ls (.int x :: .int i :: .ref (ad 403) :: rest)) :=
  x_iast hC hI 24 rfl (x_cw_fx E ad ap S (s_ar S 403 i.toNatClampNeg x) 24 _ (by decide) rfl rfl rfl) (x_g_eq hf).1 hdg (fun H1 locs1 h => kk (s_ar S 403 i.toNatClampNeg x) H1 locs1 h (x_g_eq hf).2)
theorem gX4_4 (hC : x_C p s m args meth c cc nL own E A) (hI : x_I E A s.heap (cw E ad ap S) H locs) (hlink : Cond.fieldLink own idx RX4 (TX4 4).2.1 (TX4 4).2.2.1 ∈ x_TB) (hdg : decode cc pc = .ok (.getfield idx, 3)) (kk : W p l e R s m args below meth c H locs cells slots Q (F0 m (pc + 3) ls (.ref (ad 404) :: rest))) : W p l e R s m args below meth c H locs cells slots Q (F0 m pc ls (.ref (ad 499) :: rest)) :=
  x_get hC hI 4 4 4 rfl rfl inX4 (by decide) rfl hlink rfl hdg kk
theorem aX4_4 (hC : x_C p s m args meth c cc nL own E A) (hI : x_I E A s.heap (cw E ad ap S) H locs) {i : Int32} {k : Int32 → Option ρ} (hf : x_g (¬ (i < 0 ∨ 60 ≤ i.toNatClampNeg)) (x_let (g_ar S 404 i.toNatClampNeg) k) = some r) (hdg : decode cc pc = .ok (.iaload, 1)) (kk : ∀ v : Int32, k v = some r → W p l e R s m args below meth c H locs cells slots Q (F0 m (pc + 1) ls (.int v :: rest))) : W p l e R s m args below meth c H locs cells slots Q (F0 m pc ls (.int i :: .ref (ad 404) :: rest)) :=
  x_iald hC hI 25 rfl (x_g_eq hf).1 hdg (kk _ (x_g_eq hf).2)
theorem tX4_4 (hC : x_C p s m args meth c cc nL own E A) (hI : x_I E A s.heap (cw E ad ap S) H locs) {i x : Int32} {k : x_S → Option ρ} (hf : x_g (¬ (i < 0 ∨ 60 ≤ i.toNatClampNeg)) (x_let (s_ar S 404 i.toNatClampNeg x) k) = some r) (hdg : decode cc pc = .ok (.iastore, 1)) (kk : ∀ (S1 : x_S) (H1 : Heap) (locs1 : List Loc), x_I E A s.heap (cw E ad ap S1) H1 locs1 → k S1 = some r → W p l e R s m args below meth c H1 locs1 cells slots Q (F0 m (pc + 1) ls rest)) : W p l e R s m args below meth c H locs cells slots Q (F0 m pc ls (.int x :: .int i :: .ref (ad 404) :: rest)) :=
  x_iast hC hI 25 rfl (x_cw_fx E ad ap S (s_ar S 404 i.toNatClampNeg x) 25 _ (by decide) rfl rfl rfl) (x_g_eq hf).1 hdg (fun H1 locs1 h => kk (s_ar S 404 i.toNatClampNeg x) H1 locs1 h (x_g_eq hf).2)
theorem gX4_5 (hC : x_C p s m args meth c cc nL own E A) (hI : x_I E A s.heap (cw E ad ap S) H locs) (hlink : Cond.fieldLink own idx RX4 (TX4 5).2.1 (TX4 5).2.2.1 ∈ x_TB) (hdg : decode cc pc = .ok (.getfield idx, 3)) (kk : W p l e R s m args below meth c H locs cells slots Q (F0 m (pc + 3) ls (.ref (ad 405) :: rest))) : W p l e R s m args below meth c H locs cells slots Q (F0 m pc ls (.ref (ad 499) :: rest)) :=
  x_get hC hI 4 4 5 rfl rfl inX4 (by decide) rfl hlink rfl hdg kk
theorem aX4_5 (hC : x_C p s m args meth c cc nL own E A) (hI : x_I E A s.heap (cw E ad ap S) H locs) {i : Int32} {k : Int32 → Option ρ} (hf : x_g (¬ (i < 0 ∨ 60 ≤ i.toNatClampNeg)) (x_let (g_ar S 405 i.toNatClampNeg) k) = some r) (hdg : decode cc pc = .ok (.iaload, 1)) (kk : ∀ v : Int32, k v = some r → W p l e R s m args below meth c H locs cells slots Q (F0 m (pc + 1) ls (.int v :: rest))) : W p l e R s m args below meth c H locs cells slots Q (F0 m pc ls (.int i :: .ref (ad 405) :: rest)) :=
  x_iald hC hI 26 rfl (x_g_eq hf).1 hdg (kk _ (x_g_eq hf).2)
theorem tX4_5 (hC : x_C p s m args meth c cc nL own E A) (hI : x_I E A s.heap (cw E ad ap S) H locs) {i x : Int32} {k : x_S → Option ρ} (hf : x_g (¬ (i < 0 ∨ 60 ≤ i.toNatClampNeg)) (x_let (s_ar S 405 i.toNatClampNeg x) k) = some r) (hdg : decode cc pc = .ok (.iastore, 1)) (kk : ∀ (S1 : x_S) (H1 : Heap) (locs1 : List Loc), x_I E A s.heap (cw E ad ap S1) H1 locs1 → k S1 = some r → W p l e R s m args below meth c H1 locs1 cells slots Q (F0 m (pc + 1) ls rest)) : W p l e R s m args below meth c H locs cells slots Q (F0 m pc ls (.int x :: .int i :: .ref (ad 405) :: rest)) :=
  x_iast hC hI 26 rfl (x_cw_fx E ad ap S (s_ar S 405 i.toNatClampNeg x) 26 _ (by decide) rfl rfl rfl) (x_g_eq hf).1 hdg (fun H1 locs1 h => kk (s_ar S 405 i.toNatClampNeg x) H1 locs1 h (x_g_eq hf).2)
theorem gX4_6 (hC : x_C p s m args meth c cc nL own E A) (hI : x_I E A s.heap (cw E ad ap S) H locs) (hlink : Cond.fieldLink own idx RX4 (TX4 6).2.1 (TX4 6).2.2.1 ∈ x_TB) (hdg : decode cc pc = .ok (.getfield idx, 3)) (kk : W p l e R s m args below meth c H locs cells slots Q (F0 m (pc + 3) ls (.ref (ad 406) :: rest))) : W p l e R s m args below meth c H locs cells slots Q (F0 m pc ls (.ref (ad 499) :: rest)) :=
  x_get hC hI 4 4 6 rfl rfl inX4 (by decide) rfl hlink rfl hdg kk
theorem aX4_6 (hC : x_C p s m args meth c cc nL own E A) (hI : x_I E A s.heap (cw E ad ap S) H locs) {i : Int32} {k : Int32 → Option ρ} (hf : x_g (¬ (i < 0 ∨ 60 ≤ i.toNatClampNeg)) (x_let (g_ar S 406 i.toNatClampNeg) k) = some r) (hdg : decode cc pc = .ok (.iaload, 1)) (kk : ∀ v : Int32, k v = some r → W p l e R s m args below meth c H locs cells slots Q (F0 m (pc + 1) ls (.int v :: rest))) : W p l e R s m args below meth c H locs cells slots Q (F0 m pc ls (.int i :: .ref (ad 406) :: rest)) :=
  x_iald hC hI 27 rfl (x_g_eq hf).1 hdg (kk _ (x_g_eq hf).2)
theorem tX4_6 (hC : x_C p s m args meth c cc nL own E A) (hI : x_I E A s.heap (cw E ad ap S) H locs) {i x : Int32} {k : x_S → Option ρ} (hf : x_g (¬ (i < 0 ∨ 60 ≤ i.toNatClampNeg)) (x_let (s_ar S 406 i.toNatClampNeg x) k) = some r) (hdg : decode cc pc = .ok (.iastore, 1)) (kk : ∀ (S1 : x_S) (H1 : Heap) (locs1 : List Loc), x_I E A s.heap (cw E ad ap S1) H1 locs1 → k S1 = some r → W p l e R s m args below meth c H1 locs1 cells slots Q (F0 m (pc + 1) ls rest)) : W p l e R s m args below meth c H locs cells slots Q (F0 m pc ls (.int x :: .int i :: .ref (ad 406) :: rest)) :=
  x_iast hC hI 27 rfl (x_cw_fx E ad ap S (s_ar S 406 i.toNatClampNeg x) 27 _ (by decide) rfl rfl rfl) (x_g_eq hf).1 hdg (fun H1 locs1 h => kk (s_ar S 406 i.toNatClampNeg x) H1 locs1 h (x_g_eq hf).2)
theorem gX4_7 (hC : x_C p s m args meth c cc nL own E A) (hI : x_I E A s.heap (cw E ad ap S) H locs) (hlink : Cond.fieldLink own idx RX4 (TX4 7).2.1 (TX4 7).2.2.1 ∈ x_TB) (hdg : decode cc pc = .ok (.getfield idx, 3)) (kk : W p l e R s m args below meth c H locs cells slots Q (F0 m (pc + 3) ls (.ref (ad 407) :: rest))) : W p l e R s m args below meth c H locs cells slots Q (F0 m pc ls (.ref (ad 499) :: rest)) :=
  x_get hC hI 4 4 7 rfl rfl inX4 (by decide) rfl hlink rfl hdg kk
theorem aX4_7 (hC : x_C p s m args meth c cc nL own E A) (hI : x_I E A s.heap (cw E ad ap S) H locs) {i : Int32} {k : Int32 → Option ρ} (hf : x_g (¬ (i < 0 ∨ 241 ≤ i.toNatClampNeg)) (x_let (g_ar S 407 i.toNatClampNeg) k) = some r) (hdg : decode cc pc = .ok (.iaload, 1)) (kk : ∀ v : Int32, k v = some r → W p l e R s m args below meth c H locs cells slots Q (F0 m (pc + 1) ls (.int v :: rest))) : W p l e R s m args below meth c H locs cells slots Q (F0 m pc ls (.int i :: .ref (ad 407) :: rest)) :=
  x_iald hC hI 28 rfl (x_g_eq hf).1 hdg (kk _ (x_g_eq hf).2)
theorem tX4_7 (hC : x_C p s m args meth c cc nL own E A) (hI : x_I E A s.heap (cw E ad ap S) H locs) {i x : Int32} {k : x_S → Option ρ} (hf : x_g (¬ (i < 0 ∨ 241 ≤ i.toNatClampNeg)) (x_let (s_ar S 407 i.toNatClampNeg x) k) = some r) (hdg : decode cc pc = .ok (.iastore, 1)) (kk : ∀ (S1 : x_S) (H1 : Heap) (locs1 : List Loc), x_I E A s.heap (cw E ad ap S1) H1 locs1 → k S1 = some r → W p l e R s m args below meth c H1 locs1 cells slots Q (F0 m (pc + 1) ls rest)) : W p l e R s m args below meth c H locs cells slots Q (F0 m pc ls (.int x :: .int i :: .ref (ad 407) :: rest)) :=
  x_iast hC hI 28 rfl (x_cw_fx E ad ap S (s_ar S 407 i.toNatClampNeg x) 28 _ (by decide) rfl rfl rfl) (x_g_eq hf).1 hdg (fun H1 locs1 h => kk (s_ar S 407 i.toNatClampNeg x) H1 locs1 h (x_g_eq hf).2)
theorem gX4_8 (hC : x_C p s m args meth c cc nL own E A) (hI : x_I E A s.heap (cw E ad ap S) H locs) {k : Int32 → Option ρ} (hf : x_let (g_sc S 408) k = some r) (hlink : Cond.fieldLink own idx RX4 (TX4 8).2.1 (TX4 8).2.2.1 ∈ x_TB) (hdg : decode cc pc = .ok (.getfield idx, 3)) (kk : ∀ v : Int32, k v = some r → W p l e R s m args below meth c H locs cells slots Q (F0 m (pc + 3) ls (.int v :: rest))) : W p l e R s m args below meth c H locs cells slots Q (F0 m pc ls (.ref (ad 499) :: rest)) :=
  x_get hC hI 4 4 8 rfl rfl inX4 (by decide) rfl hlink rfl hdg (kk _ hf)
theorem pX4_8 (hC : x_C p s m args meth c cc nL own E A) (hI : x_I E A s.heap (cw E ad ap S) H locs) {x : Int32} {k : x_S → Option ρ} (hf : x_let (s_sc S 408 x) k = some r) (hlink : Cond.fieldLink own idx RX4 (TX4 8).2.1 (TX4 8).2.2.1 ∈ x_TB) (hdg : decode cc pc = .ok (.putfield idx, 3)) (kk : ∀ (S1 : x_S) (H1 : Heap) (locs1 : List Loc), x_I E A s.heap (cw E ad ap S1) H1 locs1 → k S1 = some r → W p l e R s m args below meth c H1 locs1 cells slots Q (F0 m (pc + 3) ls rest)) : W p l e R s m args below meth c H locs cells slots Q (F0 m pc ls (.int x :: .ref (ad 499) :: rest)) :=
  x_put hC hI 4 4 8 tyX4 tyX4_ok nmX4 rfl rfl inX4 (by decide) rfl rfl rfl rfl (Nat.le_of_ble_eq_true rfl) (x_cw_fx E ad ap S (s_sc S 408 x) 4 _ (by decide) rfl rfl rfl) hlink hdg (fun H1 locs1 h => kk (s_sc S 408 x) H1 locs1 h hf)
theorem gX4_9 (hC : x_C p s m args meth c cc nL own E A) (hI : x_I E A s.heap (cw E ad ap S) H locs) {k : Int32 → Option ρ} (hf : x_let (g_sc S 409) k = some r) (hlink : Cond.fieldLink own idx RX4 (TX4 9).2.1 (TX4 9).2.2.1 ∈ x_TB) (hdg : decode cc pc = .ok (.getfield idx, 3)) (kk : ∀ v : Int32, k v = some r → W p l e R s m args below meth c H locs cells slots Q (F0 m (pc + 3) ls (.int v :: rest))) : W p l e R s m args below meth c H locs cells slots Q (F0 m pc ls (.ref (ad 499) :: rest)) :=
  x_get hC hI 4 4 9 rfl rfl inX4 (by decide) rfl hlink rfl hdg (kk _ hf)
theorem pX4_9 (hC : x_C p s m args meth c cc nL own E A) (hI : x_I E A s.heap (cw E ad ap S) H locs) {x : Int32} {k : x_S → Option ρ} (hf : x_let (s_sc S 409 x) k = some r) (hlink : Cond.fieldLink own idx RX4 (TX4 9).2.1 (TX4 9).2.2.1 ∈ x_TB) (hdg : decode cc pc = .ok (.putfield idx, 3)) (kk : ∀ (S1 : x_S) (H1 : Heap) (locs1 : List Loc), x_I E A s.heap (cw E ad ap S1) H1 locs1 → k S1 = some r → W p l e R s m args below meth c H1 locs1 cells slots Q (F0 m (pc + 3) ls rest)) : W p l e R s m args below meth c H locs cells slots Q (F0 m pc ls (.int x :: .ref (ad 499) :: rest)) :=
  x_put hC hI 4 4 9 tyX4 tyX4_ok nmX4 rfl rfl inX4 (by decide) rfl rfl rfl rfl (Nat.le_of_ble_eq_true rfl) (x_cw_fx E ad ap S (s_sc S 409 x) 4 _ (by decide) rfl rfl rfl) hlink hdg (fun H1 locs1 h => kk (s_sc S 409 x) H1 locs1 h hf)
theorem gX4_10 (hC : x_C p s m args meth c cc nL own E A) (hI : x_I E A s.heap (cw E ad ap S) H locs) {k : Int32 → Option ρ} (hf : x_let (g_sc S 410) k = some r) (hlink : Cond.fieldLink own idx RX4 (TX4 10).2.1 (TX4 10).2.2.1 ∈ x_TB) (hdg : decode cc pc = .ok (.getfield idx, 3)) (kk : ∀ v : Int32, k v = some r → W p l e R s m args below meth c H locs cells slots Q (F0 m (pc + 3) ls (.int v :: rest))) : W p l e R s m args below meth c H locs cells slots Q (F0 m pc ls (.ref (ad 499) :: rest)) :=
  x_get hC hI 4 4 10 rfl rfl inX4 (by decide) rfl hlink rfl hdg (kk _ hf)
theorem pX4_10 (hC : x_C p s m args meth c cc nL own E A) (hI : x_I E A s.heap (cw E ad ap S) H locs) {x : Int32} {k : x_S → Option ρ} (hf : x_let (s_sc S 410 x) k = some r) (hlink : Cond.fieldLink own idx RX4 (TX4 10).2.1 (TX4 10).2.2.1 ∈ x_TB) (hdg : decode cc pc = .ok (.putfield idx, 3)) (kk : ∀ (S1 : x_S) (H1 : Heap) (locs1 : List Loc), x_I E A s.heap (cw E ad ap S1) H1 locs1 → k S1 = some r → W p l e R s m args below meth c H1 locs1 cells slots Q (F0 m (pc + 3) ls rest)) : W p l e R s m args below meth c H locs cells slots Q (F0 m pc ls (.int x :: .ref (ad 499) :: rest)) :=
  x_put hC hI 4 4 10 tyX4 tyX4_ok nmX4 rfl rfl inX4 (by decide) rfl rfl rfl rfl (Nat.le_of_ble_eq_true rfl) (x_cw_fx E ad ap S (s_sc S 410 x) 4 _ (by decide) rfl rfl rfl) hlink hdg (fun H1 locs1 h => kk (s_sc S 410 x) H1 locs1 h hf)
theorem gX4_11 (hC : x_C p s m args meth c cc nL own E A) (hI : x_I E A s.heap (cw E ad ap S) H locs) {k : Int32 → Option ρ} (hf : x_let (g_sc S 411) k = some r) (hlink : Cond.fieldLink own idx RX4 (TX4 11).2.1 (TX4 11).2.2.1 ∈ x_TB) (hdg : decode cc pc = .ok (.getfield idx, 3)) (kk : ∀ v : Int32, k v = some r → W p l e R s m args below meth c H locs cells slots Q (F0 m (pc + 3) ls (.int v :: rest))) : W p l e R s m args below meth c H locs cells slots Q (F0 m pc ls (.ref (ad 499) :: rest)) :=
  x_get hC hI 4 4 11 rfl rfl inX4 (by decide) rfl hlink rfl hdg (kk _ hf)
theorem pX4_11 (hC : x_C p s m args meth c cc nL own E A) (hI : x_I E A s.heap (cw E ad ap S) H locs) {x : Int32} {k : x_S → Option ρ} (hf : x_let (s_sc S 411 x) k = some r) (hlink : Cond.fieldLink own idx RX4 (TX4 11).2.1 (TX4 11).2.2.1 ∈ x_TB) (hdg : decode cc pc = .ok (.putfield idx, 3)) (kk : ∀ (S1 : x_S) (H1 : Heap) (locs1 : List Loc), x_I E A s.heap (cw E ad ap S1) H1 locs1 → k S1 = some r → W p l e R s m args below meth c H1 locs1 cells slots Q (F0 m (pc + 3) ls rest)) : W p l e R s m args below meth c H locs cells slots Q (F0 m pc ls (.int x :: .ref (ad 499) :: rest)) :=
  x_put hC hI 4 4 11 tyX4 tyX4_ok nmX4 rfl rfl inX4 (by decide) rfl rfl rfl rfl (Nat.le_of_ble_eq_true rfl) (x_cw_fx E ad ap S (s_sc S 411 x) 4 _ (by decide) rfl rfl rfl) hlink hdg (fun H1 locs1 h => kk (s_sc S 411 x) H1 locs1 h hf)
theorem gX5_0 (hC : x_C p s m args meth c cc nL own E A) (hI : x_I E A s.heap (cw E ad ap S) H locs) (hlink : Cond.fieldLink own idx RX5 (TX5 0).2.1 (TX5 0).2.2.1 ∈ x_TB) (hdg : decode cc pc = .ok (.getfield idx, 3)) (kk : W p l e R s m args below meth c H locs cells slots Q (F0 m (pc + 3) ls (.ref (ap 0 0) :: rest))) : W p l e R s m args below meth c H locs cells slots Q (F0 m pc ls (.ref (ad 599) :: rest)) :=
  x_get hC hI 5 5 0 rfl rfl inX5 (by decide) rfl hlink rfl hdg kk
theorem gX5_1 (hC : x_C p s m args meth c cc nL own E A) (hI : x_I E A s.heap (cw E ad ap S) H locs) {k : Int32 → Option ρ} (hf : x_let (g_sc S 501) k = some r) (hlink : Cond.fieldLink own idx RX5 (TX5 1).2.1 (TX5 1).2.2.1 ∈ x_TB) (hdg : decode cc pc = .ok (.getfield idx, 3)) (kk : ∀ v : Int32, k v = some r → W p l e R s m args below meth c H locs cells slots Q (F0 m (pc + 3) ls (.int v :: rest))) : W p l e R s m args below meth c H locs cells slots Q (F0 m pc ls (.ref (ad 599) :: rest)) :=
  x_get hC hI 5 5 1 rfl rfl inX5 (by decide) rfl hlink rfl hdg (kk _ hf)
theorem pX5_1 (hC : x_C p s m args meth c cc nL own E A) (hI : x_I E A s.heap (cw E ad ap S) H locs) {x : Int32} {k : x_S → Option ρ} (hf : x_let (s_sc S 501 x) k = some r) (hlink : Cond.fieldLink own idx RX5 (TX5 1).2.1 (TX5 1).2.2.1 ∈ x_TB) (hdg : decode cc pc = .ok (.putfield idx, 3)) (kk : ∀ (S1 : x_S) (H1 : Heap) (locs1 : List Loc), x_I E A s.heap (cw E ad ap S1) H1 locs1 → k S1 = some r → W p l e R s m args below meth c H1 locs1 cells slots Q (F0 m (pc + 3) ls rest)) : W p l e R s m args below meth c H locs cells slots Q (F0 m pc ls (.int x :: .ref (ad 599) :: rest)) :=
  x_put hC hI 5 5 1 tyX5 tyX5_ok nmX5 rfl rfl inX5 (by decide) rfl rfl rfl rfl (Nat.le_of_ble_eq_true rfl) (x_cw_fx E ad ap S (s_sc S 501 x) 5 _ (by decide) rfl rfl rfl) hlink hdg (fun H1 locs1 h => kk (s_sc S 501 x) H1 locs1 h hf)
theorem gX5_2 (hC : x_C p s m args meth c cc nL own E A) (hI : x_I E A s.heap (cw E ad ap S) H locs) (hlink : Cond.fieldLink own idx RX5 (TX5 2).2.1 (TX5 2).2.2.1 ∈ x_TB) (hdg : decode cc pc = .ok (.getfield idx, 3)) (kk : W p l e R s m args below meth c H locs cells slots Q (F0 m (pc + 3) ls (x_nr ad (g_rf S 502) :: rest))) : W p l e R s m args below meth c H locs cells slots Q (F0 m pc ls (.ref (ad 599) :: rest)) :=
  x_get hC hI 5 5 2 rfl rfl inX5 (by decide) rfl hlink rfl hdg kk
theorem gX5_3 (hC : x_C p s m args meth c cc nL own E A) (hI : x_I E A s.heap (cw E ad ap S) H locs) {k : Int32 → Option ρ} (hf : x_let (g_sc S 503) k = some r) (hlink : Cond.fieldLink own idx RX5 (TX5 3).2.1 (TX5 3).2.2.1 ∈ x_TB) (hdg : decode cc pc = .ok (.getfield idx, 3)) (kk : ∀ v : Int32, k v = some r → W p l e R s m args below meth c H locs cells slots Q (F0 m (pc + 3) ls (.int v :: rest))) : W p l e R s m args below meth c H locs cells slots Q (F0 m pc ls (.ref (ad 599) :: rest)) :=
  x_get hC hI 5 5 3 rfl rfl inX5 (by decide) rfl hlink rfl hdg (kk _ hf)
theorem pX5_3 (hC : x_C p s m args meth c cc nL own E A) (hI : x_I E A s.heap (cw E ad ap S) H locs) {x : Int32} {k : x_S → Option ρ} (hf : x_let (s_sc S 503 x) k = some r) (hlink : Cond.fieldLink own idx RX5 (TX5 3).2.1 (TX5 3).2.2.1 ∈ x_TB) (hdg : decode cc pc = .ok (.putfield idx, 3)) (kk : ∀ (S1 : x_S) (H1 : Heap) (locs1 : List Loc), x_I E A s.heap (cw E ad ap S1) H1 locs1 → k S1 = some r → W p l e R s m args below meth c H1 locs1 cells slots Q (F0 m (pc + 3) ls rest)) : W p l e R s m args below meth c H locs cells slots Q (F0 m pc ls (.int x :: .ref (ad 599) :: rest)) :=
  x_put hC hI 5 5 3 tyX5 tyX5_ok nmX5 rfl rfl inX5 (by decide) rfl rfl rfl rfl (Nat.le_of_ble_eq_true rfl) (x_cw_fx E ad ap S (s_sc S 503 x) 5 _ (by decide) rfl rfl rfl) hlink hdg (fun H1 locs1 h => kk (s_sc S 503 x) H1 locs1 h hf)
theorem gX5_4 (hC : x_C p s m args meth c cc nL own E A) (hI : x_I E A s.heap (cw E ad ap S) H locs) {k : Int32 → Option ρ} (hf : x_let (g_sc S 504) k = some r) (hlink : Cond.fieldLink own idx RX5 (TX5 4).2.1 (TX5 4).2.2.1 ∈ x_TB) (hdg : decode cc pc = .ok (.getfield idx, 3)) (kk : ∀ v : Int32, k v = some r → W p l e R s m args below meth c H locs cells slots Q (F0 m (pc + 3) ls (.int v :: rest))) : W p l e R s m args below meth c H locs cells slots Q (F0 m pc ls (.ref (ad 599) :: rest)) :=
  x_get hC hI 5 5 4 rfl rfl inX5 (by decide) rfl hlink rfl hdg (kk _ hf)
theorem pX5_4 (hC : x_C p s m args meth c cc nL own E A) (hI : x_I E A s.heap (cw E ad ap S) H locs) {x : Int32} {k : x_S → Option ρ} (hf : x_let (s_sc S 504 x) k = some r) (hlink : Cond.fieldLink own idx RX5 (TX5 4).2.1 (TX5 4).2.2.1 ∈ x_TB) (hdg : decode cc pc = .ok (.putfield idx, 3)) (kk : ∀ (S1 : x_S) (H1 : Heap) (locs1 : List Loc), x_I E A s.heap (cw E ad ap S1) H1 locs1 → k S1 = some r → W p l e R s m args below meth c H1 locs1 cells slots Q (F0 m (pc + 3) ls rest)) : W p l e R s m args below meth c H locs cells slots Q (F0 m pc ls (.int x :: .ref (ad 599) :: rest)) :=
  x_put hC hI 5 5 4 tyX5 tyX5_ok nmX5 rfl rfl inX5 (by decide) rfl rfl rfl rfl (Nat.le_of_ble_eq_true rfl) (x_cw_fx E ad ap S (s_sc S 504 x) 5 _ (by decide) rfl rfl rfl) hlink hdg (fun H1 locs1 h => kk (s_sc S 504 x) H1 locs1 h hf)
theorem gX5_5 (hC : x_C p s m args meth c cc nL own E A) (hI : x_I E A s.heap (cw E ad ap S) H locs) {k : Int32 → Option ρ} (hf : x_let (g_sc S 505) k = some r) (hlink : Cond.fieldLink own idx RX5 (TX5 5).2.1 (TX5 5).2.2.1 ∈ x_TB) (hdg : decode cc pc = .ok (.getfield idx, 3)) (kk : ∀ v : Int32, k v = some r → W p l e R s m args below meth c H locs cells slots Q (F0 m (pc + 3) ls (.int v :: rest))) : W p l e R s m args below meth c H locs cells slots Q (F0 m pc ls (.ref (ad 599) :: rest)) :=
  x_get hC hI 5 5 5 rfl rfl inX5 (by decide) rfl hlink rfl hdg (kk _ hf)
theorem pX5_5 (hC : x_C p s m args meth c cc nL own E A) (hI : x_I E A s.heap (cw E ad ap S) H locs) {x : Int32} {k : x_S → Option ρ} (hf : x_let (s_sc S 505 x) k = some r) (hlink : Cond.fieldLink own idx RX5 (TX5 5).2.1 (TX5 5).2.2.1 ∈ x_TB) (hdg : decode cc pc = .ok (.putfield idx, 3)) (kk : ∀ (S1 : x_S) (H1 : Heap) (locs1 : List Loc), x_I E A s.heap (cw E ad ap S1) H1 locs1 → k S1 = some r → W p l e R s m args below meth c H1 locs1 cells slots Q (F0 m (pc + 3) ls rest)) : W p l e R s m args below meth c H locs cells slots Q (F0 m pc ls (.int x :: .ref (ad 599) :: rest)) :=
  x_put hC hI 5 5 5 tyX5 tyX5_ok nmX5 rfl rfl inX5 (by decide) rfl rfl rfl rfl (Nat.le_of_ble_eq_true rfl) (x_cw_fx E ad ap S (s_sc S 505 x) 5 _ (by decide) rfl rfl rfl) hlink hdg (fun H1 locs1 h => kk (s_sc S 505 x) H1 locs1 h hf)
theorem gX5_6 (hC : x_C p s m args meth c cc nL own E A) (hI : x_I E A s.heap (cw E ad ap S) H locs) {k : Int32 → Option ρ} (hf : x_let (g_sc S 506) k = some r) (hlink : Cond.fieldLink own idx RX5 (TX5 6).2.1 (TX5 6).2.2.1 ∈ x_TB) (hdg : decode cc pc = .ok (.getfield idx, 3)) (kk : ∀ v : Int32, k v = some r → W p l e R s m args below meth c H locs cells slots Q (F0 m (pc + 3) ls (.int v :: rest))) : W p l e R s m args below meth c H locs cells slots Q (F0 m pc ls (.ref (ad 599) :: rest)) :=
  x_get hC hI 5 5 6 rfl rfl inX5 (by decide) rfl hlink rfl hdg (kk _ hf)
theorem pX5_6 (hC : x_C p s m args meth c cc nL own E A) (hI : x_I E A s.heap (cw E ad ap S) H locs) {x : Int32} {k : x_S → Option ρ} (hf : x_let (s_sc S 506 x) k = some r) (hlink : Cond.fieldLink own idx RX5 (TX5 6).2.1 (TX5 6).2.2.1 ∈ x_TB) (hdg : decode cc pc = .ok (.putfield idx, 3)) (kk : ∀ (S1 : x_S) (H1 : Heap) (locs1 : List Loc), x_I E A s.heap (cw E ad ap S1) H1 locs1 → k S1 = some r → W p l e R s m args below meth c H1 locs1 cells slots Q (F0 m (pc + 3) ls rest)) : W p l e R s m args below meth c H locs cells slots Q (F0 m pc ls (.int x :: .ref (ad 599) :: rest)) :=
  x_put hC hI 5 5 6 tyX5 tyX5_ok nmX5 rfl rfl inX5 (by decide) rfl rfl rfl rfl (Nat.le_of_ble_eq_true rfl) (x_cw_fx E ad ap S (s_sc S 506 x) 5 _ (by decide) rfl rfl rfl) hlink hdg (fun H1 locs1 h => kk (s_sc S 506 x) H1 locs1 h hf)
theorem gX5_7 (hC : x_C p s m args meth c cc nL own E A) (hI : x_I E A s.heap (cw E ad ap S) H locs) {k : Int32 → Option ρ} (hf : x_let (g_sc S 507) k = some r) (hlink : Cond.fieldLink own idx RX5 (TX5 7).2.1 (TX5 7).2.2.1 ∈ x_TB) (hdg : decode cc pc = .ok (.getfield idx, 3)) (kk : ∀ v : Int32, k v = some r → W p l e R s m args below meth c H locs cells slots Q (F0 m (pc + 3) ls (.int v :: rest))) : W p l e R s m args below meth c H locs cells slots Q (F0 m pc ls (.ref (ad 599) :: rest)) :=
  x_get hC hI 5 5 7 rfl rfl inX5 (by decide) rfl hlink rfl hdg (kk _ hf)
theorem pX5_7 (hC : x_C p s m args meth c cc nL own E A) (hI : x_I E A s.heap (cw E ad ap S) H locs) {x : Int32} {k : x_S → Option ρ} (hf : x_let (s_sc S 507 x) k = some r) (hlink : Cond.fieldLink own idx RX5 (TX5 7).2.1 (TX5 7).2.2.1 ∈ x_TB) (hdg : decode cc pc = .ok (.putfield idx, 3)) (kk : ∀ (S1 : x_S) (H1 : Heap) (locs1 : List Loc), x_I E A s.heap (cw E ad ap S1) H1 locs1 → k S1 = some r → W p l e R s m args below meth c H1 locs1 cells slots Q (F0 m (pc + 3) ls rest)) : W p l e R s m args below meth c H locs cells slots Q (F0 m pc ls (.int x :: .ref (ad 599) :: rest)) :=
  x_put hC hI 5 5 7 tyX5 tyX5_ok nmX5 rfl rfl inX5 (by decide) rfl rfl rfl rfl (Nat.le_of_ble_eq_true rfl) (x_cw_fx E ad ap S (s_sc S 507 x) 5 _ (by decide) rfl rfl rfl) hlink hdg (fun H1 locs1 h => kk (s_sc S 507 x) H1 locs1 h hf)
theorem gX5_8 (hC : x_C p s m args meth c cc nL own E A) (hI : x_I E A s.heap (cw E ad ap S) H locs) (hlink : Cond.fieldLink own idx RX5 (TX5 8).2.1 (TX5 8).2.2.1 ∈ x_TB) (hdg : decode cc pc = .ok (.getfield idx, 3)) (kk : W p l e R s m args below meth c H locs cells slots Q (F0 m (pc + 3) ls (.ref (ad 508) :: rest))) : W p l e R s m args below meth c H locs cells slots Q (F0 m pc ls (.ref (ad 599) :: rest)) :=
  x_get hC hI 5 5 8 rfl rfl inX5 (by decide) rfl hlink rfl hdg kk
theorem aX5_8 (hC : x_C p s m args meth c cc nL own E A) (hI : x_I E A s.heap (cw E ad ap S) H locs) {i : Int32} {k : Int32 → Option ρ} (hf : x_g (¬ (i < 0 ∨ 60 ≤ i.toNatClampNeg)) (x_let (g_ar S 508 i.toNatClampNeg) k) = some r) (hdg : decode cc pc = .ok (.iaload, 1)) (kk : ∀ v : Int32, k v = some r → W p l e R s m args below meth c H locs cells slots Q (F0 m (pc + 1) ls (.int v :: rest))) : W p l e R s m args below meth c H locs cells slots Q (F0 m pc ls (.int i :: .ref (ad 508) :: rest)) :=
  x_iald hC hI 29 rfl (x_g_eq hf).1 hdg (kk _ (x_g_eq hf).2)
theorem tX5_8 (hC : x_C p s m args meth c cc nL own E A) (hI : x_I E A s.heap (cw E ad ap S) H locs) {i x : Int32} {k : x_S → Option ρ} (hf : x_g (¬ (i < 0 ∨ 60 ≤ i.toNatClampNeg)) (x_let (s_ar S 508 i.toNatClampNeg x) k) = some r) (hdg : decode cc pc = .ok (.iastore, 1)) (kk : ∀ (S1 : x_S) (H1 : Heap) (locs1 : List Loc), x_I E A s.heap (cw E ad ap S1) H1 locs1 → k S1 = some r → W p l e R s m args below meth c H1 locs1 cells slots Q (F0 m (pc + 1) ls rest)) : W p l e R s m args below meth c H locs cells slots Q (F0 m pc ls (.int x :: .int i :: .ref (ad 508) :: rest)) :=
  x_iast hC hI 29 rfl (x_cw_fx E ad ap S (s_ar S 508 i.toNatClampNeg x) 29 _ (by decide) rfl rfl rfl) (x_g_eq hf).1 hdg (fun H1 locs1 h => kk (s_ar S 508 i.toNatClampNeg x) H1 locs1 h (x_g_eq hf).2)
theorem gX5_9 (hC : x_C p s m args meth c cc nL own E A) (hI : x_I E A s.heap (cw E ad ap S) H locs) {k : Int32 → Option ρ} (hf : x_let (g_sc S 509) k = some r) (hlink : Cond.fieldLink own idx RX5 (TX5 9).2.1 (TX5 9).2.2.1 ∈ x_TB) (hdg : decode cc pc = .ok (.getfield idx, 3)) (kk : ∀ v : Int32, k v = some r → W p l e R s m args below meth c H locs cells slots Q (F0 m (pc + 3) ls (.int v :: rest))) : W p l e R s m args below meth c H locs cells slots Q (F0 m pc ls (.ref (ad 599) :: rest)) :=
  x_get hC hI 5 5 9 rfl rfl inX5 (by decide) rfl hlink rfl hdg (kk _ hf)
theorem pX5_9 (hC : x_C p s m args meth c cc nL own E A) (hI : x_I E A s.heap (cw E ad ap S) H locs) {x : Int32} {k : x_S → Option ρ} (hf : x_let (s_sc S 509 x) k = some r) (hlink : Cond.fieldLink own idx RX5 (TX5 9).2.1 (TX5 9).2.2.1 ∈ x_TB) (hdg : decode cc pc = .ok (.putfield idx, 3)) (kk : ∀ (S1 : x_S) (H1 : Heap) (locs1 : List Loc), x_I E A s.heap (cw E ad ap S1) H1 locs1 → k S1 = some r → W p l e R s m args below meth c H1 locs1 cells slots Q (F0 m (pc + 3) ls rest)) : W p l e R s m args below meth c H locs cells slots Q (F0 m pc ls (.int x :: .ref (ad 599) :: rest)) :=
  x_put hC hI 5 5 9 tyX5 tyX5_ok nmX5 rfl rfl inX5 (by decide) rfl rfl rfl rfl (Nat.le_of_ble_eq_true rfl) (x_cw_fx E ad ap S (s_sc S 509 x) 5 _ (by decide) rfl rfl rfl) hlink hdg (fun H1 locs1 h => kk (s_sc S 509 x) H1 locs1 h hf)
theorem gX5_10 (hC : x_C p s m args meth c cc nL own E A) (hI : x_I E A s.heap (cw E ad ap S) H locs) (hlink : Cond.fieldLink own idx RX5 (TX5 10).2.1 (TX5 10).2.2.1 ∈ x_TB) (hdg : decode cc pc = .ok (.getfield idx, 3)) (kk : W p l e R s m args below meth c H locs cells slots Q (F0 m (pc + 3) ls (.ref (ad 510) :: rest))) : W p l e R s m args below meth c H locs cells slots Q (F0 m pc ls (.ref (ad 599) :: rest)) :=
  x_get hC hI 5 5 10 rfl rfl inX5 (by decide) rfl hlink rfl hdg kk
theorem aX5_10 (hC : x_C p s m args meth c cc nL own E A) (hI : x_I E A s.heap (cw E ad ap S) H locs) {i : Int32} {k : Int32 → Option ρ} (hf : x_g (¬ (i < 0 ∨ 61 ≤ i.toNatClampNeg)) (x_let (g_ar S 510 i.toNatClampNeg) k) = some r) (hdg : decode cc pc = .ok (.iaload, 1)) (kk : ∀ v : Int32, k v = some r → W p l e R s m args below meth c H locs cells slots Q (F0 m (pc + 1) ls (.int v :: rest))) : W p l e R s m args below meth c H locs cells slots Q (F0 m pc ls (.int i :: .ref (ad 510) :: rest)) :=
  x_iald hC hI 30 rfl (x_g_eq hf).1 hdg (kk _ (x_g_eq hf).2)
theorem tX5_10 (hC : x_C p s m args meth c cc nL own E A) (hI : x_I E A s.heap (cw E ad ap S) H locs) {i x : Int32} {k : x_S → Option ρ} (hf : x_g (¬ (i < 0 ∨ 61 ≤ i.toNatClampNeg)) (x_let (s_ar S 510 i.toNatClampNeg x) k) = some r) (hdg : decode cc pc = .ok (.iastore, 1)) (kk : ∀ (S1 : x_S) (H1 : Heap) (locs1 : List Loc), x_I E A s.heap (cw E ad ap S1) H1 locs1 → k S1 = some r → W p l e R s m args below meth c H1 locs1 cells slots Q (F0 m (pc + 1) ls rest)) : W p l e R s m args below meth c H locs cells slots Q (F0 m pc ls (.int x :: .int i :: .ref (ad 510) :: rest)) :=
  x_iast hC hI 30 rfl (x_cw_fx E ad ap S (s_ar S 510 i.toNatClampNeg x) 30 _ (by decide) rfl rfl rfl) (x_g_eq hf).1 hdg (fun H1 locs1 h => kk (s_ar S 510 i.toNatClampNeg x) H1 locs1 h (x_g_eq hf).2)
theorem gX5_11 (hC : x_C p s m args meth c cc nL own E A) (hI : x_I E A s.heap (cw E ad ap S) H locs) (hlink : Cond.fieldLink own idx RX5 (TX5 11).2.1 (TX5 11).2.2.1 ∈ x_TB) (hdg : decode cc pc = .ok (.getfield idx, 3)) (kk : W p l e R s m args below meth c H locs cells slots Q (F0 m (pc + 3) ls (.ref (ad 511) :: rest))) : W p l e R s m args below meth c H locs cells slots Q (F0 m pc ls (.ref (ad 599) :: rest)) :=
  x_get hC hI 5 5 11 rfl rfl inX5 (by decide) rfl hlink rfl hdg kk
theorem aX5_11 (hC : x_C p s m args meth c cc nL own E A) (hI : x_I E A s.heap (cw E ad ap S) H locs) {i : Int32} {k : Int32 → Option ρ} (hf : x_g (¬ (i < 0 ∨ 61 ≤ i.toNatClampNeg)) (x_let (g_ar S 511 i.toNatClampNeg) k) = some r) (hdg : decode cc pc = .ok (.iaload, 1)) (kk : ∀ v : Int32, k v = some r → W p l e R s m args below meth c H locs cells slots Q (F0 m (pc + 1) ls (.int v :: rest))) : W p l e R s m args below meth c H locs cells slots Q (F0 m pc ls (.int i :: .ref (ad 511) :: rest)) :=
  x_iald hC hI 31 rfl (x_g_eq hf).1 hdg (kk _ (x_g_eq hf).2)
theorem tX5_11 (hC : x_C p s m args meth c cc nL own E A) (hI : x_I E A s.heap (cw E ad ap S) H locs) {i x : Int32} {k : x_S → Option ρ} (hf : x_g (¬ (i < 0 ∨ 61 ≤ i.toNatClampNeg)) (x_let (s_ar S 511 i.toNatClampNeg x) k) = some r) (hdg : decode cc pc = .ok (.iastore, 1)) (kk : ∀ (S1 : x_S) (H1 : Heap) (locs1 : List Loc), x_I E A s.heap (cw E ad ap S1) H1 locs1 → k S1 = some r → W p l e R s m args below meth c H1 locs1 cells slots Q (F0 m (pc + 1) ls rest)) : W p l e R s m args below meth c H locs cells slots Q (F0 m pc ls (.int x :: .int i :: .ref (ad 511) :: rest)) :=
  x_iast hC hI 31 rfl (x_cw_fx E ad ap S (s_ar S 511 i.toNatClampNeg x) 31 _ (by decide) rfl rfl rfl) (x_g_eq hf).1 hdg (fun H1 locs1 h => kk (s_ar S 511 i.toNatClampNeg x) H1 locs1 h (x_g_eq hf).2)
theorem gX5_12 (hC : x_C p s m args meth c cc nL own E A) (hI : x_I E A s.heap (cw E ad ap S) H locs) (hlink : Cond.fieldLink own idx RX5 (TX5 12).2.1 (TX5 12).2.2.1 ∈ x_TB) (hdg : decode cc pc = .ok (.getfield idx, 3)) (kk : W p l e R s m args below meth c H locs cells slots Q (F0 m (pc + 3) ls (.ref (ad 512) :: rest))) : W p l e R s m args below meth c H locs cells slots Q (F0 m pc ls (.ref (ad 599) :: rest)) :=
  x_get hC hI 5 5 12 rfl rfl inX5 (by decide) rfl hlink rfl hdg kk
theorem aX5_12 (hC : x_C p s m args meth c cc nL own E A) (hI : x_I E A s.heap (cw E ad ap S) H locs) {i : Int32} {k : Int32 → Option ρ} (hf : x_g (¬ (i < 0 ∨ 61 ≤ i.toNatClampNeg)) (x_let (g_ar S 512 i.toNatClampNeg) k) = some r) (hdg : decode cc pc = .ok (.iaload, 1)) (kk : ∀ v : Int32, k v = some r → W p l e R s m args below meth c H locs cells slots Q (F0 m (pc + 1) ls (.int v :: rest))) : W p l e R s m args below meth c H locs cells slots Q (F0 m pc ls (.int i :: .ref (ad 512) :: rest)) :=
  x_iald hC hI 32 rfl (x_g_eq hf).1 hdg (kk _ (x_g_eq hf).2)
theorem tX5_12 (hC : x_C p s m args meth c cc nL own E A) (hI : x_I E A s.heap (cw E ad ap S) H locs) {i x : Int32} {k : x_S → Option ρ} (hf : x_g (¬ (i < 0 ∨ 61 ≤ i.toNatClampNeg)) (x_let (s_ar S 512 i.toNatClampNeg x) k) = some r) (hdg : decode cc pc = .ok (.iastore, 1)) (kk : ∀ (S1 : x_S) (H1 : Heap) (locs1 : List Loc), x_I E A s.heap (cw E ad ap S1) H1 locs1 → k S1 = some r → W p l e R s m args below meth c H1 locs1 cells slots Q (F0 m (pc + 1) ls rest)) : W p l e R s m args below meth c H locs cells slots Q (F0 m pc ls (.int x :: .int i :: .ref (ad 512) :: rest)) :=
  x_iast hC hI 32 rfl (x_cw_fx E ad ap S (s_ar S 512 i.toNatClampNeg x) 32 _ (by decide) rfl rfl rfl) (x_g_eq hf).1 hdg (fun H1 locs1 h => kk (s_ar S 512 i.toNatClampNeg x) H1 locs1 h (x_g_eq hf).2)
theorem gX5_13 (hC : x_C p s m args meth c cc nL own E A) (hI : x_I E A s.heap (cw E ad ap S) H locs) (hlink : Cond.fieldLink own idx RX5 (TX5 13).2.1 (TX5 13).2.2.1 ∈ x_TB) (hdg : decode cc pc = .ok (.getfield idx, 3)) (kk : W p l e R s m args below meth c H locs cells slots Q (F0 m (pc + 3) ls (.ref (ad 513) :: rest))) : W p l e R s m args below meth c H locs cells slots Q (F0 m pc ls (.ref (ad 599) :: rest)) :=
  x_get hC hI 5 5 13 rfl rfl inX5 (by decide) rfl hlink rfl hdg kk
theorem aX5_13 (hC : x_C p s m args meth c cc nL own E A) (hI : x_I E A s.heap (cw E ad ap S) H locs) {i : Int32} {k : Int32 → Option ρ} (hf : x_g (¬ (i < 0 ∨ 61 ≤ i.toNatClampNeg)) (x_let (g_ar S 513 i.toNatClampNeg) k) = some r) (hdg : decode cc pc = .ok (.iaload, 1)) (kk : ∀ v : Int32, k v = some r → W p l e R s m args below meth c H locs cells slots Q (F0 m (pc + 1) ls (.int v :: rest))) : W p l e R s m args below meth c H locs cells slots Q (F0 m pc ls (.int i :: .ref (ad 513) :: rest)) :=
  x_iald hC hI 33 rfl (x_g_eq hf).1 hdg (kk _ (x_g_eq hf).2)
theorem tX5_13 (hC : x_C p s m args meth c cc nL own E A) (hI : x_I E A s.heap (cw E ad ap S) H locs) {i x : Int32} {k : x_S → Option ρ} (hf : x_g (¬ (i < 0 ∨ 61 ≤ i.toNatClampNeg)) (x_let (s_ar S 513 i.toNatClampNeg x) k) = some r) (hdg : decode cc pc = .ok (.iastore, 1)) (kk : ∀ (S1 : x_S) (H1 : Heap) (locs1 : List Loc), x_I E A s.heap (cw E ad ap S1) H1 locs1 → k S1 = some r → W p l e R s m args below meth c H1 locs1 cells slots Q (F0 m (pc + 1) ls rest)) : W p l e R s m args below meth c H locs cells slots Q (F0 m pc ls (.int x :: .int i :: .ref (ad 513) :: rest)) :=
  x_iast hC hI 33 rfl (x_cw_fx E ad ap S (s_ar S 513 i.toNatClampNeg x) 33 _ (by decide) rfl rfl rfl) (x_g_eq hf).1 hdg (fun H1 locs1 h => kk (s_ar S 513 i.toNatClampNeg x) H1 locs1 h (x_g_eq hf).2)
theorem gX5_14 (hC : x_C p s m args meth c cc nL own E A) (hI : x_I E A s.heap (cw E ad ap S) H locs) (hlink : Cond.fieldLink own idx RX5 (TX5 14).2.1 (TX5 14).2.2.1 ∈ x_TB) (hdg : decode cc pc = .ok (.getfield idx, 3)) (kk : W p l e R s m args below meth c H locs cells slots Q (F0 m (pc + 3) ls (.ref (ad 514) :: rest))) : W p l e R s m args below meth c H locs cells slots Q (F0 m pc ls (.ref (ad 599) :: rest)) :=
  x_get hC hI 5 5 14 rfl rfl inX5 (by decide) rfl hlink rfl hdg kk
theorem aX5_14 (hC : x_C p s m args meth c cc nL own E A) (hI : x_I E A s.heap (cw E ad ap S) H locs) {i : Int32} {k : Int32 → Option ρ} (hf : x_g (¬ (i < 0 ∨ 61 ≤ i.toNatClampNeg)) (x_let (g_ar S 514 i.toNatClampNeg) k) = some r) (hdg : decode cc pc = .ok (.iaload, 1)) (kk : ∀ v : Int32, k v = some r → W p l e R s m args below meth c H locs cells slots Q (F0 m (pc + 1) ls (.int v :: rest))) : W p l e R s m args below meth c H locs cells slots Q (F0 m pc ls (.int i :: .ref (ad 514) :: rest)) :=
  x_iald hC hI 34 rfl (x_g_eq hf).1 hdg (kk _ (x_g_eq hf).2)
theorem tX5_14 (hC : x_C p s m args meth c cc nL own E A) (hI : x_I E A s.heap (cw E ad ap S) H locs) {i x : Int32} {k : x_S → Option ρ} (hf : x_g (¬ (i < 0 ∨ 61 ≤ i.toNatClampNeg)) (x_let (s_ar S 514 i.toNatClampNeg x) k) = some r) (hdg : decode cc pc = .ok (.iastore, 1)) (kk : ∀ (S1 : x_S) (H1 : Heap) (locs1 : List Loc), x_I E A s.heap (cw E ad ap S1) H1 locs1 → k S1 = some r → W p l e R s m args below meth c H1 locs1 cells slots Q (F0 m (pc + 1) ls rest)) : W p l e R s m args below meth c H locs cells slots Q (F0 m pc ls (.int x :: .int i :: .ref (ad 514) :: rest)) :=
  x_iast hC hI 34 rfl (x_cw_fx E ad ap S (s_ar S 514 i.toNatClampNeg x) 34 _ (by decide) rfl rfl rfl) (x_g_eq hf).1 hdg (fun H1 locs1 h => kk (s_ar S 514 i.toNatClampNeg x) H1 locs1 h (x_g_eq hf).2)
theorem gX5_15 (hC : x_C p s m args meth c cc nL own E A) (hI : x_I E A s.heap (cw E ad ap S) H locs) (hlink : Cond.fieldLink own idx RX5 (TX5 15).2.1 (TX5 15).2.2.1 ∈ x_TB) (hdg : decode cc pc = .ok (.getfield idx, 3)) (kk : W p l e R s m args below meth c H locs cells slots Q (F0 m (pc + 3) ls (.ref (ad 515) :: rest))) : W p l e R s m args below meth c H locs cells slots Q (F0 m pc ls (.ref (ad 599) :: rest)) :=
  x_get hC hI 5 5 15 rfl rfl inX5 (by decide) rfl hlink rfl hdg kk
theorem aX5_15 (hC : x_C p s m args meth c cc nL own E A) (hI : x_I E A s.heap (cw E ad ap S) H locs) {i : Int32} {k : Int32 → Option ρ} (hf : x_g (¬ (i < 0 ∨ 61 ≤ i.toNatClampNeg)) (x_let (g_ar S 515 i.toNatClampNeg) k) = some r) (hdg : decode cc pc = .ok (.iaload, 1)) (kk : ∀ v : Int32, k v = some r → W p l e R s m args below meth c H locs cells slots Q (F0 m (pc + 1) ls (.int v :: rest))) : W p l e R s m args below meth c H locs cells slots Q (F0 m pc ls (.int i :: .ref (ad 515) :: rest)) :=
  x_iald hC hI 35 rfl (x_g_eq hf).1 hdg (kk _ (x_g_eq hf).2)
theorem tX5_15 (hC : x_C p s m args meth c cc nL own E A) (hI : x_I E A s.heap (cw E ad ap S) H locs) {i x : Int32} {k : x_S → Option ρ} (hf : x_g (¬ (i < 0 ∨ 61 ≤ i.toNatClampNeg)) (x_let (s_ar S 515 i.toNatClampNeg x) k) = some r) (hdg : decode cc pc = .ok (.iastore, 1)) (kk : ∀ (S1 : x_S) (H1 : Heap) (locs1 : List Loc), x_I E A s.heap (cw E ad ap S1) H1 locs1 → k S1 = some r → W p l e R s m args below meth c H1 locs1 cells slots Q (F0 m (pc + 1) ls rest)) : W p l e R s m args below meth c H locs cells slots Q (F0 m pc ls (.int x :: .int i :: .ref (ad 515) :: rest)) :=
  x_iast hC hI 35 rfl (x_cw_fx E ad ap S (s_ar S 515 i.toNatClampNeg x) 35 _ (by decide) rfl rfl rfl) (x_g_eq hf).1 hdg (fun H1 locs1 h => kk (s_ar S 515 i.toNatClampNeg x) H1 locs1 h (x_g_eq hf).2)
theorem gX6_0 (hC : x_C p s m args meth c cc nL own E A) (hI : x_I E A s.heap (cw E ad ap S) H locs) (hlink : Cond.fieldLink own idx RX6 (TX6 0).2.1 (TX6 0).2.2.1 ∈ x_TB) (hdg : decode cc pc = .ok (.getfield idx, 3)) (kk : W p l e R s m args below meth c H locs cells slots Q (F0 m (pc + 3) ls (.ref (ad 600) :: rest))) : W p l e R s m args below meth c H locs cells slots Q (F0 m pc ls (.ref (ad 699) :: rest)) :=
  x_get hC hI 0 6 0 rfl rfl inX6 (by decide) rfl hlink rfl hdg kk
theorem aX6_0 (hC : x_C p s m args meth c cc nL own E A) (hI : x_I E A s.heap (cw E ad ap S) H locs) {i : Int32} {k : Option Nat → Option ρ} (hf : x_g (¬ (i < 0 ∨ 12 ≤ i.toNatClampNeg)) (x_let (g_ra S 600 i.toNatClampNeg) k) = some r) (hdg : decode cc pc = .ok (.aaload, 1)) (kk : ∀ v : Option Nat, k v = some r → W p l e R s m args below meth c H locs cells slots Q (F0 m (pc + 1) ls (x_rr ap v :: rest))) : W p l e R s m args below meth c H locs cells slots Q (F0 m pc ls (.int i :: .ref (ad 600) :: rest)) :=
  x_aald hC hI 6 rfl (x_g_eq hf).1 hdg (kk _ (x_g_eq hf).2)
theorem gX6_1 (hC : x_C p s m args meth c cc nL own E A) (hI : x_I E A s.heap (cw E ad ap S) H locs) {k : Int32 → Option ρ} (hf : x_let (g_sc S 601) k = some r) (hlink : Cond.fieldLink own idx RX6 (TX6 1).2.1 (TX6 1).2.2.1 ∈ x_TB) (hdg : decode cc pc = .ok (.getfield idx, 3)) (kk : ∀ v : Int32, k v = some r → W p l e R s m args below meth c H locs cells slots Q (F0 m (pc + 3) ls (.int v :: rest))) : W p l e R s m args below meth c H locs cells slots Q (F0 m pc ls (.ref (ad 699) :: rest)) :=
  x_get hC hI 0 6 1 rfl rfl inX6 (by decide) rfl hlink rfl hdg (kk _ hf)
theorem pX6_1 (hC : x_C p s m args meth c cc nL own E A) (hI : x_I E A s.heap (cw E ad ap S) H locs) {x : Int32} {k : x_S → Option ρ} (hf : x_let (s_sc S 601 x) k = some r) (hlink : Cond.fieldLink own idx RX6 (TX6 1).2.1 (TX6 1).2.2.1 ∈ x_TB) (hdg : decode cc pc = .ok (.putfield idx, 3)) (kk : ∀ (S1 : x_S) (H1 : Heap) (locs1 : List Loc), x_I E A s.heap (cw E ad ap S1) H1 locs1 → k S1 = some r → W p l e R s m args below meth c H1 locs1 cells slots Q (F0 m (pc + 3) ls rest)) : W p l e R s m args below meth c H locs cells slots Q (F0 m pc ls (.int x :: .ref (ad 699) :: rest)) :=
  x_put hC hI 0 6 1 tyX6 tyX6_ok nmX6 rfl rfl inX6 (by decide) rfl rfl rfl rfl (Nat.le_of_ble_eq_true rfl) (x_cw_fx E ad ap S (s_sc S 601 x) 0 _ (by decide) rfl rfl rfl) hlink hdg (fun H1 locs1 h => kk (s_sc S 601 x) H1 locs1 h hf)
theorem gX6_2 (hC : x_C p s m args meth c cc nL own E A) (hI : x_I E A s.heap (cw E ad ap S) H locs) (hlink : Cond.fieldLink own idx RX6 (TX6 2).2.1 (TX6 2).2.2.1 ∈ x_TB) (hdg : decode cc pc = .ok (.getfield idx, 3)) (kk : W p l e R s m args below meth c H locs cells slots Q (F0 m (pc + 3) ls (.ref (ad 199) :: rest))) : W p l e R s m args below meth c H locs cells slots Q (F0 m pc ls (.ref (ad 699) :: rest)) :=
  x_get hC hI 0 6 2 rfl rfl inX6 (by decide) rfl hlink rfl hdg kk
theorem gX6_3 (hC : x_C p s m args meth c cc nL own E A) (hI : x_I E A s.heap (cw E ad ap S) H locs) {k : Int32 → Option ρ} (hf : x_let (g_sc S 603) k = some r) (hlink : Cond.fieldLink own idx RX6 (TX6 3).2.1 (TX6 3).2.2.1 ∈ x_TB) (hdg : decode cc pc = .ok (.getfield idx, 3)) (kk : ∀ v : Int32, k v = some r → W p l e R s m args below meth c H locs cells slots Q (F0 m (pc + 3) ls (.int v :: rest))) : W p l e R s m args below meth c H locs cells slots Q (F0 m pc ls (.ref (ad 699) :: rest)) :=
  x_get hC hI 0 6 3 rfl rfl inX6 (by decide) rfl hlink rfl hdg (kk _ hf)
theorem pX6_3 (hC : x_C p s m args meth c cc nL own E A) (hI : x_I E A s.heap (cw E ad ap S) H locs) {x : Int32} {k : x_S → Option ρ} (hf : x_let (s_sc S 603 x) k = some r) (hlink : Cond.fieldLink own idx RX6 (TX6 3).2.1 (TX6 3).2.2.1 ∈ x_TB) (hdg : decode cc pc = .ok (.putfield idx, 3)) (kk : ∀ (S1 : x_S) (H1 : Heap) (locs1 : List Loc), x_I E A s.heap (cw E ad ap S1) H1 locs1 → k S1 = some r → W p l e R s m args below meth c H1 locs1 cells slots Q (F0 m (pc + 3) ls rest)) : W p l e R s m args below meth c H locs cells slots Q (F0 m pc ls (.int x :: .ref (ad 699) :: rest)) :=
  x_put hC hI 0 6 3 tyX6 tyX6_ok nmX6 rfl rfl inX6 (by decide) rfl rfl rfl rfl (Nat.le_of_ble_eq_true rfl) (x_cw_fx E ad ap S (s_sc S 603 x) 0 _ (by decide) rfl rfl rfl) hlink hdg (fun H1 locs1 h => kk (s_sc S 603 x) H1 locs1 h hf)
theorem gX6_4 (hC : x_C p s m args meth c cc nL own E A) (hI : x_I E A s.heap (cw E ad ap S) H locs) (hlink : Cond.fieldLink own idx RX6 (TX6 4).2.1 (TX6 4).2.2.1 ∈ x_TB) (hdg : decode cc pc = .ok (.getfield idx, 3)) (kk : W p l e R s m args below meth c H locs cells slots Q (F0 m (pc + 3) ls (.ref (ad 99) :: rest))) : W p l e R s m args below meth c H locs cells slots Q (F0 m pc ls (.ref (ad 699) :: rest)) :=
  x_get hC hI 0 6 4 rfl rfl inX6 (by decide) rfl hlink rfl hdg kk
theorem gX6_5 (hC : x_C p s m args meth c cc nL own E A) (hI : x_I E A s.heap (cw E ad ap S) H locs) (hlink : Cond.fieldLink own idx RX6 (TX6 5).2.1 (TX6 5).2.2.1 ∈ x_TB) (hdg : decode cc pc = .ok (.getfield idx, 3)) (kk : W p l e R s m args below meth c H locs cells slots Q (F0 m (pc + 3) ls (.ref (ad 605) :: rest))) : W p l e R s m args below meth c H locs cells slots Q (F0 m pc ls (.ref (ad 699) :: rest)) :=
  x_get hC hI 0 6 5 rfl rfl inX6 (by decide) rfl hlink rfl hdg kk
theorem aX6_5 (hC : x_C p s m args meth c cc nL own E A) (hI : x_I E A s.heap (cw E ad ap S) H locs) {i : Int32} {k : Int32 → Option ρ} (hf : x_g (¬ (i < 0 ∨ 300 ≤ i.toNatClampNeg)) (x_let (g_ar S 605 i.toNatClampNeg) k) = some r) (hdg : decode cc pc = .ok (.iaload, 1)) (kk : ∀ v : Int32, k v = some r → W p l e R s m args below meth c H locs cells slots Q (F0 m (pc + 1) ls (.int v :: rest))) : W p l e R s m args below meth c H locs cells slots Q (F0 m pc ls (.int i :: .ref (ad 605) :: rest)) :=
  x_iald hC hI 7 rfl (x_g_eq hf).1 hdg (kk _ (x_g_eq hf).2)
theorem tX6_5 (hC : x_C p s m args meth c cc nL own E A) (hI : x_I E A s.heap (cw E ad ap S) H locs) {i x : Int32} {k : x_S → Option ρ} (hf : x_g (¬ (i < 0 ∨ 300 ≤ i.toNatClampNeg)) (x_let (s_ar S 605 i.toNatClampNeg x) k) = some r) (hdg : decode cc pc = .ok (.iastore, 1)) (kk : ∀ (S1 : x_S) (H1 : Heap) (locs1 : List Loc), x_I E A s.heap (cw E ad ap S1) H1 locs1 → k S1 = some r → W p l e R s m args below meth c H1 locs1 cells slots Q (F0 m (pc + 1) ls rest)) : W p l e R s m args below meth c H locs cells slots Q (F0 m pc ls (.int x :: .int i :: .ref (ad 605) :: rest)) :=
  x_iast hC hI 7 rfl (x_cw_fx E ad ap S (s_ar S 605 i.toNatClampNeg x) 7 _ (by decide) rfl rfl rfl) (x_g_eq hf).1 hdg (fun H1 locs1 h => kk (s_ar S 605 i.toNatClampNeg x) H1 locs1 h (x_g_eq hf).2)
theorem gX6_6 (hC : x_C p s m args meth c cc nL own E A) (hI : x_I E A s.heap (cw E ad ap S) H locs) {k : Int32 → Option ρ} (hf : x_let (g_sc S 606) k = some r) (hlink : Cond.fieldLink own idx RX6 (TX6 6).2.1 (TX6 6).2.2.1 ∈ x_TB) (hdg : decode cc pc = .ok (.getfield idx, 3)) (kk : ∀ v : Int32, k v = some r → W p l e R s m args below meth c H locs cells slots Q (F0 m (pc + 3) ls (.int v :: rest))) : W p l e R s m args below meth c H locs cells slots Q (F0 m pc ls (.ref (ad 699) :: rest)) :=
  x_get hC hI 0 6 6 rfl rfl inX6 (by decide) rfl hlink rfl hdg (kk _ hf)
theorem pX6_6 (hC : x_C p s m args meth c cc nL own E A) (hI : x_I E A s.heap (cw E ad ap S) H locs) {x : Int32} {k : x_S → Option ρ} (hf : x_let (s_sc S 606 x) k = some r) (hlink : Cond.fieldLink own idx RX6 (TX6 6).2.1 (TX6 6).2.2.1 ∈ x_TB) (hdg : decode cc pc = .ok (.putfield idx, 3)) (kk : ∀ (S1 : x_S) (H1 : Heap) (locs1 : List Loc), x_I E A s.heap (cw E ad ap S1) H1 locs1 → k S1 = some r → W p l e R s m args below meth c H1 locs1 cells slots Q (F0 m (pc + 3) ls rest)) : W p l e R s m args below meth c H locs cells slots Q (F0 m pc ls (.int x :: .ref (ad 699) :: rest)) :=
  x_put hC hI 0 6 6 tyX6 tyX6_ok nmX6 rfl rfl inX6 (by decide) rfl rfl rfl rfl (Nat.le_of_ble_eq_true rfl) (x_cw_fx E ad ap S (s_sc S 606 x) 0 _ (by decide) rfl rfl rfl) hlink hdg (fun H1 locs1 h => kk (s_sc S 606 x) H1 locs1 h hf)
theorem gX6_7 (hC : x_C p s m args meth c cc nL own E A) (hI : x_I E A s.heap (cw E ad ap S) H locs) (hlink : Cond.fieldLink own idx RX6 (TX6 7).2.1 (TX6 7).2.2.1 ∈ x_TB) (hdg : decode cc pc = .ok (.getfield idx, 3)) (kk : W p l e R s m args below meth c H locs cells slots Q (F0 m (pc + 3) ls (.ref (ad 599) :: rest))) : W p l e R s m args below meth c H locs cells slots Q (F0 m pc ls (.ref (ad 699) :: rest)) :=
  x_get hC hI 0 6 7 rfl rfl inX6 (by decide) rfl hlink rfl hdg kk
theorem gX6_8 (hC : x_C p s m args meth c cc nL own E A) (hI : x_I E A s.heap (cw E ad ap S) H locs) {k : Int32 → Option ρ} (hf : x_let (g_sc S 608) k = some r) (hlink : Cond.fieldLink own idx RX6 (TX6 8).2.1 (TX6 8).2.2.1 ∈ x_TB) (hdg : decode cc pc = .ok (.getfield idx, 3)) (kk : ∀ v : Int32, k v = some r → W p l e R s m args below meth c H locs cells slots Q (F0 m (pc + 3) ls (.int v :: rest))) : W p l e R s m args below meth c H locs cells slots Q (F0 m pc ls (.ref (ad 699) :: rest)) :=
  x_get hC hI 0 6 8 rfl rfl inX6 (by decide) rfl hlink rfl hdg (kk _ hf)
theorem pX6_8 (hC : x_C p s m args meth c cc nL own E A) (hI : x_I E A s.heap (cw E ad ap S) H locs) {x : Int32} {k : x_S → Option ρ} (hf : x_let (s_sc S 608 x) k = some r) (hlink : Cond.fieldLink own idx RX6 (TX6 8).2.1 (TX6 8).2.2.1 ∈ x_TB) (hdg : decode cc pc = .ok (.putfield idx, 3)) (kk : ∀ (S1 : x_S) (H1 : Heap) (locs1 : List Loc), x_I E A s.heap (cw E ad ap S1) H1 locs1 → k S1 = some r → W p l e R s m args below meth c H1 locs1 cells slots Q (F0 m (pc + 3) ls rest)) : W p l e R s m args below meth c H locs cells slots Q (F0 m pc ls (.int x :: .ref (ad 699) :: rest)) :=
  x_put hC hI 0 6 8 tyX6 tyX6_ok nmX6 rfl rfl inX6 (by decide) rfl rfl rfl rfl (Nat.le_of_ble_eq_true rfl) (x_cw_fx E ad ap S (s_sc S 608 x) 0 _ (by decide) rfl rfl rfl) hlink hdg (fun H1 locs1 h => kk (s_sc S 608 x) H1 locs1 h hf)
theorem gX6_9 (hC : x_C p s m args meth c cc nL own E A) (hI : x_I E A s.heap (cw E ad ap S) H locs) (hlink : Cond.fieldLink own idx RX6 (TX6 9).2.1 (TX6 9).2.2.1 ∈ x_TB) (hdg : decode cc pc = .ok (.getfield idx, 3)) (kk : W p l e R s m args below meth c H locs cells slots Q (F0 m (pc + 3) ls (.ref (ad 609) :: rest))) : W p l e R s m args below meth c H locs cells slots Q (F0 m pc ls (.ref (ad 699) :: rest)) :=
  x_get hC hI 0 6 9 rfl rfl inX6 (by decide) rfl hlink rfl hdg kk
theorem aX6_9 (hC : x_C p s m args meth c cc nL own E A) (hI : x_I E A s.heap (cw E ad ap S) H locs) {i : Int32} {k : Int32 → Option ρ} (hf : x_g (¬ (i < 0 ∨ 4 ≤ i.toNatClampNeg)) (x_let (g_ar S 609 i.toNatClampNeg) k) = some r) (hdg : decode cc pc = .ok (.iaload, 1)) (kk : ∀ v : Int32, k v = some r → W p l e R s m args below meth c H locs cells slots Q (F0 m (pc + 1) ls (.int v :: rest))) : W p l e R s m args below meth c H locs cells slots Q (F0 m pc ls (.int i :: .ref (ad 609) :: rest)) :=
  x_iald hC hI 8 rfl (x_g_eq hf).1 hdg (kk _ (x_g_eq hf).2)
theorem tX6_9 (hC : x_C p s m args meth c cc nL own E A) (hI : x_I E A s.heap (cw E ad ap S) H locs) {i x : Int32} {k : x_S → Option ρ} (hf : x_g (¬ (i < 0 ∨ 4 ≤ i.toNatClampNeg)) (x_let (s_ar S 609 i.toNatClampNeg x) k) = some r) (hdg : decode cc pc = .ok (.iastore, 1)) (kk : ∀ (S1 : x_S) (H1 : Heap) (locs1 : List Loc), x_I E A s.heap (cw E ad ap S1) H1 locs1 → k S1 = some r → W p l e R s m args below meth c H1 locs1 cells slots Q (F0 m (pc + 1) ls rest)) : W p l e R s m args below meth c H locs cells slots Q (F0 m pc ls (.int x :: .int i :: .ref (ad 609) :: rest)) :=
  x_iast hC hI 8 rfl (x_cw_fx E ad ap S (s_ar S 609 i.toNatClampNeg x) 8 _ (by decide) rfl rfl rfl) (x_g_eq hf).1 hdg (fun H1 locs1 h => kk (s_ar S 609 i.toNatClampNeg x) H1 locs1 h (x_g_eq hf).2)
theorem gX6_10 (hC : x_C p s m args meth c cc nL own E A) (hI : x_I E A s.heap (cw E ad ap S) H locs) (hlink : Cond.fieldLink own idx RX6 (TX6 10).2.1 (TX6 10).2.2.1 ∈ x_TB) (hdg : decode cc pc = .ok (.getfield idx, 3)) (kk : W p l e R s m args below meth c H locs cells slots Q (F0 m (pc + 3) ls (.ref (ad 399) :: rest))) : W p l e R s m args below meth c H locs cells slots Q (F0 m pc ls (.ref (ad 699) :: rest)) :=
  x_get hC hI 0 6 10 rfl rfl inX6 (by decide) rfl hlink rfl hdg kk
end
end
section
section
variable {p : Program} {l : Launch} {e : Env} {R : Room} {s : State} {m : MethodId} {args : Array Value} {below : List Frame} {meth : Method} {c : Code} {H : Heap} {locs : List Loc} {cells slots : Nat} {Q : State → Prop}
variable {cc : ByteArray} {nL pc : Nat} {own : String} {E : x_E} {A : Nat → Prop} {ls : Array Slot} {rest : List Value} {ad : Nat → Nat} {ap : Nat → Nat → Nat} {S : x_S} {ρ : Type} {r : ρ} {idx : Nat}
theorem gX7_0 (hC : x_C p s m args meth c cc nL own E A) (hI : x_I E A s.heap (mw E ad S) H locs) {k : Int32 → Option ρ} (hf : x_let (g_sc S 700) k = some r) (hlink : Cond.fieldLink own idx RX7 (TX7 0).2.1 (TX7 0).2.2.1 ∈ x_TB) (hdg : decode cc pc = .ok (.getfield idx, 3)) (kk : ∀ v : Int32, k v = some r → W p l e R s m args below meth c H locs cells slots Q (F0 m (pc + 3) ls (.int v :: rest))) : W p l e R s m args below meth c H locs cells slots Q (F0 m pc ls (.ref (ad 799) :: rest)) :=
  x_get hC hI 0 7 0 rfl rfl inX7 (by decide) rfl hlink rfl hdg (kk _ hf)
theorem pX7_0 (hC : x_C p s m args meth c cc nL own E A) (hI : x_I E A s.heap (mw E ad S) H locs) {x : Int32} {k : x_S → Option ρ} (hf : x_let (s_sc S 700 x) k = some r) (hlink : Cond.fieldLink own idx RX7 (TX7 0).2.1 (TX7 0).2.2.1 ∈ x_TB) (hdg : decode cc pc = .ok (.putfield idx, 3)) (kk : ∀ (S1 : x_S) (H1 : Heap) (locs1 : List Loc), x_I E A s.heap (mw E ad S1) H1 locs1 → k S1 = some r → W p l e R s m args below meth c H1 locs1 cells slots Q (F0 m (pc + 3) ls rest)) : W p l e R s m args below meth c H locs cells slots Q (F0 m pc ls (.int x :: .ref (ad 799) :: rest)) :=
  x_put hC hI 0 7 0 tyX7 tyX7_ok nmX7 rfl rfl inX7 (by decide) rfl rfl rfl rfl (Nat.le_of_ble_eq_true rfl) rfl hlink hdg (fun H1 locs1 h => kk (s_sc S 700 x) H1 locs1 h hf)
theorem gX7_1 (hC : x_C p s m args meth c cc nL own E A) (hI : x_I E A s.heap (mw E ad S) H locs) (hlink : Cond.fieldLink own idx RX7 (TX7 1).2.1 (TX7 1).2.2.1 ∈ x_TB) (hdg : decode cc pc = .ok (.getfield idx, 3)) (kk : W p l e R s m args below meth c H locs cells slots Q (F0 m (pc + 3) ls (.ref (ad 701) :: rest))) : W p l e R s m args below meth c H locs cells slots Q (F0 m pc ls (.ref (ad 799) :: rest)) :=
  x_get hC hI 0 7 1 rfl rfl inX7 (by decide) rfl hlink rfl hdg kk
theorem aX7_1 (hC : x_C p s m args meth c cc nL own E A) (hI : x_I E A s.heap (mw E ad S) H locs) {i : Int32} {k : Int32 → Option ρ} (hf : x_g (¬ (i < 0 ∨ 12 ≤ i.toNatClampNeg)) (x_let (g_ar S 701 i.toNatClampNeg) k) = some r) (hdg : decode cc pc = .ok (.iaload, 1)) (kk : ∀ v : Int32, k v = some r → W p l e R s m args below meth c H locs cells slots Q (F0 m (pc + 1) ls (.int v :: rest))) : W p l e R s m args below meth c H locs cells slots Q (F0 m pc ls (.int i :: .ref (ad 701) :: rest)) :=
  x_iald hC hI 1 rfl (x_g_eq hf).1 hdg (kk _ (x_g_eq hf).2)
theorem tX7_1 (hC : x_C p s m args meth c cc nL own E A) (hI : x_I E A s.heap (mw E ad S) H locs) {i x : Int32} {k : x_S → Option ρ} (hf : x_g (¬ (i < 0 ∨ 12 ≤ i.toNatClampNeg)) (x_let (s_ar S 701 i.toNatClampNeg x) k) = some r) (hdg : decode cc pc = .ok (.iastore, 1)) (kk : ∀ (S1 : x_S) (H1 : Heap) (locs1 : List Loc), x_I E A s.heap (mw E ad S1) H1 locs1 → k S1 = some r → W p l e R s m args below meth c H1 locs1 cells slots Q (F0 m (pc + 1) ls rest)) : W p l e R s m args below meth c H locs cells slots Q (F0 m pc ls (.int x :: .int i :: .ref (ad 701) :: rest)) :=
  x_iast hC hI 1 rfl rfl (x_g_eq hf).1 hdg (fun H1 locs1 h => kk (s_ar S 701 i.toNatClampNeg x) H1 locs1 h (x_g_eq hf).2)
theorem gX7_2 (hC : x_C p s m args meth c cc nL own E A) (hI : x_I E A s.heap (mw E ad S) H locs) (hlink : Cond.fieldLink own idx RX7 (TX7 2).2.1 (TX7 2).2.2.1 ∈ x_TB) (hdg : decode cc pc = .ok (.getfield idx, 3)) (kk : W p l e R s m args below meth c H locs cells slots Q (F0 m (pc + 3) ls (.ref (ad 702) :: rest))) : W p l e R s m args below meth c H locs cells slots Q (F0 m pc ls (.ref (ad 799) :: rest)) :=
  x_get hC hI 0 7 2 rfl rfl inX7 (by decide) rfl hlink rfl hdg kk
theorem aX7_2 (hC : x_C p s m args meth c cc nL own E A) (hI : x_I E A s.heap (mw E ad S) H locs) {i : Int32} {k : Int32 → Option ρ} (hf : x_g (¬ (i < 0 ∨ 720 ≤ i.toNatClampNeg)) (x_let (g_ar S 702 i.toNatClampNeg) k) = some r) (hdg : decode cc pc = .ok (.iaload, 1)) (kk : ∀ v : Int32, k v = some r → W p l e R s m args below meth c H locs cells slots Q (F0 m (pc + 1) ls (.int v :: rest))) : W p l e R s m args below meth c H locs cells slots Q (F0 m pc ls (.int i :: .ref (ad 702) :: rest)) :=
  x_iald hC hI 2 rfl (x_g_eq hf).1 hdg (kk _ (x_g_eq hf).2)
theorem tX7_2 (hC : x_C p s m args meth c cc nL own E A) (hI : x_I E A s.heap (mw E ad S) H locs) {i x : Int32} {k : x_S → Option ρ} (hf : x_g (¬ (i < 0 ∨ 720 ≤ i.toNatClampNeg)) (x_let (s_ar S 702 i.toNatClampNeg x) k) = some r) (hdg : decode cc pc = .ok (.iastore, 1)) (kk : ∀ (S1 : x_S) (H1 : Heap) (locs1 : List Loc), x_I E A s.heap (mw E ad S1) H1 locs1 → k S1 = some r → W p l e R s m args below meth c H1 locs1 cells slots Q (F0 m (pc + 1) ls rest)) : W p l e R s m args below meth c H locs cells slots Q (F0 m pc ls (.int x :: .int i :: .ref (ad 702) :: rest)) :=
  x_iast hC hI 2 rfl rfl (x_g_eq hf).1 hdg (fun H1 locs1 h => kk (s_ar S 702 i.toNatClampNeg x) H1 locs1 h (x_g_eq hf).2)
theorem gX7_3 (hC : x_C p s m args meth c cc nL own E A) (hI : x_I E A s.heap (mw E ad S) H locs) (hlink : Cond.fieldLink own idx RX7 (TX7 3).2.1 (TX7 3).2.2.1 ∈ x_TB) (hdg : decode cc pc = .ok (.getfield idx, 3)) (kk : W p l e R s m args below meth c H locs cells slots Q (F0 m (pc + 3) ls (.ref (ad 703) :: rest))) : W p l e R s m args below meth c H locs cells slots Q (F0 m pc ls (.ref (ad 799) :: rest)) :=
  x_get hC hI 0 7 3 rfl rfl inX7 (by decide) rfl hlink rfl hdg kk
theorem aX7_3 (hC : x_C p s m args meth c cc nL own E A) (hI : x_I E A s.heap (mw E ad S) H locs) {i : Int32} {k : Int32 → Option ρ} (hf : x_g (¬ (i < 0 ∨ 720 ≤ i.toNatClampNeg)) (x_let (g_ar S 703 i.toNatClampNeg) k) = some r) (hdg : decode cc pc = .ok (.iaload, 1)) (kk : ∀ v : Int32, k v = some r → W p l e R s m args below meth c H locs cells slots Q (F0 m (pc + 1) ls (.int v :: rest))) : W p l e R s m args below meth c H locs cells slots Q (F0 m pc ls (.int i :: .ref (ad 703) :: rest)) :=
  x_iald hC hI 3 rfl (x_g_eq hf).1 hdg (kk _ (x_g_eq hf).2)
theorem tX7_3 (hC : x_C p s m args meth c cc nL own E A) (hI : x_I E A s.heap (mw E ad S) H locs) {i x : Int32} {k : x_S → Option ρ} (hf : x_g (¬ (i < 0 ∨ 720 ≤ i.toNatClampNeg)) (x_let (s_ar S 703 i.toNatClampNeg x) k) = some r) (hdg : decode cc pc = .ok (.iastore, 1)) (kk : ∀ (S1 : x_S) (H1 : Heap) (locs1 : List Loc), x_I E A s.heap (mw E ad S1) H1 locs1 → k S1 = some r → W p l e R s m args below meth c H1 locs1 cells slots Q (F0 m (pc + 1) ls rest)) : W p l e R s m args below meth c H locs cells slots Q (F0 m pc ls (.int x :: .int i :: .ref (ad 703) :: rest)) :=
  x_iast hC hI 3 rfl rfl (x_g_eq hf).1 hdg (fun H1 locs1 h => kk (s_ar S 703 i.toNatClampNeg x) H1 locs1 h (x_g_eq hf).2)
theorem gX7_4 (hC : x_C p s m args meth c cc nL own E A) (hI : x_I E A s.heap (mw E ad S) H locs) (hlink : Cond.fieldLink own idx RX7 (TX7 4).2.1 (TX7 4).2.2.1 ∈ x_TB) (hdg : decode cc pc = .ok (.getfield idx, 3)) (kk : W p l e R s m args below meth c H locs cells slots Q (F0 m (pc + 3) ls (.ref (ad 704) :: rest))) : W p l e R s m args below meth c H locs cells slots Q (F0 m pc ls (.ref (ad 799) :: rest)) :=
  x_get hC hI 0 7 4 rfl rfl inX7 (by decide) rfl hlink rfl hdg kk
theorem aX7_4 (hC : x_C p s m args meth c cc nL own E A) (hI : x_I E A s.heap (mw E ad S) H locs) {i : Int32} {k : Int32 → Option ρ} (hf : x_g (¬ (i < 0 ∨ 720 ≤ i.toNatClampNeg)) (x_let (g_ar S 704 i.toNatClampNeg) k) = some r) (hdg : decode cc pc = .ok (.iaload, 1)) (kk : ∀ v : Int32, k v = some r → W p l e R s m args below meth c H locs cells slots Q (F0 m (pc + 1) ls (.int v :: rest))) : W p l e R s m args below meth c H locs cells slots Q (F0 m pc ls (.int i :: .ref (ad 704) :: rest)) :=
  x_iald hC hI 4 rfl (x_g_eq hf).1 hdg (kk _ (x_g_eq hf).2)
theorem tX7_4 (hC : x_C p s m args meth c cc nL own E A) (hI : x_I E A s.heap (mw E ad S) H locs) {i x : Int32} {k : x_S → Option ρ} (hf : x_g (¬ (i < 0 ∨ 720 ≤ i.toNatClampNeg)) (x_let (s_ar S 704 i.toNatClampNeg x) k) = some r) (hdg : decode cc pc = .ok (.iastore, 1)) (kk : ∀ (S1 : x_S) (H1 : Heap) (locs1 : List Loc), x_I E A s.heap (mw E ad S1) H1 locs1 → k S1 = some r → W p l e R s m args below meth c H1 locs1 cells slots Q (F0 m (pc + 1) ls rest)) : W p l e R s m args below meth c H locs cells slots Q (F0 m pc ls (.int x :: .int i :: .ref (ad 704) :: rest)) :=
  x_iast hC hI 4 rfl rfl (x_g_eq hf).1 hdg (fun H1 locs1 h => kk (s_ar S 704 i.toNatClampNeg x) H1 locs1 h (x_g_eq hf).2)
theorem gX7_5 (hC : x_C p s m args meth c cc nL own E A) (hI : x_I E A s.heap (mw E ad S) H locs) (hlink : Cond.fieldLink own idx RX7 (TX7 5).2.1 (TX7 5).2.2.1 ∈ x_TB) (hdg : decode cc pc = .ok (.getfield idx, 3)) (kk : W p l e R s m args below meth c H locs cells slots Q (F0 m (pc + 3) ls (.ref (ad 705) :: rest))) : W p l e R s m args below meth c H locs cells slots Q (F0 m pc ls (.ref (ad 799) :: rest)) :=
  x_get hC hI 0 7 5 rfl rfl inX7 (by decide) rfl hlink rfl hdg kk
theorem aX7_5 (hC : x_C p s m args meth c cc nL own E A) (hI : x_I E A s.heap (mw E ad S) H locs) {i : Int32} {k : Int32 → Option ρ} (hf : x_g (¬ (i < 0 ∨ 720 ≤ i.toNatClampNeg)) (x_let (g_ar S 705 i.toNatClampNeg) k) = some r) (hdg : decode cc pc = .ok (.iaload, 1)) (kk : ∀ v : Int32, k v = some r → W p l e R s m args below meth c H locs cells slots Q (F0 m (pc + 1) ls (.int v :: rest))) : W p l e R s m args below meth c H locs cells slots Q (F0 m pc ls (.int i :: .ref (ad 705) :: rest)) :=
  x_iald hC hI 5 rfl (x_g_eq hf).1 hdg (kk _ (x_g_eq hf).2)
theorem tX7_5 (hC : x_C p s m args meth c cc nL own E A) (hI : x_I E A s.heap (mw E ad S) H locs) {i x : Int32} {k : x_S → Option ρ} (hf : x_g (¬ (i < 0 ∨ 720 ≤ i.toNatClampNeg)) (x_let (s_ar S 705 i.toNatClampNeg x) k) = some r) (hdg : decode cc pc = .ok (.iastore, 1)) (kk : ∀ (S1 : x_S) (H1 : Heap) (locs1 : List Loc), x_I E A s.heap (mw E ad S1) H1 locs1 → k S1 = some r → W p l e R s m args below meth c H1 locs1 cells slots Q (F0 m (pc + 1) ls rest)) : W p l e R s m args below meth c H locs cells slots Q (F0 m pc ls (.int x :: .int i :: .ref (ad 705) :: rest)) :=
  x_iast hC hI 5 rfl rfl (x_g_eq hf).1 hdg (fun H1 locs1 h => kk (s_ar S 705 i.toNatClampNeg x) H1 locs1 h (x_g_eq hf).2)
theorem gX7_6 (hC : x_C p s m args meth c cc nL own E A) (hI : x_I E A s.heap (mw E ad S) H locs) (hlink : Cond.fieldLink own idx RX7 (TX7 6).2.1 (TX7 6).2.2.1 ∈ x_TB) (hdg : decode cc pc = .ok (.getfield idx, 3)) (kk : W p l e R s m args below meth c H locs cells slots Q (F0 m (pc + 3) ls (.ref (ad 706) :: rest))) : W p l e R s m args below meth c H locs cells slots Q (F0 m pc ls (.ref (ad 799) :: rest)) :=
  x_get hC hI 0 7 6 rfl rfl inX7 (by decide) rfl hlink rfl hdg kk
theorem aX7_6 (hC : x_C p s m args meth c cc nL own E A) (hI : x_I E A s.heap (mw E ad S) H locs) {i : Int32} {k : Int32 → Option ρ} (hf : x_g (¬ (i < 0 ∨ 4 ≤ i.toNatClampNeg)) (x_let (g_ar S 706 i.toNatClampNeg) k) = some r) (hdg : decode cc pc = .ok (.iaload, 1)) (kk : ∀ v : Int32, k v = some r → W p l e R s m args below meth c H locs cells slots Q (F0 m (pc + 1) ls (.int v :: rest))) : W p l e R s m args below meth c H locs cells slots Q (F0 m pc ls (.int i :: .ref (ad 706) :: rest)) :=
  x_iald hC hI 6 rfl (x_g_eq hf).1 hdg (kk _ (x_g_eq hf).2)
theorem tX7_6 (hC : x_C p s m args meth c cc nL own E A) (hI : x_I E A s.heap (mw E ad S) H locs) {i x : Int32} {k : x_S → Option ρ} (hf : x_g (¬ (i < 0 ∨ 4 ≤ i.toNatClampNeg)) (x_let (s_ar S 706 i.toNatClampNeg x) k) = some r) (hdg : decode cc pc = .ok (.iastore, 1)) (kk : ∀ (S1 : x_S) (H1 : Heap) (locs1 : List Loc), x_I E A s.heap (mw E ad S1) H1 locs1 → k S1 = some r → W p l e R s m args below meth c H1 locs1 cells slots Q (F0 m (pc + 1) ls rest)) : W p l e R s m args below meth c H locs cells slots Q (F0 m pc ls (.int x :: .int i :: .ref (ad 706) :: rest)) :=
  x_iast hC hI 6 rfl rfl (x_g_eq hf).1 hdg (fun H1 locs1 h => kk (s_ar S 706 i.toNatClampNeg x) H1 locs1 h (x_g_eq hf).2)
theorem gX7_7 (hC : x_C p s m args meth c cc nL own E A) (hI : x_I E A s.heap (mw E ad S) H locs) (hlink : Cond.fieldLink own idx RX7 (TX7 7).2.1 (TX7 7).2.2.1 ∈ x_TB) (hdg : decode cc pc = .ok (.getfield idx, 3)) (kk : W p l e R s m args below meth c H locs cells slots Q (F0 m (pc + 3) ls (.ref (ad 707) :: rest))) : W p l e R s m args below meth c H locs cells slots Q (F0 m pc ls (.ref (ad 799) :: rest)) :=
  x_get hC hI 0 7 7 rfl rfl inX7 (by decide) rfl hlink rfl hdg kk
theorem aX7_7 (hC : x_C p s m args meth c cc nL own E A) (hI : x_I E A s.heap (mw E ad S) H locs) {i : Int32} {k : Int32 → Option ρ} (hf : x_g (¬ (i < 0 ∨ 300 ≤ i.toNatClampNeg)) (x_let (g_ar S 707 i.toNatClampNeg) k) = some r) (hdg : decode cc pc = .ok (.iaload, 1)) (kk : ∀ v : Int32, k v = some r → W p l e R s m args below meth c H locs cells slots Q (F0 m (pc + 1) ls (.int v :: rest))) : W p l e R s m args below meth c H locs cells slots Q (F0 m pc ls (.int i :: .ref (ad 707) :: rest)) :=
  x_iald hC hI 7 rfl (x_g_eq hf).1 hdg (kk _ (x_g_eq hf).2)
theorem tX7_7 (hC : x_C p s m args meth c cc nL own E A) (hI : x_I E A s.heap (mw E ad S) H locs) {i x : Int32} {k : x_S → Option ρ} (hf : x_g (¬ (i < 0 ∨ 300 ≤ i.toNatClampNeg)) (x_let (s_ar S 707 i.toNatClampNeg x) k) = some r) (hdg : decode cc pc = .ok (.iastore, 1)) (kk : ∀ (S1 : x_S) (H1 : Heap) (locs1 : List Loc), x_I E A s.heap (mw E ad S1) H1 locs1 → k S1 = some r → W p l e R s m args below meth c H1 locs1 cells slots Q (F0 m (pc + 1) ls rest)) : W p l e R s m args below meth c H locs cells slots Q (F0 m pc ls (.int x :: .int i :: .ref (ad 707) :: rest)) :=
  x_iast hC hI 7 rfl rfl (x_g_eq hf).1 hdg (fun H1 locs1 h => kk (s_ar S 707 i.toNatClampNeg x) H1 locs1 h (x_g_eq hf).2)
theorem gX7_8 (hC : x_C p s m args meth c cc nL own E A) (hI : x_I E A s.heap (mw E ad S) H locs) {k : Int32 → Option ρ} (hf : x_let (g_sc S 708) k = some r) (hlink : Cond.fieldLink own idx RX7 (TX7 8).2.1 (TX7 8).2.2.1 ∈ x_TB) (hdg : decode cc pc = .ok (.getfield idx, 3)) (kk : ∀ v : Int32, k v = some r → W p l e R s m args below meth c H locs cells slots Q (F0 m (pc + 3) ls (.int v :: rest))) : W p l e R s m args below meth c H locs cells slots Q (F0 m pc ls (.ref (ad 799) :: rest)) :=
  x_get hC hI 0 7 8 rfl rfl inX7 (by decide) rfl hlink rfl hdg (kk _ hf)
theorem pX7_8 (hC : x_C p s m args meth c cc nL own E A) (hI : x_I E A s.heap (mw E ad S) H locs) {x : Int32} {k : x_S → Option ρ} (hf : x_let (s_sc S 708 x) k = some r) (hlink : Cond.fieldLink own idx RX7 (TX7 8).2.1 (TX7 8).2.2.1 ∈ x_TB) (hdg : decode cc pc = .ok (.putfield idx, 3)) (kk : ∀ (S1 : x_S) (H1 : Heap) (locs1 : List Loc), x_I E A s.heap (mw E ad S1) H1 locs1 → k S1 = some r → W p l e R s m args below meth c H1 locs1 cells slots Q (F0 m (pc + 3) ls rest)) : W p l e R s m args below meth c H locs cells slots Q (F0 m pc ls (.int x :: .ref (ad 799) :: rest)) :=
  x_put hC hI 0 7 8 tyX7 tyX7_ok nmX7 rfl rfl inX7 (by decide) rfl rfl rfl rfl (Nat.le_of_ble_eq_true rfl) rfl hlink hdg (fun H1 locs1 h => kk (s_sc S 708 x) H1 locs1 h hf)
theorem gX7_9 (hC : x_C p s m args meth c cc nL own E A) (hI : x_I E A s.heap (mw E ad S) H locs) {k : Int32 → Option ρ} (hf : x_let (g_sc S 709) k = some r) (hlink : Cond.fieldLink own idx RX7 (TX7 9).2.1 (TX7 9).2.2.1 ∈ x_TB) (hdg : decode cc pc = .ok (.getfield idx, 3)) (kk : ∀ v : Int32, k v = some r → W p l e R s m args below meth c H locs cells slots Q (F0 m (pc + 3) ls (.int v :: rest))) : W p l e R s m args below meth c H locs cells slots Q (F0 m pc ls (.ref (ad 799) :: rest)) :=
  x_get hC hI 0 7 9 rfl rfl inX7 (by decide) rfl hlink rfl hdg (kk _ hf)
theorem pX7_9 (hC : x_C p s m args meth c cc nL own E A) (hI : x_I E A s.heap (mw E ad S) H locs) {x : Int32} {k : x_S → Option ρ} (hf : x_let (s_sc S 709 x) k = some r) (hlink : Cond.fieldLink own idx RX7 (TX7 9).2.1 (TX7 9).2.2.1 ∈ x_TB) (hdg : decode cc pc = .ok (.putfield idx, 3)) (kk : ∀ (S1 : x_S) (H1 : Heap) (locs1 : List Loc), x_I E A s.heap (mw E ad S1) H1 locs1 → k S1 = some r → W p l e R s m args below meth c H1 locs1 cells slots Q (F0 m (pc + 3) ls rest)) : W p l e R s m args below meth c H locs cells slots Q (F0 m pc ls (.int x :: .ref (ad 799) :: rest)) :=
  x_put hC hI 0 7 9 tyX7 tyX7_ok nmX7 rfl rfl inX7 (by decide) rfl rfl rfl rfl (Nat.le_of_ble_eq_true rfl) rfl hlink hdg (fun H1 locs1 h => kk (s_sc S 709 x) H1 locs1 h hf)
theorem gX7_10 (hC : x_C p s m args meth c cc nL own E A) (hI : x_I E A s.heap (mw E ad S) H locs) {k : Int32 → Option ρ} (hf : x_let (g_sc S 710) k = some r) (hlink : Cond.fieldLink own idx RX7 (TX7 10).2.1 (TX7 10).2.2.1 ∈ x_TB) (hdg : decode cc pc = .ok (.getfield idx, 3)) (kk : ∀ v : Int32, k v = some r → W p l e R s m args below meth c H locs cells slots Q (F0 m (pc + 3) ls (.int v :: rest))) : W p l e R s m args below meth c H locs cells slots Q (F0 m pc ls (.ref (ad 799) :: rest)) :=
  x_get hC hI 0 7 10 rfl rfl inX7 (by decide) rfl hlink rfl hdg (kk _ hf)
theorem pX7_10 (hC : x_C p s m args meth c cc nL own E A) (hI : x_I E A s.heap (mw E ad S) H locs) {x : Int32} {k : x_S → Option ρ} (hf : x_let (s_sc S 710 x) k = some r) (hlink : Cond.fieldLink own idx RX7 (TX7 10).2.1 (TX7 10).2.2.1 ∈ x_TB) (hdg : decode cc pc = .ok (.putfield idx, 3)) (kk : ∀ (S1 : x_S) (H1 : Heap) (locs1 : List Loc), x_I E A s.heap (mw E ad S1) H1 locs1 → k S1 = some r → W p l e R s m args below meth c H1 locs1 cells slots Q (F0 m (pc + 3) ls rest)) : W p l e R s m args below meth c H locs cells slots Q (F0 m pc ls (.int x :: .ref (ad 799) :: rest)) :=
  x_put hC hI 0 7 10 tyX7 tyX7_ok nmX7 rfl rfl inX7 (by decide) rfl rfl rfl rfl (Nat.le_of_ble_eq_true rfl) rfl hlink hdg (fun H1 locs1 h => kk (s_sc S 710 x) H1 locs1 h hf)
theorem gX7_11 (hC : x_C p s m args meth c cc nL own E A) (hI : x_I E A s.heap (mw E ad S) H locs) {k : Int32 → Option ρ} (hf : x_let (g_sc S 711) k = some r) (hlink : Cond.fieldLink own idx RX7 (TX7 11).2.1 (TX7 11).2.2.1 ∈ x_TB) (hdg : decode cc pc = .ok (.getfield idx, 3)) (kk : ∀ v : Int32, k v = some r → W p l e R s m args below meth c H locs cells slots Q (F0 m (pc + 3) ls (.int v :: rest))) : W p l e R s m args below meth c H locs cells slots Q (F0 m pc ls (.ref (ad 799) :: rest)) :=
  x_get hC hI 0 7 11 rfl rfl inX7 (by decide) rfl hlink rfl hdg (kk _ hf)
theorem pX7_11 (hC : x_C p s m args meth c cc nL own E A) (hI : x_I E A s.heap (mw E ad S) H locs) {x : Int32} {k : x_S → Option ρ} (hf : x_let (s_sc S 711 x) k = some r) (hlink : Cond.fieldLink own idx RX7 (TX7 11).2.1 (TX7 11).2.2.1 ∈ x_TB) (hdg : decode cc pc = .ok (.putfield idx, 3)) (kk : ∀ (S1 : x_S) (H1 : Heap) (locs1 : List Loc), x_I E A s.heap (mw E ad S1) H1 locs1 → k S1 = some r → W p l e R s m args below meth c H1 locs1 cells slots Q (F0 m (pc + 3) ls rest)) : W p l e R s m args below meth c H locs cells slots Q (F0 m pc ls (.int x :: .ref (ad 799) :: rest)) :=
  x_put hC hI 0 7 11 tyX7 tyX7_ok nmX7 rfl rfl inX7 (by decide) rfl rfl rfl rfl (Nat.le_of_ble_eq_true rfl) rfl hlink hdg (fun H1 locs1 h => kk (s_sc S 711 x) H1 locs1 h hf)
theorem gX7_12 (hC : x_C p s m args meth c cc nL own E A) (hI : x_I E A s.heap (mw E ad S) H locs) {k : Int32 → Option ρ} (hf : x_let (g_sc S 712) k = some r) (hlink : Cond.fieldLink own idx RX7 (TX7 12).2.1 (TX7 12).2.2.1 ∈ x_TB) (hdg : decode cc pc = .ok (.getfield idx, 3)) (kk : ∀ v : Int32, k v = some r → W p l e R s m args below meth c H locs cells slots Q (F0 m (pc + 3) ls (.int v :: rest))) : W p l e R s m args below meth c H locs cells slots Q (F0 m pc ls (.ref (ad 799) :: rest)) :=
  x_get hC hI 0 7 12 rfl rfl inX7 (by decide) rfl hlink rfl hdg (kk _ hf)
theorem pX7_12 (hC : x_C p s m args meth c cc nL own E A) (hI : x_I E A s.heap (mw E ad S) H locs) {x : Int32} {k : x_S → Option ρ} (hf : x_let (s_sc S 712 x) k = some r) (hlink : Cond.fieldLink own idx RX7 (TX7 12).2.1 (TX7 12).2.2.1 ∈ x_TB) (hdg : decode cc pc = .ok (.putfield idx, 3)) (kk : ∀ (S1 : x_S) (H1 : Heap) (locs1 : List Loc), x_I E A s.heap (mw E ad S1) H1 locs1 → k S1 = some r → W p l e R s m args below meth c H1 locs1 cells slots Q (F0 m (pc + 3) ls rest)) : W p l e R s m args below meth c H locs cells slots Q (F0 m pc ls (.int x :: .ref (ad 799) :: rest)) :=
  x_put hC hI 0 7 12 tyX7 tyX7_ok nmX7 rfl rfl inX7 (by decide) rfl rfl rfl rfl (Nat.le_of_ble_eq_true rfl) rfl hlink hdg (fun H1 locs1 h => kk (s_sc S 712 x) H1 locs1 h hf)
theorem gX7_13 (hC : x_C p s m args meth c cc nL own E A) (hI : x_I E A s.heap (mw E ad S) H locs) (hlink : Cond.fieldLink own idx RX7 (TX7 13).2.1 (TX7 13).2.2.1 ∈ x_TB) (hdg : decode cc pc = .ok (.getfield idx, 3)) (kk : W p l e R s m args below meth c H locs cells slots Q (F0 m (pc + 3) ls (.ref (ad 713) :: rest))) : W p l e R s m args below meth c H locs cells slots Q (F0 m pc ls (.ref (ad 799) :: rest)) :=
  x_get hC hI 0 7 13 rfl rfl inX7 (by decide) rfl hlink rfl hdg kk
theorem aX7_13 (hC : x_C p s m args meth c cc nL own E A) (hI : x_I E A s.heap (mw E ad S) H locs) {i : Int32} {k : Int32 → Option ρ} (hf : x_g (¬ (i < 0 ∨ 200 ≤ i.toNatClampNeg)) (x_let (g_ar S 713 i.toNatClampNeg) k) = some r) (hdg : decode cc pc = .ok (.iaload, 1)) (kk : ∀ v : Int32, k v = some r → W p l e R s m args below meth c H locs cells slots Q (F0 m (pc + 1) ls (.int v :: rest))) : W p l e R s m args below meth c H locs cells slots Q (F0 m pc ls (.int i :: .ref (ad 713) :: rest)) :=
  x_iald hC hI 8 rfl (x_g_eq hf).1 hdg (kk _ (x_g_eq hf).2)
theorem tX7_13 (hC : x_C p s m args meth c cc nL own E A) (hI : x_I E A s.heap (mw E ad S) H locs) {i x : Int32} {k : x_S → Option ρ} (hf : x_g (¬ (i < 0 ∨ 200 ≤ i.toNatClampNeg)) (x_let (s_ar S 713 i.toNatClampNeg x) k) = some r) (hdg : decode cc pc = .ok (.iastore, 1)) (kk : ∀ (S1 : x_S) (H1 : Heap) (locs1 : List Loc), x_I E A s.heap (mw E ad S1) H1 locs1 → k S1 = some r → W p l e R s m args below meth c H1 locs1 cells slots Q (F0 m (pc + 1) ls rest)) : W p l e R s m args below meth c H locs cells slots Q (F0 m pc ls (.int x :: .int i :: .ref (ad 713) :: rest)) :=
  x_iast hC hI 8 rfl rfl (x_g_eq hf).1 hdg (fun H1 locs1 h => kk (s_ar S 713 i.toNatClampNeg x) H1 locs1 h (x_g_eq hf).2)
theorem gX7_14 (hC : x_C p s m args meth c cc nL own E A) (hI : x_I E A s.heap (mw E ad S) H locs) (hlink : Cond.fieldLink own idx RX7 (TX7 14).2.1 (TX7 14).2.2.1 ∈ x_TB) (hdg : decode cc pc = .ok (.getfield idx, 3)) (kk : W p l e R s m args below meth c H locs cells slots Q (F0 m (pc + 3) ls (.ref (ad 714) :: rest))) : W p l e R s m args below meth c H locs cells slots Q (F0 m pc ls (.ref (ad 799) :: rest)) :=
  x_get hC hI 0 7 14 rfl rfl inX7 (by decide) rfl hlink rfl hdg kk
theorem aX7_14 (hC : x_C p s m args meth c cc nL own E A) (hI : x_I E A s.heap (mw E ad S) H locs) {i : Int32} {k : Int32 → Option ρ} (hf : x_g (¬ (i < 0 ∨ 4 ≤ i.toNatClampNeg)) (x_let (g_ar S 714 i.toNatClampNeg) k) = some r) (hdg : decode cc pc = .ok (.iaload, 1)) (kk : ∀ v : Int32, k v = some r → W p l e R s m args below meth c H locs cells slots Q (F0 m (pc + 1) ls (.int v :: rest))) : W p l e R s m args below meth c H locs cells slots Q (F0 m pc ls (.int i :: .ref (ad 714) :: rest)) :=
  x_iald hC hI 9 rfl (x_g_eq hf).1 hdg (kk _ (x_g_eq hf).2)
theorem tX7_14 (hC : x_C p s m args meth c cc nL own E A) (hI : x_I E A s.heap (mw E ad S) H locs) {i x : Int32} {k : x_S → Option ρ} (hf : x_g (¬ (i < 0 ∨ 4 ≤ i.toNatClampNeg)) (x_let (s_ar S 714 i.toNatClampNeg x) k) = some r) (hdg : decode cc pc = .ok (.iastore, 1)) (kk : ∀ (S1 : x_S) (H1 : Heap) (locs1 : List Loc), x_I E A s.heap (mw E ad S1) H1 locs1 → k S1 = some r → W p l e R s m args below meth c H1 locs1 cells slots Q (F0 m (pc + 1) ls rest)) : W p l e R s m args below meth c H locs cells slots Q (F0 m pc ls (.int x :: .int i :: .ref (ad 714) :: rest)) :=
  x_iast hC hI 9 rfl rfl (x_g_eq hf).1 hdg (fun H1 locs1 h => kk (s_ar S 714 i.toNatClampNeg x) H1 locs1 h (x_g_eq hf).2)
theorem gX7_15 (hC : x_C p s m args meth c cc nL own E A) (hI : x_I E A s.heap (mw E ad S) H locs) {k : Int32 → Option ρ} (hf : x_let (g_sc S 715) k = some r) (hlink : Cond.fieldLink own idx RX7 (TX7 15).2.1 (TX7 15).2.2.1 ∈ x_TB) (hdg : decode cc pc = .ok (.getfield idx, 3)) (kk : ∀ v : Int32, k v = some r → W p l e R s m args below meth c H locs cells slots Q (F0 m (pc + 3) ls (.int v :: rest))) : W p l e R s m args below meth c H locs cells slots Q (F0 m pc ls (.ref (ad 799) :: rest)) :=
  x_get hC hI 0 7 15 rfl rfl inX7 (by decide) rfl hlink rfl hdg (kk _ hf)
theorem pX7_15 (hC : x_C p s m args meth c cc nL own E A) (hI : x_I E A s.heap (mw E ad S) H locs) {x : Int32} {k : x_S → Option ρ} (hf : x_let (s_sc S 715 x) k = some r) (hlink : Cond.fieldLink own idx RX7 (TX7 15).2.1 (TX7 15).2.2.1 ∈ x_TB) (hdg : decode cc pc = .ok (.putfield idx, 3)) (kk : ∀ (S1 : x_S) (H1 : Heap) (locs1 : List Loc), x_I E A s.heap (mw E ad S1) H1 locs1 → k S1 = some r → W p l e R s m args below meth c H1 locs1 cells slots Q (F0 m (pc + 3) ls rest)) : W p l e R s m args below meth c H locs cells slots Q (F0 m pc ls (.int x :: .ref (ad 799) :: rest)) :=
  x_put hC hI 0 7 15 tyX7 tyX7_ok nmX7 rfl rfl inX7 (by decide) rfl rfl rfl rfl (Nat.le_of_ble_eq_true rfl) rfl hlink hdg (fun H1 locs1 h => kk (s_sc S 715 x) H1 locs1 h hf)
theorem gX7_16 (hC : x_C p s m args meth c cc nL own E A) (hI : x_I E A s.heap (mw E ad S) H locs) (hlink : Cond.fieldLink own idx RX7 (TX7 16).2.1 (TX7 16).2.2.1 ∈ x_TB) (hdg : decode cc pc = .ok (.getfield idx, 3)) (kk : W p l e R s m args below meth c H locs cells slots Q (F0 m (pc + 3) ls (.ref (ad 716) :: rest))) : W p l e R s m args below meth c H locs cells slots Q (F0 m pc ls (.ref (ad 799) :: rest)) :=
  x_get hC hI 0 7 16 rfl rfl inX7 (by decide) rfl hlink rfl hdg kk
theorem aX7_16 (hC : x_C p s m args meth c cc nL own E A) (hI : x_I E A s.heap (mw E ad S) H locs) {i : Int32} {k : Int32 → Option ρ} (hf : x_g (¬ (i < 0 ∨ 200 ≤ i.toNatClampNeg)) (x_let (g_ar S 716 i.toNatClampNeg) k) = some r) (hdg : decode cc pc = .ok (.iaload, 1)) (kk : ∀ v : Int32, k v = some r → W p l e R s m args below meth c H locs cells slots Q (F0 m (pc + 1) ls (.int v :: rest))) : W p l e R s m args below meth c H locs cells slots Q (F0 m pc ls (.int i :: .ref (ad 716) :: rest)) :=
  x_iald hC hI 10 rfl (x_g_eq hf).1 hdg (kk _ (x_g_eq hf).2)
theorem tX7_16 (hC : x_C p s m args meth c cc nL own E A) (hI : x_I E A s.heap (mw E ad S) H locs) {i x : Int32} {k : x_S → Option ρ} (hf : x_g (¬ (i < 0 ∨ 200 ≤ i.toNatClampNeg)) (x_let (s_ar S 716 i.toNatClampNeg x) k) = some r) (hdg : decode cc pc = .ok (.iastore, 1)) (kk : ∀ (S1 : x_S) (H1 : Heap) (locs1 : List Loc), x_I E A s.heap (mw E ad S1) H1 locs1 → k S1 = some r → W p l e R s m args below meth c H1 locs1 cells slots Q (F0 m (pc + 1) ls rest)) : W p l e R s m args below meth c H locs cells slots Q (F0 m pc ls (.int x :: .int i :: .ref (ad 716) :: rest)) :=
  x_iast hC hI 10 rfl rfl (x_g_eq hf).1 hdg (fun H1 locs1 h => kk (s_ar S 716 i.toNatClampNeg x) H1 locs1 h (x_g_eq hf).2)
theorem gX7_17 (hC : x_C p s m args meth c cc nL own E A) (hI : x_I E A s.heap (mw E ad S) H locs) (hlink : Cond.fieldLink own idx RX7 (TX7 17).2.1 (TX7 17).2.2.1 ∈ x_TB) (hdg : decode cc pc = .ok (.getfield idx, 3)) (kk : W p l e R s m args below meth c H locs cells slots Q (F0 m (pc + 3) ls (.ref (ad 717) :: rest))) : W p l e R s m args below meth c H locs cells slots Q (F0 m pc ls (.ref (ad 799) :: rest)) :=
  x_get hC hI 0 7 17 rfl rfl inX7 (by decide) rfl hlink rfl hdg kk
theorem aX7_17 (hC : x_C p s m args meth c cc nL own E A) (hI : x_I E A s.heap (mw E ad S) H locs) {i : Int32} {k : Int32 → Option ρ} (hf : x_g (¬ (i < 0 ∨ 200 ≤ i.toNatClampNeg)) (x_let (g_ar S 717 i.toNatClampNeg) k) = some r) (hdg : decode cc pc = .ok (.iaload, 1)) (kk : ∀ v : Int32, k v = some r → W p l e R s m args below meth c H locs cells slots Q (F0 m (pc + 1) ls (.int v :: rest))) : W p l e R s m args below meth c H locs cells slots Q (F0 m pc ls (.int i :: .ref (ad 717) :: rest)) :=
  x_iald hC hI 11 rfl (x_g_eq hf).1 hdg (kk _ (x_g_eq hf).2)
theorem tX7_17 (hC : x_C p s m args meth c cc nL own E A) (hI : x_I E A s.heap (mw E ad S) H locs) {i x : Int32} {k : x_S → Option ρ} (hf : x_g (¬ (i < 0 ∨ 200 ≤ i.toNatClampNeg)) (x_let (s_ar S 717 i.toNatClampNeg x) k) = some r) (hdg : decode cc pc = .ok (.iastore, 1)) (kk : ∀ (S1 : x_S) (H1 : Heap) (locs1 : List Loc), x_I E A s.heap (mw E ad S1) H1 locs1 → k S1 = some r → W p l e R s m args below meth c H1 locs1 cells slots Q (F0 m (pc + 1) ls rest)) : W p l e R s m args below meth c H locs cells slots Q (F0 m pc ls (.int x :: .int i :: .ref (ad 717) :: rest)) :=
  x_iast hC hI 11 rfl rfl (x_g_eq hf).1 hdg (fun H1 locs1 h => kk (s_ar S 717 i.toNatClampNeg x) H1 locs1 h (x_g_eq hf).2)
theorem gX7_18 (hC : x_C p s m args meth c cc nL own E A) (hI : x_I E A s.heap (mw E ad S) H locs) (hlink : Cond.fieldLink own idx RX7 (TX7 18).2.1 (TX7 18).2.2.1 ∈ x_TB) (hdg : decode cc pc = .ok (.getfield idx, 3)) (kk : W p l e R s m args below meth c H locs cells slots Q (F0 m (pc + 3) ls (.ref (ad 718) :: rest))) : W p l e R s m args below meth c H locs cells slots Q (F0 m pc ls (.ref (ad 799) :: rest)) :=
  x_get hC hI 0 7 18 rfl rfl inX7 (by decide) rfl hlink rfl hdg kk
theorem aX7_18 (hC : x_C p s m args meth c cc nL own E A) (hI : x_I E A s.heap (mw E ad S) H locs) {i : Int32} {k : Int32 → Option ρ} (hf : x_g (¬ (i < 0 ∨ 200 ≤ i.toNatClampNeg)) (x_let (g_ar S 718 i.toNatClampNeg) k) = some r) (hdg : decode cc pc = .ok (.iaload, 1)) (kk : ∀ v : Int32, k v = some r → W p l e R s m args below meth c H locs cells slots Q (F0 m (pc + 1) ls (.int v :: rest))) : W p l e R s m args below meth c H locs cells slots Q (F0 m pc ls (.int i :: .ref (ad 718) :: rest)) :=
  x_iald hC hI 12 rfl (x_g_eq hf).1 hdg (kk _ (x_g_eq hf).2)
theorem tX7_18 (hC : x_C p s m args meth c cc nL own E A) (hI : x_I E A s.heap (mw E ad S) H locs) {i x : Int32} {k : x_S → Option ρ} (hf : x_g (¬ (i < 0 ∨ 200 ≤ i.toNatClampNeg)) (x_let (s_ar S 718 i.toNatClampNeg x) k) = some r) (hdg : decode cc pc = .ok (.iastore, 1)) (kk : ∀ (S1 : x_S) (H1 : Heap) (locs1 : List Loc), x_I E A s.heap (mw E ad S1) H1 locs1 → k S1 = some r → W p l e R s m args below meth c H1 locs1 cells slots Q (F0 m (pc + 1) ls rest)) : W p l e R s m args below meth c H locs cells slots Q (F0 m pc ls (.int x :: .int i :: .ref (ad 718) :: rest)) :=
  x_iast hC hI 12 rfl rfl (x_g_eq hf).1 hdg (fun H1 locs1 h => kk (s_ar S 718 i.toNatClampNeg x) H1 locs1 h (x_g_eq hf).2)
theorem gX7_19 (hC : x_C p s m args meth c cc nL own E A) (hI : x_I E A s.heap (mw E ad S) H locs) (hlink : Cond.fieldLink own idx RX7 (TX7 19).2.1 (TX7 19).2.2.1 ∈ x_TB) (hdg : decode cc pc = .ok (.getfield idx, 3)) (kk : W p l e R s m args below meth c H locs cells slots Q (F0 m (pc + 3) ls (.ref (ad 719) :: rest))) : W p l e R s m args below meth c H locs cells slots Q (F0 m pc ls (.ref (ad 799) :: rest)) :=
  x_get hC hI 0 7 19 rfl rfl inX7 (by decide) rfl hlink rfl hdg kk
theorem aX7_19 (hC : x_C p s m args meth c cc nL own E A) (hI : x_I E A s.heap (mw E ad S) H locs) {i : Int32} {k : Int32 → Option ρ} (hf : x_g (¬ (i < 0 ∨ 200 ≤ i.toNatClampNeg)) (x_let (g_ar S 719 i.toNatClampNeg) k) = some r) (hdg : decode cc pc = .ok (.iaload, 1)) (kk : ∀ v : Int32, k v = some r → W p l e R s m args below meth c H locs cells slots Q (F0 m (pc + 1) ls (.int v :: rest))) : W p l e R s m args below meth c H locs cells slots Q (F0 m pc ls (.int i :: .ref (ad 719) :: rest)) :=
  x_iald hC hI 13 rfl (x_g_eq hf).1 hdg (kk _ (x_g_eq hf).2)
theorem tX7_19 (hC : x_C p s m args meth c cc nL own E A) (hI : x_I E A s.heap (mw E ad S) H locs) {i x : Int32} {k : x_S → Option ρ} (hf : x_g (¬ (i < 0 ∨ 200 ≤ i.toNatClampNeg)) (x_let (s_ar S 719 i.toNatClampNeg x) k) = some r) (hdg : decode cc pc = .ok (.iastore, 1)) (kk : ∀ (S1 : x_S) (H1 : Heap) (locs1 : List Loc), x_I E A s.heap (mw E ad S1) H1 locs1 → k S1 = some r → W p l e R s m args below meth c H1 locs1 cells slots Q (F0 m (pc + 1) ls rest)) : W p l e R s m args below meth c H locs cells slots Q (F0 m pc ls (.int x :: .int i :: .ref (ad 719) :: rest)) :=
  x_iast hC hI 13 rfl rfl (x_g_eq hf).1 hdg (fun H1 locs1 h => kk (s_ar S 719 i.toNatClampNeg x) H1 locs1 h (x_g_eq hf).2)
theorem gX7_20 (hC : x_C p s m args meth c cc nL own E A) (hI : x_I E A s.heap (mw E ad S) H locs) (hlink : Cond.fieldLink own idx RX7 (TX7 20).2.1 (TX7 20).2.2.1 ∈ x_TB) (hdg : decode cc pc = .ok (.getfield idx, 3)) (kk : W p l e R s m args below meth c H locs cells slots Q (F0 m (pc + 3) ls (.ref (ad 720) :: rest))) : W p l e R s m args below meth c H locs cells slots Q (F0 m pc ls (.ref (ad 799) :: rest)) :=
  x_get hC hI 0 7 20 rfl rfl inX7 (by decide) rfl hlink rfl hdg kk
theorem aX7_20 (hC : x_C p s m args meth c cc nL own E A) (hI : x_I E A s.heap (mw E ad S) H locs) {i : Int32} {k : Int32 → Option ρ} (hf : x_g (¬ (i < 0 ∨ 200 ≤ i.toNatClampNeg)) (x_let (g_ar S 720 i.toNatClampNeg) k) = some r) (hdg : decode cc pc = .ok (.iaload, 1)) (kk : ∀ v : Int32, k v = some r → W p l e R s m args below meth c H locs cells slots Q (F0 m (pc + 1) ls (.int v :: rest))) : W p l e R s m args below meth c H locs cells slots Q (F0 m pc ls (.int i :: .ref (ad 720) :: rest)) :=
  x_iald hC hI 14 rfl (x_g_eq hf).1 hdg (kk _ (x_g_eq hf).2)
theorem tX7_20 (hC : x_C p s m args meth c cc nL own E A) (hI : x_I E A s.heap (mw E ad S) H locs) {i x : Int32} {k : x_S → Option ρ} (hf : x_g (¬ (i < 0 ∨ 200 ≤ i.toNatClampNeg)) (x_let (s_ar S 720 i.toNatClampNeg x) k) = some r) (hdg : decode cc pc = .ok (.iastore, 1)) (kk : ∀ (S1 : x_S) (H1 : Heap) (locs1 : List Loc), x_I E A s.heap (mw E ad S1) H1 locs1 → k S1 = some r → W p l e R s m args below meth c H1 locs1 cells slots Q (F0 m (pc + 1) ls rest)) : W p l e R s m args below meth c H locs cells slots Q (F0 m pc ls (.int x :: .int i :: .ref (ad 720) :: rest)) :=
  x_iast hC hI 14 rfl rfl (x_g_eq hf).1 hdg (fun H1 locs1 h => kk (s_ar S 720 i.toNatClampNeg x) H1 locs1 h (x_g_eq hf).2)
theorem gX7_21 (hC : x_C p s m args meth c cc nL own E A) (hI : x_I E A s.heap (mw E ad S) H locs) (hlink : Cond.fieldLink own idx RX7 (TX7 21).2.1 (TX7 21).2.2.1 ∈ x_TB) (hdg : decode cc pc = .ok (.getfield idx, 3)) (kk : W p l e R s m args below meth c H locs cells slots Q (F0 m (pc + 3) ls (.ref (ad 721) :: rest))) : W p l e R s m args below meth c H locs cells slots Q (F0 m pc ls (.ref (ad 799) :: rest)) :=
  x_get hC hI 0 7 21 rfl rfl inX7 (by decide) rfl hlink rfl hdg kk
theorem aX7_21 (hC : x_C p s m args meth c cc nL own E A) (hI : x_I E A s.heap (mw E ad S) H locs) {i : Int32} {k : Int32 → Option ρ} (hf : x_g (¬ (i < 0 ∨ 200 ≤ i.toNatClampNeg)) (x_let (g_ar S 721 i.toNatClampNeg) k) = some r) (hdg : decode cc pc = .ok (.iaload, 1)) (kk : ∀ v : Int32, k v = some r → W p l e R s m args below meth c H locs cells slots Q (F0 m (pc + 1) ls (.int v :: rest))) : W p l e R s m args below meth c H locs cells slots Q (F0 m pc ls (.int i :: .ref (ad 721) :: rest)) :=
  x_iald hC hI 15 rfl (x_g_eq hf).1 hdg (kk _ (x_g_eq hf).2)
theorem tX7_21 (hC : x_C p s m args meth c cc nL own E A) (hI : x_I E A s.heap (mw E ad S) H locs) {i x : Int32} {k : x_S → Option ρ} (hf : x_g (¬ (i < 0 ∨ 200 ≤ i.toNatClampNeg)) (x_let (s_ar S 721 i.toNatClampNeg x) k) = some r) (hdg : decode cc pc = .ok (.iastore, 1)) (kk : ∀ (S1 : x_S) (H1 : Heap) (locs1 : List Loc), x_I E A s.heap (mw E ad S1) H1 locs1 → k S1 = some r → W p l e R s m args below meth c H1 locs1 cells slots Q (F0 m (pc + 1) ls rest)) : W p l e R s m args below meth c H locs cells slots Q (F0 m pc ls (.int x :: .int i :: .ref (ad 721) :: rest)) :=
  x_iast hC hI 15 rfl rfl (x_g_eq hf).1 hdg (fun H1 locs1 h => kk (s_ar S 721 i.toNatClampNeg x) H1 locs1 h (x_g_eq hf).2)
theorem gX7_22 (hC : x_C p s m args meth c cc nL own E A) (hI : x_I E A s.heap (mw E ad S) H locs) (hlink : Cond.fieldLink own idx RX7 (TX7 22).2.1 (TX7 22).2.2.1 ∈ x_TB) (hdg : decode cc pc = .ok (.getfield idx, 3)) (kk : W p l e R s m args below meth c H locs cells slots Q (F0 m (pc + 3) ls (.ref (ad 722) :: rest))) : W p l e R s m args below meth c H locs cells slots Q (F0 m pc ls (.ref (ad 799) :: rest)) :=
  x_get hC hI 0 7 22 rfl rfl inX7 (by decide) rfl hlink rfl hdg kk
theorem aX7_22 (hC : x_C p s m args meth c cc nL own E A) (hI : x_I E A s.heap (mw E ad S) H locs) {i : Int32} {k : Int32 → Option ρ} (hf : x_g (¬ (i < 0 ∨ 200 ≤ i.toNatClampNeg)) (x_let (g_ar S 722 i.toNatClampNeg) k) = some r) (hdg : decode cc pc = .ok (.iaload, 1)) (kk : ∀ v : Int32, k v = some r → W p l e R s m args below meth c H locs cells slots Q (F0 m (pc + 1) ls (.int v :: rest))) : W p l e R s m args below meth c H locs cells slots Q (F0 m pc ls (.int i :: .ref (ad 722) :: rest)) :=
  x_iald hC hI 16 rfl (x_g_eq hf).1 hdg (kk _ (x_g_eq hf).2)
theorem tX7_22 (hC : x_C p s m args meth c cc nL own E A) (hI : x_I E A s.heap (mw E ad S) H locs) {i x : Int32} {k : x_S → Option ρ} (hf : x_g (¬ (i < 0 ∨ 200 ≤ i.toNatClampNeg)) (x_let (s_ar S 722 i.toNatClampNeg x) k) = some r) (hdg : decode cc pc = .ok (.iastore, 1)) (kk : ∀ (S1 : x_S) (H1 : Heap) (locs1 : List Loc), x_I E A s.heap (mw E ad S1) H1 locs1 → k S1 = some r → W p l e R s m args below meth c H1 locs1 cells slots Q (F0 m (pc + 1) ls rest)) : W p l e R s m args below meth c H locs cells slots Q (F0 m pc ls (.int x :: .int i :: .ref (ad 722) :: rest)) :=
  x_iast hC hI 16 rfl rfl (x_g_eq hf).1 hdg (fun H1 locs1 h => kk (s_ar S 722 i.toNatClampNeg x) H1 locs1 h (x_g_eq hf).2)
theorem gX7_23 (hC : x_C p s m args meth c cc nL own E A) (hI : x_I E A s.heap (mw E ad S) H locs) (hlink : Cond.fieldLink own idx RX7 (TX7 23).2.1 (TX7 23).2.2.1 ∈ x_TB) (hdg : decode cc pc = .ok (.getfield idx, 3)) (kk : W p l e R s m args below meth c H locs cells slots Q (F0 m (pc + 3) ls (.ref (ad 723) :: rest))) : W p l e R s m args below meth c H locs cells slots Q (F0 m pc ls (.ref (ad 799) :: rest)) :=
  x_get hC hI 0 7 23 rfl rfl inX7 (by decide) rfl hlink rfl hdg kk
theorem aX7_23 (hC : x_C p s m args meth c cc nL own E A) (hI : x_I E A s.heap (mw E ad S) H locs) {i : Int32} {k : Int32 → Option ρ} (hf : x_g (¬ (i < 0 ∨ 200 ≤ i.toNatClampNeg)) (x_let (g_ar S 723 i.toNatClampNeg) k) = some r) (hdg : decode cc pc = .ok (.iaload, 1)) (kk : ∀ v : Int32, k v = some r → W p l e R s m args below meth c H locs cells slots Q (F0 m (pc + 1) ls (.int v :: rest))) : W p l e R s m args below meth c H locs cells slots Q (F0 m pc ls (.int i :: .ref (ad 723) :: rest)) :=
  x_iald hC hI 17 rfl (x_g_eq hf).1 hdg (kk _ (x_g_eq hf).2)
theorem tX7_23 (hC : x_C p s m args meth c cc nL own E A) (hI : x_I E A s.heap (mw E ad S) H locs) {i x : Int32} {k : x_S → Option ρ} (hf : x_g (¬ (i < 0 ∨ 200 ≤ i.toNatClampNeg)) (x_let (s_ar S 723 i.toNatClampNeg x) k) = some r) (hdg : decode cc pc = .ok (.iastore, 1)) (kk : ∀ (S1 : x_S) (H1 : Heap) (locs1 : List Loc), x_I E A s.heap (mw E ad S1) H1 locs1 → k S1 = some r → W p l e R s m args below meth c H1 locs1 cells slots Q (F0 m (pc + 1) ls rest)) : W p l e R s m args below meth c H locs cells slots Q (F0 m pc ls (.int x :: .int i :: .ref (ad 723) :: rest)) :=
  x_iast hC hI 17 rfl rfl (x_g_eq hf).1 hdg (fun H1 locs1 h => kk (s_ar S 723 i.toNatClampNeg x) H1 locs1 h (x_g_eq hf).2)
theorem gX7_24 (hC : x_C p s m args meth c cc nL own E A) (hI : x_I E A s.heap (mw E ad S) H locs) {k : Int32 → Option ρ} (hf : x_let (g_sc S 724) k = some r) (hlink : Cond.fieldLink own idx RX7 (TX7 24).2.1 (TX7 24).2.2.1 ∈ x_TB) (hdg : decode cc pc = .ok (.getfield idx, 3)) (kk : ∀ v : Int32, k v = some r → W p l e R s m args below meth c H locs cells slots Q (F0 m (pc + 3) ls (.int v :: rest))) : W p l e R s m args below meth c H locs cells slots Q (F0 m pc ls (.ref (ad 799) :: rest)) :=
  x_get hC hI 0 7 24 rfl rfl inX7 (by decide) rfl hlink rfl hdg (kk _ hf)
theorem pX7_24 (hC : x_C p s m args meth c cc nL own E A) (hI : x_I E A s.heap (mw E ad S) H locs) {x : Int32} {k : x_S → Option ρ} (hf : x_let (s_sc S 724 x) k = some r) (hlink : Cond.fieldLink own idx RX7 (TX7 24).2.1 (TX7 24).2.2.1 ∈ x_TB) (hdg : decode cc pc = .ok (.putfield idx, 3)) (kk : ∀ (S1 : x_S) (H1 : Heap) (locs1 : List Loc), x_I E A s.heap (mw E ad S1) H1 locs1 → k S1 = some r → W p l e R s m args below meth c H1 locs1 cells slots Q (F0 m (pc + 3) ls rest)) : W p l e R s m args below meth c H locs cells slots Q (F0 m pc ls (.int x :: .ref (ad 799) :: rest)) :=
  x_put hC hI 0 7 24 tyX7 tyX7_ok nmX7 rfl rfl inX7 (by decide) rfl rfl rfl rfl (Nat.le_of_ble_eq_true rfl) rfl hlink hdg (fun H1 locs1 h => kk (s_sc S 724 x) H1 locs1 h hf)
theorem gX7_25 (hC : x_C p s m args meth c cc nL own E A) (hI : x_I E A s.heap (mw E ad S) H locs) (hlink : Cond.fieldLink own idx RX7 (TX7 25).2.1 (TX7 25).2.2.1 ∈ x_TB) (hdg : decode cc pc = .ok (.getfield idx, 3)) (kk : W p l e R s m args below meth c H locs cells slots Q (F0 m (pc + 3) ls (.ref (ad 725) :: rest))) : W p l e R s m args below meth c H locs cells slots Q (F0 m pc ls (.ref (ad 799) :: rest)) :=
  x_get hC hI 0 7 25 rfl rfl inX7 (by decide) rfl hlink rfl hdg kk
theorem aX7_25 (hC : x_C p s m args meth c cc nL own E A) (hI : x_I E A s.heap (mw E ad S) H locs) {i : Int32} {k : Int32 → Option ρ} (hf : x_g (¬ (i < 0 ∨ 200 ≤ i.toNatClampNeg)) (x_let (g_ar S 725 i.toNatClampNeg) k) = some r) (hdg : decode cc pc = .ok (.iaload, 1)) (kk : ∀ v : Int32, k v = some r → W p l e R s m args below meth c H locs cells slots Q (F0 m (pc + 1) ls (.int v :: rest))) : W p l e R s m args below meth c H locs cells slots Q (F0 m pc ls (.int i :: .ref (ad 725) :: rest)) :=
  x_iald hC hI 18 rfl (x_g_eq hf).1 hdg (kk _ (x_g_eq hf).2)
theorem tX7_25 (hC : x_C p s m args meth c cc nL own E A) (hI : x_I E A s.heap (mw E ad S) H locs) {i x : Int32} {k : x_S → Option ρ} (hf : x_g (¬ (i < 0 ∨ 200 ≤ i.toNatClampNeg)) (x_let (s_ar S 725 i.toNatClampNeg x) k) = some r) (hdg : decode cc pc = .ok (.iastore, 1)) (kk : ∀ (S1 : x_S) (H1 : Heap) (locs1 : List Loc), x_I E A s.heap (mw E ad S1) H1 locs1 → k S1 = some r → W p l e R s m args below meth c H1 locs1 cells slots Q (F0 m (pc + 1) ls rest)) : W p l e R s m args below meth c H locs cells slots Q (F0 m pc ls (.int x :: .int i :: .ref (ad 725) :: rest)) :=
  x_iast hC hI 18 rfl rfl (x_g_eq hf).1 hdg (fun H1 locs1 h => kk (s_ar S 725 i.toNatClampNeg x) H1 locs1 h (x_g_eq hf).2)
theorem gX7_26 (hC : x_C p s m args meth c cc nL own E A) (hI : x_I E A s.heap (mw E ad S) H locs) (hlink : Cond.fieldLink own idx RX7 (TX7 26).2.1 (TX7 26).2.2.1 ∈ x_TB) (hdg : decode cc pc = .ok (.getfield idx, 3)) (kk : W p l e R s m args below meth c H locs cells slots Q (F0 m (pc + 3) ls (.ref (ad 726) :: rest))) : W p l e R s m args below meth c H locs cells slots Q (F0 m pc ls (.ref (ad 799) :: rest)) :=
  x_get hC hI 0 7 26 rfl rfl inX7 (by decide) rfl hlink rfl hdg kk
theorem aX7_26 (hC : x_C p s m args meth c cc nL own E A) (hI : x_I E A s.heap (mw E ad S) H locs) {i : Int32} {k : Int32 → Option ρ} (hf : x_g (¬ (i < 0 ∨ 200 ≤ i.toNatClampNeg)) (x_let (g_ar S 726 i.toNatClampNeg) k) = some r) (hdg : decode cc pc = .ok (.iaload, 1)) (kk : ∀ v : Int32, k v = some r → W p l e R s m args below meth c H locs cells slots Q (F0 m (pc + 1) ls (.int v :: rest))) : W p l e R s m args below meth c H locs cells slots Q (F0 m pc ls (.int i :: .ref (ad 726) :: rest)) :=
  x_iald hC hI 19 rfl (x_g_eq hf).1 hdg (kk _ (x_g_eq hf).2)
theorem tX7_26 (hC : x_C p s m args meth c cc nL own E A) (hI : x_I E A s.heap (mw E ad S) H locs) {i x : Int32} {k : x_S → Option ρ} (hf : x_g (¬ (i < 0 ∨ 200 ≤ i.toNatClampNeg)) (x_let (s_ar S 726 i.toNatClampNeg x) k) = some r) (hdg : decode cc pc = .ok (.iastore, 1)) (kk : ∀ (S1 : x_S) (H1 : Heap) (locs1 : List Loc), x_I E A s.heap (mw E ad S1) H1 locs1 → k S1 = some r → W p l e R s m args below meth c H1 locs1 cells slots Q (F0 m (pc + 1) ls rest)) : W p l e R s m args below meth c H locs cells slots Q (F0 m pc ls (.int x :: .int i :: .ref (ad 726) :: rest)) :=
  x_iast hC hI 19 rfl rfl (x_g_eq hf).1 hdg (fun H1 locs1 h => kk (s_ar S 726 i.toNatClampNeg x) H1 locs1 h (x_g_eq hf).2)
theorem gX7_27 (hC : x_C p s m args meth c cc nL own E A) (hI : x_I E A s.heap (mw E ad S) H locs) (hlink : Cond.fieldLink own idx RX7 (TX7 27).2.1 (TX7 27).2.2.1 ∈ x_TB) (hdg : decode cc pc = .ok (.getfield idx, 3)) (kk : W p l e R s m args below meth c H locs cells slots Q (F0 m (pc + 3) ls (.ref (ad 727) :: rest))) : W p l e R s m args below meth c H locs cells slots Q (F0 m pc ls (.ref (ad 799) :: rest)) :=
  x_get hC hI 0 7 27 rfl rfl inX7 (by decide) rfl hlink rfl hdg kk
theorem aX7_27 (hC : x_C p s m args meth c cc nL own E A) (hI : x_I E A s.heap (mw E ad S) H locs) {i : Int32} {k : Int32 → Option ρ} (hf : x_g (¬ (i < 0 ∨ 200 ≤ i.toNatClampNeg)) (x_let (g_ar S 727 i.toNatClampNeg) k) = some r) (hdg : decode cc pc = .ok (.iaload, 1)) (kk : ∀ v : Int32, k v = some r → W p l e R s m args below meth c H locs cells slots Q (F0 m (pc + 1) ls (.int v :: rest))) : W p l e R s m args below meth c H locs cells slots Q (F0 m pc ls (.int i :: .ref (ad 727) :: rest)) :=
  x_iald hC hI 20 rfl (x_g_eq hf).1 hdg (kk _ (x_g_eq hf).2)
theorem tX7_27 (hC : x_C p s m args meth c cc nL own E A) (hI : x_I E A s.heap (mw E ad S) H locs) {i x : Int32} {k : x_S → Option ρ} (hf : x_g (¬ (i < 0 ∨ 200 ≤ i.toNatClampNeg)) (x_let (s_ar S 727 i.toNatClampNeg x) k) = some r) (hdg : decode cc pc = .ok (.iastore, 1)) (kk : ∀ (S1 : x_S) (H1 : Heap) (locs1 : List Loc), x_I E A s.heap (mw E ad S1) H1 locs1 → k S1 = some r → W p l e R s m args below meth c H1 locs1 cells slots Q (F0 m (pc + 1) ls rest)) : W p l e R s m args below meth c H locs cells slots Q (F0 m pc ls (.int x :: .int i :: .ref (ad 727) :: rest)) :=
  x_iast hC hI 20 rfl rfl (x_g_eq hf).1 hdg (fun H1 locs1 h => kk (s_ar S 727 i.toNatClampNeg x) H1 locs1 h (x_g_eq hf).2)
theorem gX7_28 (hC : x_C p s m args meth c cc nL own E A) (hI : x_I E A s.heap (mw E ad S) H locs) (hlink : Cond.fieldLink own idx RX7 (TX7 28).2.1 (TX7 28).2.2.1 ∈ x_TB) (hdg : decode cc pc = .ok (.getfield idx, 3)) (kk : W p l e R s m args below meth c H locs cells slots Q (F0 m (pc + 3) ls (.ref (ad 728) :: rest))) : W p l e R s m args below meth c H locs cells slots Q (F0 m pc ls (.ref (ad 799) :: rest)) :=
  x_get hC hI 0 7 28 rfl rfl inX7 (by decide) rfl hlink rfl hdg kk
theorem aX7_28 (hC : x_C p s m args meth c cc nL own E A) (hI : x_I E A s.heap (mw E ad S) H locs) {i : Int32} {k : Int32 → Option ρ} (hf : x_g (¬ (i < 0 ∨ 200 ≤ i.toNatClampNeg)) (x_let (g_ar S 728 i.toNatClampNeg) k) = some r) (hdg : decode cc pc = .ok (.iaload, 1)) (kk : ∀ v : Int32, k v = some r → W p l e R s m args below meth c H locs cells slots Q (F0 m (pc + 1) ls (.int v :: rest))) : W p l e R s m args below meth c H locs cells slots Q (F0 m pc ls (.int i :: .ref (ad 728) :: rest)) :=
  x_iald hC hI 21 rfl (x_g_eq hf).1 hdg (kk _ (x_g_eq hf).2)
theorem tX7_28 (hC : x_C p s m args meth c cc nL own E A) (hI : x_I E A s.heap (mw E ad S) H locs) {i x : Int32} {k : x_S → Option ρ} (hf : x_g (¬ (i < 0 ∨ 200 ≤ i.toNatClampNeg)) (x_let (s_ar S 728 i.toNatClampNeg x) k) = some r) (hdg : decode cc pc = .ok (.iastore, 1)) (kk : ∀ (S1 : x_S) (H1 : Heap) (locs1 : List Loc), x_I E A s.heap (mw E ad S1) H1 locs1 → k S1 = some r → W p l e R s m args below meth c H1 locs1 cells slots Q (F0 m (pc + 1) ls rest)) : W p l e R s m args below meth c H locs cells slots Q (F0 m pc ls (.int x :: .int i :: .ref (ad 728) :: rest)) :=
  x_iast hC hI 21 rfl rfl (x_g_eq hf).1 hdg (fun H1 locs1 h => kk (s_ar S 728 i.toNatClampNeg x) H1 locs1 h (x_g_eq hf).2)
theorem gX7_29 (hC : x_C p s m args meth c cc nL own E A) (hI : x_I E A s.heap (mw E ad S) H locs) (hlink : Cond.fieldLink own idx RX7 (TX7 29).2.1 (TX7 29).2.2.1 ∈ x_TB) (hdg : decode cc pc = .ok (.getfield idx, 3)) (kk : W p l e R s m args below meth c H locs cells slots Q (F0 m (pc + 3) ls (.ref (ad 729) :: rest))) : W p l e R s m args below meth c H locs cells slots Q (F0 m pc ls (.ref (ad 799) :: rest)) :=
  x_get hC hI 0 7 29 rfl rfl inX7 (by decide) rfl hlink rfl hdg kk
theorem aX7_29 (hC : x_C p s m args meth c cc nL own E A) (hI : x_I E A s.heap (mw E ad S) H locs) {i : Int32} {k : Int32 → Option ρ} (hf : x_g (¬ (i < 0 ∨ 200 ≤ i.toNatClampNeg)) (x_let (g_ar S 729 i.toNatClampNeg) k) = some r) (hdg : decode cc pc = .ok (.iaload, 1)) (kk : ∀ v : Int32, k v = some r → W p l e R s m args below meth c H locs cells slots Q (F0 m (pc + 1) ls (.int v :: rest))) : W p l e R s m args below meth c H locs cells slots Q (F0 m pc ls (.int i :: .ref (ad 729) :: rest)) :=
  x_iald hC hI 22 rfl (x_g_eq hf).1 hdg (kk _ (x_g_eq hf).2)
theorem tX7_29 (hC : x_C p s m args meth c cc nL own E A) (hI : x_I E A s.heap (mw E ad S) H locs) {i x : Int32} {k : x_S → Option ρ} (hf : x_g (¬ (i < 0 ∨ 200 ≤ i.toNatClampNeg)) (x_let (s_ar S 729 i.toNatClampNeg x) k) = some r) (hdg : decode cc pc = .ok (.iastore, 1)) (kk : ∀ (S1 : x_S) (H1 : Heap) (locs1 : List Loc), x_I E A s.heap (mw E ad S1) H1 locs1 → k S1 = some r → W p l e R s m args below meth c H1 locs1 cells slots Q (F0 m (pc + 1) ls rest)) : W p l e R s m args below meth c H locs cells slots Q (F0 m pc ls (.int x :: .int i :: .ref (ad 729) :: rest)) :=
  x_iast hC hI 22 rfl rfl (x_g_eq hf).1 hdg (fun H1 locs1 h => kk (s_ar S 729 i.toNatClampNeg x) H1 locs1 h (x_g_eq hf).2)
theorem gX7_30 (hC : x_C p s m args meth c cc nL own E A) (hI : x_I E A s.heap (mw E ad S) H locs) (hlink : Cond.fieldLink own idx RX7 (TX7 30).2.1 (TX7 30).2.2.1 ∈ x_TB) (hdg : decode cc pc = .ok (.getfield idx, 3)) (kk : W p l e R s m args below meth c H locs cells slots Q (F0 m (pc + 3) ls (.ref (ad 730) :: rest))) : W p l e R s m args below meth c H locs cells slots Q (F0 m pc ls (.ref (ad 799) :: rest)) :=
  x_get hC hI 0 7 30 rfl rfl inX7 (by decide) rfl hlink rfl hdg kk
theorem aX7_30 (hC : x_C p s m args meth c cc nL own E A) (hI : x_I E A s.heap (mw E ad S) H locs) {i : Int32} {k : Int32 → Option ρ} (hf : x_g (¬ (i < 0 ∨ 200 ≤ i.toNatClampNeg)) (x_let (g_ar S 730 i.toNatClampNeg) k) = some r) (hdg : decode cc pc = .ok (.iaload, 1)) (kk : ∀ v : Int32, k v = some r → W p l e R s m args below meth c H locs cells slots Q (F0 m (pc + 1) ls (.int v :: rest))) : W p l e R s m args below meth c H locs cells slots Q (F0 m pc ls (.int i :: .ref (ad 730) :: rest)) :=
  x_iald hC hI 23 rfl (x_g_eq hf).1 hdg (kk _ (x_g_eq hf).2)
theorem tX7_30 (hC : x_C p s m args meth c cc nL own E A) (hI : x_I E A s.heap (mw E ad S) H locs) {i x : Int32} {k : x_S → Option ρ} (hf : x_g (¬ (i < 0 ∨ 200 ≤ i.toNatClampNeg)) (x_let (s_ar S 730 i.toNatClampNeg x) k) = some r) (hdg : decode cc pc = .ok (.iastore, 1)) (kk : ∀ (S1 : x_S) (H1 : Heap) (locs1 : List Loc), x_I E A s.heap (mw E ad S1) H1 locs1 → k S1 = some r → W p l e R s m args below meth c H1 locs1 cells slots Q (F0 m (pc + 1) ls rest)) : W p l e R s m args below meth c H locs cells slots Q (F0 m pc ls (.int x :: .int i :: .ref (ad 730) :: rest)) :=
  x_iast hC hI 23 rfl rfl (x_g_eq hf).1 hdg (fun H1 locs1 h => kk (s_ar S 730 i.toNatClampNeg x) H1 locs1 h (x_g_eq hf).2)
theorem gX7_31 (hC : x_C p s m args meth c cc nL own E A) (hI : x_I E A s.heap (mw E ad S) H locs) (hlink : Cond.fieldLink own idx RX7 (TX7 31).2.1 (TX7 31).2.2.1 ∈ x_TB) (hdg : decode cc pc = .ok (.getfield idx, 3)) (kk : W p l e R s m args below meth c H locs cells slots Q (F0 m (pc + 3) ls (.ref (ad 731) :: rest))) : W p l e R s m args below meth c H locs cells slots Q (F0 m pc ls (.ref (ad 799) :: rest)) :=
  x_get hC hI 0 7 31 rfl rfl inX7 (by decide) rfl hlink rfl hdg kk
theorem aX7_31 (hC : x_C p s m args meth c cc nL own E A) (hI : x_I E A s.heap (mw E ad S) H locs) {i : Int32} {k : Int32 → Option ρ} (hf : x_g (¬ (i < 0 ∨ 1000 ≤ i.toNatClampNeg)) (x_let (g_ar S 731 i.toNatClampNeg) k) = some r) (hdg : decode cc pc = .ok (.iaload, 1)) (kk : ∀ v : Int32, k v = some r → W p l e R s m args below meth c H locs cells slots Q (F0 m (pc + 1) ls (.int v :: rest))) : W p l e R s m args below meth c H locs cells slots Q (F0 m pc ls (.int i :: .ref (ad 731) :: rest)) :=
  x_iald hC hI 24 rfl (x_g_eq hf).1 hdg (kk _ (x_g_eq hf).2)
theorem tX7_31 (hC : x_C p s m args meth c cc nL own E A) (hI : x_I E A s.heap (mw E ad S) H locs) {i x : Int32} {k : x_S → Option ρ} (hf : x_g (¬ (i < 0 ∨ 1000 ≤ i.toNatClampNeg)) (x_let (s_ar S 731 i.toNatClampNeg x) k) = some r) (hdg : decode cc pc = .ok (.iastore, 1)) (kk : ∀ (S1 : x_S) (H1 : Heap) (locs1 : List Loc), x_I E A s.heap (mw E ad S1) H1 locs1 → k S1 = some r → W p l e R s m args below meth c H1 locs1 cells slots Q (F0 m (pc + 1) ls rest)) : W p l e R s m args below meth c H locs cells slots Q (F0 m pc ls (.int x :: .int i :: .ref (ad 731) :: rest)) :=
  x_iast hC hI 24 rfl rfl (x_g_eq hf).1 hdg (fun H1 locs1 h => kk (s_ar S 731 i.toNatClampNeg x) H1 locs1 h (x_g_eq hf).2)
theorem gX7_32 (hC : x_C p s m args meth c cc nL own E A) (hI : x_I E A s.heap (mw E ad S) H locs) {k : Int32 → Option ρ} (hf : x_let (g_sc S 732) k = some r) (hlink : Cond.fieldLink own idx RX7 (TX7 32).2.1 (TX7 32).2.2.1 ∈ x_TB) (hdg : decode cc pc = .ok (.getfield idx, 3)) (kk : ∀ v : Int32, k v = some r → W p l e R s m args below meth c H locs cells slots Q (F0 m (pc + 3) ls (.int v :: rest))) : W p l e R s m args below meth c H locs cells slots Q (F0 m pc ls (.ref (ad 799) :: rest)) :=
  x_get hC hI 0 7 32 rfl rfl inX7 (by decide) rfl hlink rfl hdg (kk _ hf)
theorem pX7_32 (hC : x_C p s m args meth c cc nL own E A) (hI : x_I E A s.heap (mw E ad S) H locs) {x : Int32} {k : x_S → Option ρ} (hf : x_let (s_sc S 732 x) k = some r) (hlink : Cond.fieldLink own idx RX7 (TX7 32).2.1 (TX7 32).2.2.1 ∈ x_TB) (hdg : decode cc pc = .ok (.putfield idx, 3)) (kk : ∀ (S1 : x_S) (H1 : Heap) (locs1 : List Loc), x_I E A s.heap (mw E ad S1) H1 locs1 → k S1 = some r → W p l e R s m args below meth c H1 locs1 cells slots Q (F0 m (pc + 3) ls rest)) : W p l e R s m args below meth c H locs cells slots Q (F0 m pc ls (.int x :: .ref (ad 799) :: rest)) :=
  x_put hC hI 0 7 32 tyX7 tyX7_ok nmX7 rfl rfl inX7 (by decide) rfl rfl rfl rfl (Nat.le_of_ble_eq_true rfl) rfl hlink hdg (fun H1 locs1 h => kk (s_sc S 732 x) H1 locs1 h hf)
theorem gX7_33 (hC : x_C p s m args meth c cc nL own E A) (hI : x_I E A s.heap (mw E ad S) H locs) (hlink : Cond.fieldLink own idx RX7 (TX7 33).2.1 (TX7 33).2.2.1 ∈ x_TB) (hdg : decode cc pc = .ok (.getfield idx, 3)) (kk : W p l e R s m args below meth c H locs cells slots Q (F0 m (pc + 3) ls (.ref (ad 733) :: rest))) : W p l e R s m args below meth c H locs cells slots Q (F0 m pc ls (.ref (ad 799) :: rest)) :=
  x_get hC hI 0 7 33 rfl rfl inX7 (by decide) rfl hlink rfl hdg kk
theorem aX7_33 (hC : x_C p s m args meth c cc nL own E A) (hI : x_I E A s.heap (mw E ad S) H locs) {i : Int32} {k : Int32 → Option ρ} (hf : x_g (¬ (i < 0 ∨ 61 ≤ i.toNatClampNeg)) (x_let (g_ar S 733 i.toNatClampNeg) k) = some r) (hdg : decode cc pc = .ok (.baload, 1)) (kk : ∀ v : Int32, k v = some r → W p l e R s m args below meth c H locs cells slots Q (F0 m (pc + 1) ls (.int v :: rest))) : W p l e R s m args below meth c H locs cells slots Q (F0 m pc ls (.int i :: .ref (ad 733) :: rest)) :=
  x_zald hC hI 25 rfl (x_g_eq hf).1 hdg (kk _ (x_g_eq hf).2)
theorem tX7_33 (hC : x_C p s m args meth c cc nL own E A) (hI : x_I E A s.heap (mw E ad S) H locs) {i x : Int32} {k : x_S → Option ρ} (hf : x_g (¬ (i < 0 ∨ 61 ≤ i.toNatClampNeg)) (x_g (x = 0 ∨ x = 1) (x_let (s_ar S 733 i.toNatClampNeg x) k)) = some r) (hdg : decode cc pc = .ok (.bastore, 1)) (kk : ∀ (S1 : x_S) (H1 : Heap) (locs1 : List Loc), x_I E A s.heap (mw E ad S1) H1 locs1 → k S1 = some r → W p l e R s m args below meth c H1 locs1 cells slots Q (F0 m (pc + 1) ls rest)) : W p l e R s m args below meth c H locs cells slots Q (F0 m pc ls (.int x :: .int i :: .ref (ad 733) :: rest)) :=
  x_zast hC hI 25 rfl rfl (x_g_eq hf).1 (x_g_eq (x_g_eq hf).2).1 hdg (fun H1 locs1 h => kk (s_ar S 733 i.toNatClampNeg x) H1 locs1 h (x_g_eq (x_g_eq hf).2).2)
theorem gX7_34 (hC : x_C p s m args meth c cc nL own E A) (hI : x_I E A s.heap (mw E ad S) H locs) {k : Int32 → Option ρ} (hf : x_let (g_sc S 734) k = some r) (hlink : Cond.fieldLink own idx RX7 (TX7 34).2.1 (TX7 34).2.2.1 ∈ x_TB) (hdg : decode cc pc = .ok (.getfield idx, 3)) (kk : ∀ v : Int32, k v = some r → W p l e R s m args below meth c H locs cells slots Q (F0 m (pc + 3) ls (.int v :: rest))) : W p l e R s m args below meth c H locs cells slots Q (F0 m pc ls (.ref (ad 799) :: rest)) :=
  x_get hC hI 0 7 34 rfl rfl inX7 (by decide) rfl hlink rfl hdg (kk _ hf)
theorem pX7_34 (hC : x_C p s m args meth c cc nL own E A) (hI : x_I E A s.heap (mw E ad S) H locs) {x : Int32} {k : x_S → Option ρ} (hf : x_let (s_sc S 734 x) k = some r) (hlink : Cond.fieldLink own idx RX7 (TX7 34).2.1 (TX7 34).2.2.1 ∈ x_TB) (hdg : decode cc pc = .ok (.putfield idx, 3)) (kk : ∀ (S1 : x_S) (H1 : Heap) (locs1 : List Loc), x_I E A s.heap (mw E ad S1) H1 locs1 → k S1 = some r → W p l e R s m args below meth c H1 locs1 cells slots Q (F0 m (pc + 3) ls rest)) : W p l e R s m args below meth c H locs cells slots Q (F0 m pc ls (.int x :: .ref (ad 799) :: rest)) :=
  x_put hC hI 0 7 34 tyX7 tyX7_ok nmX7 rfl rfl inX7 (by decide) rfl rfl rfl rfl (Nat.le_of_ble_eq_true rfl) rfl hlink hdg (fun H1 locs1 h => kk (s_sc S 734 x) H1 locs1 h hf)
theorem gX7_35 (hC : x_C p s m args meth c cc nL own E A) (hI : x_I E A s.heap (mw E ad S) H locs) (hlink : Cond.fieldLink own idx RX7 (TX7 35).2.1 (TX7 35).2.2.1 ∈ x_TB) (hdg : decode cc pc = .ok (.getfield idx, 3)) (kk : W p l e R s m args below meth c H locs cells slots Q (F0 m (pc + 3) ls (.ref (ad 735) :: rest))) : W p l e R s m args below meth c H locs cells slots Q (F0 m pc ls (.ref (ad 799) :: rest)) :=
  x_get hC hI 0 7 35 rfl rfl inX7 (by decide) rfl hlink rfl hdg kk
theorem aX7_35 (hC : x_C p s m args meth c cc nL own E A) (hI : x_I E A s.heap (mw E ad S) H locs) {i : Int32} {k : Int32 → Option ρ} (hf : x_g (¬ (i < 0 ∨ 200 ≤ i.toNatClampNeg)) (x_let (g_ar S 735 i.toNatClampNeg) k) = some r) (hdg : decode cc pc = .ok (.iaload, 1)) (kk : ∀ v : Int32, k v = some r → W p l e R s m args below meth c H locs cells slots Q (F0 m (pc + 1) ls (.int v :: rest))) : W p l e R s m args below meth c H locs cells slots Q (F0 m pc ls (.int i :: .ref (ad 735) :: rest)) :=
  x_iald hC hI 26 rfl (x_g_eq hf).1 hdg (kk _ (x_g_eq hf).2)
theorem tX7_35 (hC : x_C p s m args meth c cc nL own E A) (hI : x_I E A s.heap (mw E ad S) H locs) {i x : Int32} {k : x_S → Option ρ} (hf : x_g (¬ (i < 0 ∨ 200 ≤ i.toNatClampNeg)) (x_let (s_ar S 735 i.toNatClampNeg x) k) = some r) (hdg : decode cc pc = .ok (.iastore, 1)) (kk : ∀ (S1 : x_S) (H1 : Heap) (locs1 : List Loc), x_I E A s.heap (mw E ad S1) H1 locs1 → k S1 = some r → W p l e R s m args below meth c H1 locs1 cells slots Q (F0 m (pc + 1) ls rest)) : W p l e R s m args below meth c H locs cells slots Q (F0 m pc ls (.int x :: .int i :: .ref (ad 735) :: rest)) :=
  x_iast hC hI 26 rfl rfl (x_g_eq hf).1 hdg (fun H1 locs1 h => kk (s_ar S 735 i.toNatClampNeg x) H1 locs1 h (x_g_eq hf).2)
theorem gX7_36 (hC : x_C p s m args meth c cc nL own E A) (hI : x_I E A s.heap (mw E ad S) H locs) {k : Int32 → Option ρ} (hf : x_let (g_sc S 736) k = some r) (hlink : Cond.fieldLink own idx RX7 (TX7 36).2.1 (TX7 36).2.2.1 ∈ x_TB) (hdg : decode cc pc = .ok (.getfield idx, 3)) (kk : ∀ v : Int32, k v = some r → W p l e R s m args below meth c H locs cells slots Q (F0 m (pc + 3) ls (.int v :: rest))) : W p l e R s m args below meth c H locs cells slots Q (F0 m pc ls (.ref (ad 799) :: rest)) :=
  x_get hC hI 0 7 36 rfl rfl inX7 (by decide) rfl hlink rfl hdg (kk _ hf)
theorem pX7_36 (hC : x_C p s m args meth c cc nL own E A) (hI : x_I E A s.heap (mw E ad S) H locs) {x : Int32} {k : x_S → Option ρ} (hf : x_let (s_sc S 736 x) k = some r) (hlink : Cond.fieldLink own idx RX7 (TX7 36).2.1 (TX7 36).2.2.1 ∈ x_TB) (hdg : decode cc pc = .ok (.putfield idx, 3)) (kk : ∀ (S1 : x_S) (H1 : Heap) (locs1 : List Loc), x_I E A s.heap (mw E ad S1) H1 locs1 → k S1 = some r → W p l e R s m args below meth c H1 locs1 cells slots Q (F0 m (pc + 3) ls rest)) : W p l e R s m args below meth c H locs cells slots Q (F0 m pc ls (.int x :: .ref (ad 799) :: rest)) :=
  x_put hC hI 0 7 36 tyX7 tyX7_ok nmX7 rfl rfl inX7 (by decide) rfl rfl rfl rfl (Nat.le_of_ble_eq_true rfl) rfl hlink hdg (fun H1 locs1 h => kk (s_sc S 736 x) H1 locs1 h hf)
theorem gX7_37 (hC : x_C p s m args meth c cc nL own E A) (hI : x_I E A s.heap (mw E ad S) H locs) {k : Int32 → Option ρ} (hf : x_let (g_sc S 737) k = some r) (hlink : Cond.fieldLink own idx RX7 (TX7 37).2.1 (TX7 37).2.2.1 ∈ x_TB) (hdg : decode cc pc = .ok (.getfield idx, 3)) (kk : ∀ v : Int32, k v = some r → W p l e R s m args below meth c H locs cells slots Q (F0 m (pc + 3) ls (.int v :: rest))) : W p l e R s m args below meth c H locs cells slots Q (F0 m pc ls (.ref (ad 799) :: rest)) :=
  x_get hC hI 0 7 37 rfl rfl inX7 (by decide) rfl hlink rfl hdg (kk _ hf)
theorem pX7_37 (hC : x_C p s m args meth c cc nL own E A) (hI : x_I E A s.heap (mw E ad S) H locs) {x : Int32} {k : x_S → Option ρ} (hf : x_let (s_sc S 737 x) k = some r) (hlink : Cond.fieldLink own idx RX7 (TX7 37).2.1 (TX7 37).2.2.1 ∈ x_TB) (hdg : decode cc pc = .ok (.putfield idx, 3)) (kk : ∀ (S1 : x_S) (H1 : Heap) (locs1 : List Loc), x_I E A s.heap (mw E ad S1) H1 locs1 → k S1 = some r → W p l e R s m args below meth c H1 locs1 cells slots Q (F0 m (pc + 3) ls rest)) : W p l e R s m args below meth c H locs cells slots Q (F0 m pc ls (.int x :: .ref (ad 799) :: rest)) :=
  x_put hC hI 0 7 37 tyX7 tyX7_ok nmX7 rfl rfl inX7 (by decide) rfl rfl rfl rfl (Nat.le_of_ble_eq_true rfl) rfl hlink hdg (fun H1 locs1 h => kk (s_sc S 737 x) H1 locs1 h hf)
theorem gX7_38 (hC : x_C p s m args meth c cc nL own E A) (hI : x_I E A s.heap (mw E ad S) H locs) {k : Int32 → Option ρ} (hf : x_let (g_sc S 738) k = some r) (hlink : Cond.fieldLink own idx RX7 (TX7 38).2.1 (TX7 38).2.2.1 ∈ x_TB) (hdg : decode cc pc = .ok (.getfield idx, 3)) (kk : ∀ v : Int32, k v = some r → W p l e R s m args below meth c H locs cells slots Q (F0 m (pc + 3) ls (.int v :: rest))) : W p l e R s m args below meth c H locs cells slots Q (F0 m pc ls (.ref (ad 799) :: rest)) :=
  x_get hC hI 0 7 38 rfl rfl inX7 (by decide) rfl hlink rfl hdg (kk _ hf)
theorem pX7_38 (hC : x_C p s m args meth c cc nL own E A) (hI : x_I E A s.heap (mw E ad S) H locs) {x : Int32} {k : x_S → Option ρ} (hf : x_let (s_sc S 738 x) k = some r) (hlink : Cond.fieldLink own idx RX7 (TX7 38).2.1 (TX7 38).2.2.1 ∈ x_TB) (hdg : decode cc pc = .ok (.putfield idx, 3)) (kk : ∀ (S1 : x_S) (H1 : Heap) (locs1 : List Loc), x_I E A s.heap (mw E ad S1) H1 locs1 → k S1 = some r → W p l e R s m args below meth c H1 locs1 cells slots Q (F0 m (pc + 3) ls rest)) : W p l e R s m args below meth c H locs cells slots Q (F0 m pc ls (.int x :: .ref (ad 799) :: rest)) :=
  x_put hC hI 0 7 38 tyX7 tyX7_ok nmX7 rfl rfl inX7 (by decide) rfl rfl rfl rfl (Nat.le_of_ble_eq_true rfl) rfl hlink hdg (fun H1 locs1 h => kk (s_sc S 738 x) H1 locs1 h hf)
theorem gX7_39 (hC : x_C p s m args meth c cc nL own E A) (hI : x_I E A s.heap (mw E ad S) H locs) (hlink : Cond.fieldLink own idx RX7 (TX7 39).2.1 (TX7 39).2.2.1 ∈ x_TB) (hdg : decode cc pc = .ok (.getfield idx, 3)) (kk : W p l e R s m args below meth c H locs cells slots Q (F0 m (pc + 3) ls (.ref (ad 739) :: rest))) : W p l e R s m args below meth c H locs cells slots Q (F0 m pc ls (.ref (ad 799) :: rest)) :=
  x_get hC hI 0 7 39 rfl rfl inX7 (by decide) rfl hlink rfl hdg kk
theorem aX7_39 (hC : x_C p s m args meth c cc nL own E A) (hI : x_I E A s.heap (mw E ad S) H locs) {i : Int32} {k : Int32 → Option ρ} (hf : x_g (¬ (i < 0 ∨ 400 ≤ i.toNatClampNeg)) (x_let (g_ar S 739 i.toNatClampNeg) k) = some r) (hdg : decode cc pc = .ok (.iaload, 1)) (kk : ∀ v : Int32, k v = some r → W p l e R s m args below meth c H locs cells slots Q (F0 m (pc + 1) ls (.int v :: rest))) : W p l e R s m args below meth c H locs cells slots Q (F0 m pc ls (.int i :: .ref (ad 739) :: rest)) :=
  x_iald hC hI 27 rfl (x_g_eq hf).1 hdg (kk _ (x_g_eq hf).2)
theorem tX7_39 (hC : x_C p s m args meth c cc nL own E A) (hI : x_I E A s.heap (mw E ad S) H locs) {i x : Int32} {k : x_S → Option ρ} (hf : x_g (¬ (i < 0 ∨ 400 ≤ i.toNatClampNeg)) (x_let (s_ar S 739 i.toNatClampNeg x) k) = some r) (hdg : decode cc pc = .ok (.iastore, 1)) (kk : ∀ (S1 : x_S) (H1 : Heap) (locs1 : List Loc), x_I E A s.heap (mw E ad S1) H1 locs1 → k S1 = some r → W p l e R s m args below meth c H1 locs1 cells slots Q (F0 m (pc + 1) ls rest)) : W p l e R s m args below meth c H locs cells slots Q (F0 m pc ls (.int x :: .int i :: .ref (ad 739) :: rest)) :=
  x_iast hC hI 27 rfl rfl (x_g_eq hf).1 hdg (fun H1 locs1 h => kk (s_ar S 739 i.toNatClampNeg x) H1 locs1 h (x_g_eq hf).2)
theorem gX7_40 (hC : x_C p s m args meth c cc nL own E A) (hI : x_I E A s.heap (mw E ad S) H locs) (hlink : Cond.fieldLink own idx RX7 (TX7 40).2.1 (TX7 40).2.2.1 ∈ x_TB) (hdg : decode cc pc = .ok (.getfield idx, 3)) (kk : W p l e R s m args below meth c H locs cells slots Q (F0 m (pc + 3) ls (.ref (ad 740) :: rest))) : W p l e R s m args below meth c H locs cells slots Q (F0 m pc ls (.ref (ad 799) :: rest)) :=
  x_get hC hI 0 7 40 rfl rfl inX7 (by decide) rfl hlink rfl hdg kk
theorem aX7_40 (hC : x_C p s m args meth c cc nL own E A) (hI : x_I E A s.heap (mw E ad S) H locs) {i : Int32} {k : Int32 → Option ρ} (hf : x_g (¬ (i < 0 ∨ 400 ≤ i.toNatClampNeg)) (x_let (g_ar S 740 i.toNatClampNeg) k) = some r) (hdg : decode cc pc = .ok (.iaload, 1)) (kk : ∀ v : Int32, k v = some r → W p l e R s m args below meth c H locs cells slots Q (F0 m (pc + 1) ls (.int v :: rest))) : W p l e R s m args below meth c H locs cells slots Q (F0 m pc ls (.int i :: .ref (ad 740) :: rest)) :=
  x_iald hC hI 28 rfl (x_g_eq hf).1 hdg (kk _ (x_g_eq hf).2)
theorem tX7_40 (hC : x_C p s m args meth c cc nL own E A) (hI : x_I E A s.heap (mw E ad S) H locs) {i x : Int32} {k : x_S → Option ρ} (hf : x_g (¬ (i < 0 ∨ 400 ≤ i.toNatClampNeg)) (x_let (s_ar S 740 i.toNatClampNeg x) k) = some r) (hdg : decode cc pc = .ok (.iastore, 1)) (kk : ∀ (S1 : x_S) (H1 : Heap) (locs1 : List Loc), x_I E A s.heap (mw E ad S1) H1 locs1 → k S1 = some r → W p l e R s m args below meth c H1 locs1 cells slots Q (F0 m (pc + 1) ls rest)) : W p l e R s m args below meth c H locs cells slots Q (F0 m pc ls (.int x :: .int i :: .ref (ad 740) :: rest)) :=
  x_iast hC hI 28 rfl rfl (x_g_eq hf).1 hdg (fun H1 locs1 h => kk (s_ar S 740 i.toNatClampNeg x) H1 locs1 h (x_g_eq hf).2)
theorem gX7_41 (hC : x_C p s m args meth c cc nL own E A) (hI : x_I E A s.heap (mw E ad S) H locs) (hlink : Cond.fieldLink own idx RX7 (TX7 41).2.1 (TX7 41).2.2.1 ∈ x_TB) (hdg : decode cc pc = .ok (.getfield idx, 3)) (kk : W p l e R s m args below meth c H locs cells slots Q (F0 m (pc + 3) ls (.ref (ad 741) :: rest))) : W p l e R s m args below meth c H locs cells slots Q (F0 m pc ls (.ref (ad 799) :: rest)) :=
  x_get hC hI 0 7 41 rfl rfl inX7 (by decide) rfl hlink rfl hdg kk
theorem aX7_41 (hC : x_C p s m args meth c cc nL own E A) (hI : x_I E A s.heap (mw E ad S) H locs) {i : Int32} {k : Int32 → Option ρ} (hf : x_g (¬ (i < 0 ∨ 400 ≤ i.toNatClampNeg)) (x_let (g_ar S 741 i.toNatClampNeg) k) = some r) (hdg : decode cc pc = .ok (.iaload, 1)) (kk : ∀ v : Int32, k v = some r → W p l e R s m args below meth c H locs cells slots Q (F0 m (pc + 1) ls (.int v :: rest))) : W p l e R s m args below meth c H locs cells slots Q (F0 m pc ls (.int i :: .ref (ad 741) :: rest)) :=
  x_iald hC hI 29 rfl (x_g_eq hf).1 hdg (kk _ (x_g_eq hf).2)
theorem tX7_41 (hC : x_C p s m args meth c cc nL own E A) (hI : x_I E A s.heap (mw E ad S) H locs) {i x : Int32} {k : x_S → Option ρ} (hf : x_g (¬ (i < 0 ∨ 400 ≤ i.toNatClampNeg)) (x_let (s_ar S 741 i.toNatClampNeg x) k) = some r) (hdg : decode cc pc = .ok (.iastore, 1)) (kk : ∀ (S1 : x_S) (H1 : Heap) (locs1 : List Loc), x_I E A s.heap (mw E ad S1) H1 locs1 → k S1 = some r → W p l e R s m args below meth c H1 locs1 cells slots Q (F0 m (pc + 1) ls rest)) : W p l e R s m args below meth c H locs cells slots Q (F0 m pc ls (.int x :: .int i :: .ref (ad 741) :: rest)) :=
  x_iast hC hI 29 rfl rfl (x_g_eq hf).1 hdg (fun H1 locs1 h => kk (s_ar S 741 i.toNatClampNeg x) H1 locs1 h (x_g_eq hf).2)
theorem gX7_42 (hC : x_C p s m args meth c cc nL own E A) (hI : x_I E A s.heap (mw E ad S) H locs) (hlink : Cond.fieldLink own idx RX7 (TX7 42).2.1 (TX7 42).2.2.1 ∈ x_TB) (hdg : decode cc pc = .ok (.getfield idx, 3)) (kk : W p l e R s m args below meth c H locs cells slots Q (F0 m (pc + 3) ls (.ref (ad 742) :: rest))) : W p l e R s m args below meth c H locs cells slots Q (F0 m pc ls (.ref (ad 799) :: rest)) :=
  x_get hC hI 0 7 42 rfl rfl inX7 (by decide) rfl hlink rfl hdg kk
theorem aX7_42 (hC : x_C p s m args meth c cc nL own E A) (hI : x_I E A s.heap (mw E ad S) H locs) {i : Int32} {k : Int32 → Option ρ} (hf : x_g (¬ (i < 0 ∨ 400 ≤ i.toNatClampNeg)) (x_let (g_ar S 742 i.toNatClampNeg) k) = some r) (hdg : decode cc pc = .ok (.iaload, 1)) (kk : ∀ v : Int32, k v = some r → W p l e R s m args below meth c H locs cells slots Q (F0 m (pc + 1) ls (.int v :: rest))) : W p l e R s m args below meth c H locs cells slots Q (F0 m pc ls (.int i :: .ref (ad 742) :: rest)) :=
  x_iald hC hI 30 rfl (x_g_eq hf).1 hdg (kk _ (x_g_eq hf).2)
theorem tX7_42 (hC : x_C p s m args meth c cc nL own E A) (hI : x_I E A s.heap (mw E ad S) H locs) {i x : Int32} {k : x_S → Option ρ} (hf : x_g (¬ (i < 0 ∨ 400 ≤ i.toNatClampNeg)) (x_let (s_ar S 742 i.toNatClampNeg x) k) = some r) (hdg : decode cc pc = .ok (.iastore, 1)) (kk : ∀ (S1 : x_S) (H1 : Heap) (locs1 : List Loc), x_I E A s.heap (mw E ad S1) H1 locs1 → k S1 = some r → W p l e R s m args below meth c H1 locs1 cells slots Q (F0 m (pc + 1) ls rest)) : W p l e R s m args below meth c H locs cells slots Q (F0 m pc ls (.int x :: .int i :: .ref (ad 742) :: rest)) :=
  x_iast hC hI 30 rfl rfl (x_g_eq hf).1 hdg (fun H1 locs1 h => kk (s_ar S 742 i.toNatClampNeg x) H1 locs1 h (x_g_eq hf).2)
theorem gX7_43 (hC : x_C p s m args meth c cc nL own E A) (hI : x_I E A s.heap (mw E ad S) H locs) (hlink : Cond.fieldLink own idx RX7 (TX7 43).2.1 (TX7 43).2.2.1 ∈ x_TB) (hdg : decode cc pc = .ok (.getfield idx, 3)) (kk : W p l e R s m args below meth c H locs cells slots Q (F0 m (pc + 3) ls (.ref (ad 743) :: rest))) : W p l e R s m args below meth c H locs cells slots Q (F0 m pc ls (.ref (ad 799) :: rest)) :=
  x_get hC hI 0 7 43 rfl rfl inX7 (by decide) rfl hlink rfl hdg kk
theorem aX7_43 (hC : x_C p s m args meth c cc nL own E A) (hI : x_I E A s.heap (mw E ad S) H locs) {i : Int32} {k : Int32 → Option ρ} (hf : x_g (¬ (i < 0 ∨ 400 ≤ i.toNatClampNeg)) (x_let (g_ar S 743 i.toNatClampNeg) k) = some r) (hdg : decode cc pc = .ok (.iaload, 1)) (kk : ∀ v : Int32, k v = some r → W p l e R s m args below meth c H locs cells slots Q (F0 m (pc + 1) ls (.int v :: rest))) : W p l e R s m args below meth c H locs cells slots Q (F0 m pc ls (.int i :: .ref (ad 743) :: rest)) :=
  x_iald hC hI 31 rfl (x_g_eq hf).1 hdg (kk _ (x_g_eq hf).2)
theorem tX7_43 (hC : x_C p s m args meth c cc nL own E A) (hI : x_I E A s.heap (mw E ad S) H locs) {i x : Int32} {k : x_S → Option ρ} (hf : x_g (¬ (i < 0 ∨ 400 ≤ i.toNatClampNeg)) (x_let (s_ar S 743 i.toNatClampNeg x) k) = some r) (hdg : decode cc pc = .ok (.iastore, 1)) (kk : ∀ (S1 : x_S) (H1 : Heap) (locs1 : List Loc), x_I E A s.heap (mw E ad S1) H1 locs1 → k S1 = some r → W p l e R s m args below meth c H1 locs1 cells slots Q (F0 m (pc + 1) ls rest)) : W p l e R s m args below meth c H locs cells slots Q (F0 m pc ls (.int x :: .int i :: .ref (ad 743) :: rest)) :=
  x_iast hC hI 31 rfl rfl (x_g_eq hf).1 hdg (fun H1 locs1 h => kk (s_ar S 743 i.toNatClampNeg x) H1 locs1 h (x_g_eq hf).2)
theorem gX7_44 (hC : x_C p s m args meth c cc nL own E A) (hI : x_I E A s.heap (mw E ad S) H locs) (hlink : Cond.fieldLink own idx RX7 (TX7 44).2.1 (TX7 44).2.2.1 ∈ x_TB) (hdg : decode cc pc = .ok (.getfield idx, 3)) (kk : W p l e R s m args below meth c H locs cells slots Q (F0 m (pc + 3) ls (.ref (ad 744) :: rest))) : W p l e R s m args below meth c H locs cells slots Q (F0 m pc ls (.ref (ad 799) :: rest)) :=
  x_get hC hI 0 7 44 rfl rfl inX7 (by decide) rfl hlink rfl hdg kk
theorem aX7_44 (hC : x_C p s m args meth c cc nL own E A) (hI : x_I E A s.heap (mw E ad S) H locs) {i : Int32} {k : Int32 → Option ρ} (hf : x_g (¬ (i < 0 ∨ 400 ≤ i.toNatClampNeg)) (x_let (g_ar S 744 i.toNatClampNeg) k) = some r) (hdg : decode cc pc = .ok (.iaload, 1)) (kk : ∀ v : Int32, k v = some r → W p l e R s m args below meth c H locs cells slots Q (F0 m (pc + 1) ls (.int v :: rest))) : W p l e R s m args below meth c H locs cells slots Q (F0 m pc ls (.int i :: .ref (ad 744) :: rest)) :=
  x_iald hC hI 32 rfl (x_g_eq hf).1 hdg (kk _ (x_g_eq hf).2)
theorem tX7_44 (hC : x_C p s m args meth c cc nL own E A) (hI : x_I E A s.heap (mw E ad S) H locs) {i x : Int32} {k : x_S → Option ρ} (hf : x_g (¬ (i < 0 ∨ 400 ≤ i.toNatClampNeg)) (x_let (s_ar S 744 i.toNatClampNeg x) k) = some r) (hdg : decode cc pc = .ok (.iastore, 1)) (kk : ∀ (S1 : x_S) (H1 : Heap) (locs1 : List Loc), x_I E A s.heap (mw E ad S1) H1 locs1 → k S1 = some r → W p l e R s m args below meth c H1 locs1 cells slots Q (F0 m (pc + 1) ls rest)) : W p l e R s m args below meth c H locs cells slots Q (F0 m pc ls (.int x :: .int i :: .ref (ad 744) :: rest)) :=
  x_iast hC hI 32 rfl rfl (x_g_eq hf).1 hdg (fun H1 locs1 h => kk (s_ar S 744 i.toNatClampNeg x) H1 locs1 h (x_g_eq hf).2)
theorem gX7_45 (hC : x_C p s m args meth c cc nL own E A) (hI : x_I E A s.heap (mw E ad S) H locs) {k : Int32 → Option ρ} (hf : x_let (g_sc S 745) k = some r) (hlink : Cond.fieldLink own idx RX7 (TX7 45).2.1 (TX7 45).2.2.1 ∈ x_TB) (hdg : decode cc pc = .ok (.getfield idx, 3)) (kk : ∀ v : Int32, k v = some r → W p l e R s m args below meth c H locs cells slots Q (F0 m (pc + 3) ls (.int v :: rest))) : W p l e R s m args below meth c H locs cells slots Q (F0 m pc ls (.ref (ad 799) :: rest)) :=
  x_get hC hI 0 7 45 rfl rfl inX7 (by decide) rfl hlink rfl hdg (kk _ hf)
theorem pX7_45 (hC : x_C p s m args meth c cc nL own E A) (hI : x_I E A s.heap (mw E ad S) H locs) {x : Int32} {k : x_S → Option ρ} (hf : x_let (s_sc S 745 x) k = some r) (hlink : Cond.fieldLink own idx RX7 (TX7 45).2.1 (TX7 45).2.2.1 ∈ x_TB) (hdg : decode cc pc = .ok (.putfield idx, 3)) (kk : ∀ (S1 : x_S) (H1 : Heap) (locs1 : List Loc), x_I E A s.heap (mw E ad S1) H1 locs1 → k S1 = some r → W p l e R s m args below meth c H1 locs1 cells slots Q (F0 m (pc + 3) ls rest)) : W p l e R s m args below meth c H locs cells slots Q (F0 m pc ls (.int x :: .ref (ad 799) :: rest)) :=
  x_put hC hI 0 7 45 tyX7 tyX7_ok nmX7 rfl rfl inX7 (by decide) rfl rfl rfl rfl (Nat.le_of_ble_eq_true rfl) rfl hlink hdg (fun H1 locs1 h => kk (s_sc S 745 x) H1 locs1 h hf)
theorem gX7_46 (hC : x_C p s m args meth c cc nL own E A) (hI : x_I E A s.heap (mw E ad S) H locs) (hlink : Cond.fieldLink own idx RX7 (TX7 46).2.1 (TX7 46).2.2.1 ∈ x_TB) (hdg : decode cc pc = .ok (.getfield idx, 3)) (kk : W p l e R s m args below meth c H locs cells slots Q (F0 m (pc + 3) ls (.ref (ad 746) :: rest))) : W p l e R s m args below meth c H locs cells slots Q (F0 m pc ls (.ref (ad 799) :: rest)) :=
  x_get hC hI 0 7 46 rfl rfl inX7 (by decide) rfl hlink rfl hdg kk
theorem aX7_46 (hC : x_C p s m args meth c cc nL own E A) (hI : x_I E A s.heap (mw E ad S) H locs) {i : Int32} {k : Int32 → Option ρ} (hf : x_g (¬ (i < 0 ∨ 64 ≤ i.toNatClampNeg)) (x_let (g_ar S 746 i.toNatClampNeg) k) = some r) (hdg : decode cc pc = .ok (.iaload, 1)) (kk : ∀ v : Int32, k v = some r → W p l e R s m args below meth c H locs cells slots Q (F0 m (pc + 1) ls (.int v :: rest))) : W p l e R s m args below meth c H locs cells slots Q (F0 m pc ls (.int i :: .ref (ad 746) :: rest)) :=
  x_iald hC hI 33 rfl (x_g_eq hf).1 hdg (kk _ (x_g_eq hf).2)
theorem tX7_46 (hC : x_C p s m args meth c cc nL own E A) (hI : x_I E A s.heap (mw E ad S) H locs) {i x : Int32} {k : x_S → Option ρ} (hf : x_g (¬ (i < 0 ∨ 64 ≤ i.toNatClampNeg)) (x_let (s_ar S 746 i.toNatClampNeg x) k) = some r) (hdg : decode cc pc = .ok (.iastore, 1)) (kk : ∀ (S1 : x_S) (H1 : Heap) (locs1 : List Loc), x_I E A s.heap (mw E ad S1) H1 locs1 → k S1 = some r → W p l e R s m args below meth c H1 locs1 cells slots Q (F0 m (pc + 1) ls rest)) : W p l e R s m args below meth c H locs cells slots Q (F0 m pc ls (.int x :: .int i :: .ref (ad 746) :: rest)) :=
  x_iast hC hI 33 rfl rfl (x_g_eq hf).1 hdg (fun H1 locs1 h => kk (s_ar S 746 i.toNatClampNeg x) H1 locs1 h (x_g_eq hf).2)
theorem gX7_47 (hC : x_C p s m args meth c cc nL own E A) (hI : x_I E A s.heap (mw E ad S) H locs) (hlink : Cond.fieldLink own idx RX7 (TX7 47).2.1 (TX7 47).2.2.1 ∈ x_TB) (hdg : decode cc pc = .ok (.getfield idx, 3)) (kk : W p l e R s m args below meth c H locs cells slots Q (F0 m (pc + 3) ls (.ref (ad 747) :: rest))) : W p l e R s m args below meth c H locs cells slots Q (F0 m pc ls (.ref (ad 799) :: rest)) :=
  x_get hC hI 0 7 47 rfl rfl inX7 (by decide) rfl hlink rfl hdg kk
theorem aX7_47 (hC : x_C p s m args meth c cc nL own E A) (hI : x_I E A s.heap (mw E ad S) H locs) {i : Int32} {k : Int32 → Option ρ} (hf : x_g (¬ (i < 0 ∨ 64 ≤ i.toNatClampNeg)) (x_let (g_ar S 747 i.toNatClampNeg) k) = some r) (hdg : decode cc pc = .ok (.iaload, 1)) (kk : ∀ v : Int32, k v = some r → W p l e R s m args below meth c H locs cells slots Q (F0 m (pc + 1) ls (.int v :: rest))) : W p l e R s m args below meth c H locs cells slots Q (F0 m pc ls (.int i :: .ref (ad 747) :: rest)) :=
  x_iald hC hI 34 rfl (x_g_eq hf).1 hdg (kk _ (x_g_eq hf).2)
theorem tX7_47 (hC : x_C p s m args meth c cc nL own E A) (hI : x_I E A s.heap (mw E ad S) H locs) {i x : Int32} {k : x_S → Option ρ} (hf : x_g (¬ (i < 0 ∨ 64 ≤ i.toNatClampNeg)) (x_let (s_ar S 747 i.toNatClampNeg x) k) = some r) (hdg : decode cc pc = .ok (.iastore, 1)) (kk : ∀ (S1 : x_S) (H1 : Heap) (locs1 : List Loc), x_I E A s.heap (mw E ad S1) H1 locs1 → k S1 = some r → W p l e R s m args below meth c H1 locs1 cells slots Q (F0 m (pc + 1) ls rest)) : W p l e R s m args below meth c H locs cells slots Q (F0 m pc ls (.int x :: .int i :: .ref (ad 747) :: rest)) :=
  x_iast hC hI 34 rfl rfl (x_g_eq hf).1 hdg (fun H1 locs1 h => kk (s_ar S 747 i.toNatClampNeg x) H1 locs1 h (x_g_eq hf).2)
theorem gX7_48 (hC : x_C p s m args meth c cc nL own E A) (hI : x_I E A s.heap (mw E ad S) H locs) (hlink : Cond.fieldLink own idx RX7 (TX7 48).2.1 (TX7 48).2.2.1 ∈ x_TB) (hdg : decode cc pc = .ok (.getfield idx, 3)) (kk : W p l e R s m args below meth c H locs cells slots Q (F0 m (pc + 3) ls (.ref (ad 748) :: rest))) : W p l e R s m args below meth c H locs cells slots Q (F0 m pc ls (.ref (ad 799) :: rest)) :=
  x_get hC hI 0 7 48 rfl rfl inX7 (by decide) rfl hlink rfl hdg kk
theorem aX7_48 (hC : x_C p s m args meth c cc nL own E A) (hI : x_I E A s.heap (mw E ad S) H locs) {i : Int32} {k : Int32 → Option ρ} (hf : x_g (¬ (i < 0 ∨ 64 ≤ i.toNatClampNeg)) (x_let (g_ar S 748 i.toNatClampNeg) k) = some r) (hdg : decode cc pc = .ok (.iaload, 1)) (kk : ∀ v : Int32, k v = some r → W p l e R s m args below meth c H locs cells slots Q (F0 m (pc + 1) ls (.int v :: rest))) : W p l e R s m args below meth c H locs cells slots Q (F0 m pc ls (.int i :: .ref (ad 748) :: rest)) :=
  x_iald hC hI 35 rfl (x_g_eq hf).1 hdg (kk _ (x_g_eq hf).2)
theorem tX7_48 (hC : x_C p s m args meth c cc nL own E A) (hI : x_I E A s.heap (mw E ad S) H locs) {i x : Int32} {k : x_S → Option ρ} (hf : x_g (¬ (i < 0 ∨ 64 ≤ i.toNatClampNeg)) (x_let (s_ar S 748 i.toNatClampNeg x) k) = some r) (hdg : decode cc pc = .ok (.iastore, 1)) (kk : ∀ (S1 : x_S) (H1 : Heap) (locs1 : List Loc), x_I E A s.heap (mw E ad S1) H1 locs1 → k S1 = some r → W p l e R s m args below meth c H1 locs1 cells slots Q (F0 m (pc + 1) ls rest)) : W p l e R s m args below meth c H locs cells slots Q (F0 m pc ls (.int x :: .int i :: .ref (ad 748) :: rest)) :=
  x_iast hC hI 35 rfl rfl (x_g_eq hf).1 hdg (fun H1 locs1 h => kk (s_ar S 748 i.toNatClampNeg x) H1 locs1 h (x_g_eq hf).2)
theorem gX7_49 (hC : x_C p s m args meth c cc nL own E A) (hI : x_I E A s.heap (mw E ad S) H locs) (hlink : Cond.fieldLink own idx RX7 (TX7 49).2.1 (TX7 49).2.2.1 ∈ x_TB) (hdg : decode cc pc = .ok (.getfield idx, 3)) (kk : W p l e R s m args below meth c H locs cells slots Q (F0 m (pc + 3) ls (.ref (ad 749) :: rest))) : W p l e R s m args below meth c H locs cells slots Q (F0 m pc ls (.ref (ad 799) :: rest)) :=
  x_get hC hI 0 7 49 rfl rfl inX7 (by decide) rfl hlink rfl hdg kk
theorem aX7_49 (hC : x_C p s m args meth c cc nL own E A) (hI : x_I E A s.heap (mw E ad S) H locs) {i : Int32} {k : Int32 → Option ρ} (hf : x_g (¬ (i < 0 ∨ 64 ≤ i.toNatClampNeg)) (x_let (g_ar S 749 i.toNatClampNeg) k) = some r) (hdg : decode cc pc = .ok (.iaload, 1)) (kk : ∀ v : Int32, k v = some r → W p l e R s m args below meth c H locs cells slots Q (F0 m (pc + 1) ls (.int v :: rest))) : W p l e R s m args below meth c H locs cells slots Q (F0 m pc ls (.int i :: .ref (ad 749) :: rest)) :=
  x_iald hC hI 36 rfl (x_g_eq hf).1 hdg (kk _ (x_g_eq hf).2)
theorem tX7_49 (hC : x_C p s m args meth c cc nL own E A) (hI : x_I E A s.heap (mw E ad S) H locs) {i x : Int32} {k : x_S → Option ρ} (hf : x_g (¬ (i < 0 ∨ 64 ≤ i.toNatClampNeg)) (x_let (s_ar S 749 i.toNatClampNeg x) k) = some r) (hdg : decode cc pc = .ok (.iastore, 1)) (kk : ∀ (S1 : x_S) (H1 : Heap) (locs1 : List Loc), x_I E A s.heap (mw E ad S1) H1 locs1 → k S1 = some r → W p l e R s m args below meth c H1 locs1 cells slots Q (F0 m (pc + 1) ls rest)) : W p l e R s m args below meth c H locs cells slots Q (F0 m pc ls (.int x :: .int i :: .ref (ad 749) :: rest)) :=
  x_iast hC hI 36 rfl rfl (x_g_eq hf).1 hdg (fun H1 locs1 h => kk (s_ar S 749 i.toNatClampNeg x) H1 locs1 h (x_g_eq hf).2)
theorem gX7_50 (hC : x_C p s m args meth c cc nL own E A) (hI : x_I E A s.heap (mw E ad S) H locs) (hlink : Cond.fieldLink own idx RX7 (TX7 50).2.1 (TX7 50).2.2.1 ∈ x_TB) (hdg : decode cc pc = .ok (.getfield idx, 3)) (kk : W p l e R s m args below meth c H locs cells slots Q (F0 m (pc + 3) ls (.ref (ad 750) :: rest))) : W p l e R s m args below meth c H locs cells slots Q (F0 m pc ls (.ref (ad 799) :: rest)) :=
  x_get hC hI 0 7 50 rfl rfl inX7 (by decide) rfl hlink rfl hdg kk
theorem aX7_50 (hC : x_C p s m args meth c cc nL own E A) (hI : x_I E A s.heap (mw E ad S) H locs) {i : Int32} {k : Int32 → Option ρ} (hf : x_g (¬ (i < 0 ∨ 64 ≤ i.toNatClampNeg)) (x_let (g_ar S 750 i.toNatClampNeg) k) = some r) (hdg : decode cc pc = .ok (.iaload, 1)) (kk : ∀ v : Int32, k v = some r → W p l e R s m args below meth c H locs cells slots Q (F0 m (pc + 1) ls (.int v :: rest))) : W p l e R s m args below meth c H locs cells slots Q (F0 m pc ls (.int i :: .ref (ad 750) :: rest)) :=
  x_iald hC hI 37 rfl (x_g_eq hf).1 hdg (kk _ (x_g_eq hf).2)
theorem tX7_50 (hC : x_C p s m args meth c cc nL own E A) (hI : x_I E A s.heap (mw E ad S) H locs) {i x : Int32} {k : x_S → Option ρ} (hf : x_g (¬ (i < 0 ∨ 64 ≤ i.toNatClampNeg)) (x_let (s_ar S 750 i.toNatClampNeg x) k) = some r) (hdg : decode cc pc = .ok (.iastore, 1)) (kk : ∀ (S1 : x_S) (H1 : Heap) (locs1 : List Loc), x_I E A s.heap (mw E ad S1) H1 locs1 → k S1 = some r → W p l e R s m args below meth c H1 locs1 cells slots Q (F0 m (pc + 1) ls rest)) : W p l e R s m args below meth c H locs cells slots Q (F0 m pc ls (.int x :: .int i :: .ref (ad 750) :: rest)) :=
  x_iast hC hI 37 rfl rfl (x_g_eq hf).1 hdg (fun H1 locs1 h => kk (s_ar S 750 i.toNatClampNeg x) H1 locs1 h (x_g_eq hf).2)
theorem gX7_51 (hC : x_C p s m args meth c cc nL own E A) (hI : x_I E A s.heap (mw E ad S) H locs) (hlink : Cond.fieldLink own idx RX7 (TX7 51).2.1 (TX7 51).2.2.1 ∈ x_TB) (hdg : decode cc pc = .ok (.getfield idx, 3)) (kk : W p l e R s m args below meth c H locs cells slots Q (F0 m (pc + 3) ls (.ref (ad 751) :: rest))) : W p l e R s m args below meth c H locs cells slots Q (F0 m pc ls (.ref (ad 799) :: rest)) :=
  x_get hC hI 0 7 51 rfl rfl inX7 (by decide) rfl hlink rfl hdg kk
theorem aX7_51 (hC : x_C p s m args meth c cc nL own E A) (hI : x_I E A s.heap (mw E ad S) H locs) {i : Int32} {k : Int32 → Option ρ} (hf : x_g (¬ (i < 0 ∨ 64 ≤ i.toNatClampNeg)) (x_let (g_ar S 751 i.toNatClampNeg) k) = some r) (hdg : decode cc pc = .ok (.iaload, 1)) (kk : ∀ v : Int32, k v = some r → W p l e R s m args below meth c H locs cells slots Q (F0 m (pc + 1) ls (.int v :: rest))) : W p l e R s m args below meth c H locs cells slots Q (F0 m pc ls (.int i :: .ref (ad 751) :: rest)) :=
  x_iald hC hI 38 rfl (x_g_eq hf).1 hdg (kk _ (x_g_eq hf).2)
theorem tX7_51 (hC : x_C p s m args meth c cc nL own E A) (hI : x_I E A s.heap (mw E ad S) H locs) {i x : Int32} {k : x_S → Option ρ} (hf : x_g (¬ (i < 0 ∨ 64 ≤ i.toNatClampNeg)) (x_let (s_ar S 751 i.toNatClampNeg x) k) = some r) (hdg : decode cc pc = .ok (.iastore, 1)) (kk : ∀ (S1 : x_S) (H1 : Heap) (locs1 : List Loc), x_I E A s.heap (mw E ad S1) H1 locs1 → k S1 = some r → W p l e R s m args below meth c H1 locs1 cells slots Q (F0 m (pc + 1) ls rest)) : W p l e R s m args below meth c H locs cells slots Q (F0 m pc ls (.int x :: .int i :: .ref (ad 751) :: rest)) :=
  x_iast hC hI 38 rfl rfl (x_g_eq hf).1 hdg (fun H1 locs1 h => kk (s_ar S 751 i.toNatClampNeg x) H1 locs1 h (x_g_eq hf).2)
theorem gX7_52 (hC : x_C p s m args meth c cc nL own E A) (hI : x_I E A s.heap (mw E ad S) H locs) (hlink : Cond.fieldLink own idx RX7 (TX7 52).2.1 (TX7 52).2.2.1 ∈ x_TB) (hdg : decode cc pc = .ok (.getfield idx, 3)) (kk : W p l e R s m args below meth c H locs cells slots Q (F0 m (pc + 3) ls (.ref (ad 752) :: rest))) : W p l e R s m args below meth c H locs cells slots Q (F0 m pc ls (.ref (ad 799) :: rest)) :=
  x_get hC hI 0 7 52 rfl rfl inX7 (by decide) rfl hlink rfl hdg kk
theorem aX7_52 (hC : x_C p s m args meth c cc nL own E A) (hI : x_I E A s.heap (mw E ad S) H locs) {i : Int32} {k : Int32 → Option ρ} (hf : x_g (¬ (i < 0 ∨ 8 ≤ i.toNatClampNeg)) (x_let (g_ar S 752 i.toNatClampNeg) k) = some r) (hdg : decode cc pc = .ok (.iaload, 1)) (kk : ∀ v : Int32, k v = some r → W p l e R s m args below meth c H locs cells slots Q (F0 m (pc + 1) ls (.int v :: rest))) : W p l e R s m args below meth c H locs cells slots Q (F0 m pc ls (.int i :: .ref (ad 752) :: rest)) :=
  x_iald hC hI 39 rfl (x_g_eq hf).1 hdg (kk _ (x_g_eq hf).2)
theorem tX7_52 (hC : x_C p s m args meth c cc nL own E A) (hI : x_I E A s.heap (mw E ad S) H locs) {i x : Int32} {k : x_S → Option ρ} (hf : x_g (¬ (i < 0 ∨ 8 ≤ i.toNatClampNeg)) (x_let (s_ar S 752 i.toNatClampNeg x) k) = some r) (hdg : decode cc pc = .ok (.iastore, 1)) (kk : ∀ (S1 : x_S) (H1 : Heap) (locs1 : List Loc), x_I E A s.heap (mw E ad S1) H1 locs1 → k S1 = some r → W p l e R s m args below meth c H1 locs1 cells slots Q (F0 m (pc + 1) ls rest)) : W p l e R s m args below meth c H locs cells slots Q (F0 m pc ls (.int x :: .int i :: .ref (ad 752) :: rest)) :=
  x_iast hC hI 39 rfl rfl (x_g_eq hf).1 hdg (fun H1 locs1 h => kk (s_ar S 752 i.toNatClampNeg x) H1 locs1 h (x_g_eq hf).2)
theorem gX7_53 (hC : x_C p s m args meth c cc nL own E A) (hI : x_I E A s.heap (mw E ad S) H locs) (hlink : Cond.fieldLink own idx RX7 (TX7 53).2.1 (TX7 53).2.2.1 ∈ x_TB) (hdg : decode cc pc = .ok (.getfield idx, 3)) (kk : W p l e R s m args below meth c H locs cells slots Q (F0 m (pc + 3) ls (.ref (ad 753) :: rest))) : W p l e R s m args below meth c H locs cells slots Q (F0 m pc ls (.ref (ad 799) :: rest)) :=
  x_get hC hI 0 7 53 rfl rfl inX7 (by decide) rfl hlink rfl hdg kk
theorem aX7_53 (hC : x_C p s m args meth c cc nL own E A) (hI : x_I E A s.heap (mw E ad S) H locs) {i : Int32} {k : Int32 → Option ρ} (hf : x_g (¬ (i < 0 ∨ 8 ≤ i.toNatClampNeg)) (x_let (g_ar S 753 i.toNatClampNeg) k) = some r) (hdg : decode cc pc = .ok (.iaload, 1)) (kk : ∀ v : Int32, k v = some r → W p l e R s m args below meth c H locs cells slots Q (F0 m (pc + 1) ls (.int v :: rest))) : W p l e R s m args below meth c H locs cells slots Q (F0 m pc ls (.int i :: .ref (ad 753) :: rest)) :=
  x_iald hC hI 40 rfl (x_g_eq hf).1 hdg (kk _ (x_g_eq hf).2)
theorem tX7_53 (hC : x_C p s m args meth c cc nL own E A) (hI : x_I E A s.heap (mw E ad S) H locs) {i x : Int32} {k : x_S → Option ρ} (hf : x_g (¬ (i < 0 ∨ 8 ≤ i.toNatClampNeg)) (x_let (s_ar S 753 i.toNatClampNeg x) k) = some r) (hdg : decode cc pc = .ok (.iastore, 1)) (kk : ∀ (S1 : x_S) (H1 : Heap) (locs1 : List Loc), x_I E A s.heap (mw E ad S1) H1 locs1 → k S1 = some r → W p l e R s m args below meth c H1 locs1 cells slots Q (F0 m (pc + 1) ls rest)) : W p l e R s m args below meth c H locs cells slots Q (F0 m pc ls (.int x :: .int i :: .ref (ad 753) :: rest)) :=
  x_iast hC hI 40 rfl rfl (x_g_eq hf).1 hdg (fun H1 locs1 h => kk (s_ar S 753 i.toNatClampNeg x) H1 locs1 h (x_g_eq hf).2)
end
end
section
/-! rows that no program wrote: references, branches of a switch, Math, copies -/
def x_o {ρ : Type} (o : Option Nat) (a : Option ρ) (b : Nat → Option ρ) : Option ρ := match o with
  | none => a
  | some i => b i
def x_b {α ρ : Type} (o : Option α) (k : α → Option ρ) : Option ρ := match o with
  | none => none
  | some i => k i
def x_b2 {α β ρ : Type} (o : Option (α × β)) (k : α → β → Option ρ) : Option ρ := match o with
  | none => none
  | some i => k i.1 i.2
theorem x_b_eq {α ρ : Type} {o : Option α} {k : α → Option ρ} {r : ρ} (h : x_b o k = some r) : ∃ v, o = some v ∧ k v = some r := by
  cases o with
  | none => cases h
  | some v => exact ⟨v, rfl, h⟩
theorem x_b2_eq {α β ρ : Type} {o : Option (α × β)} {k : α → β → Option ρ} {r : ρ} (h : x_b2 o k = some r) : ∃ v S, o = some (v, S) ∧ k v S = some r := by
  cases o with
  | none => cases h
  | some v => exact ⟨v.1, v.2, rfl, h⟩
theorem x_case {ρ : Type} {F G : Option ρ} {r : ρ} {x K : Int32} {Z : Prop} (hf : (if x = K then F else G) = some r) (kt : x = K → F = some r → Z) (kf : ¬ x = K → G = some r → Z) : Z := by
  by_cases h : x = K
  · exact kt h (by rw [if_pos h] at hf; exact hf)
  · exact kf h (by rw [if_neg h] at hf; exact hf)
section
variable {p : Program} {l : Launch} {e : Env} {R : Room} {s : State} {m : MethodId} {args : Array Value} {below : List Frame} {meth : Method} {c : Code} {H : Heap} {locs : List Loc} {cells slots : Nat} {Q : State → Prop}
variable {cc : ByteArray} {nL pc : Nat} {own : String} {E : x_E} {A : Nat → Prop} {ls : Array Slot} {rest : List Value} {ad : Nat → Nat} {ap : Nat → Nat → Nat} {S : x_S} {ρ : Type} {r : ρ} {idx : Nat} {w : va_W}
theorem x_casesR {o : Option Nat} {a : Option ρ} {b : Nat → Option ρ} (hf : x_o o a b = some r) (kn : a = some r → W p l e R s m args below meth c H locs cells slots Q (F0 m pc ls (.null :: rest))) (ks : ∀ i, b i = some r → W p l e R s m args below meth c H locs cells slots Q (F0 m pc ls (.ref (ap i 0) :: rest))) : W p l e R s m args below meth c H locs cells slots Q (F0 m pc ls (x_rr ap o :: rest)) := by
  cases o with
  | none => exact kn hf
  | some i => exact ks i hf
theorem x_casesN {o : Option Nat} {a : Option ρ} {b : Nat → Option ρ} (hf : x_o o a b = some r) (kn : a = some r → W p l e R s m args below meth c H locs cells slots Q (F0 m pc ls (.null :: rest))) (ks : ∀ i, b i = some r → W p l e R s m args below meth c H locs cells slots Q (F0 m pc ls (.ref (ad 605) :: rest))) : W p l e R s m args below meth c H locs cells slots Q (F0 m pc ls (x_nr ad o :: rest)) := by
  cases o with
  | none => exact kn hf
  | some i => exact ks i hf
theorem x_max (hC : x_C p s m args meth c cc nL own E A) (hls : ls.size = nL) {x y : Int32} {k : Int32 → Option ρ} (hf : x_let (if x < y then y else x) k = some r) (hlink : Cond.methodLink own idx Lib.Math.max.name ∈ x_TB) (hstat : Cond.static Lib.Math.max.name ∈ x_TB) (hini : Cond.initialized "java/lang/Math" ∈ x_TB) (hcode : Cond.code Lib.Math.max.name Lib.Math.max.code 2 (some .int) ∈ x_TB) (hroom : 1 ≤ R.frames ∧ (rest.map fun v => v.category).sum + 13 ≤ R.locals) (hcap : cells ≤ R.cells ∧ slots ≤ R.slots) (hdg : decode cc pc = .ok (.invokestatic idx, 3))
    (kk : ∀ v : Int32, k v = some r → W p l e R s m args below meth c H locs cells slots Q (F0 m (pc + 3) ls (.int v :: rest))) : W p l e R s m args below meth c H locs cells slots Q (F0 m pc ls (.int y :: .int x :: rest)) := by
  obtain ⟨hx, hb, hml, hown, hts, hK, hN, hA⟩ := hC
  exact va_mmax hx hb (hml.trans hls.symm) hown (hts _ hlink) (hts _ hstat) (hts _ hini) (hts _ hcode) hroom.1 hroom.2 hcap.1 hcap.2 hdg (kk _ hf)
theorem x_min (hC : x_C p s m args meth c cc nL own E A) (hls : ls.size = nL) {x y : Int32} {k : Int32 → Option ρ} (hf : x_let (if y < x then y else x) k = some r) (hlink : Cond.methodLink own idx Lib.Math.min.name ∈ x_TB) (hstat : Cond.static Lib.Math.min.name ∈ x_TB) (hini : Cond.initialized "java/lang/Math" ∈ x_TB) (hcode : Cond.code Lib.Math.min.name Lib.Math.min.code 2 (some .int) ∈ x_TB) (hroom : 1 ≤ R.frames ∧ (rest.map fun v => v.category).sum + 13 ≤ R.locals) (hcap : cells ≤ R.cells ∧ slots ≤ R.slots) (hdg : decode cc pc = .ok (.invokestatic idx, 3))
    (kk : ∀ v : Int32, k v = some r → W p l e R s m args below meth c H locs cells slots Q (F0 m (pc + 3) ls (.int v :: rest))) : W p l e R s m args below meth c H locs cells slots Q (F0 m pc ls (.int y :: .int x :: rest)) := by
  obtain ⟨hx, hb, hml, hown, hts, hK, hN, hA⟩ := hC
  exact va_mmin hx hb (hml.trans hls.symm) hown (hts _ hlink) (hts _ hstat) (hts _ hini) (hts _ hcode) hroom.1 hroom.2 hcap.1 hcap.2 hdg (kk _ hf)
/-- Reader.source, Writer.numbers -/
theorem pX1_1 (hC : x_C p s m args meth c cc nL own E A) (hI : x_I E A s.heap (cw E ad ap S) H locs) {i : Nat} {k : x_S → Option ρ} (hf : x_let (s_rf S 101 (some i)) k = some r) (hlink : Cond.fieldLink own idx RX1 (TX1 1).2.1 (TX1 1).2.2.1 ∈ x_TB) (hdg : decode cc pc = .ok (.putfield idx, 3)) (kk : ∀ (S1 : x_S) (H1 : Heap) (locs1 : List Loc), x_I E A s.heap (cw E ad ap S1) H1 locs1 → k S1 = some r → W p l e R s m args below meth c H1 locs1 cells slots Q (F0 m (pc + 3) ls rest)) : W p l e R s m args below meth c H locs cells slots Q (F0 m pc ls (.ref (ap i 0) :: .ref (ad 199) :: rest)) :=
  x_put hC hI 2 1 1 tyX1 tyX1_ok nmX1 rfl rfl inX1 (by decide) rfl rfl rfl rfl (Nat.le_of_ble_eq_true rfl) (x_cw_fx E ad ap S (s_rf S 101 (some i)) 2 _ (by decide) rfl rfl rfl) hlink hdg (fun H1 locs1 h => kk (s_rf S 101 (some i)) H1 locs1 h hf)
theorem pX5_2 (hC : x_C p s m args meth c cc nL own E A) (hI : x_I E A s.heap (cw E ad ap S) H locs) {k : x_S → Option ρ} (hf : x_let (s_rf S 502 (some 0)) k = some r) (hlink : Cond.fieldLink own idx RX5 (TX5 2).2.1 (TX5 2).2.2.1 ∈ x_TB) (hdg : decode cc pc = .ok (.putfield idx, 3)) (kk : ∀ (S1 : x_S) (H1 : Heap) (locs1 : List Loc), x_I E A s.heap (cw E ad ap S1) H1 locs1 → k S1 = some r → W p l e R s m args below meth c H1 locs1 cells slots Q (F0 m (pc + 3) ls rest)) : W p l e R s m args below meth c H locs cells slots Q (F0 m pc ls (.ref (ad 605) :: .ref (ad 599) :: rest)) :=
  x_put hC hI 5 5 2 tyX5 tyX5_ok nmX5 rfl rfl inX5 (by decide) rfl rfl rfl rfl (Nat.le_of_ble_eq_true rfl) (x_cw_fx E ad ap S (s_rf S 502 (some 0)) 5 _ (by decide) rfl rfl rfl) hlink hdg (fun H1 locs1 h => kk (s_rf S 502 (some 0)) H1 locs1 h hf)
theorem x_aast (hC : x_C p s m args meth c cc nL own E A) {w' : va_W} (hI : x_I E A s.heap w H locs) (q0 qk : Nat) {a n v : Nat} {vs : List Value} {f : Nat → Option Nat} (he : w[q0]? = some (a, .inl (E.2.2.2, n, .inr (.inr (.inr (.inr f)))))) (hv : w[qk]? = some (v, .inr (2, vs))) {i : Int32} (hw : w.set q0 (a, .inl (E.2.2.2, n, .inr (.inr (.inr (.inr (va_up f i.toNatClampNeg (some v))))))) = w') (hin : ¬ (i < 0 ∨ n ≤ i.toNatClampNeg)) (hdg : decode cc pc = .ok (.aastore, 1))
    (kk : ∀ (H1 : Heap) (locs1 : List Loc), x_I E A s.heap w' H1 locs1 → W p l e R s m args below meth c H1 locs1 cells slots Q (F0 m (pc + 1) ls rest)) : W p l e R s m args below meth c H locs cells slots Q (F0 m pc ls (.ref v :: .int i :: .ref a :: rest)) := by
  obtain ⟨hx, hb, hml, hown, hts, hK, hN, hA⟩ := hC
  subst hw
  exact va_astq (D := E.1) (cl := vwCl) (r := (RX2, TX2, 6)) hx hb hK hI.1 hI.2.1 hI.2.2 q0 2 qk 2 he rfl hv rfl hin hdg (fun H1 locs1 h1 h2 h3 => kk H1 locs1 ⟨h1, h2, h3⟩)
theorem x_upm (ap : Nat → Nat → Nat) (f : Nat → Option Nat) (k i : Nat) : va_up (fun j => (f j).map (fun i => ap i 0)) k (some (ap i 0)) = fun j => (va_up f k (some i) j).map (fun i => ap i 0) := by
  funext j
  unfold va_up
  by_cases h : j = k
  · rw [if_pos h, if_pos h]; rfl
  · rw [if_neg h, if_neg h]
theorem tX3_6 (hC : x_C p s m args meth c cc nL own E A) (hI : x_I E A s.heap (cw E ad ap S) H locs) {j : Nat} {i : Int32} {k : x_S → Option ρ} (hf : x_g (j < g_np S) (x_g (¬ (i < 0 ∨ 8 ≤ i.toNatClampNeg)) (x_let (s_ra S 306 i.toNatClampNeg (some j)) k)) = some r) (hdg : decode cc pc = .ok (.aastore, 1)) (kk : ∀ (S1 : x_S) (H1 : Heap) (locs1 : List Loc), x_I E A s.heap (cw E ad ap S1) H1 locs1 → k S1 = some r → W p l e R s m args below meth c H1 locs1 cells slots Q (F0 m (pc + 1) ls rest)) : W p l e R s m args below meth c H locs cells slots Q (F0 m pc ls (.ref (ap j 0) :: .int i :: .ref (ad 306) :: rest)) := by
  refine x_aast hC hI 19 (36 + (5 * j + 0)) rfl (x_cw_get E ad ap S j 0 (by decide) (x_g_eq hf).1) ?_ (x_g_eq (x_g_eq hf).2).1 hdg (fun H1 locs1 h => kk (s_ra S 306 i.toNatClampNeg (some j)) H1 locs1 h (x_g_eq (x_g_eq hf).2).2)
  refine x_cw_fx E ad ap S (s_ra S 306 i.toNatClampNeg (some j)) 19 _ (by decide) rfl ?_ rfl
  rw [x_upm ap (g_ra S 306)]
  rfl
theorem tX6_0 (hC : x_C p s m args meth c cc nL own E A) (hI : x_I E A s.heap (cw E ad ap S) H locs) {j : Nat} {i : Int32} {k : x_S → Option ρ} (hf : x_g (j < g_np S) (x_g (¬ (i < 0 ∨ 12 ≤ i.toNatClampNeg)) (x_let (s_ra S 600 i.toNatClampNeg (some j)) k)) = some r) (hdg : decode cc pc = .ok (.aastore, 1)) (kk : ∀ (S1 : x_S) (H1 : Heap) (locs1 : List Loc), x_I E A s.heap (cw E ad ap S1) H1 locs1 → k S1 = some r → W p l e R s m args below meth c H1 locs1 cells slots Q (F0 m (pc + 1) ls rest)) : W p l e R s m args below meth c H locs cells slots Q (F0 m pc ls (.ref (ap j 0) :: .int i :: .ref (ad 600) :: rest)) := by
  refine x_aast hC hI 6 (36 + (5 * j + 0)) rfl (x_cw_get E ad ap S j 0 (by decide) (x_g_eq hf).1) ?_ (x_g_eq (x_g_eq hf).2).1 hdg (fun H1 locs1 h => kk (s_ra S 600 i.toNatClampNeg (some j)) H1 locs1 h (x_g_eq (x_g_eq hf).2).2)
  refine x_cw_fx E ad ap S (s_ra S 600 i.toNatClampNeg (some j)) 6 _ (by decide) rfl ?_ rfl
  rw [x_upm ap (g_ra S 600)]
  rfl
/-- System.arraycopy between two rows of ints of the class -/
theorem x_copy (hC : x_C p s m args meth c cc nL own E A) (hls : ls.size = nL) {w' : va_W} (hI : x_I E A s.heap w H locs) (q0 q1 : Nat) {a0 a n0 n1 : Nat} {f g : Nat → Int32} (ha0 : w[q0]? = some (a0, .inl (E.2.1, n0, .inl f))) (ha1 : w[q1]? = some (a, .inl (E.2.1, n1, .inl g))) {sp dp n : Int32} (hg : ¬ sp < 0 ∧ ¬ dp < 0 ∧ ¬ n < 0 ∧ sp.toNatClampNeg + n.toNatClampNeg ≤ n0 ∧ dp.toNatClampNeg + n.toNatClampNeg ≤ n1) (hw : w.set q1 (a, .inl (E.2.1, n1, .inl (va_cpy f g sp.toNatClampNeg dp.toNatClampNeg n.toNatClampNeg))) = w') (hlink : Cond.methodLink own idx arraycopyName ∈ x_TB) (hnat : Cond.native arraycopyName ∈ x_TB) (hstat : Cond.static arraycopyName ∈ x_TB) (hini : Cond.initialized "java/lang/System" ∈ x_TB) (hroom : 1 ≤ R.frames ∧ (rest.map fun v => v.category).sum + (nativeFrameWords "java/lang/System" "arraycopy" 5 + 11) ≤ R.locals) (hdg : decode cc pc = .ok (.invokestatic idx, 3))
    (kk : ∀ (H1 : Heap) (locs1 : List Loc), x_I E A s.heap w' H1 locs1 → W p l e R s m args below meth c H1 locs1 cells slots Q (F0 m (pc + 3) ls rest)) : W p l e R s m args below meth c H locs cells slots Q (F0 m pc ls (.int n :: .int dp :: .ref a :: .int sp :: .ref a0 :: rest)) := by
  obtain ⟨hx, hb, hml, hown, hts, hK, hN, hA⟩ := hC
  subst hw
  exact va_copyi (D := E.1) (cl := vwCl) hx hb (hml.trans hls.symm) hown (hts _ hlink) (hts _ hnat) (hts _ hstat) (hts _ hini) hK hI.1 hI.2.1 hI.2.2 q0 q1 0 0 ha0 ha1 rfl rfl rfl hg.1 hg.2.1 hg.2.2.1 hg.2.2.2.1 hg.2.2.2.2 (fun _ _ => rfl) hroom.1 hroom.2 hdg (fun H1 locs1 h1 h2 h3 => kk H1 locs1 ⟨h1, h2, h3⟩)
/-- the pure word of a copy -/
def s_cp (S : x_S) (k0 k1 : Nat) (sp dp n : Int32) : x_S := s_aw S k1 (va_cpy (S.2.1 k0) (S.2.1 k1) sp.toNatClampNeg dp.toNatClampNeg n.toNatClampNeg)
theorem x_cp_407_605 (hC : x_C p s m args meth c cc nL own E A) (hls : ls.size = nL) (hI : x_I E A s.heap (cw E ad ap S) H locs) {sp dp n : Int32} {k : x_S → Option ρ} (hf : x_g (¬ sp < 0 ∧ ¬ dp < 0 ∧ ¬ n < 0 ∧ sp.toNatClampNeg + n.toNatClampNeg ≤ 241 ∧ dp.toNatClampNeg + n.toNatClampNeg ≤ 300) (x_let (s_cp S 407 605 sp dp n) k) = some r) (hlink : Cond.methodLink own idx arraycopyName ∈ x_TB) (hnat : Cond.native arraycopyName ∈ x_TB) (hstat : Cond.static arraycopyName ∈ x_TB) (hini : Cond.initialized "java/lang/System" ∈ x_TB) (hroom : 1 ≤ R.frames ∧ (rest.map fun v => v.category).sum + (nativeFrameWords "java/lang/System" "arraycopy" 5 + 11) ≤ R.locals) (hdg : decode cc pc = .ok (.invokestatic idx, 3)) (kk : ∀ (S1 : x_S) (H1 : Heap) (locs1 : List Loc), x_I E A s.heap (cw E ad ap S1) H1 locs1 → k S1 = some r → W p l e R s m args below meth c H1 locs1 cells slots Q (F0 m (pc + 3) ls rest)) : W p l e R s m args below meth c H locs cells slots Q (F0 m pc ls (.int n :: .int dp :: .ref (ad 605) :: .int sp :: .ref (ad 407) :: rest)) :=
  x_copy hC hls hI 28 7 rfl rfl (x_g_eq hf).1 (x_cw_fx E ad ap S (s_cp S 407 605 sp dp n) 7 _ (by decide) rfl rfl rfl) hlink hnat hstat hini hroom hdg (fun H1 locs1 h => kk (s_cp S 407 605 sp dp n) H1 locs1 h (x_g_eq hf).2)
theorem x_cp_609_304 (hC : x_C p s m args meth c cc nL own E A) (hls : ls.size = nL) (hI : x_I E A s.heap (cw E ad ap S) H locs) {sp dp n : Int32} {k : x_S → Option ρ} (hf : x_g (¬ sp < 0 ∧ ¬ dp < 0 ∧ ¬ n < 0 ∧ sp.toNatClampNeg + n.toNatClampNeg ≤ 4 ∧ dp.toNatClampNeg + n.toNatClampNeg ≤ 4) (x_let (s_cp S 609 304 sp dp n) k) = some r) (hlink : Cond.methodLink own idx arraycopyName ∈ x_TB) (hnat : Cond.native arraycopyName ∈ x_TB) (hstat : Cond.static arraycopyName ∈ x_TB) (hini : Cond.initialized "java/lang/System" ∈ x_TB) (hroom : 1 ≤ R.frames ∧ (rest.map fun v => v.category).sum + (nativeFrameWords "java/lang/System" "arraycopy" 5 + 11) ≤ R.locals) (hdg : decode cc pc = .ok (.invokestatic idx, 3)) (kk : ∀ (S1 : x_S) (H1 : Heap) (locs1 : List Loc), x_I E A s.heap (cw E ad ap S1) H1 locs1 → k S1 = some r → W p l e R s m args below meth c H1 locs1 cells slots Q (F0 m (pc + 3) ls rest)) : W p l e R s m args below meth c H locs cells slots Q (F0 m pc ls (.int n :: .int dp :: .ref (ad 304) :: .int sp :: .ref (ad 609) :: rest)) :=
  x_copy hC hls hI 8 18 rfl rfl (x_g_eq hf).1 (x_cw_fx E ad ap S (s_cp S 609 304 sp dp n) 18 _ (by decide) rfl rfl rfl) hlink hnat hstat hini hroom hdg (fun H1 locs1 h => kk (s_cp S 609 304 sp dp n) H1 locs1 h (x_g_eq hf).2)
end
end
section
theorem lkf_X6_40 : Cond.fieldLink RX6 40 RX6 (TX6 6).2.1 (TX6 6).2.2.1 ∈ x_TB := x_in 285 (by decide +kernel) (by decide +kernel)
theorem lkf_X6_36 : Cond.fieldLink RX6 36 RX6 (TX6 5).2.1 (TX6 5).2.2.1 ∈ x_TB := x_in 284 (by decide +kernel) (by decide +kernel)
theorem lkf_X6_50 : Cond.fieldLink RX6 50 RX6 (TX6 8).2.1 (TX6 8).2.2.1 ∈ x_TB := x_in 287 (by decide +kernel) (by decide +kernel)
theorem lkf_X6_15 : Cond.fieldLink RX6 15 RX6 (TX6 1).2.1 (TX6 1).2.2.1 ∈ x_TB := x_in 280 (by decide +kernel) (by decide +kernel)
theorem lkf_X6_11 : Cond.fieldLink RX6 11 RX6 (TX6 0).2.1 (TX6 0).2.2.1 ∈ x_TB := x_in 279 (by decide +kernel) (by decide +kernel)
theorem lkc_X6_find : Cond.code yX6_find cX6_find 2 (some (.object "StoryDecompile$Routine")) ∈ x_TB := x_in 329 (by decide +kernel) (by decide +kernel)
theorem kv_X6_68 : x_V RX6 68 RX6 yX6_find cX6_find 2 (some (.object "StoryDecompile$Routine")) 1 := ⟨lkc_X6_find, x_in 326 (by decide +kernel) (by decide +kernel), x_in 328 (by decide +kernel) (by decide +kernel), x_inp 1 (by decide +kernel) (by decide +kernel), x_in 1 (by decide +kernel) (by decide +kernel), rfl, by decide +kernel, by decide +kernel, by decide +kernel⟩
theorem lkf_X2_24 : Cond.fieldLink RX2 24 RX2 (TX2 4).2.1 (TX2 4).2.2.1 ∈ x_TB := x_in 170 (by decide +kernel) (by decide +kernel)
theorem lkf_X2_9 : Cond.fieldLink RX2 9 RX2 (TX2 0).2.1 (TX2 0).2.2.1 ∈ x_TB := x_in 151 (by decide +kernel) (by decide +kernel)
theorem lkf_X2_15 : Cond.fieldLink RX2 15 RX2 (TX2 1).2.1 (TX2 1).2.2.1 ∈ x_TB := x_in 156 (by decide +kernel) (by decide +kernel)
theorem lkf_X2_18 : Cond.fieldLink RX2 18 RX2 (TX2 2).2.1 (TX2 2).2.2.1 ∈ x_TB := x_in 160 (by decide +kernel) (by decide +kernel)
theorem lkf_X2_21 : Cond.fieldLink RX2 21 RX2 (TX2 3).2.1 (TX2 3).2.2.1 ∈ x_TB := x_in 164 (by decide +kernel) (by decide +kernel)
theorem lkc_X2_isAlike : Cond.code yX2_isAlike cX2_isAlike 3 (some .boolean) ∈ x_TB := x_in 475 (by decide +kernel) (by decide +kernel)
theorem kv_X6_156 : x_V RX6 156 RX2 yX2_isAlike cX2_isAlike 3 (some .boolean) 1 := ⟨lkc_X2_isAlike, x_in 472 (by decide +kernel) (by decide +kernel), x_in 473 (by decide +kernel) (by decide +kernel), x_in 474 (by decide +kernel) (by decide +kernel), x_in 6 (by decide +kernel) (by decide +kernel), rfl, by decide +kernel, by decide +kernel, by decide +kernel⟩
theorem lkf_X6_53 : Cond.fieldLink RX6 53 RX6 (TX6 9).2.1 (TX6 9).2.2.1 ∈ x_TB := x_in 288 (by decide +kernel) (by decide +kernel)
end
section
section
variable {p : Program} {l : Launch} {e : Env} {s : State} {m : MethodId} {args : Array Value} {below : List Frame} {meth : Method} {c : Code} {H : Heap} {locs : List Loc} {Q : State → Prop}
variable {E : x_E} {A : Nat → Prop} {ls : Array Slot} {ad : Nat → Nat} {ap : Nat → Nat → Nat} {S : x_S} {w : va_W} {n : Nat}
-- X6_feed
def f_X6_feed (n : Nat) (S : x_S) (a1 : Int32) : Option (Int32 × x_S) :=
x_let (g_sc S 606) (fun v1 =>
if v1 < (300 : Int32) then
x_let (g_sc S 606) (fun v2 =>
x_g (¬ (v2 < 0 ∨ 300 ≤ (v2).toNatClampNeg)) (x_let (s_ar S 605 (v2).toNatClampNeg a1) (fun S =>
x_let (g_sc S 606) (fun v3 =>
x_let (s_sc S 606 (v3 + (1 : Int32))) (fun S =>
x_let (g_sc S 606) (fun v4 =>
some (v4, S)))))))
else
some ((-4 : Int32), S))
set_option maxHeartbeats 4000000 in
set_option maxRecDepth 100000 in
theorem w_X6_feed {r : Int32 × x_S} {a1 : Int32} (hC : x_C p s m args meth c cX6_feed 2 RX6 E A) (hR : x_Ri p l e { frames := 0, cells := 0, slots := 0, locals := 0 } s m args below meth c cX6_feed E A Q (cw E ad ap r.2) r.1) (hI : x_I E A s.heap (cw E ad ap S) H locs) (hl : lv_has ls 2 [(0, .ref (ad 699)), (1, .int a1)]) (hf : f_X6_feed n S a1 = some r) : W p l e { frames := 0, cells := 0, slots := 0, locals := 0 } s m args below meth c H locs 0 0 Q (F0 m 0 ls []) := by
  obtain ⟨hx, hb, hml, hown, hts, hK, hN, hA⟩ := id hC
  unfold f_X6_feed at hf
  refine lv_aload_n hx hb dX6_feed_0 rfl (lv_at hl 0 rfl) ?_
  refine gX6_6 hC hI hf lkf_X6_40 dX6_feed_1 (fun v1 hf => ?_)
  refine lv_sipush (v := (300 : Int32)) hx hb dX6_feed_4 (by decide) ?_
  refine x_ilt hC 13 hf dX6_feed_7 (by decide) (fun hf => ?_) (fun hf => ?_)
  · refine lv_aload_n hx hb dX6_feed_13 rfl (lv_at hl 0 rfl) ?_
    refine gX6_5 hC hI lkf_X6_36 dX6_feed_14 ?_
    refine lv_aload_n hx hb dX6_feed_17 rfl (lv_at hl 0 rfl) ?_
    refine gX6_6 hC hI hf lkf_X6_40 dX6_feed_18 (fun v2 hf => ?_)
    refine lv_iload_n hx hb dX6_feed_21 rfl (lv_at hl 1 rfl) ?_
    refine tX6_5 hC hI hf dX6_feed_22 (fun S H locs hI hf => ?_)
    refine lv_aload_n hx hb dX6_feed_23 rfl (lv_at hl 0 rfl) ?_
    refine lv_dup hx hb dX6_feed_24 rfl ?_
    refine gX6_6 hC hI hf lkf_X6_40 dX6_feed_25 (fun v3 hf => ?_)
    refine lv_iconst (v := (1 : Int32)) hx hb dX6_feed_28 (by decide) ?_
    refine lv_iadd hx hb dX6_feed_29 ?_
    refine pX6_6 hC hI hf lkf_X6_40 dX6_feed_30 (fun S H locs hI hf => ?_)
    refine lv_aload_n hx hb dX6_feed_33 rfl (lv_at hl 0 rfl) ?_
    refine gX6_6 hC hI hf lkf_X6_40 dX6_feed_34 (fun v4 hf => ?_)
    obtain rfl := Option.some.inj hf
    exact hR _ _ _ _ hI dX6_feed_37
  · refine lv_bipush (v := (-4 : Int32)) hx hb dX6_feed_10 (by decide) ?_
    obtain rfl := Option.some.inj hf
    exact hR _ _ _ _ hI dX6_feed_12
theorem c_X6_feed {a1 : Int32} {v : Int32} {S1 : x_S} (hf : f_X6_feed n S a1 = some (v, S1)) : x_M l yX6_feed cX6_feed 2 (some .int) 0 0 E [.ref (ad 699), .int a1] (cw E ad ap S) (cw E ad ap S1) (some (.int v)) :=
  x_entI (by decide) (Nat.le_of_ble_eq_true rfl) (fun p e s m args below meth c A Q ls hC hI hR hl => w_X6_feed (r := (v, S1)) hC hR hI hl hf)
-- X6_fault
def f_X6_fault (n : Nat) (S : x_S) : Option (Int32 × x_S) :=
x_let (g_sc S 608) (fun v1 =>
some (v1, S))
set_option maxHeartbeats 4000000 in
set_option maxRecDepth 100000 in
theorem w_X6_fault {r : Int32 × x_S} (hC : x_C p s m args meth c cX6_fault 1 RX6 E A) (hR : x_Ri p l e { frames := 0, cells := 0, slots := 0, locals := 0 } s m args below meth c cX6_fault E A Q (cw E ad ap r.2) r.1) (hI : x_I E A s.heap (cw E ad ap S) H locs) (hl : lv_has ls 1 [(0, .ref (ad 699))]) (hf : f_X6_fault n S = some r) : W p l e { frames := 0, cells := 0, slots := 0, locals := 0 } s m args below meth c H locs 0 0 Q (F0 m 0 ls []) := by
  obtain ⟨hx, hb, hml, hown, hts, hK, hN, hA⟩ := id hC
  unfold f_X6_fault at hf
  refine lv_aload_n hx hb dX6_fault_0 rfl (lv_at hl 0 rfl) ?_
  refine gX6_8 hC hI hf lkf_X6_50 dX6_fault_1 (fun v1 hf => ?_)
  obtain rfl := Option.some.inj hf
  exact hR _ _ _ _ hI dX6_fault_4
theorem c_X6_fault {v : Int32} {S1 : x_S} (hf : f_X6_fault n S = some (v, S1)) : x_M l yX6_fault cX6_fault 1 (some .int) 0 0 E [.ref (ad 699)] (cw E ad ap S) (cw E ad ap S1) (some (.int v)) :=
  x_entI (by decide) (Nat.le_of_ble_eq_true rfl) (fun p e s m args below meth c A Q ls hC hI hR hl => w_X6_fault (r := (v, S1)) hC hR hI hl hf)
-- X6_find
def f_X6_find (n : Nat) (S : x_S) (a1 : Int32) : Option (Option Nat × x_S) :=
if a1 < 0 then
some (none, S)
else
x_let (g_sc S 601) (fun v1 =>
if a1 < v1 then
x_g (¬ (a1 < 0 ∨ 12 ≤ (a1).toNatClampNeg)) (x_let (g_ra S 600 (a1).toNatClampNeg) (fun o2 => x_o o2 (
some (none, S)) (fun i3 =>
some (some i3, S))))
else
some (none, S))
set_option maxHeartbeats 4000000 in
set_option maxRecDepth 100000 in
theorem w_X6_find {r : Option Nat × x_S} {a1 : Int32} (hC : x_C p s m args meth c cX6_find 2 RX6 E A) (hR : x_Ra p l e { frames := 0, cells := 0, slots := 0, locals := 0 } s m args below meth c cX6_find E A Q (cw E ad ap r.2) (r.1.map (fun i => ap i 0))) (hI : x_I E A s.heap (cw E ad ap S) H locs) (hl : lv_has ls 2 [(0, .ref (ad 699)), (1, .int a1)]) (hf : f_X6_find n S a1 = some r) : W p l e { frames := 0, cells := 0, slots := 0, locals := 0 } s m args below meth c H locs 0 0 Q (F0 m 0 ls []) := by
  obtain ⟨hx, hb, hml, hown, hts, hK, hN, hA⟩ := id hC
  unfold f_X6_find at hf
  refine lv_iload_n hx hb dX6_find_0 rfl (lv_at hl 1 rfl) ?_
  refine x_lt0 hC 12 hf dX6_find_1 (by decide) (fun hf => ?_) (fun hf => ?_)
  · refine lv_null hx hb dX6_find_12 ?_
    refine lv_goto (tgt := 22) hx hb dX6_find_13 (by decide) ?_
    obtain rfl := Option.some.inj hf
    exact hR _ _ _ _ hI dX6_find_22
  · refine lv_iload_n hx hb dX6_find_4 rfl (lv_at hl 1 rfl) ?_
    refine lv_aload_n hx hb dX6_find_5 rfl (lv_at hl 0 rfl) ?_
    refine gX6_1 hC hI hf lkf_X6_15 dX6_find_6 (fun v1 hf => ?_)
    refine x_ilt hC 16 hf dX6_find_9 (by decide) (fun hf => ?_) (fun hf => ?_)
    · refine lv_aload_n hx hb dX6_find_16 rfl (lv_at hl 0 rfl) ?_
      refine gX6_0 hC hI lkf_X6_11 dX6_find_17 ?_
      refine lv_iload_n hx hb dX6_find_20 rfl (lv_at hl 1 rfl) ?_
      refine aX6_0 hC hI hf dX6_find_21 (fun o2 hf => ?_)
      refine x_casesR hf (fun hf => ?_) (fun i3 hf => ?_)
      · obtain rfl := Option.some.inj hf
        exact hR _ _ _ _ hI dX6_find_22
      · obtain rfl := Option.some.inj hf
        exact hR _ _ _ _ hI dX6_find_22
    · refine lv_null hx hb dX6_find_12 ?_
      refine lv_goto (tgt := 22) hx hb dX6_find_13 (by decide) ?_
      obtain rfl := Option.some.inj hf
      exact hR _ _ _ _ hI dX6_find_22
theorem c_X6_find {a1 : Int32} {v : Option Nat} {S1 : x_S} (hf : f_X6_find n S a1 = some (v, S1)) : x_M l yX6_find cX6_find 2 (some (.object "StoryDecompile$Routine")) 0 0 E [.ref (ad 699), .int a1] (cw E ad ap S) (cw E ad ap S1) (some (x_rr ap v)) :=
  x_entA (by decide) (Nat.le_of_ble_eq_true rfl) (fun p e s m args below meth c A Q ls hC hI hR hl => w_X6_find (r := (v, S1)) hC hR hI hl hf)
-- X2_isAlike
def f_X2_isAlike_15 (n : Nat) (rec15 : x_S × Nat × Nat × Int32 → Option (Int32 × x_S)) (S : x_S) (a0 : Nat) (a1 : Nat) (a2 : Int32) : Option (Int32 × x_S) :=
x_g (a0 < g_np S) (x_let (g_ps S 4 a0) (fun v3 =>
if v3 ≤ a2 then
x_g ((1 : Int32) = 0 ∨ (1 : Int32) = 1) (some ((1 : Int32), S))
else
x_g (a0 < g_np S) (
x_g (a0 < g_np S) (x_g (¬ (a2 < 0 ∨ 60 ≤ (a2).toNatClampNeg)) (x_let (g_pa S 0 a0 (a2).toNatClampNeg) (fun v4 =>
x_g (a1 < g_np S) (
x_g (a1 < g_np S) (x_g (¬ (a2 < 0 ∨ 60 ≤ (a2).toNatClampNeg)) (x_let (g_pa S 0 a1 (a2).toNatClampNeg) (fun v5 =>
if v4 = v5 then
x_g (a0 < g_np S) (
x_g (a0 < g_np S) (x_g (¬ (a2 < 0 ∨ 60 ≤ (a2).toNatClampNeg)) (x_let (g_pa S 1 a0 (a2).toNatClampNeg) (fun v6 =>
x_g (a1 < g_np S) (
x_g (a1 < g_np S) (x_g (¬ (a2 < 0 ∨ 60 ≤ (a2).toNatClampNeg)) (x_let (g_pa S 1 a1 (a2).toNatClampNeg) (fun v7 =>
if v6 = v7 then
x_g (a0 < g_np S) (
x_g (a0 < g_np S) (x_g (¬ (a2 < 0 ∨ 60 ≤ (a2).toNatClampNeg)) (x_let (g_pa S 2 a0 (a2).toNatClampNeg) (fun v8 =>
x_g (a1 < g_np S) (
x_g (a1 < g_np S) (x_g (¬ (a2 < 0 ∨ 60 ≤ (a2).toNatClampNeg)) (x_let (g_pa S 2 a1 (a2).toNatClampNeg) (fun v9 =>
if v8 = v9 then
x_g (a0 < g_np S) (
x_g (a0 < g_np S) (x_g (¬ (a2 < 0 ∨ 60 ≤ (a2).toNatClampNeg)) (x_let (g_pa S 3 a0 (a2).toNatClampNeg) (fun v10 =>
x_g (a1 < g_np S) (
x_g (a1 < g_np S) (x_g (¬ (a2 < 0 ∨ 60 ≤ (a2).toNatClampNeg)) (x_let (g_pa S 3 a1 (a2).toNatClampNeg) (fun v11 =>
if v10 = v11 then
rec15 (S, a0, a1, (a2 + (1 : Int32)))
else
x_g ((0 : Int32) = 0 ∨ (0 : Int32) = 1) (some ((0 : Int32), S))))))))))
else
x_g ((0 : Int32) = 0 ∨ (0 : Int32) = 1) (some ((0 : Int32), S))))))))))
else
x_g ((0 : Int32) = 0 ∨ (0 : Int32) = 1) (some ((0 : Int32), S))))))))))
else
x_g ((0 : Int32) = 0 ∨ (0 : Int32) = 1) (some ((0 : Int32), S))))))))))))
set_option maxHeartbeats 4000000 in
set_option maxRecDepth 100000 in
theorem w_X2_isAlike_15 {r : Int32 × x_S} {a0 : Nat} {a1 : Nat} {a2 : Int32} {rec15 : x_S × Nat × Nat × Int32 → Option (Int32 × x_S)} (hC : x_C p s m args meth c cX2_isAlike 3 RX2 E A) (hR : x_Rz p l e { frames := 0, cells := 0, slots := 0, locals := 0 } s m args below meth c cX2_isAlike E A Q (cw E ad ap r.2) r.1) (hrec15 : ∀ z : x_S × Nat × Nat × Int32, rec15 z = some r → ∀ (H : Heap) (locs : List Loc) (ls : Array Slot), x_I E A s.heap (cw E ad ap z.1) H locs → lv_has ls 3 [(0, .ref (ap z.2.1 0)), (1, .ref (ap z.2.2.1 0)), (2, .int z.2.2.2)] → W p l e { frames := 0, cells := 0, slots := 0, locals := 0 } s m args below meth c H locs 0 0 Q (F0 m 15 ls [])) (hI : x_I E A s.heap (cw E ad ap S) H locs) (hl : lv_has ls 3 [(0, .ref (ap a0 0)), (1, .ref (ap a1 0)), (2, .int a2)]) (hf : f_X2_isAlike_15 n rec15 S a0 a1 a2 = some r) : W p l e { frames := 0, cells := 0, slots := 0, locals := 0 } s m args below meth c H locs 0 0 Q (F0 m 15 ls []) := by
  obtain ⟨hx, hb, hml, hown, hts, hK, hN, hA⟩ := id hC
  unfold f_X2_isAlike_15 at hf
  refine lv_iload_n hx hb dX2_isAlike_15 rfl (lv_at hl 2 rfl) ?_
  refine lv_aload_n hx hb dX2_isAlike_16 rfl (lv_at hl 0 rfl) ?_
  refine gX2_4 hC hI hf lkf_X2_24 dX2_isAlike_17 (fun v3 hf => ?_)
  refine x_ige hC 91 hf dX2_isAlike_20 (by decide) (fun hf => ?_) (fun hf => ?_)
  · refine lv_iconst (v := (1 : Int32)) hx hb dX2_isAlike_91 (by decide) ?_
    obtain ⟨h9, hf⟩ := x_g_eq hf
    obtain rfl := Option.some.inj hf
    exact hR _ _ _ _ h9 hI dX2_isAlike_92
  · refine lv_aload_n hx hb dX2_isAlike_23 rfl (lv_at hl 0 rfl) ?_
    refine gX2_0 hC hI hf lkf_X2_9 dX2_isAlike_24 (fun hf => ?_)
    refine lv_iload_n hx hb dX2_isAlike_27 rfl (lv_at hl 2 rfl) ?_
    refine aX2_0 hC hI hf dX2_isAlike_28 (fun v4 hf => ?_)
    refine lv_aload_n hx hb dX2_isAlike_29 rfl (lv_at hl 1 rfl) ?_
    refine gX2_0 hC hI hf lkf_X2_9 dX2_isAlike_30 (fun hf => ?_)
    refine lv_iload_n hx hb dX2_isAlike_33 rfl (lv_at hl 2 rfl) ?_
    refine aX2_0 hC hI hf dX2_isAlike_34 (fun v5 hf => ?_)
    refine x_ine hC 83 hf dX2_isAlike_35 (by decide) (fun hf => ?_) (fun hf => ?_)
    · refine lv_iconst (v := (0 : Int32)) hx hb dX2_isAlike_83 (by decide) ?_
      obtain ⟨h9, hf⟩ := x_g_eq hf
      obtain rfl := Option.some.inj hf
      exact hR _ _ _ _ h9 hI dX2_isAlike_84
    · refine lv_aload_n hx hb dX2_isAlike_38 rfl (lv_at hl 0 rfl) ?_
      refine gX2_1 hC hI hf lkf_X2_15 dX2_isAlike_39 (fun hf => ?_)
      refine lv_iload_n hx hb dX2_isAlike_42 rfl (lv_at hl 2 rfl) ?_
      refine aX2_1 hC hI hf dX2_isAlike_43 (fun v6 hf => ?_)
      refine lv_aload_n hx hb dX2_isAlike_44 rfl (lv_at hl 1 rfl) ?_
      refine gX2_1 hC hI hf lkf_X2_15 dX2_isAlike_45 (fun hf => ?_)
      refine lv_iload_n hx hb dX2_isAlike_48 rfl (lv_at hl 2 rfl) ?_
      refine aX2_1 hC hI hf dX2_isAlike_49 (fun v7 hf => ?_)
      refine x_ine hC 83 hf dX2_isAlike_50 (by decide) (fun hf => ?_) (fun hf => ?_)
      · refine lv_iconst (v := (0 : Int32)) hx hb dX2_isAlike_83 (by decide) ?_
        obtain ⟨h9, hf⟩ := x_g_eq hf
        obtain rfl := Option.some.inj hf
        exact hR _ _ _ _ h9 hI dX2_isAlike_84
      · refine lv_aload_n hx hb dX2_isAlike_53 rfl (lv_at hl 0 rfl) ?_
        refine gX2_2 hC hI hf lkf_X2_18 dX2_isAlike_54 (fun hf => ?_)
        refine lv_iload_n hx hb dX2_isAlike_57 rfl (lv_at hl 2 rfl) ?_
        refine aX2_2 hC hI hf dX2_isAlike_58 (fun v8 hf => ?_)
        refine lv_aload_n hx hb dX2_isAlike_59 rfl (lv_at hl 1 rfl) ?_
        refine gX2_2 hC hI hf lkf_X2_18 dX2_isAlike_60 (fun hf => ?_)
        refine lv_iload_n hx hb dX2_isAlike_63 rfl (lv_at hl 2 rfl) ?_
        refine aX2_2 hC hI hf dX2_isAlike_64 (fun v9 hf => ?_)
        refine x_ine hC 83 hf dX2_isAlike_65 (by decide) (fun hf => ?_) (fun hf => ?_)
        · refine lv_iconst (v := (0 : Int32)) hx hb dX2_isAlike_83 (by decide) ?_
          obtain ⟨h9, hf⟩ := x_g_eq hf
          obtain rfl := Option.some.inj hf
          exact hR _ _ _ _ h9 hI dX2_isAlike_84
        · refine lv_aload_n hx hb dX2_isAlike_68 rfl (lv_at hl 0 rfl) ?_
          refine gX2_3 hC hI hf lkf_X2_21 dX2_isAlike_69 (fun hf => ?_)
          refine lv_iload_n hx hb dX2_isAlike_72 rfl (lv_at hl 2 rfl) ?_
          refine aX2_3 hC hI hf dX2_isAlike_73 (fun v10 hf => ?_)
          refine lv_aload_n hx hb dX2_isAlike_74 rfl (lv_at hl 1 rfl) ?_
          refine gX2_3 hC hI hf lkf_X2_21 dX2_isAlike_75 (fun hf => ?_)
          refine lv_iload_n hx hb dX2_isAlike_78 rfl (lv_at hl 2 rfl) ?_
          refine aX2_3 hC hI hf dX2_isAlike_79 (fun v11 hf => ?_)
          refine x_ieq hC 85 hf dX2_isAlike_80 (by decide) (fun hf => ?_) (fun hf => ?_)
          · refine lv_iinc (v := (a2 + (1 : Int32))) (lv' := [(2, .int (a2 + (1 : Int32))), (0, .ref (ap a0 0)), (1, .ref (ap a1 0))]) hx hb dX2_isAlike_85 hl (k := 2) rfl rfl (by decide) rfl (fun ls hl => ?_)
            refine lv_goto (tgt := 15) hx hb dX2_isAlike_88 (by decide) ?_
            exact hrec15 _ hf _ _ _ hI (lv_sub hl [1, 2, 0] rfl)
          · refine lv_iconst (v := (0 : Int32)) hx hb dX2_isAlike_83 (by decide) ?_
            obtain ⟨h9, hf⟩ := x_g_eq hf
            obtain rfl := Option.some.inj hf
            exact hR _ _ _ _ h9 hI dX2_isAlike_84
theorem w_X2_isAlike_15_loop {r : Int32 × x_S} (hC : x_C p s m args meth c cX2_isAlike 3 RX2 E A) (hR : x_Rz p l e { frames := 0, cells := 0, slots := 0, locals := 0 } s m args below meth c cX2_isAlike E A Q (cw E ad ap r.2) r.1) : ∀ (k : Nat) (z : x_S × Nat × Nat × Int32), x_loop (fun rec z => f_X2_isAlike_15 n rec z.1 z.2.1 z.2.2.1 z.2.2.2) k z = some r → ∀ (H : Heap) (locs : List Loc) (ls : Array Slot), x_I E A s.heap (cw E ad ap z.1) H locs → lv_has ls 3 [(0, .ref (ap z.2.1 0)), (1, .ref (ap z.2.2.1 0)), (2, .int z.2.2.2)] → W p l e { frames := 0, cells := 0, slots := 0, locals := 0 } s m args below meth c H locs 0 0 Q (F0 m 15 ls []) :=
  x_loop_ind (P := fun (z : x_S × Nat × Nat × Int32) => ∀ (H : Heap) (locs : List Loc) (ls : Array Slot), x_I E A s.heap (cw E ad ap z.1) H locs → lv_has ls 3 [(0, .ref (ap z.2.1 0)), (1, .ref (ap z.2.2.1 0)), (2, .int z.2.2.2)] → W p l e { frames := 0, cells := 0, slots := 0, locals := 0 } s m args below meth c H locs 0 0 Q (F0 m 15 ls [])) (fun rec hrec z hf H locs ls hI hl => w_X2_isAlike_15 hC hR hrec hI hl hf)
def f_X2_isAlike (n : Nat) (S : x_S) (a0 : Nat) (a1 : Nat) : Option (Int32 × x_S) :=
x_g (a0 < g_np S) (x_let (g_ps S 4 a0) (fun v1 =>
x_g (a1 < g_np S) (x_let (g_ps S 4 a1) (fun v2 =>
if v1 = v2 then
x_loop (fun rec z => f_X2_isAlike_15 n rec z.1 z.2.1 z.2.2.1 z.2.2.2) n (S, a0, a1, (0 : Int32))
else
x_g ((0 : Int32) = 0 ∨ (0 : Int32) = 1) (some ((0 : Int32), S))))))
set_option maxHeartbeats 4000000 in
set_option maxRecDepth 100000 in
theorem w_X2_isAlike {r : Int32 × x_S} {a0 : Nat} {a1 : Nat} (hC : x_C p s m args meth c cX2_isAlike 3 RX2 E A) (hR : x_Rz p l e { frames := 0, cells := 0, slots := 0, locals := 0 } s m args below meth c cX2_isAlike E A Q (cw E ad ap r.2) r.1) (hI : x_I E A s.heap (cw E ad ap S) H locs) (hl : lv_has ls 3 [(0, .ref (ap a0 0)), (1, .ref (ap a1 0))]) (hf : f_X2_isAlike n S a0 a1 = some r) : W p l e { frames := 0, cells := 0, slots := 0, locals := 0 } s m args below meth c H locs 0 0 Q (F0 m 0 ls []) := by
  obtain ⟨hx, hb, hml, hown, hts, hK, hN, hA⟩ := id hC
  unfold f_X2_isAlike at hf
  refine lv_aload_n hx hb dX2_isAlike_0 rfl (lv_at hl 0 rfl) ?_
  refine gX2_4 hC hI hf lkf_X2_24 dX2_isAlike_1 (fun v1 hf => ?_)
  refine lv_aload_n hx hb dX2_isAlike_4 rfl (lv_at hl 1 rfl) ?_
  refine gX2_4 hC hI hf lkf_X2_24 dX2_isAlike_5 (fun v2 hf => ?_)
  refine x_ieq hC 13 hf dX2_isAlike_8 (by decide) (fun hf => ?_) (fun hf => ?_)
  · refine lv_iconst (v := (0 : Int32)) hx hb dX2_isAlike_13 (by decide) ?_
    refine lv_istore_n (lv' := [(2, .int (0 : Int32)), (0, .ref (ap a0 0)), (1, .ref (ap a1 0))]) hx hb dX2_isAlike_14 rfl hl (by decide) rfl (fun ls hl => ?_)
    exact w_X2_isAlike_15_loop hC hR _ _ hf _ _ _ hI (lv_sub hl [1, 2, 0] rfl)
  · refine lv_iconst (v := (0 : Int32)) hx hb dX2_isAlike_11 (by decide) ?_
    obtain ⟨h9, hf⟩ := x_g_eq hf
    obtain rfl := Option.some.inj hf
    exact hR _ _ _ _ h9 hI dX2_isAlike_12
theorem c_X2_isAlike {a0 : Nat} {a1 : Nat} {v : Int32} {S1 : x_S} (hf : f_X2_isAlike n S a0 a1 = some (v, S1)) : x_M l yX2_isAlike cX2_isAlike 3 (some .boolean) 0 0 E [.ref (ap a0 0), .ref (ap a1 0)] (cw E ad ap S) (cw E ad ap S1) (some (.int v)) :=
  x_entZ (by decide) (Nat.le_of_ble_eq_true rfl) (fun p e s m args below meth c A Q ls hC hI hR hl => w_X2_isAlike (r := (v, S1)) hC hR hI hl hf)
-- X6_like
def f_X6_like (n : Nat) (S : x_S) (a1 : Int32) (a2 : Int32) : Option (Int32 × x_S) :=
x_b2 (f_X6_find n S a1) (fun o2 S => x_o o2 (
x_b2 (f_X6_find n S a2) (fun o5 S => x_o o5 (
some ((-2 : Int32), S)) (fun i6 =>
some ((-2 : Int32), S)))) (fun i3 =>
x_b2 (f_X6_find n S a2) (fun o8 S => x_o o8 (
some ((-2 : Int32), S)) (fun i9 =>
x_g (i3 < g_np S) (x_b2 (f_X2_isAlike n S i3 i9) (fun v11 S =>
if v11 = 0 then
some ((0 : Int32), S)
else
some ((1 : Int32), S)))))))
set_option maxHeartbeats 4000000 in
set_option maxRecDepth 100000 in
theorem w_X6_like {r : Int32 × x_S} {a1 : Int32} {a2 : Int32} (hC : x_C p s m args meth c cX6_like 5 RX6 E A) (hR : x_Ri p l e { frames := 1, cells := 0, slots := 0, locals := 22 } s m args below meth c cX6_like E A Q (cw E ad ap r.2) r.1) (hI : x_I E A s.heap (cw E ad ap S) H locs) (hl : lv_has ls 5 [(0, .ref (ad 699)), (1, .int a1), (2, .int a2)]) (hf : f_X6_like n S a1 a2 = some r) : W p l e { frames := 1, cells := 0, slots := 0, locals := 22 } s m args below meth c H locs 0 0 Q (F0 m 0 ls []) := by
  obtain ⟨hx, hb, hml, hown, hts, hK, hN, hA⟩ := id hC
  unfold f_X6_like at hf
  refine lv_aload_n hx hb dX6_like_0 rfl (lv_at hl 0 rfl) ?_
  refine lv_iload_n hx hb dX6_like_1 rfl (lv_at hl 1 rfl) ?_
  obtain ⟨o2, S, hc1, hf⟩ := x_b2_eq hf
  refine x_callV hC hI (c_X6_find hc1) 0 6 rfl rfl kv_X6_68 rfl ⟨Nat.le_of_ble_eq_true rfl, Nat.le_of_ble_eq_true rfl⟩ ⟨Nat.le_refl _, Nat.le_refl _⟩ hl.1 rfl (Nat.le_of_ble_eq_true rfl) dX6_like_2 (fun H locs hI => ?_)
  refine x_casesR hf (fun hf => ?_) (fun i3 hf => ?_)
  · refine lv_astore_nN (lv' := [(3, .null), (0, .ref (ad 699)), (1, .int a1), (2, .int a2)]) hx hb dX6_like_5 rfl hl (by decide) rfl (fun ls hl => ?_)
    refine lv_aload_n hx hb dX6_like_6 rfl (lv_at hl 1 rfl) ?_
    refine lv_iload_n hx hb dX6_like_7 rfl (lv_at hl 3 rfl) ?_
    obtain ⟨o5, S, hc4, hf⟩ := x_b2_eq hf
    refine x_callV hC hI (c_X6_find hc4) 0 6 rfl rfl kv_X6_68 rfl ⟨Nat.le_of_ble_eq_true rfl, Nat.le_of_ble_eq_true rfl⟩ ⟨Nat.le_refl _, Nat.le_refl _⟩ hl.1 rfl (Nat.le_of_ble_eq_true rfl) dX6_like_8 (fun H locs hI => ?_)
    refine x_casesR hf (fun hf => ?_) (fun i6 hf => ?_)
    · refine lv_astoreN (lv' := [(4, .null), (3, .null), (0, .ref (ad 699)), (1, .int a1), (2, .int a2)]) hx hb dX6_like_11 hl (by decide) rfl (fun ls hl => ?_)
      refine lv_aload_nN hx hb dX6_like_13 rfl (lv_at hl 1 rfl) ?_
      refine lv_ifnullN (tgt := 22) hx hb dX6_like_14 (by decide) ?_
      refine lv_bipush (v := (-2 : Int32)) hx hb dX6_like_22 (by decide) ?_
      obtain rfl := Option.some.inj hf
      exact hR _ _ _ _ hI dX6_like_24
    · refine lv_astore (lv' := [(4, .ref (ap i6 0)), (3, .null), (0, .ref (ad 699)), (1, .int a1), (2, .int a2)]) hx hb dX6_like_11 hl (by decide) rfl (fun ls hl => ?_)
      refine lv_aload_nN hx hb dX6_like_13 rfl (lv_at hl 1 rfl) ?_
      refine lv_ifnullN (tgt := 22) hx hb dX6_like_14 (by decide) ?_
      refine lv_bipush (v := (-2 : Int32)) hx hb dX6_like_22 (by decide) ?_
      obtain rfl := Option.some.inj hf
      exact hR _ _ _ _ hI dX6_like_24
  · refine lv_astore_n (lv' := [(3, .ref (ap i3 0)), (0, .ref (ad 699)), (1, .int a1), (2, .int a2)]) hx hb dX6_like_5 rfl hl (by decide) rfl (fun ls hl => ?_)
    refine lv_aload_n hx hb dX6_like_6 rfl (lv_at hl 1 rfl) ?_
    refine lv_iload_n hx hb dX6_like_7 rfl (lv_at hl 3 rfl) ?_
    obtain ⟨o8, S, hc7, hf⟩ := x_b2_eq hf
    refine x_callV hC hI (c_X6_find hc7) 0 6 rfl rfl kv_X6_68 rfl ⟨Nat.le_of_ble_eq_true rfl, Nat.le_of_ble_eq_true rfl⟩ ⟨Nat.le_refl _, Nat.le_refl _⟩ hl.1 rfl (Nat.le_of_ble_eq_true rfl) dX6_like_8 (fun H locs hI => ?_)
    refine x_casesR hf (fun hf => ?_) (fun i9 hf => ?_)
    · refine lv_astoreN (lv' := [(4, .null), (3, .ref (ap i3 0)), (0, .ref (ad 699)), (1, .int a1), (2, .int a2)]) hx hb dX6_like_11 hl (by decide) rfl (fun ls hl => ?_)
      refine lv_aload_n hx hb dX6_like_13 rfl (lv_at hl 1 rfl) ?_
      refine lv_ifnull hx hb dX6_like_14 ?_
      refine lv_aloadN hx hb dX6_like_17 (lv_at hl 0 rfl) ?_
      refine lv_ifnonnullN hx hb dX6_like_19 ?_
      refine lv_bipush (v := (-2 : Int32)) hx hb dX6_like_22 (by decide) ?_
      obtain rfl := Option.some.inj hf
      exact hR _ _ _ _ hI dX6_like_24
    · refine lv_astore (lv' := [(4, .ref (ap i9 0)), (3, .ref (ap i3 0)), (0, .ref (ad 699)), (1, .int a1), (2, .int a2)]) hx hb dX6_like_11 hl (by decide) rfl (fun ls hl => ?_)
      refine lv_aload_n hx hb dX6_like_13 rfl (lv_at hl 1 rfl) ?_
      refine lv_ifnull hx hb dX6_like_14 ?_
      refine lv_aload hx hb dX6_like_17 (lv_at hl 0 rfl) ?_
      refine lv_ifnonnull (tgt := 25) hx hb dX6_like_19 (by decide) ?_
      refine lv_aload_n hx hb dX6_like_25 rfl (lv_at hl 1 rfl) ?_
      refine lv_aload hx hb dX6_like_26 (lv_at hl 0 rfl) ?_
      obtain ⟨h9, hf⟩ := x_g_eq hf
      obtain ⟨v11, S, hc10, hf⟩ := x_b2_eq hf
      refine x_callV hC hI (c_X2_isAlike hc10) (36 + (5 * i3 + 0)) 2 (x_cw_get E ad ap _ i3 0 (by decide) h9) rfl kv_X6_156 rfl ⟨Nat.le_of_ble_eq_true rfl, Nat.le_of_ble_eq_true rfl⟩ ⟨Nat.le_refl _, Nat.le_refl _⟩ hl.1 rfl (Nat.le_of_ble_eq_true rfl) dX6_like_28 (fun H locs hI => ?_)
      refine x_eq0 hC 38 hf dX6_like_31 (by decide) (fun hf => ?_) (fun hf => ?_)
      · refine lv_iconst (v := (0 : Int32)) hx hb dX6_like_38 (by decide) ?_
        obtain rfl := Option.some.inj hf
        exact hR _ _ _ _ hI dX6_like_39
      · refine lv_iconst (v := (1 : Int32)) hx hb dX6_like_34 (by decide) ?_
        refine lv_goto (tgt := 39) hx hb dX6_like_35 (by decide) ?_
        obtain rfl := Option.some.inj hf
        exact hR _ _ _ _ hI dX6_like_39
theorem c_X6_like {a1 : Int32} {a2 : Int32} {v : Int32} {S1 : x_S} (hf : f_X6_like n S a1 a2 = some (v, S1)) : x_M l yX6_like cX6_like 5 (some .int) 1 22 E [.ref (ad 699), .int a1, .int a2] (cw E ad ap S) (cw E ad ap S1) (some (.int v)) :=
  x_entI (by decide) (Nat.le_of_ble_eq_true rfl) (fun p e s m args below meth c A Q ls hC hI hR hl => w_X6_like (r := (v, S1)) hC hR hI hl hf)
-- X6_set
def f_X6_set (n : Nat) (S : x_S) (a1 : Int32) (a2 : Int32) : Option (Int32 × x_S) :=
if a1 < 0 then
some ((-2 : Int32), S)
else
if a1 < (4 : Int32) then
x_g (¬ (a1 < 0 ∨ 4 ≤ (a1).toNatClampNeg)) (x_let (g_ar S 609 (a1).toNatClampNeg) (fun v1 =>
x_g (¬ (a1 < 0 ∨ 4 ≤ (a1).toNatClampNeg)) (x_let (s_ar S 609 (a1).toNatClampNeg a2) (fun S =>
some (v1, S)))))
else
some ((-2 : Int32), S)
set_option maxHeartbeats 4000000 in
set_option maxRecDepth 100000 in
theorem w_X6_set {r : Int32 × x_S} {a1 : Int32} {a2 : Int32} (hC : x_C p s m args meth c cX6_set 4 RX6 E A) (hR : x_Ri p l e { frames := 0, cells := 0, slots := 0, locals := 0 } s m args below meth c cX6_set E A Q (cw E ad ap r.2) r.1) (hI : x_I E A s.heap (cw E ad ap S) H locs) (hl : lv_has ls 4 [(0, .ref (ad 699)), (1, .int a1), (2, .int a2)]) (hf : f_X6_set n S a1 a2 = some r) : W p l e { frames := 0, cells := 0, slots := 0, locals := 0 } s m args below meth c H locs 0 0 Q (F0 m 0 ls []) := by
  obtain ⟨hx, hb, hml, hown, hts, hK, hN, hA⟩ := id hC
  unfold f_X6_set at hf
  refine lv_iload_n hx hb dX6_set_0 rfl (lv_at hl 1 rfl) ?_
  refine x_lt0 hC 9 hf dX6_set_1 (by decide) (fun hf => ?_) (fun hf => ?_)
  · refine lv_bipush (v := (-2 : Int32)) hx hb dX6_set_9 (by decide) ?_
    obtain rfl := Option.some.inj hf
    exact hR _ _ _ _ hI dX6_set_11
  · refine lv_iload_n hx hb dX6_set_4 rfl (lv_at hl 1 rfl) ?_
    refine lv_iconst (v := (4 : Int32)) hx hb dX6_set_5 (by decide) ?_
    refine x_ilt hC 12 hf dX6_set_6 (by decide) (fun hf => ?_) (fun hf => ?_)
    · refine lv_aload_n hx hb dX6_set_12 rfl (lv_at hl 0 rfl) ?_
      refine gX6_9 hC hI lkf_X6_53 dX6_set_13 ?_
      refine lv_iload_n hx hb dX6_set_16 rfl (lv_at hl 1 rfl) ?_
      refine aX6_9 hC hI hf dX6_set_17 (fun v1 hf => ?_)
      refine lv_istore_n (lv' := [(3, .int v1), (0, .ref (ad 699)), (1, .int a1), (2, .int a2)]) hx hb dX6_set_18 rfl hl (by decide) rfl (fun ls hl => ?_)
      refine lv_aload_n hx hb dX6_set_19 rfl (lv_at hl 1 rfl) ?_
      refine gX6_9 hC hI lkf_X6_53 dX6_set_20 ?_
      refine lv_iload_n hx hb dX6_set_23 rfl (lv_at hl 2 rfl) ?_
      refine lv_iload_n hx hb dX6_set_24 rfl (lv_at hl 3 rfl) ?_
      refine tX6_9 hC hI hf dX6_set_25 (fun S H locs hI hf => ?_)
      refine lv_iload_n hx hb dX6_set_26 rfl (lv_at hl 0 rfl) ?_
      obtain rfl := Option.some.inj hf
      exact hR _ _ _ _ hI dX6_set_27
    · refine lv_bipush (v := (-2 : Int32)) hx hb dX6_set_9 (by decide) ?_
      obtain rfl := Option.some.inj hf
      exact hR _ _ _ _ hI dX6_set_11
theorem c_X6_set {a1 : Int32} {a2 : Int32} {v : Int32} {S1 : x_S} (hf : f_X6_set n S a1 a2 = some (v, S1)) : x_M l yX6_set cX6_set 4 (some .int) 0 0 E [.ref (ad 699), .int a1, .int a2] (cw E ad ap S) (cw E ad ap S1) (some (.int v)) :=
  x_entI (by decide) (Nat.le_of_ble_eq_true rfl) (fun p e s m args below meth c A Q ls hC hI hR hl => w_X6_set (r := (v, S1)) hC hR hI hl hf)
end
end
