-- ===== PART A: goes FIRST, ahead of the names: the tables' words, and 'selects' of the private methods out of them =====
/-- a private method of a class that the tables say can be made, by its rows of tables_1 -/
def lw_okq (q : MethodName × Nat) : Prop := (q.1.cls ≠ "java/lang/invoke/MethodHandle" ∧ q.1.cls ≠ "java/lang/invoke/VarHandle") ∧ Cond.instantiable q.1.cls q.2 ∈ tables_1 ∧ Cond.privateMethod q.1 ∈ tables_1 ∧ Cond.instanceMethod q.1 ∈ tables_1
theorem lw_p0 : lw_okq (⟨"BooleanRuns", "listHasChanged", "(I)V"⟩, 9) := ⟨⟨by decide +kernel, by decide +kernel⟩, List.mem_of_getElem? (i := 16) (by decide +kernel), List.mem_of_getElem? (i := 293) (by decide +kernel), List.mem_of_getElem? (i := 294) (by decide +kernel)⟩
theorem lw_p1 : lw_okq (⟨"BooleanRuns$Sets", "touchesByParts", "(I)Z"⟩, 5) := ⟨⟨by decide +kernel, by decide +kernel⟩, List.mem_of_getElem? (i := 72) (by decide +kernel), List.mem_of_getElem? (i := 309) (by decide +kernel), List.mem_of_getElem? (i := 310) (by decide +kernel)⟩
theorem lw_p2 : lw_okq (⟨"BooleanRuns", "areNumbersOf", "(III)Z"⟩, 9) := ⟨⟨by decide +kernel, by decide +kernel⟩, List.mem_of_getElem? (i := 16) (by decide +kernel), List.mem_of_getElem? (i := 349) (by decide +kernel), List.mem_of_getElem? (i := 350) (by decide +kernel)⟩
theorem lw_p3 : lw_okq (⟨"BooleanRuns$Bounds", "fillRows", "(I)V"⟩, 9) := ⟨⟨by decide +kernel, by decide +kernel⟩, List.mem_of_getElem? (i := 106) (by decide +kernel), List.mem_of_getElem? (i := 409) (by decide +kernel), List.mem_of_getElem? (i := 410) (by decide +kernel)⟩
theorem lw_p4 : lw_okq (⟨"BooleanRuns$Bounds", "fillByList", "(I)V"⟩, 9) := ⟨⟨by decide +kernel, by decide +kernel⟩, List.mem_of_getElem? (i := 106) (by decide +kernel), List.mem_of_getElem? (i := 414) (by decide +kernel), List.mem_of_getElem? (i := 415) (by decide +kernel)⟩
theorem lw_p5 : lw_okq (⟨"BooleanRuns$Bounds", "addToBoth", "(II)V"⟩, 9) := ⟨⟨by decide +kernel, by decide +kernel⟩, List.mem_of_getElem? (i := 106) (by decide +kernel), List.mem_of_getElem? (i := 424) (by decide +kernel), List.mem_of_getElem? (i := 425) (by decide +kernel)⟩
theorem lw_p6 : lw_okq (⟨"BooleanRuns$Bounds", "fillByRange", "(I)V"⟩, 9) := ⟨⟨by decide +kernel, by decide +kernel⟩, List.mem_of_getElem? (i := 106) (by decide +kernel), List.mem_of_getElem? (i := 432) (by decide +kernel), List.mem_of_getElem? (i := 433) (by decide +kernel)⟩
theorem lw_p7 : lw_okq (⟨"BooleanRuns$Bounds", "fillByBool", "(I)V"⟩, 9) := ⟨⟨by decide +kernel, by decide +kernel⟩, List.mem_of_getElem? (i := 106) (by decide +kernel), List.mem_of_getElem? (i := 437) (by decide +kernel), List.mem_of_getElem? (i := 438) (by decide +kernel)⟩
theorem lw_p8 : lw_okq (⟨"BooleanRuns$Bounds", "boolWord", "(IIILBooleanRuns$Rows;LBooleanRuns$Rows;)J"⟩, 9) := ⟨⟨by decide +kernel, by decide +kernel⟩, List.mem_of_getElem? (i := 106) (by decide +kernel), List.mem_of_getElem? (i := 456) (by decide +kernel), List.mem_of_getElem? (i := 457) (by decide +kernel)⟩
theorem lw_p9 : lw_okq (⟨"BooleanRuns$Bounds", "countIn", "(JI)V"⟩, 9) := ⟨⟨by decide +kernel, by decide +kernel⟩, List.mem_of_getElem? (i := 106) (by decide +kernel), List.mem_of_getElem? (i := 471) (by decide +kernel), List.mem_of_getElem? (i := 472) (by decide +kernel)⟩
theorem lw_p10 : lw_okq (⟨"BooleanRuns$Bounds", "fillByKept", "(I)V"⟩, 9) := ⟨⟨by decide +kernel, by decide +kernel⟩, List.mem_of_getElem? (i := 106) (by decide +kernel), List.mem_of_getElem? (i := 479) (by decide +kernel), List.mem_of_getElem? (i := 480) (by decide +kernel)⟩
theorem lw_p11 : lw_okq (⟨"BooleanRuns$Bounds", "joinParts", "(I)V"⟩, 9) := ⟨⟨by decide +kernel, by decide +kernel⟩, List.mem_of_getElem? (i := 106) (by decide +kernel), List.mem_of_getElem? (i := 495) (by decide +kernel), List.mem_of_getElem? (i := 496) (by decide +kernel)⟩
theorem lw_p12 : lw_okq (⟨"BooleanRuns$Bounds", "costOf", "(I)I"⟩, 9) := ⟨⟨by decide +kernel, by decide +kernel⟩, List.mem_of_getElem? (i := 106) (by decide +kernel), List.mem_of_getElem? (i := 499) (by decide +kernel), List.mem_of_getElem? (i := 500) (by decide +kernel)⟩
theorem lw_p13 : lw_okq (⟨"BooleanRuns$Bounds", "costOfBool", "(I)I"⟩, 9) := ⟨⟨by decide +kernel, by decide +kernel⟩, List.mem_of_getElem? (i := 106) (by decide +kernel), List.mem_of_getElem? (i := 503) (by decide +kernel), List.mem_of_getElem? (i := 504) (by decide +kernel)⟩
theorem lw_p14 : lw_okq (⟨"BooleanRuns$Bounds", "costOfShoulds", "(I)I"⟩, 9) := ⟨⟨by decide +kernel, by decide +kernel⟩, List.mem_of_getElem? (i := 106) (by decide +kernel), List.mem_of_getElem? (i := 510) (by decide +kernel), List.mem_of_getElem? (i := 511) (by decide +kernel)⟩
theorem lw_p15 : lw_okq (⟨"BooleanRuns$Bounds", "arrange", "(I)V"⟩, 9) := ⟨⟨by decide +kernel, by decide +kernel⟩, List.mem_of_getElem? (i := 106) (by decide +kernel), List.mem_of_getElem? (i := 518) (by decide +kernel), List.mem_of_getElem? (i := 519) (by decide +kernel)⟩
def lw_privs_1 : List (MethodName × Nat) := [(⟨"BooleanRuns", "listHasChanged", "(I)V"⟩, 9), (⟨"BooleanRuns$Sets", "touchesByParts", "(I)Z"⟩, 5), (⟨"BooleanRuns", "areNumbersOf", "(III)Z"⟩, 9), (⟨"BooleanRuns$Bounds", "fillRows", "(I)V"⟩, 9), (⟨"BooleanRuns$Bounds", "fillByList", "(I)V"⟩, 9), (⟨"BooleanRuns$Bounds", "addToBoth", "(II)V"⟩, 9), (⟨"BooleanRuns$Bounds", "fillByRange", "(I)V"⟩, 9), (⟨"BooleanRuns$Bounds", "fillByBool", "(I)V"⟩, 9), (⟨"BooleanRuns$Bounds", "boolWord", "(IIILBooleanRuns$Rows;LBooleanRuns$Rows;)J"⟩, 9), (⟨"BooleanRuns$Bounds", "countIn", "(JI)V"⟩, 9), (⟨"BooleanRuns$Bounds", "fillByKept", "(I)V"⟩, 9), (⟨"BooleanRuns$Bounds", "joinParts", "(I)V"⟩, 9), (⟨"BooleanRuns$Bounds", "costOf", "(I)I"⟩, 9), (⟨"BooleanRuns$Bounds", "costOfBool", "(I)I"⟩, 9), (⟨"BooleanRuns$Bounds", "costOfShoulds", "(I)I"⟩, 9), (⟨"BooleanRuns$Bounds", "arrange", "(I)V"⟩, 9)]
theorem lw_r1 : ∀ q ∈ lw_privs_1, lw_okq q := List.forall_mem_cons.mpr ⟨lw_p0, List.forall_mem_cons.mpr ⟨lw_p1, List.forall_mem_cons.mpr ⟨lw_p2, List.forall_mem_cons.mpr ⟨lw_p3, List.forall_mem_cons.mpr ⟨lw_p4, List.forall_mem_cons.mpr ⟨lw_p5, List.forall_mem_cons.mpr ⟨lw_p6, List.forall_mem_cons.mpr ⟨lw_p7, List.forall_mem_cons.mpr ⟨lw_p8, List.forall_mem_cons.mpr ⟨lw_p9, List.forall_mem_cons.mpr ⟨lw_p10, List.forall_mem_cons.mpr ⟨lw_p11, List.forall_mem_cons.mpr ⟨lw_p12, List.forall_mem_cons.mpr ⟨lw_p13, List.forall_mem_cons.mpr ⟨lw_p14, List.forall_mem_cons.mpr ⟨lw_p15, fun _ h => absurd h List.not_mem_nil⟩⟩⟩⟩⟩⟩⟩⟩⟩⟩⟩⟩⟩⟩⟩⟩
theorem lw_p16 : lw_okq (⟨"BooleanRuns$Bounds", "rankOf", "(II)I"⟩, 9) := ⟨⟨by decide +kernel, by decide +kernel⟩, List.mem_of_getElem? (i := 106) (by decide +kernel), List.mem_of_getElem? (i := 522) (by decide +kernel), List.mem_of_getElem? (i := 523) (by decide +kernel)⟩
theorem lw_p17 : lw_okq (⟨"BooleanRuns$Looker", "wantedBy", "(II)I"⟩, 7) := ⟨⟨by decide +kernel, by decide +kernel⟩, List.mem_of_getElem? (i := 142) (by decide +kernel), List.mem_of_getElem? (i := 575) (by decide +kernel), List.mem_of_getElem? (i := 576) (by decide +kernel)⟩
theorem lw_p18 : lw_okq (⟨"BooleanRuns$Looker", "wantedByBool", "(II)I"⟩, 7) := ⟨⟨by decide +kernel, by decide +kernel⟩, List.mem_of_getElem? (i := 142) (by decide +kernel), List.mem_of_getElem? (i := 581) (by decide +kernel), List.mem_of_getElem? (i := 582) (by decide +kernel)⟩
theorem lw_p19 : lw_okq (⟨"BooleanRuns$Looker", "holds", "(III)Z"⟩, 7) := ⟨⟨by decide +kernel, by decide +kernel⟩, List.mem_of_getElem? (i := 142) (by decide +kernel), List.mem_of_getElem? (i := 592) (by decide +kernel), List.mem_of_getElem? (i := 593) (by decide +kernel)⟩
theorem lw_p20 : lw_okq (⟨"BooleanRuns$Looker", "fitsByParts", "(II)Z"⟩, 7) := ⟨⟨by decide +kernel, by decide +kernel⟩, List.mem_of_getElem? (i := 142) (by decide +kernel), List.mem_of_getElem? (i := 598) (by decide +kernel), List.mem_of_getElem? (i := 599) (by decide +kernel)⟩
theorem lw_p21 : lw_okq (⟨"BooleanRuns$Looker", "fitsBool", "(II)Z"⟩, 7) := ⟨⟨by decide +kernel, by decide +kernel⟩, List.mem_of_getElem? (i := 142) (by decide +kernel), List.mem_of_getElem? (i := 602) (by decide +kernel), List.mem_of_getElem? (i := 603) (by decide +kernel)⟩
theorem lw_p22 : lw_okq (⟨"BooleanRuns$Looker", "somePartMatches", "(I)Z"⟩, 7) := ⟨⟨by decide +kernel, by decide +kernel⟩, List.mem_of_getElem? (i := 142) (by decide +kernel), List.mem_of_getElem? (i := 607) (by decide +kernel), List.mem_of_getElem? (i := 608) (by decide +kernel)⟩
theorem lw_p23 : lw_okq (⟨"BooleanRuns$Looker", "passesTest", "(II)Z"⟩, 7) := ⟨⟨by decide +kernel, by decide +kernel⟩, List.mem_of_getElem? (i := 142) (by decide +kernel), List.mem_of_getElem? (i := 611) (by decide +kernel), List.mem_of_getElem? (i := 612) (by decide +kernel)⟩
theorem lw_p24 : lw_okq (⟨"BooleanRuns$Looker", "scoreByParts", "(II)J"⟩, 7) := ⟨⟨by decide +kernel, by decide +kernel⟩, List.mem_of_getElem? (i := 142) (by decide +kernel), List.mem_of_getElem? (i := 622) (by decide +kernel), List.mem_of_getElem? (i := 623) (by decide +kernel)⟩
theorem lw_p25 : lw_okq (⟨"BooleanRuns$Looker", "scoreOfBool", "(I)J"⟩, 7) := ⟨⟨by decide +kernel, by decide +kernel⟩, List.mem_of_getElem? (i := 142) (by decide +kernel), List.mem_of_getElem? (i := 628) (by decide +kernel), List.mem_of_getElem? (i := 629) (by decide +kernel)⟩
theorem lw_p26 : lw_okq (⟨"BooleanRuns$Looker", "scoreOfBest", "(I)J"⟩, 7) := ⟨⟨by decide +kernel, by decide +kernel⟩, List.mem_of_getElem? (i := 142) (by decide +kernel), List.mem_of_getElem? (i := 632) (by decide +kernel), List.mem_of_getElem? (i := 633) (by decide +kernel)⟩
theorem lw_p27 : lw_okq (⟨"BooleanRuns$Rewriter", "markUnder", "(I)V"⟩, 5) := ⟨⟨by decide +kernel, by decide +kernel⟩, List.mem_of_getElem? (i := 205) (by decide +kernel), List.mem_of_getElem? (i := 749) (by decide +kernel), List.mem_of_getElem? (i := 750) (by decide +kernel)⟩
theorem lw_p28 : lw_okq (⟨"BooleanRuns$Rewriter", "newOf", "(I)I"⟩, 5) := ⟨⟨by decide +kernel, by decide +kernel⟩, List.mem_of_getElem? (i := 205) (by decide +kernel), List.mem_of_getElem? (i := 755) (by decide +kernel), List.mem_of_getElem? (i := 756) (by decide +kernel)⟩
theorem lw_p29 : lw_okq (⟨"BooleanRuns$Rewriter", "thatIsSo", "(III)I"⟩, 5) := ⟨⟨by decide +kernel, by decide +kernel⟩, List.mem_of_getElem? (i := 205) (by decide +kernel), List.mem_of_getElem? (i := 762) (by decide +kernel), List.mem_of_getElem? (i := 763) (by decide +kernel)⟩
theorem lw_p30 : lw_okq (⟨"BooleanRuns$Rewriter", "gatherBool", "(I)Z"⟩, 5) := ⟨⟨by decide +kernel, by decide +kernel⟩, List.mem_of_getElem? (i := 205) (by decide +kernel), List.mem_of_getElem? (i := 768) (by decide +kernel), List.mem_of_getElem? (i := 769) (by decide +kernel)⟩
theorem lw_p31 : lw_okq (⟨"BooleanRuns$Rewriter", "canDissolve", "(III)Z"⟩, 5) := ⟨⟨by decide +kernel, by decide +kernel⟩, List.mem_of_getElem? (i := 205) (by decide +kernel), List.mem_of_getElem? (i := 778) (by decide +kernel), List.mem_of_getElem? (i := 779) (by decide +kernel)⟩
def lw_privs_2 : List (MethodName × Nat) := [(⟨"BooleanRuns$Bounds", "rankOf", "(II)I"⟩, 9), (⟨"BooleanRuns$Looker", "wantedBy", "(II)I"⟩, 7), (⟨"BooleanRuns$Looker", "wantedByBool", "(II)I"⟩, 7), (⟨"BooleanRuns$Looker", "holds", "(III)Z"⟩, 7), (⟨"BooleanRuns$Looker", "fitsByParts", "(II)Z"⟩, 7), (⟨"BooleanRuns$Looker", "fitsBool", "(II)Z"⟩, 7), (⟨"BooleanRuns$Looker", "somePartMatches", "(I)Z"⟩, 7), (⟨"BooleanRuns$Looker", "passesTest", "(II)Z"⟩, 7), (⟨"BooleanRuns$Looker", "scoreByParts", "(II)J"⟩, 7), (⟨"BooleanRuns$Looker", "scoreOfBool", "(I)J"⟩, 7), (⟨"BooleanRuns$Looker", "scoreOfBest", "(I)J"⟩, 7), (⟨"BooleanRuns$Rewriter", "markUnder", "(I)V"⟩, 5), (⟨"BooleanRuns$Rewriter", "newOf", "(I)I"⟩, 5), (⟨"BooleanRuns$Rewriter", "thatIsSo", "(III)I"⟩, 5), (⟨"BooleanRuns$Rewriter", "gatherBool", "(I)Z"⟩, 5), (⟨"BooleanRuns$Rewriter", "canDissolve", "(III)Z"⟩, 5)]
theorem lw_r2 : ∀ q ∈ lw_privs_2, lw_okq q := List.forall_mem_cons.mpr ⟨lw_p16, List.forall_mem_cons.mpr ⟨lw_p17, List.forall_mem_cons.mpr ⟨lw_p18, List.forall_mem_cons.mpr ⟨lw_p19, List.forall_mem_cons.mpr ⟨lw_p20, List.forall_mem_cons.mpr ⟨lw_p21, List.forall_mem_cons.mpr ⟨lw_p22, List.forall_mem_cons.mpr ⟨lw_p23, List.forall_mem_cons.mpr ⟨lw_p24, List.forall_mem_cons.mpr ⟨lw_p25, List.forall_mem_cons.mpr ⟨lw_p26, List.forall_mem_cons.mpr ⟨lw_p27, List.forall_mem_cons.mpr ⟨lw_p28, List.forall_mem_cons.mpr ⟨lw_p29, List.forall_mem_cons.mpr ⟨lw_p30, List.forall_mem_cons.mpr ⟨lw_p31, fun _ h => absurd h List.not_mem_nil⟩⟩⟩⟩⟩⟩⟩⟩⟩⟩⟩⟩⟩⟩⟩⟩
theorem lw_p32 : lw_okq (⟨"BooleanRuns$Rewriter", "dissolve", "(II)V"⟩, 5) := ⟨⟨by decide +kernel, by decide +kernel⟩, List.mem_of_getElem? (i := 205) (by decide +kernel), List.mem_of_getElem? (i := 787) (by decide +kernel), List.mem_of_getElem? (i := 788) (by decide +kernel)⟩
theorem lw_p33 : lw_okq (⟨"BooleanRuns$Rewriter", "boolOfRow", "(I)I"⟩, 5) := ⟨⟨by decide +kernel, by decide +kernel⟩, List.mem_of_getElem? (i := 205) (by decide +kernel), List.mem_of_getElem? (i := 795) (by decide +kernel), List.mem_of_getElem? (i := 796) (by decide +kernel)⟩
theorem lw_p34 : lw_okq (⟨"BooleanRuns$PartRow", "hasAhead", "(III)Z"⟩, 3) := ⟨⟨by decide +kernel, by decide +kernel⟩, List.mem_of_getElem? (i := 211) (by decide +kernel), List.mem_of_getElem? (i := 812) (by decide +kernel), List.mem_of_getElem? (i := 813) (by decide +kernel)⟩
theorem lw_p35 : lw_okq (⟨"BooleanRuns$PartRow", "isRepeat", "(II)Z"⟩, 3) := ⟨⟨by decide +kernel, by decide +kernel⟩, List.mem_of_getElem? (i := 211) (by decide +kernel), List.mem_of_getElem? (i := 820) (by decide +kernel), List.mem_of_getElem? (i := 821) (by decide +kernel)⟩
theorem lw_p36 : lw_okq (⟨"BooleanRuns$PartRow", "hasBehind", "(III)Z"⟩, 3) := ⟨⟨by decide +kernel, by decide +kernel⟩, List.mem_of_getElem? (i := 211) (by decide +kernel), List.mem_of_getElem? (i := 824) (by decide +kernel), List.mem_of_getElem? (i := 825) (by decide +kernel)⟩
theorem lw_p37 : lw_okq (⟨"BooleanRuns$Rewriter", "thatIsSoWithRow", "(II)I"⟩, 5) := ⟨⟨by decide +kernel, by decide +kernel⟩, List.mem_of_getElem? (i := 205) (by decide +kernel), List.mem_of_getElem? (i := 836) (by decide +kernel), List.mem_of_getElem? (i := 837) (by decide +kernel)⟩
theorem lw_p38 : lw_okq (⟨"BooleanRuns$Rewriter", "hasPartsOfRow", "(I)Z"⟩, 5) := ⟨⟨by decide +kernel, by decide +kernel⟩, List.mem_of_getElem? (i := 205) (by decide +kernel), List.mem_of_getElem? (i := 840) (by decide +kernel), List.mem_of_getElem? (i := 841) (by decide +kernel)⟩
theorem lw_p39 : lw_okq (⟨"BooleanRuns$Rewriter", "newOfBest", "(I)I"⟩, 5) := ⟨⟨by decide +kernel, by decide +kernel⟩, List.mem_of_getElem? (i := 205) (by decide +kernel), List.mem_of_getElem? (i := 845) (by decide +kernel), List.mem_of_getElem? (i := 846) (by decide +kernel)⟩
theorem lw_p40 : lw_okq (⟨"BooleanRuns$Rewriter", "newOfOne", "(III)I"⟩, 5) := ⟨⟨by decide +kernel, by decide +kernel⟩, List.mem_of_getElem? (i := 205) (by decide +kernel), List.mem_of_getElem? (i := 850) (by decide +kernel), List.mem_of_getElem? (i := 851) (by decide +kernel)⟩
theorem lw_p41 : lw_okq (⟨"BooleanRunsModel", "change", "(I)V"⟩, 37) := ⟨⟨by decide +kernel, by decide +kernel⟩, List.mem_of_getElem? (i := 879) (by decide +kernel), List.mem_of_getElem? (i := 1009) (by decide +kernel), List.mem_of_getElem? (i := 1010) (by decide +kernel)⟩
theorem lw_p42 : lw_okq (⟨"BooleanRunsModel", "forget", "(I)V"⟩, 37) := ⟨⟨by decide +kernel, by decide +kernel⟩, List.mem_of_getElem? (i := 879) (by decide +kernel), List.mem_of_getElem? (i := 1013) (by decide +kernel), List.mem_of_getElem? (i := 1014) (by decide +kernel)⟩
theorem lw_p43 : lw_okq (⟨"BooleanRunsModel", "isToldSo", "(III)Z"⟩, 37) := ⟨⟨by decide +kernel, by decide +kernel⟩, List.mem_of_getElem? (i := 879) (by decide +kernel), List.mem_of_getElem? (i := 1025) (by decide +kernel), List.mem_of_getElem? (i := 1026) (by decide +kernel)⟩
theorem lw_p44 : lw_okq (⟨"BooleanRunsModel", "isNode", "(I)Z"⟩, 37) := ⟨⟨by decide +kernel, by decide +kernel⟩, List.mem_of_getElem? (i := 879) (by decide +kernel), List.mem_of_getElem? (i := 1029) (by decide +kernel), List.mem_of_getElem? (i := 1030) (by decide +kernel)⟩
theorem lw_p45 : lw_okq (⟨"BooleanRunsModel", "make", "(III)V"⟩, 37) := ⟨⟨by decide +kernel, by decide +kernel⟩, List.mem_of_getElem? (i := 879) (by decide +kernel), List.mem_of_getElem? (i := 1034) (by decide +kernel), List.mem_of_getElem? (i := 1035) (by decide +kernel)⟩
theorem lw_p46 : lw_okq (⟨"BooleanRunsModel", "costs", "()V"⟩, 37) := ⟨⟨by decide +kernel, by decide +kernel⟩, List.mem_of_getElem? (i := 879) (by decide +kernel), List.mem_of_getElem? (i := 1046) (by decide +kernel), List.mem_of_getElem? (i := 1047) (by decide +kernel)⟩
theorem lw_p47 : lw_okq (⟨"BooleanRunsModel", "together", "(I)I"⟩, 37) := ⟨⟨by decide +kernel, by decide +kernel⟩, List.mem_of_getElem? (i := 879) (by decide +kernel), List.mem_of_getElem? (i := 1050) (by decide +kernel), List.mem_of_getElem? (i := 1051) (by decide +kernel)⟩
def lw_privs_3 : List (MethodName × Nat) := [(⟨"BooleanRuns$Rewriter", "dissolve", "(II)V"⟩, 5), (⟨"BooleanRuns$Rewriter", "boolOfRow", "(I)I"⟩, 5), (⟨"BooleanRuns$PartRow", "hasAhead", "(III)Z"⟩, 3), (⟨"BooleanRuns$PartRow", "isRepeat", "(II)Z"⟩, 3), (⟨"BooleanRuns$PartRow", "hasBehind", "(III)Z"⟩, 3), (⟨"BooleanRuns$Rewriter", "thatIsSoWithRow", "(II)I"⟩, 5), (⟨"BooleanRuns$Rewriter", "hasPartsOfRow", "(I)Z"⟩, 5), (⟨"BooleanRuns$Rewriter", "newOfBest", "(I)I"⟩, 5), (⟨"BooleanRuns$Rewriter", "newOfOne", "(III)I"⟩, 5), (⟨"BooleanRunsModel", "change", "(I)V"⟩, 37), (⟨"BooleanRunsModel", "forget", "(I)V"⟩, 37), (⟨"BooleanRunsModel", "isToldSo", "(III)Z"⟩, 37), (⟨"BooleanRunsModel", "isNode", "(I)Z"⟩, 37), (⟨"BooleanRunsModel", "make", "(III)V"⟩, 37), (⟨"BooleanRunsModel", "costs", "()V"⟩, 37), (⟨"BooleanRunsModel", "together", "(I)I"⟩, 37)]
theorem lw_r3 : ∀ q ∈ lw_privs_3, lw_okq q := List.forall_mem_cons.mpr ⟨lw_p32, List.forall_mem_cons.mpr ⟨lw_p33, List.forall_mem_cons.mpr ⟨lw_p34, List.forall_mem_cons.mpr ⟨lw_p35, List.forall_mem_cons.mpr ⟨lw_p36, List.forall_mem_cons.mpr ⟨lw_p37, List.forall_mem_cons.mpr ⟨lw_p38, List.forall_mem_cons.mpr ⟨lw_p39, List.forall_mem_cons.mpr ⟨lw_p40, List.forall_mem_cons.mpr ⟨lw_p41, List.forall_mem_cons.mpr ⟨lw_p42, List.forall_mem_cons.mpr ⟨lw_p43, List.forall_mem_cons.mpr ⟨lw_p44, List.forall_mem_cons.mpr ⟨lw_p45, List.forall_mem_cons.mpr ⟨lw_p46, List.forall_mem_cons.mpr ⟨lw_p47, fun _ h => absurd h List.not_mem_nil⟩⟩⟩⟩⟩⟩⟩⟩⟩⟩⟩⟩⟩⟩⟩⟩
theorem lw_p48 : lw_okq (⟨"BooleanRunsModel", "mayAll", "(II)V"⟩, 37) := ⟨⟨by decide +kernel, by decide +kernel⟩, List.mem_of_getElem? (i := 879) (by decide +kernel), List.mem_of_getElem? (i := 1062) (by decide +kernel), List.mem_of_getElem? (i := 1063) (by decide +kernel)⟩
theorem lw_p49 : lw_okq (⟨"BooleanRunsModel", "fits", "(IZ)Z"⟩, 37) := ⟨⟨by decide +kernel, by decide +kernel⟩, List.mem_of_getElem? (i := 879) (by decide +kernel), List.mem_of_getElem? (i := 1066) (by decide +kernel), List.mem_of_getElem? (i := 1067) (by decide +kernel)⟩
theorem lw_p50 : lw_okq (⟨"BooleanRunsModel", "go", "(II)Z"⟩, 37) := ⟨⟨by decide +kernel, by decide +kernel⟩, List.mem_of_getElem? (i := 879) (by decide +kernel), List.mem_of_getElem? (i := 1078) (by decide +kernel), List.mem_of_getElem? (i := 1079) (by decide +kernel)⟩
theorem lw_p51 : lw_okq (⟨"BooleanRunsModel", "come", "(I)V"⟩, 37) := ⟨⟨by decide +kernel, by decide +kernel⟩, List.mem_of_getElem? (i := 879) (by decide +kernel), List.mem_of_getElem? (i := 1082) (by decide +kernel), List.mem_of_getElem? (i := 1083) (by decide +kernel)⟩
theorem lw_p52 : lw_okq (⟨"BooleanRunsModel", "sort", "(I)V"⟩, 37) := ⟨⟨by decide +kernel, by decide +kernel⟩, List.mem_of_getElem? (i := 879) (by decide +kernel), List.mem_of_getElem? (i := 1086) (by decide +kernel), List.mem_of_getElem? (i := 1087) (by decide +kernel)⟩
theorem lw_p53 : lw_okq (⟨"BooleanRunsModel", "goBool", "(I)V"⟩, 37) := ⟨⟨by decide +kernel, by decide +kernel⟩, List.mem_of_getElem? (i := 879) (by decide +kernel), List.mem_of_getElem? (i := 1090) (by decide +kernel), List.mem_of_getElem? (i := 1091) (by decide +kernel)⟩
theorem lw_p54 : lw_okq (⟨"BooleanRunsModel", "goBest", "(I)V"⟩, 37) := ⟨⟨by decide +kernel, by decide +kernel⟩, List.mem_of_getElem? (i := 879) (by decide +kernel), List.mem_of_getElem? (i := 1094) (by decide +kernel), List.mem_of_getElem? (i := 1095) (by decide +kernel)⟩
theorem lw_p55 : lw_okq (⟨"BooleanRunsModel", "goOne", "(II)V"⟩, 37) := ⟨⟨by decide +kernel, by decide +kernel⟩, List.mem_of_getElem? (i := 879) (by decide +kernel), List.mem_of_getElem? (i := 1099) (by decide +kernel), List.mem_of_getElem? (i := 1100) (by decide +kernel)⟩
theorem lw_p56 : lw_okq (⟨"BooleanRunsModel", "isOpen", "(I)Z"⟩, 37) := ⟨⟨by decide +kernel, by decide +kernel⟩, List.mem_of_getElem? (i := 879) (by decide +kernel), List.mem_of_getElem? (i := 1131) (by decide +kernel), List.mem_of_getElem? (i := 1132) (by decide +kernel)⟩
theorem lw_p57 : lw_okq (⟨"BooleanRunsModel", "newBool", "(I)I"⟩, 37) := ⟨⟨by decide +kernel, by decide +kernel⟩, List.mem_of_getElem? (i := 879) (by decide +kernel), List.mem_of_getElem? (i := 1143) (by decide +kernel), List.mem_of_getElem? (i := 1144) (by decide +kernel)⟩
theorem lw_p58 : lw_okq (⟨"BooleanRunsModel", "so", "(III)I"⟩, 37) := ⟨⟨by decide +kernel, by decide +kernel⟩, List.mem_of_getElem? (i := 879) (by decide +kernel), List.mem_of_getElem? (i := 1147) (by decide +kernel), List.mem_of_getElem? (i := 1148) (by decide +kernel)⟩
theorem lw_p59 : lw_okq (⟨"BooleanRunsModel", "opens", "(IIII)Z"⟩, 37) := ⟨⟨by decide +kernel, by decide +kernel⟩, List.mem_of_getElem? (i := 879) (by decide +kernel), List.mem_of_getElem? (i := 1151) (by decide +kernel), List.mem_of_getElem? (i := 1152) (by decide +kernel)⟩
theorem lw_p60 : lw_okq (⟨"BooleanRunsModel", "lay", "(II)V"⟩, 37) := ⟨⟨by decide +kernel, by decide +kernel⟩, List.mem_of_getElem? (i := 879) (by decide +kernel), List.mem_of_getElem? (i := 1155) (by decide +kernel), List.mem_of_getElem? (i := 1156) (by decide +kernel)⟩
theorem lw_p61 : lw_okq (⟨"BooleanRunsModel", "count", "(I)I"⟩, 37) := ⟨⟨by decide +kernel, by decide +kernel⟩, List.mem_of_getElem? (i := 879) (by decide +kernel), List.mem_of_getElem? (i := 1159) (by decide +kernel), List.mem_of_getElem? (i := 1160) (by decide +kernel)⟩
theorem lw_p62 : lw_okq (⟨"BooleanRunsModel", "thin", "()Z"⟩, 37) := ⟨⟨by decide +kernel, by decide +kernel⟩, List.mem_of_getElem? (i := 879) (by decide +kernel), List.mem_of_getElem? (i := 1163) (by decide +kernel), List.mem_of_getElem? (i := 1164) (by decide +kernel)⟩
theorem lw_p63 : lw_okq (⟨"BooleanRunsModel", "newBest", "(I)I"⟩, 37) := ⟨⟨by decide +kernel, by decide +kernel⟩, List.mem_of_getElem? (i := 879) (by decide +kernel), List.mem_of_getElem? (i := 1167) (by decide +kernel), List.mem_of_getElem? (i := 1168) (by decide +kernel)⟩
def lw_privs_4 : List (MethodName × Nat) := [(⟨"BooleanRunsModel", "mayAll", "(II)V"⟩, 37), (⟨"BooleanRunsModel", "fits", "(IZ)Z"⟩, 37), (⟨"BooleanRunsModel", "go", "(II)Z"⟩, 37), (⟨"BooleanRunsModel", "come", "(I)V"⟩, 37), (⟨"BooleanRunsModel", "sort", "(I)V"⟩, 37), (⟨"BooleanRunsModel", "goBool", "(I)V"⟩, 37), (⟨"BooleanRunsModel", "goBest", "(I)V"⟩, 37), (⟨"BooleanRunsModel", "goOne", "(II)V"⟩, 37), (⟨"BooleanRunsModel", "isOpen", "(I)Z"⟩, 37), (⟨"BooleanRunsModel", "newBool", "(I)I"⟩, 37), (⟨"BooleanRunsModel", "so", "(III)I"⟩, 37), (⟨"BooleanRunsModel", "opens", "(IIII)Z"⟩, 37), (⟨"BooleanRunsModel", "lay", "(II)V"⟩, 37), (⟨"BooleanRunsModel", "count", "(I)I"⟩, 37), (⟨"BooleanRunsModel", "thin", "()Z"⟩, 37), (⟨"BooleanRunsModel", "newBest", "(I)I"⟩, 37)]
theorem lw_r4 : ∀ q ∈ lw_privs_4, lw_okq q := List.forall_mem_cons.mpr ⟨lw_p48, List.forall_mem_cons.mpr ⟨lw_p49, List.forall_mem_cons.mpr ⟨lw_p50, List.forall_mem_cons.mpr ⟨lw_p51, List.forall_mem_cons.mpr ⟨lw_p52, List.forall_mem_cons.mpr ⟨lw_p53, List.forall_mem_cons.mpr ⟨lw_p54, List.forall_mem_cons.mpr ⟨lw_p55, List.forall_mem_cons.mpr ⟨lw_p56, List.forall_mem_cons.mpr ⟨lw_p57, List.forall_mem_cons.mpr ⟨lw_p58, List.forall_mem_cons.mpr ⟨lw_p59, List.forall_mem_cons.mpr ⟨lw_p60, List.forall_mem_cons.mpr ⟨lw_p61, List.forall_mem_cons.mpr ⟨lw_p62, List.forall_mem_cons.mpr ⟨lw_p63, fun _ h => absurd h List.not_mem_nil⟩⟩⟩⟩⟩⟩⟩⟩⟩⟩⟩⟩⟩⟩⟩⟩
theorem lw_p64 : lw_okq (⟨"BooleanRunsModel", "newOther", "(I)I"⟩, 37) := ⟨⟨by decide +kernel, by decide +kernel⟩, List.mem_of_getElem? (i := 879) (by decide +kernel), List.mem_of_getElem? (i := 1171) (by decide +kernel), List.mem_of_getElem? (i := 1172) (by decide +kernel)⟩
def lw_privs_5 : List (MethodName × Nat) := [(⟨"BooleanRunsModel", "newOther", "(I)I"⟩, 37)]
theorem lw_r5 : ∀ q ∈ lw_privs_5, lw_okq q := List.forall_mem_cons.mpr ⟨lw_p64, fun _ h => absurd h List.not_mem_nil⟩
def lw_privs : List (MethodName × Nat) := lw_privs_1 ++ (lw_privs_2 ++ (lw_privs_3 ++ (lw_privs_4 ++ (lw_privs_5))))
def lw_tbl : List Cond := k2_sels lw_privs ++ tables_1
theorem lw_privs_ok : ∀ q ∈ lw_privs, lw_okq q := by
  show ∀ q ∈ lw_privs_1 ++ (lw_privs_2 ++ (lw_privs_3 ++ (lw_privs_4 ++ (lw_privs_5)))), lw_okq q
  exact List.forall_mem_append.mpr ⟨lw_r1, List.forall_mem_append.mpr ⟨lw_r2, List.forall_mem_append.mpr ⟨lw_r3, List.forall_mem_append.mpr ⟨lw_r4, lw_r5⟩⟩⟩⟩
def RX0 : String := "BooleanRuns$Bounds"
def TX0 : u_T := fun k => match k with
  | 0 => ("BooleanRuns$Bounds", "lists", "LBooleanRuns$Lists;", true)
  | 1 => ("BooleanRuns$Bounds", "nodes", "LBooleanRuns$Nodes;", true)
  | 2 => ("BooleanRuns$Bounds", "sets", "LBooleanRuns$Sets;", true)
  | 3 => ("BooleanRuns$Bounds", "mays", "LBooleanRuns$Rows;", true)
  | 4 => ("BooleanRuns$Bounds", "sures", "LBooleanRuns$Rows;", true)
  | 5 => ("BooleanRuns$Bounds", "costs", "[I", true)
  | 6 => ("BooleanRuns$Bounds", "order", "[I", true)
  | 7 => ("BooleanRuns$Bounds", "enough", "[J", true)
  | _ => ("BooleanRuns$Bounds", "ready", "I", false)
def tyX0 : Nat → FieldType := fun k => match k with
  | 0 => .object "BooleanRuns$Lists"
  | 1 => .object "BooleanRuns$Nodes"
  | 2 => .object "BooleanRuns$Sets"
  | 3 => .object "BooleanRuns$Rows"
  | 4 => .object "BooleanRuns$Rows"
  | 5 => .array .int
  | 6 => .array .int
  | 7 => .array .long
  | _ => .int
abbrev wsX00 : List Cond := u_ws RX0 TX0 9
theorem nmX0 : ∀ a, a < 9 → ∀ b, b < 9 → a ≠ b → (TX0 a).2.1 ≠ (TX0 b).2.1 := by decide +kernel
theorem tyX0_ok : ∀ k, k < 9 → parseFieldDescriptor (TX0 k).2.2.1 = some (tyX0 k) := by decide +kernel
abbrev cX0_init : ByteArray := prog_2_method_1_code
def yX0_init : MethodName := ⟨RX0, "<init>", "(LBooleanRuns$Lists;LBooleanRuns$Nodes;LBooleanRuns$Sets;)V"⟩
abbrev cX0_maybe : ByteArray := prog_2_method_2_code
def yX0_maybe : MethodName := ⟨RX0, "maybe", "(II)Z"⟩
abbrev cX0_surely : ByteArray := prog_2_method_3_code
def yX0_surely : MethodName := ⟨RX0, "surely", "(II)Z"⟩
abbrev cX0_cost : ByteArray := prog_2_method_4_code
def yX0_cost : MethodName := ⟨RX0, "cost", "(I)I"⟩
abbrev cX0_placeInOrder : ByteArray := prog_2_method_5_code
def yX0_placeInOrder : MethodName := ⟨RX0, "placeInOrder", "(II)I"⟩
abbrev cX0_forgetFrom : ByteArray := prog_2_method_6_code
def yX0_forgetFrom : MethodName := ⟨RX0, "forgetFrom", "(I)V"⟩
abbrev cX0_prepare : ByteArray := prog_2_method_7_code
def yX0_prepare : MethodName := ⟨RX0, "prepare", "(I)V"⟩
abbrev cX0_fillRows : ByteArray := prog_2_method_8_code
def yX0_fillRows : MethodName := ⟨RX0, "fillRows", "(I)V"⟩
abbrev cX0_fillByList : ByteArray := prog_2_method_9_code
def yX0_fillByList : MethodName := ⟨RX0, "fillByList", "(I)V"⟩
abbrev cX0_fillByRange : ByteArray := prog_2_method_10_code
def yX0_fillByRange : MethodName := ⟨RX0, "fillByRange", "(I)V"⟩
abbrev cX0_addToBoth : ByteArray := prog_2_method_11_code
def yX0_addToBoth : MethodName := ⟨RX0, "addToBoth", "(II)V"⟩
abbrev cX0_fillByKept : ByteArray := prog_2_method_12_code
def yX0_fillByKept : MethodName := ⟨RX0, "fillByKept", "(I)V"⟩
abbrev cX0_joinParts : ByteArray := prog_2_method_13_code
def yX0_joinParts : MethodName := ⟨RX0, "joinParts", "(I)V"⟩
abbrev cX0_fillByBool : ByteArray := prog_2_method_14_code
def yX0_fillByBool : MethodName := ⟨RX0, "fillByBool", "(I)V"⟩
abbrev cX0_boolWord : ByteArray := prog_2_method_15_code
def yX0_boolWord : MethodName := ⟨RX0, "boolWord", "(IIILBooleanRuns$Rows;LBooleanRuns$Rows;)J"⟩
abbrev cX0_countIn : ByteArray := prog_2_method_16_code
def yX0_countIn : MethodName := ⟨RX0, "countIn", "(JI)V"⟩
abbrev cX0_costOf : ByteArray := prog_2_method_17_code
def yX0_costOf : MethodName := ⟨RX0, "costOf", "(I)I"⟩
abbrev cX0_costOfBool : ByteArray := prog_2_method_18_code
def yX0_costOfBool : MethodName := ⟨RX0, "costOfBool", "(I)I"⟩
abbrev cX0_costOfShoulds : ByteArray := prog_2_method_19_code
def yX0_costOfShoulds : MethodName := ⟨RX0, "costOfShoulds", "(I)I"⟩
abbrev cX0_arrange : ByteArray := prog_2_method_20_code
def yX0_arrange : MethodName := ⟨RX0, "arrange", "(I)V"⟩
abbrev cX0_rankOf : ByteArray := prog_2_method_21_code
def yX0_rankOf : MethodName := ⟨RX0, "rankOf", "(II)I"⟩
def RX1 : String := "BooleanRuns$Finds"
def TX1 : u_T := fun k => match k with
  | 0 => ("BooleanRuns$Finds", "objects", "[I", true)
  | 1 => ("BooleanRuns$Finds", "scores", "[J", true)
  | _ => ("BooleanRuns$Finds", "size", "I", false)
def tyX1 : Nat → FieldType := fun k => match k with
  | 0 => .array .int
  | 1 => .array .long
  | _ => .int
abbrev wsX10 : List Cond := u_ws RX1 TX1 3
theorem nmX1 : ∀ a, a < 3 → ∀ b, b < 3 → a ≠ b → (TX1 a).2.1 ≠ (TX1 b).2.1 := by decide +kernel
theorem tyX1_ok : ∀ k, k < 3 → parseFieldDescriptor (TX1 k).2.2.1 = some (tyX1 k) := by decide +kernel
abbrev cX1_init : ByteArray := prog_3_method_1_code
def yX1_init : MethodName := ⟨RX1, "<init>", "()V"⟩
abbrev cX1_size : ByteArray := prog_3_method_2_code
def yX1_size : MethodName := ⟨RX1, "size", "()I"⟩
abbrev cX1_has : ByteArray := prog_3_method_3_code
def yX1_has : MethodName := ⟨RX1, "has", "(I)Z"⟩
abbrev cX1_objectAt : ByteArray := prog_3_method_4_code
def yX1_objectAt : MethodName := ⟨RX1, "objectAt", "(I)I"⟩
abbrev cX1_scoreAt : ByteArray := prog_3_method_5_code
def yX1_scoreAt : MethodName := ⟨RX1, "scoreAt", "(I)J"⟩
abbrev cX1_clear : ByteArray := prog_3_method_6_code
def yX1_clear : MethodName := ⟨RX1, "clear", "()V"⟩
abbrev cX1_add : ByteArray := prog_3_method_7_code
def yX1_add : MethodName := ⟨RX1, "add", "(IJ)V"⟩
def RX2 : String := "BooleanRuns$Iterators"
def TX2 : u_T := fun k => match k with
  | 0 => ("BooleanRuns$Iterators", "opened", "[Z", true)
  | 1 => ("BooleanRuns$Iterators", "nodes", "[I", true)
  | 2 => ("BooleanRuns$Iterators", "stands", "[I", true)
  | _ => ("BooleanRuns$Iterators", "founds", "[I", true)
def tyX2 : Nat → FieldType := fun k => match k with
  | 0 => .array .boolean
  | 1 => .array .int
  | 2 => .array .int
  | _ => .array .int
abbrev wsX20 : List Cond := u_ws RX2 TX2 4
theorem nmX2 : ∀ a, a < 4 → ∀ b, b < 4 → a ≠ b → (TX2 a).2.1 ≠ (TX2 b).2.1 := by decide +kernel
theorem tyX2_ok : ∀ k, k < 4 → parseFieldDescriptor (TX2 k).2.2.1 = some (tyX2 k) := by decide +kernel
abbrev cX2_init : ByteArray := prog_4_method_1_code
def yX2_init : MethodName := ⟨RX2, "<init>", "()V"⟩
abbrev cX2_isOpen : ByteArray := prog_4_method_2_code
def yX2_isOpen : MethodName := ⟨RX2, "isOpen", "(I)Z"⟩
abbrev cX2_nodeOf : ByteArray := prog_4_method_3_code
def yX2_nodeOf : MethodName := ⟨RX2, "nodeOf", "(I)I"⟩
abbrev cX2_standOf : ByteArray := prog_4_method_4_code
def yX2_standOf : MethodName := ⟨RX2, "standOf", "(I)I"⟩
abbrev cX2_start : ByteArray := prog_4_method_5_code
def yX2_start : MethodName := ⟨RX2, "start", "(I)I"⟩
abbrev cX2_stopAt : ByteArray := prog_4_method_6_code
def yX2_stopAt : MethodName := ⟨RX2, "stopAt", "(II)V"⟩
abbrev cX2_finish : ByteArray := prog_4_method_7_code
def yX2_finish : MethodName := ⟨RX2, "finish", "(I)V"⟩
abbrev cX2_end : ByteArray := prog_4_method_8_code
def yX2_end : MethodName := ⟨RX2, "end", "(I)I"⟩
abbrev cX2_countOpen : ByteArray := prog_4_method_9_code
def yX2_countOpen : MethodName := ⟨RX2, "countOpen", "()I"⟩
def RX3 : String := "BooleanRuns$Lists"
def TX3 : u_T := fun k => match k with
  | 0 => ("BooleanRuns$Lists", "objects", "[I", true)
  | 1 => ("BooleanRuns$Lists", "weights", "[I", true)
  | _ => ("BooleanRuns$Lists", "sizes", "[I", true)
def tyX3 : Nat → FieldType := fun k => match k with
  | 0 => .array .int
  | 1 => .array .int
  | _ => .array .int
abbrev wsX30 : List Cond := u_ws RX3 TX3 3
theorem nmX3 : ∀ a, a < 3 → ∀ b, b < 3 → a ≠ b → (TX3 a).2.1 ≠ (TX3 b).2.1 := by decide +kernel
theorem tyX3_ok : ∀ k, k < 3 → parseFieldDescriptor (TX3 k).2.2.1 = some (tyX3 k) := by decide +kernel
abbrev cX3_init : ByteArray := prog_5_method_1_code
def yX3_init : MethodName := ⟨RX3, "<init>", "()V"⟩
abbrev cX3_size : ByteArray := prog_5_method_2_code
def yX3_size : MethodName := ⟨RX3, "size", "(I)I"⟩
abbrev cX3_objectAt : ByteArray := prog_5_method_3_code
def yX3_objectAt : MethodName := ⟨RX3, "objectAt", "(II)I"⟩
abbrev cX3_placeOf : ByteArray := prog_5_method_4_code
def yX3_placeOf : MethodName := ⟨RX3, "placeOf", "(II)I"⟩
abbrev cX3_weightOf : ByteArray := prog_5_method_5_code
def yX3_weightOf : MethodName := ⟨RX3, "weightOf", "(II)I"⟩
abbrev cX3_store : ByteArray := prog_5_method_6_code
def yX3_store : MethodName := ⟨RX3, "store", "(III)Z"⟩
abbrev cX3_remove : ByteArray := prog_5_method_7_code
def yX3_remove : MethodName := ⟨RX3, "remove", "(II)V"⟩
abbrev cX3_total : ByteArray := prog_5_method_8_code
def yX3_total : MethodName := ⟨RX3, "total", "()I"⟩
def RX4 : String := "BooleanRuns$Looker"
def TX4 : u_T := fun k => match k with
  | 0 => ("BooleanRuns$Looker", "lists", "LBooleanRuns$Lists;", true)
  | 1 => ("BooleanRuns$Looker", "nodes", "LBooleanRuns$Nodes;", true)
  | 2 => ("BooleanRuns$Looker", "sets", "LBooleanRuns$Sets;", true)
  | 3 => ("BooleanRuns$Looker", "bounds", "LBooleanRuns$Bounds;", true)
  | 4 => ("BooleanRuns$Looker", "outcomes", "[I", true)
  | 5 => ("BooleanRuns$Looker", "scores", "[J", true)
  | _ => ("BooleanRuns$Looker", "way", "[I", true)
def tyX4 : Nat → FieldType := fun k => match k with
  | 0 => .object "BooleanRuns$Lists"
  | 1 => .object "BooleanRuns$Nodes"
  | 2 => .object "BooleanRuns$Sets"
  | 3 => .object "BooleanRuns$Bounds"
  | 4 => .array .int
  | 5 => .array .long
  | _ => .array .int
abbrev wsX40 : List Cond := u_ws RX4 TX4 7
theorem nmX4 : ∀ a, a < 7 → ∀ b, b < 7 → a ≠ b → (TX4 a).2.1 ≠ (TX4 b).2.1 := by decide +kernel
theorem tyX4_ok : ∀ k, k < 7 → parseFieldDescriptor (TX4 k).2.2.1 = some (tyX4 k) := by decide +kernel
abbrev cX4_init : ByteArray := prog_6_method_1_code
def yX4_init : MethodName := ⟨RX4, "<init>", "(LBooleanRuns$Lists;LBooleanRuns$Nodes;LBooleanRuns$Sets;LBooleanRuns$Bounds;)V"⟩
abbrev cX4_matches : ByteArray := prog_6_method_2_code
def yX4_matches : MethodName := ⟨RX4, "matches", "(II)Z"⟩
abbrev cX4_scoreOf : ByteArray := prog_6_method_3_code
def yX4_scoreOf : MethodName := ⟨RX4, "scoreOf", "(I)J"⟩
abbrev cX4_wantedBy : ByteArray := prog_6_method_4_code
def yX4_wantedBy : MethodName := ⟨RX4, "wantedBy", "(II)I"⟩
abbrev cX4_wantedByBool : ByteArray := prog_6_method_5_code
def yX4_wantedByBool : MethodName := ⟨RX4, "wantedByBool", "(II)I"⟩
abbrev cX4_holds : ByteArray := prog_6_method_6_code
def yX4_holds : MethodName := ⟨RX4, "holds", "(III)Z"⟩
abbrev cX4_fitsByParts : ByteArray := prog_6_method_7_code
def yX4_fitsByParts : MethodName := ⟨RX4, "fitsByParts", "(II)Z"⟩
abbrev cX4_somePartMatches : ByteArray := prog_6_method_8_code
def yX4_somePartMatches : MethodName := ⟨RX4, "somePartMatches", "(I)Z"⟩
abbrev cX4_fitsBool : ByteArray := prog_6_method_9_code
def yX4_fitsBool : MethodName := ⟨RX4, "fitsBool", "(II)Z"⟩
abbrev cX4_passesTest : ByteArray := prog_6_method_10_code
def yX4_passesTest : MethodName := ⟨RX4, "passesTest", "(II)Z"⟩
abbrev cX4_scoreByParts : ByteArray := prog_6_method_11_code
def yX4_scoreByParts : MethodName := ⟨RX4, "scoreByParts", "(II)J"⟩
abbrev cX4_scoreOfBool : ByteArray := prog_6_method_12_code
def yX4_scoreOfBool : MethodName := ⟨RX4, "scoreOfBool", "(I)J"⟩
abbrev cX4_scoreOfBest : ByteArray := prog_6_method_13_code
def yX4_scoreOfBest : MethodName := ⟨RX4, "scoreOfBest", "(I)J"⟩
def RX5 : String := "BooleanRuns$Nodes"
def TX5 : u_T := fun k => match k with
  | 0 => ("BooleanRuns$Nodes", "count", "I", false)
  | 1 => ("BooleanRuns$Nodes", "kinds", "[I", true)
  | 2 => ("BooleanRuns$Nodes", "firsts", "[I", true)
  | 3 => ("BooleanRuns$Nodes", "seconds", "[I", true)
  | 4 => ("BooleanRuns$Nodes", "asked", "[I", true)
  | 5 => ("BooleanRuns$Nodes", "sizes", "[I", true)
  | 6 => ("BooleanRuns$Nodes", "roles", "[I", true)
  | _ => ("BooleanRuns$Nodes", "parts", "[I", true)
def tyX5 : Nat → FieldType := fun k => match k with
  | 0 => .int
  | 1 => .array .int
  | 2 => .array .int
  | 3 => .array .int
  | 4 => .array .int
  | 5 => .array .int
  | 6 => .array .int
  | _ => .array .int
abbrev wsX50 : List Cond := u_ws RX5 TX5 8
theorem nmX5 : ∀ a, a < 8 → ∀ b, b < 8 → a ≠ b → (TX5 a).2.1 ≠ (TX5 b).2.1 := by decide +kernel
theorem tyX5_ok : ∀ k, k < 8 → parseFieldDescriptor (TX5 k).2.2.1 = some (tyX5 k) := by decide +kernel
abbrev cX5_init : ByteArray := prog_7_method_1_code
def yX5_init : MethodName := ⟨RX5, "<init>", "()V"⟩
abbrev cX5_count : ByteArray := prog_7_method_2_code
def yX5_count : MethodName := ⟨RX5, "count", "()I"⟩
abbrev cX5_has : ByteArray := prog_7_method_3_code
def yX5_has : MethodName := ⟨RX5, "has", "(I)Z"⟩
abbrev cX5_kind : ByteArray := prog_7_method_4_code
def yX5_kind : MethodName := ⟨RX5, "kind", "(I)I"⟩
abbrev cX5_first : ByteArray := prog_7_method_5_code
def yX5_first : MethodName := ⟨RX5, "first", "(I)I"⟩
abbrev cX5_second : ByteArray := prog_7_method_6_code
def yX5_second : MethodName := ⟨RX5, "second", "(I)I"⟩
abbrev cX5_size : ByteArray := prog_7_method_7_code
def yX5_size : MethodName := ⟨RX5, "size", "(I)I"⟩
abbrev cX5_roleAt : ByteArray := prog_7_method_8_code
def yX5_roleAt : MethodName := ⟨RX5, "roleAt", "(II)I"⟩
abbrev cX5_partAt : ByteArray := prog_7_method_9_code
def yX5_partAt : MethodName := ⟨RX5, "partAt", "(II)I"⟩
abbrev cX5_asked : ByteArray := prog_7_method_10_code
def yX5_asked : MethodName := ⟨RX5, "asked", "(I)I"⟩
abbrev cX5_make : ByteArray := prog_7_method_11_code
def yX5_make : MethodName := ⟨RX5, "make", "(III)I"⟩
abbrev cX5_add : ByteArray := prog_7_method_12_code
def yX5_add : MethodName := ⟨RX5, "add", "(III)Z"⟩
abbrev cX5_shrinkTo : ByteArray := prog_7_method_13_code
def yX5_shrinkTo : MethodName := ⟨RX5, "shrinkTo", "(I)V"⟩
abbrev cX5_hasNumbers : ByteArray := prog_7_method_14_code
def yX5_hasNumbers : MethodName := ⟨RX5, "hasNumbers", "(IIII)Z"⟩
abbrev cX5_countOf : ByteArray := prog_7_method_15_code
def yX5_countOf : MethodName := ⟨RX5, "countOf", "(II)I"⟩
abbrev cX5_leastOf : ByteArray := prog_7_method_16_code
def yX5_leastOf : MethodName := ⟨RX5, "leastOf", "(I)I"⟩
abbrev cX5_ask : ByteArray := prog_7_method_17_code
def yX5_ask : MethodName := ⟨RX5, "ask", "(I)V"⟩
abbrev cX5_askedInAll : ByteArray := prog_7_method_18_code
def yX5_askedInAll : MethodName := ⟨RX5, "askedInAll", "()I"⟩
def RX6 : String := "BooleanRuns$PartRow"
def TX6 : u_T := fun k => match k with
  | 0 => ("BooleanRuns$PartRow", "roles", "[I", true)
  | 1 => ("BooleanRuns$PartRow", "parts", "[I", true)
  | _ => ("BooleanRuns$PartRow", "size", "I", false)
def tyX6 : Nat → FieldType := fun k => match k with
  | 0 => .array .int
  | 1 => .array .int
  | _ => .int
abbrev wsX60 : List Cond := u_ws RX6 TX6 3
theorem nmX6 : ∀ a, a < 3 → ∀ b, b < 3 → a ≠ b → (TX6 a).2.1 ≠ (TX6 b).2.1 := by decide +kernel
theorem tyX6_ok : ∀ k, k < 3 → parseFieldDescriptor (TX6 k).2.2.1 = some (tyX6 k) := by decide +kernel
abbrev cX6_init : ByteArray := prog_8_method_1_code
def yX6_init : MethodName := ⟨RX6, "<init>", "()V"⟩
abbrev cX6_size : ByteArray := prog_8_method_2_code
def yX6_size : MethodName := ⟨RX6, "size", "()I"⟩
abbrev cX6_roleAt : ByteArray := prog_8_method_3_code
def yX6_roleAt : MethodName := ⟨RX6, "roleAt", "(I)I"⟩
abbrev cX6_partAt : ByteArray := prog_8_method_4_code
def yX6_partAt : MethodName := ⟨RX6, "partAt", "(I)I"⟩
abbrev cX6_clear : ByteArray := prog_8_method_5_code
def yX6_clear : MethodName := ⟨RX6, "clear", "()V"⟩
abbrev cX6_add : ByteArray := prog_8_method_6_code
def yX6_add : MethodName := ⟨RX6, "add", "(II)V"⟩
abbrev cX6_countOf : ByteArray := prog_8_method_7_code
def yX6_countOf : MethodName := ⟨RX6, "countOf", "(I)I"⟩
abbrev cX6_makeShouldsMusts : ByteArray := prog_8_method_8_code
def yX6_makeShouldsMusts : MethodName := ⟨RX6, "makeShouldsMusts", "()V"⟩
abbrev cX6_contradictsItself : ByteArray := prog_8_method_9_code
def yX6_contradictsItself : MethodName := ⟨RX6, "contradictsItself", "()Z"⟩
abbrev cX6_leaveOutRepeats : ByteArray := prog_8_method_10_code
def yX6_leaveOutRepeats : MethodName := ⟨RX6, "leaveOutRepeats", "()V"⟩
abbrev cX6_isRepeat : ByteArray := prog_8_method_11_code
def yX6_isRepeat : MethodName := ⟨RX6, "isRepeat", "(II)Z"⟩
abbrev cX6_hasAhead : ByteArray := prog_8_method_12_code
def yX6_hasAhead : MethodName := ⟨RX6, "hasAhead", "(III)Z"⟩
abbrev cX6_hasBehind : ByteArray := prog_8_method_13_code
def yX6_hasBehind : MethodName := ⟨RX6, "hasBehind", "(III)Z"⟩
def RX7 : String := "BooleanRuns$Rewriter"
def TX7 : u_T := fun k => match k with
  | 0 => ("BooleanRuns$Rewriter", "lists", "LBooleanRuns$Lists;", true)
  | 1 => ("BooleanRuns$Rewriter", "nodes", "LBooleanRuns$Nodes;", true)
  | 2 => ("BooleanRuns$Rewriter", "under", "[Z", true)
  | 3 => ("BooleanRuns$Rewriter", "news", "[I", true)
  | _ => ("BooleanRuns$Rewriter", "row", "LBooleanRuns$PartRow;", true)
def tyX7 : Nat → FieldType := fun k => match k with
  | 0 => .object "BooleanRuns$Lists"
  | 1 => .object "BooleanRuns$Nodes"
  | 2 => .array .boolean
  | 3 => .array .int
  | _ => .object "BooleanRuns$PartRow"
abbrev wsX70 : List Cond := u_ws RX7 TX7 5
theorem nmX7 : ∀ a, a < 5 → ∀ b, b < 5 → a ≠ b → (TX7 a).2.1 ≠ (TX7 b).2.1 := by decide +kernel
theorem tyX7_ok : ∀ k, k < 5 → parseFieldDescriptor (TX7 k).2.2.1 = some (tyX7 k) := by decide +kernel
abbrev cX7_init : ByteArray := prog_9_method_1_code
def yX7_init : MethodName := ⟨RX7, "<init>", "(LBooleanRuns$Lists;LBooleanRuns$Nodes;)V"⟩
abbrev cX7_writeAnew : ByteArray := prog_9_method_2_code
def yX7_writeAnew : MethodName := ⟨RX7, "writeAnew", "(I)I"⟩
abbrev cX7_markUnder : ByteArray := prog_9_method_3_code
def yX7_markUnder : MethodName := ⟨RX7, "markUnder", "(I)V"⟩
abbrev cX7_newOf : ByteArray := prog_9_method_4_code
def yX7_newOf : MethodName := ⟨RX7, "newOf", "(I)I"⟩
abbrev cX7_newOfOne : ByteArray := prog_9_method_5_code
def yX7_newOfOne : MethodName := ⟨RX7, "newOfOne", "(III)I"⟩
abbrev cX7_newOfBest : ByteArray := prog_9_method_6_code
def yX7_newOfBest : MethodName := ⟨RX7, "newOfBest", "(I)I"⟩
abbrev cX7_gatherBool : ByteArray := prog_9_method_7_code
def yX7_gatherBool : MethodName := ⟨RX7, "gatherBool", "(I)Z"⟩
abbrev cX7_canDissolve : ByteArray := prog_9_method_8_code
def yX7_canDissolve : MethodName := ⟨RX7, "canDissolve", "(III)Z"⟩
abbrev cX7_dissolve : ByteArray := prog_9_method_9_code
def yX7_dissolve : MethodName := ⟨RX7, "dissolve", "(II)V"⟩
abbrev cX7_boolOfRow : ByteArray := prog_9_method_10_code
def yX7_boolOfRow : MethodName := ⟨RX7, "boolOfRow", "(I)I"⟩
abbrev cX7_thatIsSo : ByteArray := prog_9_method_11_code
def yX7_thatIsSo : MethodName := ⟨RX7, "thatIsSo", "(III)I"⟩
abbrev cX7_thatIsSoWithRow : ByteArray := prog_9_method_12_code
def yX7_thatIsSoWithRow : MethodName := ⟨RX7, "thatIsSoWithRow", "(II)I"⟩
abbrev cX7_hasPartsOfRow : ByteArray := prog_9_method_13_code
def yX7_hasPartsOfRow : MethodName := ⟨RX7, "hasPartsOfRow", "(I)Z"⟩
def RX8 : String := "BooleanRuns$Rows"
def TX8 : u_T := fun k => match k with
  | _ => ("BooleanRuns$Rows", "words", "[J", true)
def tyX8 : Nat → FieldType := fun k => match k with
  | _ => .array .long
abbrev wsX80 : List Cond := u_ws RX8 TX8 1
theorem nmX8 : ∀ a, a < 1 → ∀ b, b < 1 → a ≠ b → (TX8 a).2.1 ≠ (TX8 b).2.1 := by decide +kernel
theorem tyX8_ok : ∀ k, k < 1 → parseFieldDescriptor (TX8 k).2.2.1 = some (tyX8 k) := by decide +kernel
abbrev cX8_init : ByteArray := prog_10_method_1_code
def yX8_init : MethodName := ⟨RX8, "<init>", "()V"⟩
abbrev cX8_has : ByteArray := prog_10_method_2_code
def yX8_has : MethodName := ⟨RX8, "has", "(II)Z"⟩
abbrev cX8_add : ByteArray := prog_10_method_3_code
def yX8_add : MethodName := ⟨RX8, "add", "(II)V"⟩
abbrev cX8_clear : ByteArray := prog_10_method_4_code
def yX8_clear : MethodName := ⟨RX8, "clear", "(I)V"⟩
abbrev cX8_join : ByteArray := prog_10_method_5_code
def yX8_join : MethodName := ⟨RX8, "join", "(ILBooleanRuns$Rows;I)V"⟩
abbrev cX8_word : ByteArray := prog_10_method_6_code
def yX8_word : MethodName := ⟨RX8, "word", "(II)J"⟩
abbrev cX8_setWord : ByteArray := prog_10_method_7_code
def yX8_setWord : MethodName := ⟨RX8, "setWord", "(IIJ)V"⟩
def RX9 : String := "BooleanRuns$Sets"
def TX9 : u_T := fun k => match k with
  | 0 => ("BooleanRuns$Sets", "nodes", "LBooleanRuns$Nodes;", true)
  | 1 => ("BooleanRuns$Sets", "rows", "LBooleanRuns$Rows;", true)
  | 2 => ("BooleanRuns$Sets", "there", "[Z", true)
  | 3 => ("BooleanRuns$Sets", "sizes", "[I", true)
  | _ => ("BooleanRuns$Sets", "touched", "[Z", true)
def tyX9 : Nat → FieldType := fun k => match k with
  | 0 => .object "BooleanRuns$Nodes"
  | 1 => .object "BooleanRuns$Rows"
  | 2 => .array .boolean
  | 3 => .array .int
  | _ => .array .boolean
abbrev wsX90 : List Cond := u_ws RX9 TX9 5
theorem nmX9 : ∀ a, a < 5 → ∀ b, b < 5 → a ≠ b → (TX9 a).2.1 ≠ (TX9 b).2.1 := by decide +kernel
theorem tyX9_ok : ∀ k, k < 5 → parseFieldDescriptor (TX9 k).2.2.1 = some (tyX9 k) := by decide +kernel
abbrev cX9_init : ByteArray := prog_11_method_1_code
def yX9_init : MethodName := ⟨RX9, "<init>", "(LBooleanRuns$Nodes;)V"⟩
abbrev cX9_isThere : ByteArray := prog_11_method_2_code
def yX9_isThere : MethodName := ⟨RX9, "isThere", "(I)Z"⟩
abbrev cX9_size : ByteArray := prog_11_method_3_code
def yX9_size : MethodName := ⟨RX9, "size", "(I)I"⟩
abbrev cX9_rows : ByteArray := prog_11_method_4_code
def yX9_rows : MethodName := ⟨RX9, "rows", "()LBooleanRuns$Rows;"⟩
abbrev cX9_begin : ByteArray := prog_11_method_5_code
def yX9_begin : MethodName := ⟨RX9, "begin", "(I)V"⟩
abbrev cX9_add : ByteArray := prog_11_method_6_code
def yX9_add : MethodName := ⟨RX9, "add", "(II)V"⟩
abbrev cX9_count : ByteArray := prog_11_method_7_code
def yX9_count : MethodName := ⟨RX9, "count", "()I"⟩
abbrev cX9_dropThoseAbove : ByteArray := prog_11_method_8_code
def yX9_dropThoseAbove : MethodName := ⟨RX9, "dropThoseAbove", "(I)V"⟩
abbrev cX9_dropThoseOverList : ByteArray := prog_11_method_9_code
def yX9_dropThoseOverList : MethodName := ⟨RX9, "dropThoseOverList", "(I)V"⟩
abbrev cX9_touchesByParts : ByteArray := prog_11_method_10_code
def yX9_touchesByParts : MethodName := ⟨RX9, "touchesByParts", "(I)Z"⟩
def RX10 : String := "BooleanRuns"
def TX10 : u_T := fun k => match k with
  | 0 => ("BooleanRuns", "lists", "LBooleanRuns$Lists;", true)
  | 1 => ("BooleanRuns", "nodes", "LBooleanRuns$Nodes;", true)
  | 2 => ("BooleanRuns", "sets", "LBooleanRuns$Sets;", true)
  | 3 => ("BooleanRuns", "bounds", "LBooleanRuns$Bounds;", true)
  | 4 => ("BooleanRuns", "looker", "LBooleanRuns$Looker;", true)
  | 5 => ("BooleanRuns", "finds", "LBooleanRuns$Finds;", true)
  | 6 => ("BooleanRuns", "iterators", "LBooleanRuns$Iterators;", true)
  | 7 => ("BooleanRuns", "rewriter", "LBooleanRuns$Rewriter;", true)
  | _ => ("BooleanRuns", "latestScore", "J", false)
def tyX10 : Nat → FieldType := fun k => match k with
  | 0 => .object "BooleanRuns$Lists"
  | 1 => .object "BooleanRuns$Nodes"
  | 2 => .object "BooleanRuns$Sets"
  | 3 => .object "BooleanRuns$Bounds"
  | 4 => .object "BooleanRuns$Looker"
  | 5 => .object "BooleanRuns$Finds"
  | 6 => .object "BooleanRuns$Iterators"
  | 7 => .object "BooleanRuns$Rewriter"
  | _ => .long
abbrev wsX100 : List Cond := u_ws RX10 TX10 9
theorem nmX10 : ∀ a, a < 9 → ∀ b, b < 9 → a ≠ b → (TX10 a).2.1 ≠ (TX10 b).2.1 := by decide +kernel
theorem tyX10_ok : ∀ k, k < 9 → parseFieldDescriptor (TX10 k).2.2.1 = some (tyX10 k) := by decide +kernel
abbrev cX10_init : ByteArray := prog_1_method_1_code
def yX10_init : MethodName := ⟨RX10, "<init>", "()V"⟩
abbrev cX10_put : ByteArray := prog_1_method_2_code
def yX10_put : MethodName := ⟨RX10, "put", "(III)I"⟩
abbrev cX10_take : ByteArray := prog_1_method_3_code
def yX10_take : MethodName := ⟨RX10, "take", "(II)I"⟩
abbrev cX10_node : ByteArray := prog_1_method_4_code
def yX10_node : MethodName := ⟨RX10, "node", "(III)I"⟩
abbrev cX10_part : ByteArray := prog_1_method_5_code
def yX10_part : MethodName := ⟨RX10, "part", "(III)I"⟩
abbrev cX10_told : ByteArray := prog_1_method_6_code
def yX10_told : MethodName := ⟨RX10, "told", "(II)I"⟩
abbrev cX10_partOf : ByteArray := prog_1_method_7_code
def yX10_partOf : MethodName := ⟨RX10, "partOf", "(III)I"⟩
abbrev cX10_may : ByteArray := prog_1_method_8_code
def yX10_may : MethodName := ⟨RX10, "may", "(II)Z"⟩
abbrev cX10_sure : ByteArray := prog_1_method_9_code
def yX10_sure : MethodName := ⟨RX10, "sure", "(II)Z"⟩
abbrev cX10_look : ByteArray := prog_1_method_10_code
def yX10_look : MethodName := ⟨RX10, "look", "(II)I"⟩
abbrev cX10_scored : ByteArray := prog_1_method_11_code
def yX10_scored : MethodName := ⟨RX10, "scored", "()J"⟩
abbrev cX10_run : ByteArray := prog_1_method_12_code
def yX10_run : MethodName := ⟨RX10, "run", "(I)I"⟩
abbrev cX10_found : ByteArray := prog_1_method_13_code
def yX10_found : MethodName := ⟨RX10, "found", "(I)I"⟩
abbrev cX10_score : ByteArray := prog_1_method_14_code
def yX10_score : MethodName := ⟨RX10, "score", "(I)J"⟩
abbrev cX10_keep : ByteArray := prog_1_method_15_code
def yX10_keep : MethodName := ⟨RX10, "keep", "(I)I"⟩
abbrev cX10_open : ByteArray := prog_1_method_16_code
def yX10_open : MethodName := ⟨RX10, "open", "(I)I"⟩
abbrev cX10_next : ByteArray := prog_1_method_17_code
def yX10_next : MethodName := ⟨RX10, "next", "(II)I"⟩
abbrev cX10_close : ByteArray := prog_1_method_18_code
def yX10_close : MethodName := ⟨RX10, "close", "(I)I"⟩
abbrev cX10_rewrite : ByteArray := prog_1_method_19_code
def yX10_rewrite : MethodName := ⟨RX10, "rewrite", "(I)I"⟩
abbrev cX10_sum : ByteArray := prog_1_method_20_code
def yX10_sum : MethodName := ⟨RX10, "sum", "(I)I"⟩
abbrev cX10_listHasChanged : ByteArray := prog_1_method_21_code
def yX10_listHasChanged : MethodName := ⟨RX10, "listHasChanged", "(I)V"⟩
abbrev cX10_areNumbersOf : ByteArray := prog_1_method_22_code
def yX10_areNumbersOf : MethodName := ⟨RX10, "areNumbersOf", "(III)Z"⟩
abbrev cX10_hasSecondNumber : ByteArray := prog_1_method_23_code
def yX10_hasSecondNumber : MethodName := ⟨RX10, "hasSecondNumber", "(I)Z"⟩
abbrev cX10_isRoleOf : ByteArray := prog_1_method_24_code
def yX10_isRoleOf : MethodName := ⟨RX10, "isRoleOf", "(II)Z"⟩
abbrev cX10_isNeeded : ByteArray := prog_1_method_25_code
def yX10_isNeeded : MethodName := ⟨RX10, "isNeeded", "(I)Z"⟩
abbrev cX10_modulusOf : ByteArray := prog_1_method_26_code
def yX10_modulusOf : MethodName := ⟨RX10, "modulusOf", "(I)I"⟩
abbrev cX10_isList : ByteArray := prog_1_method_27_code
def yX10_isList : MethodName := ⟨RX10, "isList", "(I)Z"⟩
abbrev cX10_isObject : ByteArray := prog_1_method_28_code
def yX10_isObject : MethodName := ⟨RX10, "isObject", "(I)Z"⟩
abbrev cX10_isWithin : ByteArray := prog_1_method_29_code
def yX10_isWithin : MethodName := ⟨RX10, "isWithin", "(II)Z"⟩
def RX11 : String := "BooleanRunsModel"
def TX11 : u_T := fun k => match k with
  | 0 => ("BooleanRunsModel", "weight", "[I", true)
  | 1 => ("BooleanRunsModel", "size", "[I", true)
  | 2 => ("BooleanRunsModel", "nodes", "I", false)
  | 3 => ("BooleanRunsModel", "kind", "[I", true)
  | 4 => ("BooleanRunsModel", "first", "[I", true)
  | 5 => ("BooleanRunsModel", "second", "[I", true)
  | 6 => ("BooleanRunsModel", "many", "[I", true)
  | 7 => ("BooleanRunsModel", "role", "[I", true)
  | 8 => ("BooleanRunsModel", "part", "[I", true)
  | 9 => ("BooleanRunsModel", "asked", "[I", true)
  | 10 => ("BooleanRunsModel", "askedAll", "I", false)
  | 11 => ("BooleanRunsModel", "setSize", "[I", true)
  | 12 => ("BooleanRunsModel", "set", "[Z", true)
  | 13 => ("BooleanRunsModel", "by", "[I", true)
  | 14 => ("BooleanRunsModel", "at", "[I", true)
  | 15 => ("BooleanRunsModel", "over", "[Z", true)
  | 16 => ("BooleanRunsModel", "got", "[I", true)
  | 17 => ("BooleanRunsModel", "touched", "[Z", true)
  | 18 => ("BooleanRunsModel", "cost", "[I", true)
  | 19 => ("BooleanRunsModel", "mays", "[Z", true)
  | 20 => ("BooleanRunsModel", "sures", "[Z", true)
  | 21 => ("BooleanRunsModel", "matches", "[I", true)
  | 22 => ("BooleanRunsModel", "scores", "[J", true)
  | 23 => ("BooleanRunsModel", "order", "[I", true)
  | 24 => ("BooleanRunsModel", "step", "[I", true)
  | 25 => ("BooleanRunsModel", "pile", "[I", true)
  | 26 => ("BooleanRunsModel", "piled", "I", false)
  | 27 => ("BooleanRunsModel", "lastScore", "J", false)
  | 28 => ("BooleanRunsModel", "foundObject", "[I", true)
  | 29 => ("BooleanRunsModel", "foundScore", "[J", true)
  | 30 => ("BooleanRunsModel", "founds", "I", false)
  | 31 => ("BooleanRunsModel", "anew", "[I", true)
  | 32 => ("BooleanRunsModel", "rowRole", "[I", true)
  | 33 => ("BooleanRunsModel", "rowPart", "[I", true)
  | 34 => ("BooleanRunsModel", "row", "I", false)
  | 35 => ("BooleanRunsModel", "isFull", "Z", false)
  | _ => ("BooleanRunsModel", "leaves", "[Z", true)
def tyX11 : Nat → FieldType := fun k => match k with
  | 0 => .array .int
  | 1 => .array .int
  | 2 => .int
  | 3 => .array .int
  | 4 => .array .int
  | 5 => .array .int
  | 6 => .array .int
  | 7 => .array .int
  | 8 => .array .int
  | 9 => .array .int
  | 10 => .int
  | 11 => .array .int
  | 12 => .array .boolean
  | 13 => .array .int
  | 14 => .array .int
  | 15 => .array .boolean
  | 16 => .array .int
  | 17 => .array .boolean
  | 18 => .array .int
  | 19 => .array .boolean
  | 20 => .array .boolean
  | 21 => .array .int
  | 22 => .array .long
  | 23 => .array .int
  | 24 => .array .int
  | 25 => .array .int
  | 26 => .int
  | 27 => .long
  | 28 => .array .int
  | 29 => .array .long
  | 30 => .int
  | 31 => .array .int
  | 32 => .array .int
  | 33 => .array .int
  | 34 => .int
  | 35 => .boolean
  | _ => .array .boolean
abbrev wsX110 : List Cond := u_ws RX11 TX11 37
theorem nmX11 : ∀ a, a < 37 → ∀ b, b < 37 → a ≠ b → (TX11 a).2.1 ≠ (TX11 b).2.1 := by decide +kernel
theorem tyX11_ok : ∀ k, k < 37 → parseFieldDescriptor (TX11 k).2.2.1 = some (tyX11 k) := by decide +kernel
abbrev cX11_init : ByteArray := prog_13_method_1_code
def yX11_init : MethodName := ⟨RX11, "<init>", "()V"⟩
abbrev cX11_in : ByteArray := prog_13_method_2_code
def yX11_in : MethodName := ⟨RX11, "in", "(III)Z"⟩
abbrev cX11_isObject : ByteArray := prog_13_method_3_code
def yX11_isObject : MethodName := ⟨RX11, "isObject", "(I)Z"⟩
abbrev cX11_isNode : ByteArray := prog_13_method_4_code
def yX11_isNode : MethodName := ⟨RX11, "isNode", "(I)Z"⟩
abbrev cX11_forget : ByteArray := prog_13_method_5_code
def yX11_forget : MethodName := ⟨RX11, "forget", "(I)V"⟩
abbrev cX11_change : ByteArray := prog_13_method_6_code
def yX11_change : MethodName := ⟨RX11, "change", "(I)V"⟩
abbrev cX11_put : ByteArray := prog_13_method_7_code
def yX11_put : MethodName := ⟨RX11, "put", "(III)I"⟩
abbrev cX11_take : ByteArray := prog_13_method_8_code
def yX11_take : MethodName := ⟨RX11, "take", "(II)I"⟩
abbrev cX11_isToldSo : ByteArray := prog_13_method_9_code
def yX11_isToldSo : MethodName := ⟨RX11, "isToldSo", "(III)Z"⟩
abbrev cX11_make : ByteArray := prog_13_method_10_code
def yX11_make : MethodName := ⟨RX11, "make", "(III)V"⟩
abbrev cX11_node : ByteArray := prog_13_method_11_code
def yX11_node : MethodName := ⟨RX11, "node", "(III)I"⟩
abbrev cX11_part : ByteArray := prog_13_method_12_code
def yX11_part : MethodName := ⟨RX11, "part", "(III)I"⟩
abbrev cX11_told : ByteArray := prog_13_method_13_code
def yX11_told : MethodName := ⟨RX11, "told", "(II)I"⟩
abbrev cX11_partOf : ByteArray := prog_13_method_14_code
def yX11_partOf : MethodName := ⟨RX11, "partOf", "(III)I"⟩
abbrev cX11_costs : ByteArray := prog_13_method_15_code
def yX11_costs : MethodName := ⟨RX11, "costs", "()V"⟩
abbrev cX11_together : ByteArray := prog_13_method_16_code
def yX11_together : MethodName := ⟨RX11, "together", "(I)I"⟩
abbrev cX11_mayAll : ByteArray := prog_13_method_17_code
def yX11_mayAll : MethodName := ⟨RX11, "mayAll", "(II)V"⟩
abbrev cX11_fits : ByteArray := prog_13_method_18_code
def yX11_fits : MethodName := ⟨RX11, "fits", "(IZ)Z"⟩
abbrev cX11_may : ByteArray := prog_13_method_19_code
def yX11_may : MethodName := ⟨RX11, "may", "(II)Z"⟩
abbrev cX11_sure : ByteArray := prog_13_method_20_code
def yX11_sure : MethodName := ⟨RX11, "sure", "(II)Z"⟩
abbrev cX11_come : ByteArray := prog_13_method_21_code
def yX11_come : MethodName := ⟨RX11, "come", "(I)V"⟩
abbrev cX11_sort : ByteArray := prog_13_method_22_code
def yX11_sort : MethodName := ⟨RX11, "sort", "(I)V"⟩
abbrev cX11_go : ByteArray := prog_13_method_23_code
def yX11_go : MethodName := ⟨RX11, "go", "(II)Z"⟩
abbrev cX11_goOne : ByteArray := prog_13_method_24_code
def yX11_goOne : MethodName := ⟨RX11, "goOne", "(II)V"⟩
abbrev cX11_goBest : ByteArray := prog_13_method_25_code
def yX11_goBest : MethodName := ⟨RX11, "goBest", "(I)V"⟩
abbrev cX11_goBool : ByteArray := prog_13_method_26_code
def yX11_goBool : MethodName := ⟨RX11, "goBool", "(I)V"⟩
abbrev cX11_look : ByteArray := prog_13_method_27_code
def yX11_look : MethodName := ⟨RX11, "look", "(II)I"⟩
abbrev cX11_scored : ByteArray := prog_13_method_28_code
def yX11_scored : MethodName := ⟨RX11, "scored", "()J"⟩
abbrev cX11_run : ByteArray := prog_13_method_29_code
def yX11_run : MethodName := ⟨RX11, "run", "(I)I"⟩
abbrev cX11_found : ByteArray := prog_13_method_30_code
def yX11_found : MethodName := ⟨RX11, "found", "(I)I"⟩
abbrev cX11_score : ByteArray := prog_13_method_31_code
def yX11_score : MethodName := ⟨RX11, "score", "(I)J"⟩
abbrev cX11_keep : ByteArray := prog_13_method_32_code
def yX11_keep : MethodName := ⟨RX11, "keep", "(I)I"⟩
abbrev cX11_open : ByteArray := prog_13_method_33_code
def yX11_open : MethodName := ⟨RX11, "open", "(I)I"⟩
abbrev cX11_isOpen : ByteArray := prog_13_method_34_code
def yX11_isOpen : MethodName := ⟨RX11, "isOpen", "(I)Z"⟩
abbrev cX11_next : ByteArray := prog_13_method_35_code
def yX11_next : MethodName := ⟨RX11, "next", "(II)I"⟩
abbrev cX11_close : ByteArray := prog_13_method_36_code
def yX11_close : MethodName := ⟨RX11, "close", "(I)I"⟩
abbrev cX11_rewrite : ByteArray := prog_13_method_37_code
def yX11_rewrite : MethodName := ⟨RX11, "rewrite", "(I)I"⟩
abbrev cX11_so : ByteArray := prog_13_method_38_code
def yX11_so : MethodName := ⟨RX11, "so", "(III)I"⟩
abbrev cX11_newOther : ByteArray := prog_13_method_39_code
def yX11_newOther : MethodName := ⟨RX11, "newOther", "(I)I"⟩
abbrev cX11_lay : ByteArray := prog_13_method_40_code
def yX11_lay : MethodName := ⟨RX11, "lay", "(II)V"⟩
abbrev cX11_newBest : ByteArray := prog_13_method_41_code
def yX11_newBest : MethodName := ⟨RX11, "newBest", "(I)I"⟩
abbrev cX11_count : ByteArray := prog_13_method_42_code
def yX11_count : MethodName := ⟨RX11, "count", "(I)I"⟩
abbrev cX11_opens : ByteArray := prog_13_method_43_code
def yX11_opens : MethodName := ⟨RX11, "opens", "(IIII)Z"⟩
abbrev cX11_newBool : ByteArray := prog_13_method_44_code
def yX11_newBool : MethodName := ⟨RX11, "newBool", "(I)I"⟩
abbrev cX11_thin : ByteArray := prog_13_method_45_code
def yX11_thin : MethodName := ⟨RX11, "thin", "()Z"⟩
abbrev cX11_sum : ByteArray := prog_13_method_46_code
def yX11_sum : MethodName := ⟨RX11, "sum", "(I)I"⟩
def RJ9 : String := "java/lang/Math"
def TJ9 : u_T := fun k => match k with
  | _ => ("", "", "", false)
def tyJ9 : Nat → FieldType := fun k => match k with
  | _ => .int
abbrev cJ9_max_7cf53 : ByteArray := prog_14_method_65_code
def yJ9_max_7cf53 : MethodName := ⟨RJ9, "max", "(II)I"⟩
abbrev cJ9_max_f86c9 : ByteArray := prog_14_method_66_code
def yJ9_max_f86c9 : MethodName := ⟨RJ9, "max", "(JJ)J"⟩
abbrev cJ9_min_7cf53 : ByteArray := prog_14_method_69_code
def yJ9_min_7cf53 : MethodName := ⟨RJ9, "min", "(II)I"⟩
def RJ7 : String := "java/util/Arrays"
def TJ7 : u_T := fun k => match k with
  | _ => ("", "", "", false)
def tyJ7 : Nat → FieldType := fun k => match k with
  | _ => .int
abbrev cJ7_fill_d0a16 : ByteArray := prog_15_method_101_code
def yJ7_fill_d0a16 : MethodName := ⟨RJ7, "fill", "([JJ)V"⟩
abbrev cJ7_fill_53178 : ByteArray := prog_15_method_103_code
def yJ7_fill_53178 : MethodName := ⟨RJ7, "fill", "([II)V"⟩
def RL : String := "BooleanRunsLaw"
abbrev cL_law : ByteArray := code
def yL_law : MethodName := ⟨RL, "law", "([I)Z"⟩
abbrev vwCl : List vw_C := [(RX0, TX0, 9), (RX1, TX1, 3), (RX2, TX2, 4), (RX3, TX3, 3), (RX4, TX4, 7), (RX5, TX5, 8), (RX6, TX6, 3), (RX7, TX7, 5), (RX8, TX8, 1), (RX9, TX9, 5), (RX10, TX10, 9), (RX11, TX11, 37)]
theorem inX0 : ∀ w ∈ wsX00, w ∈ lw_tbl := by decide +kernel
theorem inX1 : ∀ w ∈ wsX10, w ∈ lw_tbl := by decide +kernel
theorem inX2 : ∀ w ∈ wsX20, w ∈ lw_tbl := by decide +kernel
theorem inX3 : ∀ w ∈ wsX30, w ∈ lw_tbl := by decide +kernel
theorem inX4 : ∀ w ∈ wsX40, w ∈ lw_tbl := by decide +kernel
theorem inX5 : ∀ w ∈ wsX50, w ∈ lw_tbl := by decide +kernel
theorem inX6 : ∀ w ∈ wsX60, w ∈ lw_tbl := by decide +kernel
theorem inX7 : ∀ w ∈ wsX70, w ∈ lw_tbl := by decide +kernel
theorem inX8 : ∀ w ∈ wsX80, w ∈ lw_tbl := by decide +kernel
theorem inX9 : ∀ w ∈ wsX90, w ∈ lw_tbl := by decide +kernel
theorem inX10 : ∀ w ∈ wsX100, w ∈ lw_tbl := by decide +kernel
theorem inX11 : ∀ w ∈ wsX110, w ∈ lw_tbl := by decide +kernel
