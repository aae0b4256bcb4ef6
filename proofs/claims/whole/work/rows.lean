section
-- ===== PART A: goes FIRST, ahead of the names: the tables' words, and 'selects' of the private methods out of them =====
/-- a private method of a class that the tables say can be made, by its rows of tables_1 -/
def lw_okq (q : MethodName × Nat) : Prop := (q.1.cls ≠ "java/lang/invoke/MethodHandle" ∧ q.1.cls ≠ "java/lang/invoke/VarHandle") ∧ Cond.instantiable q.1.cls q.2 ∈ tables_1 ∧ Cond.privateMethod q.1 ∈ tables_1 ∧ Cond.instanceMethod q.1 ∈ tables_1
theorem lw_p0 : lw_okq (⟨"BooleanRuns", "listHasChanged", "(I)V"⟩, 9) := ⟨⟨by decide +kernel, by decide +kernel⟩, List.mem_of_getElem? (i := 16) (by decide +kernel), List.mem_of_getElem? (i := 293) (by decide +kernel), List.mem_of_getElem? (i := 294) (by decide +kernel)⟩
theorem lw_p1 : lw_okq (⟨"BooleanRuns$Sets", "touchesByParts", "(I)Z"⟩, 5) := ⟨⟨by decide +kernel, by decide +kernel⟩, List.mem_of_getElem? (i := 72) (by decide +kernel), List.mem_of_getElem? (i := 309) (by decide +kernel), List.mem_of_getElem? (i := 310) (by decide +kernel)⟩
theorem lw_p2 : lw_okq (⟨"BooleanRuns", "areNumbersOf", "(III)Z"⟩, 9) := ⟨⟨by decide +kernel, by decide +kernel⟩, List.mem_of_getElem? (i := 16) (by decide +kernel), List.mem_of_getElem? (i := 349) (by decide +kernel), List.mem_of_getElem? (i := 350) (by decide +kernel)⟩
theorem lw_p3 : lw_okq (⟨"BooleanRuns$Bounds", "fillRows", "(I)V"⟩, 9) := ⟨⟨by decide +kernel, by decide +kernel⟩, List.mem_of_getElem? (i := 106) (by decide +kernel), List.mem_of_getElem? (i := 409) (by decide +kernel), List.mem_of_getElem? (i := 410) (by decide +kernel)⟩
theorem lw_p4 : lw_okq (⟨"BooleanRuns$Bounds", "fillByList", "(I)V"⟩, 9) := ⟨⟨by decide +kernel, by decide +kernel⟩, List.mem_of_getElem? (i := 106) (by decide +kernel), List.mem_of_getElem? (i := 414) (by decide +kernel), List.mem_of_getElem? (i := 415) (by decide +kernel)⟩
theorem lw_p5 : lw_okq (⟨"BooleanRuns$Bounds", "addToBoth", "(II)V"⟩, 9) := ⟨⟨by decide +kernel, by decide +kernel⟩, List.mem_of_getElem? (i := 106) (by decide +kernel), List.mem_of_getElem? (i := 424) (by decide +kernel), List.mem_of_getElem? (i := 425) (by decide +kernel)⟩
theorem lw_p6 : lw_okq (⟨"BooleanRuns$Bounds", "fillByRange", "(I)V"⟩, 9) := ⟨⟨by decide +kernel, by decide +kernel⟩, List.mem_of_getElem? (i := 106) (by decide +kernel), List.mem_of_getElem? (i := 432) (by decide +kernel), List.mem_of_getElem? (i := 433) (by decide +kernel)⟩
theorem lw_p7 : lw_okq (⟨"BooleanRuns$Bounds", "fillByBool", "(I)V"⟩, 9) := ⟨⟨by decide +kernel, by decide +kernel⟩, List.mem_of_getElem? (i := 106) (by decide +kernel), List.mem_of_getElem? (i := 437) (by decide +kernel), List.mem_of_getElem? (i := 438) (by decide +kernel)⟩
theorem lw_p8 : lw_okq (⟨"BooleanRuns$Bounds", "boolWord", "(IIILBooleanRuns$Rows;LBooleanRuns$Rows;)J"⟩, 9) := ⟨⟨by decide +kernel, by decide +kernel⟩, List.mem_of_getElem? (i := 106) (by decide +kernel), List.mem_of_getElem? (i := 456) (by decide +kernel), List.mem_of_getElem? (i := 457) (by decide +kernel)⟩
theorem lw_p9 : lw_okq (⟨"BooleanRuns$Bounds", "countIn", "(JI)V"⟩, 9) := ⟨⟨by decide +kernel, by decide +kernel⟩, List.mem_of_getElem? (i := 106) (by decide +kernel), List.mem_of_getElem? (i := 471) (by decide +kernel), List.mem_of_getElem? (i := 472) (by decide +kernel)⟩
theorem lw_p10 : lw_okq (⟨"BooleanRuns$Bounds", "fillByKept", "(I)V"⟩, 9) := ⟨⟨by decide +kernel, by decide +kernel⟩, List.mem_of_getElem? (i := 106) (by decide +kernel), List.mem_of_getElem? (i := 479) (by decide +kernel), List.mem_of_getElem? (i := 480) (by decide +kernel)⟩
theorem lw_p11 : lw_okq (⟨"BooleanRuns$Bounds", "joinParts", "(I)V"⟩, 9) := ⟨⟨by decide +kernel, by decide +kernel⟩, List.mem_of_getElem? (i := 106) (by decide +kernel), List.mem_of_getElem? (i := 495) (by decide +kernel), List.mem_of_getElem? (i := 496) (by decide +kernel)⟩
theorem lw_p12 : lw_okq (⟨"BooleanRuns$Bounds", "costOf", "(I)I"⟩, 9) := ⟨⟨by decide +kernel, by decide +kernel⟩, List.mem_of_getElem? (i := 106) (by decide +kernel), List.mem_of_getElem? (i := 499) (by decide +kernel), List.mem_of_getElem? (i := 500) (by decide +kernel)⟩
theorem lw_p13 : lw_okq (⟨"BooleanRuns$Bounds", "costOfBool", "(I)I"⟩, 9) := ⟨⟨by decide +kernel, by decide +kernel⟩, List.mem_of_getElem? (i := 106) (by decide +kernel), List.mem_of_getElem? (i := 503) (by decide +kernel), List.mem_of_getElem? (i := 504) (by decide +kernel)⟩
theorem lw_p14 : lw_okq (⟨"BooleanRuns$Bounds", "costOfShoulds", "(I)I"⟩, 9) := ⟨⟨by decide +kernel, by decide +kernel⟩, List.mem_of_getElem? (i := 106) (by decide +kernel), List.mem_of_getElem? (i := 510) (by decide +kernel), List.mem_of_getElem? (i := 511) (by decide +kernel)⟩
theorem lw_p15 : lw_okq (⟨"BooleanRuns$Bounds", "arrange", "(I)V"⟩, 9) := ⟨⟨by decide +kernel, by decide +kernel⟩, List.mem_of_getElem? (i := 106) (by decide +kernel), List.mem_of_getElem? (i := 518) (by decide +kernel), List.mem_of_getElem? (i := 519) (by decide +kernel)⟩
def lw_privs_1 : List (MethodName × Nat) := [(⟨"BooleanRuns", "listHasChanged", "(I)V"⟩, 9), (⟨"BooleanRuns$Sets", "touchesByParts", "(I)Z"⟩, 5), (⟨"BooleanRuns", "areNumbersOf", "(III)Z"⟩, 9), (⟨"BooleanRuns$Bounds", "fillRows", "(I)V"⟩, 9), (⟨"BooleanRuns$Bounds", "fillByList", "(I)V"⟩, 9), (⟨"BooleanRuns$Bounds", "addToBoth", "(II)V"⟩, 9), (⟨"BooleanRuns$Bounds", "fillByRange", "(I)V"⟩, 9), (⟨"BooleanRuns$Bounds", "fillByBool", "(I)V"⟩, 9), (⟨"BooleanRuns$Bounds", "boolWord", "(IIILBooleanRuns$Rows;LBooleanRuns$Rows;)J"⟩, 9), (⟨"BooleanRuns$Bounds", "countIn", "(JI)V"⟩, 9), (⟨"BooleanRuns$Bounds", "fillByKept", "(I)V"⟩, 9), (⟨"BooleanRuns$Bounds", "joinParts", "(I)V"⟩, 9), (⟨"BooleanRuns$Bounds", "costOf", "(I)I"⟩, 9), (⟨"BooleanRuns$Bounds", "costOfBool", "(I)I"⟩, 9), (⟨"BooleanRuns$Bounds", "costOfShoulds", "(I)I"⟩, 9), (⟨"BooleanRuns$Bounds", "arrange", "(I)V"⟩, 9)]
theorem lw_r1 : ∀ q ∈ lw_privs_1, lw_okq q := List.forall_mem_cons.mpr ⟨lw_p0, List.forall_mem_cons.mpr ⟨lw_p1, List.forall_mem_cons.mpr ⟨lw_p2, List.forall_mem_cons.mpr ⟨lw_p3, List.forall_mem_cons.mpr ⟨lw_p4, List.forall_mem_cons.mpr ⟨lw_p5, List.forall_mem_cons.mpr ⟨lw_p6, List.forall_mem_cons.mpr ⟨lw_p7, List.forall_mem_cons.mpr ⟨lw_p8, List.forall_mem_cons.mpr ⟨lw_p9, List.forall_mem_cons.mpr ⟨lw_p10, List.forall_mem_cons.mpr ⟨lw_p11, List.forall_mem_cons.mpr ⟨lw_p12, List.forall_mem_cons.mpr ⟨lw_p13, List.forall_mem_cons.mpr ⟨lw_p14, List.forall_mem_cons.mpr ⟨lw_p15, fun _ h => absurd h List.not_mem_nil⟩⟩⟩⟩⟩⟩⟩⟩⟩⟩⟩⟩⟩⟩⟩⟩
theorem lw_p16 : lw_okq (⟨"BooleanRuns$Bounds", "rankOf", "(II)I"⟩, 9) := ⟨⟨by decide +kernel, by decide +kernel⟩, List.mem_of_getElem? (i := 106) (by decide +kernel), List.mem_of_getElem? (i := 522) (by decide +kernel), List.mem_of_getElem? (i := 523) (by decide +kernel)⟩
theorem lw_p17 : lw_okq (⟨"BooleanRuns$Looker", "wantedBy", "(II)I"⟩, 7) := ⟨⟨by decide +kernel, by decide +kernel⟩, List.mem_of_getElem? (i := 142) (by decide +kernel), List.mem_of_getElem? (i := 575) (by decide +kernel), List.mem_of_getElem? (i := 576) (by decide +kernel)⟩
theorem lw_p18 : lw_okq (⟨"BooleanRuns$Looker", "wantedByBool", "(II)I"⟩, 7) := ⟨⟨by decide +kernel, by decide +kernel⟩, List.mem_of_getElem? (i := 142) (by decide +kernel), List.mem_of_getElem? (i := 581) (by decide +kernel), List.mem_of_getElem? (i := 582) (by decide +kernel)⟩
theorem lw_p19 : lw_okq (⟨"BooleanRuns$Looker", "holds", "(III)Z"⟩, 7) := ⟨⟨by decide +kernel, by decide +kernel⟩, List.mem_of_getElem? (i := 142) (by decide +kernel), List.mem_of_getElem? (i := 592) (by decide +kernel), List.mem_of_getElem? (i := 593) (by decide +kernel)⟩
theorem lw_p20 : lw_okq (⟨"BooleanRuns$Looker", "fitsByParts", "(II)Z"⟩, 7) := ⟨⟨by decide +kernel, by decide +kernel⟩, List.mem_of_getElem? (i := 142) (by decide +kernel), List.mem_of_getElem? (i := 598) (by decide +kernel), List.mem_of_getElem? (i := 599) (by decide +kernel)⟩
theorem lw_p21 : lw_okq (⟨"BooleanRuns$Looker", "fitsBool", "(II)Z"⟩, 7) := ⟨⟨by decide +kernel, by decide +kernel⟩, List.mem_of_getElem? (i := 142) (by decide +kernel), List.mem_of_getElem? (i := 602) (by decide +kernel), List.mem_of_getElem? (i := 603) (by decide +kernel)⟩
theorem lw_p22 : lw_okq (⟨"BooleanRuns$Looker", "somePartMatches", "(I)Z"⟩, 7) := ⟨⟨by decide +kernel, by decide +kernel⟩, List.mem_of_getElem? (i := 142) (by decide +kernel), List.mem_of_getElem? (i := 607) (by decide +kernel), List.mem_of_getElem? (i := 608) (by decide +kernel)⟩
theorem lw_p23 : lw_okq (⟨"BooleanRuns$Looker", "passesTest", "(II)Z"⟩, 7) := ⟨⟨by decide +kernel, by decide +kernel⟩, List.mem_of_getElem? (i := 142) (by decide +kernel), List.mem_of_getElem? (i := 611) (by decide +kernel), List.mem_of_getElem? (i := 612) (by decide +kernel)⟩
theorem lw_p24 : lw_okq (⟨"BooleanRuns$Looker", "scoreByParts", "(II)J"⟩, 7) := ⟨⟨by decide +kernel, by decide +kernel⟩, List.mem_of_getElem? (i := 142) (by decide +kernel), List.mem_of_getElem? (i := 622) (by decide +kernel), List.mem_of_getElem? (i := 623) (by decide +kernel)⟩
theorem lw_p25 : lw_okq (⟨"BooleanRuns$Looker", "scoreOfBool", "(I)J"⟩, 7) := ⟨⟨by decide +kernel, by decide +kernel⟩, List.mem_of_getElem? (i := 142) (by decide +kernel), List.mem_of_getElem? (i := 628) (by decide +kernel), List.mem_of_getElem? (i := 629) (by decide +kernel)⟩
theorem lw_p26 : lw_okq (⟨"BooleanRuns$Looker", "scoreOfBest", "(I)J"⟩, 7) := ⟨⟨by decide +kernel, by decide +kernel⟩, List.mem_of_getElem? (i := 142) (by decide +kernel), List.mem_of_getElem? (i := 632) (by decide +kernel), List.mem_of_getElem? (i := 633) (by decide +kernel)⟩
theorem lw_p27 : lw_okq (⟨"BooleanRuns$Rewriter", "markUnder", "(I)V"⟩, 5) := ⟨⟨by decide +kernel, by decide +kernel⟩, List.mem_of_getElem? (i := 205) (by decide +kernel), List.mem_of_getElem? (i := 750) (by decide +kernel), List.mem_of_getElem? (i := 751) (by decide +kernel)⟩
theorem lw_p28 : lw_okq (⟨"BooleanRuns$Rewriter", "newOf", "(I)I"⟩, 5) := ⟨⟨by decide +kernel, by decide +kernel⟩, List.mem_of_getElem? (i := 205) (by decide +kernel), List.mem_of_getElem? (i := 756) (by decide +kernel), List.mem_of_getElem? (i := 757) (by decide +kernel)⟩
theorem lw_p29 : lw_okq (⟨"BooleanRuns$Rewriter", "thatIsSo", "(III)I"⟩, 5) := ⟨⟨by decide +kernel, by decide +kernel⟩, List.mem_of_getElem? (i := 205) (by decide +kernel), List.mem_of_getElem? (i := 763) (by decide +kernel), List.mem_of_getElem? (i := 764) (by decide +kernel)⟩
theorem lw_p30 : lw_okq (⟨"BooleanRuns$Rewriter", "gatherBool", "(I)Z"⟩, 5) := ⟨⟨by decide +kernel, by decide +kernel⟩, List.mem_of_getElem? (i := 205) (by decide +kernel), List.mem_of_getElem? (i := 769) (by decide +kernel), List.mem_of_getElem? (i := 770) (by decide +kernel)⟩
theorem lw_p31 : lw_okq (⟨"BooleanRuns$Rewriter", "canDissolve", "(III)Z"⟩, 5) := ⟨⟨by decide +kernel, by decide +kernel⟩, List.mem_of_getElem? (i := 205) (by decide +kernel), List.mem_of_getElem? (i := 779) (by decide +kernel), List.mem_of_getElem? (i := 780) (by decide +kernel)⟩
def lw_privs_2 : List (MethodName × Nat) := [(⟨"BooleanRuns$Bounds", "rankOf", "(II)I"⟩, 9), (⟨"BooleanRuns$Looker", "wantedBy", "(II)I"⟩, 7), (⟨"BooleanRuns$Looker", "wantedByBool", "(II)I"⟩, 7), (⟨"BooleanRuns$Looker", "holds", "(III)Z"⟩, 7), (⟨"BooleanRuns$Looker", "fitsByParts", "(II)Z"⟩, 7), (⟨"BooleanRuns$Looker", "fitsBool", "(II)Z"⟩, 7), (⟨"BooleanRuns$Looker", "somePartMatches", "(I)Z"⟩, 7), (⟨"BooleanRuns$Looker", "passesTest", "(II)Z"⟩, 7), (⟨"BooleanRuns$Looker", "scoreByParts", "(II)J"⟩, 7), (⟨"BooleanRuns$Looker", "scoreOfBool", "(I)J"⟩, 7), (⟨"BooleanRuns$Looker", "scoreOfBest", "(I)J"⟩, 7), (⟨"BooleanRuns$Rewriter", "markUnder", "(I)V"⟩, 5), (⟨"BooleanRuns$Rewriter", "newOf", "(I)I"⟩, 5), (⟨"BooleanRuns$Rewriter", "thatIsSo", "(III)I"⟩, 5), (⟨"BooleanRuns$Rewriter", "gatherBool", "(I)Z"⟩, 5), (⟨"BooleanRuns$Rewriter", "canDissolve", "(III)Z"⟩, 5)]
theorem lw_r2 : ∀ q ∈ lw_privs_2, lw_okq q := List.forall_mem_cons.mpr ⟨lw_p16, List.forall_mem_cons.mpr ⟨lw_p17, List.forall_mem_cons.mpr ⟨lw_p18, List.forall_mem_cons.mpr ⟨lw_p19, List.forall_mem_cons.mpr ⟨lw_p20, List.forall_mem_cons.mpr ⟨lw_p21, List.forall_mem_cons.mpr ⟨lw_p22, List.forall_mem_cons.mpr ⟨lw_p23, List.forall_mem_cons.mpr ⟨lw_p24, List.forall_mem_cons.mpr ⟨lw_p25, List.forall_mem_cons.mpr ⟨lw_p26, List.forall_mem_cons.mpr ⟨lw_p27, List.forall_mem_cons.mpr ⟨lw_p28, List.forall_mem_cons.mpr ⟨lw_p29, List.forall_mem_cons.mpr ⟨lw_p30, List.forall_mem_cons.mpr ⟨lw_p31, fun _ h => absurd h List.not_mem_nil⟩⟩⟩⟩⟩⟩⟩⟩⟩⟩⟩⟩⟩⟩⟩⟩
theorem lw_p32 : lw_okq (⟨"BooleanRuns$Rewriter", "dissolve", "(II)V"⟩, 5) := ⟨⟨by decide +kernel, by decide +kernel⟩, List.mem_of_getElem? (i := 205) (by decide +kernel), List.mem_of_getElem? (i := 788) (by decide +kernel), List.mem_of_getElem? (i := 789) (by decide +kernel)⟩
theorem lw_p33 : lw_okq (⟨"BooleanRuns$Rewriter", "boolOfRow", "(I)I"⟩, 5) := ⟨⟨by decide +kernel, by decide +kernel⟩, List.mem_of_getElem? (i := 205) (by decide +kernel), List.mem_of_getElem? (i := 796) (by decide +kernel), List.mem_of_getElem? (i := 797) (by decide +kernel)⟩
theorem lw_p34 : lw_okq (⟨"BooleanRuns$PartRow", "hasAhead", "(III)Z"⟩, 3) := ⟨⟨by decide +kernel, by decide +kernel⟩, List.mem_of_getElem? (i := 211) (by decide +kernel), List.mem_of_getElem? (i := 813) (by decide +kernel), List.mem_of_getElem? (i := 814) (by decide +kernel)⟩
theorem lw_p35 : lw_okq (⟨"BooleanRuns$PartRow", "isRepeat", "(II)Z"⟩, 3) := ⟨⟨by decide +kernel, by decide +kernel⟩, List.mem_of_getElem? (i := 211) (by decide +kernel), List.mem_of_getElem? (i := 821) (by decide +kernel), List.mem_of_getElem? (i := 822) (by decide +kernel)⟩
theorem lw_p36 : lw_okq (⟨"BooleanRuns$PartRow", "hasBehind", "(III)Z"⟩, 3) := ⟨⟨by decide +kernel, by decide +kernel⟩, List.mem_of_getElem? (i := 211) (by decide +kernel), List.mem_of_getElem? (i := 825) (by decide +kernel), List.mem_of_getElem? (i := 826) (by decide +kernel)⟩
theorem lw_p37 : lw_okq (⟨"BooleanRuns$Rewriter", "thatIsSoWithRow", "(II)I"⟩, 5) := ⟨⟨by decide +kernel, by decide +kernel⟩, List.mem_of_getElem? (i := 205) (by decide +kernel), List.mem_of_getElem? (i := 837) (by decide +kernel), List.mem_of_getElem? (i := 838) (by decide +kernel)⟩
theorem lw_p38 : lw_okq (⟨"BooleanRuns$Rewriter", "hasPartsOfRow", "(I)Z"⟩, 5) := ⟨⟨by decide +kernel, by decide +kernel⟩, List.mem_of_getElem? (i := 205) (by decide +kernel), List.mem_of_getElem? (i := 841) (by decide +kernel), List.mem_of_getElem? (i := 842) (by decide +kernel)⟩
theorem lw_p39 : lw_okq (⟨"BooleanRuns$Rewriter", "newOfBest", "(I)I"⟩, 5) := ⟨⟨by decide +kernel, by decide +kernel⟩, List.mem_of_getElem? (i := 205) (by decide +kernel), List.mem_of_getElem? (i := 846) (by decide +kernel), List.mem_of_getElem? (i := 847) (by decide +kernel)⟩
theorem lw_p40 : lw_okq (⟨"BooleanRuns$Rewriter", "newOfOne", "(III)I"⟩, 5) := ⟨⟨by decide +kernel, by decide +kernel⟩, List.mem_of_getElem? (i := 205) (by decide +kernel), List.mem_of_getElem? (i := 851) (by decide +kernel), List.mem_of_getElem? (i := 852) (by decide +kernel)⟩
theorem lw_p41 : lw_okq (⟨"BooleanRunsModel", "change", "(I)V"⟩, 37) := ⟨⟨by decide +kernel, by decide +kernel⟩, List.mem_of_getElem? (i := 880) (by decide +kernel), List.mem_of_getElem? (i := 1010) (by decide +kernel), List.mem_of_getElem? (i := 1011) (by decide +kernel)⟩
theorem lw_p42 : lw_okq (⟨"BooleanRunsModel", "forget", "(I)V"⟩, 37) := ⟨⟨by decide +kernel, by decide +kernel⟩, List.mem_of_getElem? (i := 880) (by decide +kernel), List.mem_of_getElem? (i := 1014) (by decide +kernel), List.mem_of_getElem? (i := 1015) (by decide +kernel)⟩
theorem lw_p43 : lw_okq (⟨"BooleanRunsModel", "isToldSo", "(III)Z"⟩, 37) := ⟨⟨by decide +kernel, by decide +kernel⟩, List.mem_of_getElem? (i := 880) (by decide +kernel), List.mem_of_getElem? (i := 1026) (by decide +kernel), List.mem_of_getElem? (i := 1027) (by decide +kernel)⟩
theorem lw_p44 : lw_okq (⟨"BooleanRunsModel", "isNode", "(I)Z"⟩, 37) := ⟨⟨by decide +kernel, by decide +kernel⟩, List.mem_of_getElem? (i := 880) (by decide +kernel), List.mem_of_getElem? (i := 1030) (by decide +kernel), List.mem_of_getElem? (i := 1031) (by decide +kernel)⟩
theorem lw_p45 : lw_okq (⟨"BooleanRunsModel", "make", "(III)V"⟩, 37) := ⟨⟨by decide +kernel, by decide +kernel⟩, List.mem_of_getElem? (i := 880) (by decide +kernel), List.mem_of_getElem? (i := 1035) (by decide +kernel), List.mem_of_getElem? (i := 1036) (by decide +kernel)⟩
theorem lw_p46 : lw_okq (⟨"BooleanRunsModel", "costs", "()V"⟩, 37) := ⟨⟨by decide +kernel, by decide +kernel⟩, List.mem_of_getElem? (i := 880) (by decide +kernel), List.mem_of_getElem? (i := 1047) (by decide +kernel), List.mem_of_getElem? (i := 1048) (by decide +kernel)⟩
theorem lw_p47 : lw_okq (⟨"BooleanRunsModel", "together", "(I)I"⟩, 37) := ⟨⟨by decide +kernel, by decide +kernel⟩, List.mem_of_getElem? (i := 880) (by decide +kernel), List.mem_of_getElem? (i := 1051) (by decide +kernel), List.mem_of_getElem? (i := 1052) (by decide +kernel)⟩
def lw_privs_3 : List (MethodName × Nat) := [(⟨"BooleanRuns$Rewriter", "dissolve", "(II)V"⟩, 5), (⟨"BooleanRuns$Rewriter", "boolOfRow", "(I)I"⟩, 5), (⟨"BooleanRuns$PartRow", "hasAhead", "(III)Z"⟩, 3), (⟨"BooleanRuns$PartRow", "isRepeat", "(II)Z"⟩, 3), (⟨"BooleanRuns$PartRow", "hasBehind", "(III)Z"⟩, 3), (⟨"BooleanRuns$Rewriter", "thatIsSoWithRow", "(II)I"⟩, 5), (⟨"BooleanRuns$Rewriter", "hasPartsOfRow", "(I)Z"⟩, 5), (⟨"BooleanRuns$Rewriter", "newOfBest", "(I)I"⟩, 5), (⟨"BooleanRuns$Rewriter", "newOfOne", "(III)I"⟩, 5), (⟨"BooleanRunsModel", "change", "(I)V"⟩, 37), (⟨"BooleanRunsModel", "forget", "(I)V"⟩, 37), (⟨"BooleanRunsModel", "isToldSo", "(III)Z"⟩, 37), (⟨"BooleanRunsModel", "isNode", "(I)Z"⟩, 37), (⟨"BooleanRunsModel", "make", "(III)V"⟩, 37), (⟨"BooleanRunsModel", "costs", "()V"⟩, 37), (⟨"BooleanRunsModel", "together", "(I)I"⟩, 37)]
theorem lw_r3 : ∀ q ∈ lw_privs_3, lw_okq q := List.forall_mem_cons.mpr ⟨lw_p32, List.forall_mem_cons.mpr ⟨lw_p33, List.forall_mem_cons.mpr ⟨lw_p34, List.forall_mem_cons.mpr ⟨lw_p35, List.forall_mem_cons.mpr ⟨lw_p36, List.forall_mem_cons.mpr ⟨lw_p37, List.forall_mem_cons.mpr ⟨lw_p38, List.forall_mem_cons.mpr ⟨lw_p39, List.forall_mem_cons.mpr ⟨lw_p40, List.forall_mem_cons.mpr ⟨lw_p41, List.forall_mem_cons.mpr ⟨lw_p42, List.forall_mem_cons.mpr ⟨lw_p43, List.forall_mem_cons.mpr ⟨lw_p44, List.forall_mem_cons.mpr ⟨lw_p45, List.forall_mem_cons.mpr ⟨lw_p46, List.forall_mem_cons.mpr ⟨lw_p47, fun _ h => absurd h List.not_mem_nil⟩⟩⟩⟩⟩⟩⟩⟩⟩⟩⟩⟩⟩⟩⟩⟩
theorem lw_p48 : lw_okq (⟨"BooleanRunsModel", "mayAll", "(II)V"⟩, 37) := ⟨⟨by decide +kernel, by decide +kernel⟩, List.mem_of_getElem? (i := 880) (by decide +kernel), List.mem_of_getElem? (i := 1063) (by decide +kernel), List.mem_of_getElem? (i := 1064) (by decide +kernel)⟩
theorem lw_p49 : lw_okq (⟨"BooleanRunsModel", "fits", "(IZ)Z"⟩, 37) := ⟨⟨by decide +kernel, by decide +kernel⟩, List.mem_of_getElem? (i := 880) (by decide +kernel), List.mem_of_getElem? (i := 1067) (by decide +kernel), List.mem_of_getElem? (i := 1068) (by decide +kernel)⟩
theorem lw_p50 : lw_okq (⟨"BooleanRunsModel", "go", "(II)Z"⟩, 37) := ⟨⟨by decide +kernel, by decide +kernel⟩, List.mem_of_getElem? (i := 880) (by decide +kernel), List.mem_of_getElem? (i := 1079) (by decide +kernel), List.mem_of_getElem? (i := 1080) (by decide +kernel)⟩
theorem lw_p51 : lw_okq (⟨"BooleanRunsModel", "come", "(I)V"⟩, 37) := ⟨⟨by decide +kernel, by decide +kernel⟩, List.mem_of_getElem? (i := 880) (by decide +kernel), List.mem_of_getElem? (i := 1083) (by decide +kernel), List.mem_of_getElem? (i := 1084) (by decide +kernel)⟩
theorem lw_p52 : lw_okq (⟨"BooleanRunsModel", "sort", "(I)V"⟩, 37) := ⟨⟨by decide +kernel, by decide +kernel⟩, List.mem_of_getElem? (i := 880) (by decide +kernel), List.mem_of_getElem? (i := 1087) (by decide +kernel), List.mem_of_getElem? (i := 1088) (by decide +kernel)⟩
theorem lw_p53 : lw_okq (⟨"BooleanRunsModel", "goBool", "(I)V"⟩, 37) := ⟨⟨by decide +kernel, by decide +kernel⟩, List.mem_of_getElem? (i := 880) (by decide +kernel), List.mem_of_getElem? (i := 1091) (by decide +kernel), List.mem_of_getElem? (i := 1092) (by decide +kernel)⟩
theorem lw_p54 : lw_okq (⟨"BooleanRunsModel", "goBest", "(I)V"⟩, 37) := ⟨⟨by decide +kernel, by decide +kernel⟩, List.mem_of_getElem? (i := 880) (by decide +kernel), List.mem_of_getElem? (i := 1095) (by decide +kernel), List.mem_of_getElem? (i := 1096) (by decide +kernel)⟩
theorem lw_p55 : lw_okq (⟨"BooleanRunsModel", "goOne", "(II)V"⟩, 37) := ⟨⟨by decide +kernel, by decide +kernel⟩, List.mem_of_getElem? (i := 880) (by decide +kernel), List.mem_of_getElem? (i := 1100) (by decide +kernel), List.mem_of_getElem? (i := 1101) (by decide +kernel)⟩
theorem lw_p56 : lw_okq (⟨"BooleanRunsModel", "isOpen", "(I)Z"⟩, 37) := ⟨⟨by decide +kernel, by decide +kernel⟩, List.mem_of_getElem? (i := 880) (by decide +kernel), List.mem_of_getElem? (i := 1132) (by decide +kernel), List.mem_of_getElem? (i := 1133) (by decide +kernel)⟩
theorem lw_p57 : lw_okq (⟨"BooleanRunsModel", "newBool", "(I)I"⟩, 37) := ⟨⟨by decide +kernel, by decide +kernel⟩, List.mem_of_getElem? (i := 880) (by decide +kernel), List.mem_of_getElem? (i := 1144) (by decide +kernel), List.mem_of_getElem? (i := 1145) (by decide +kernel)⟩
theorem lw_p58 : lw_okq (⟨"BooleanRunsModel", "so", "(III)I"⟩, 37) := ⟨⟨by decide +kernel, by decide +kernel⟩, List.mem_of_getElem? (i := 880) (by decide +kernel), List.mem_of_getElem? (i := 1148) (by decide +kernel), List.mem_of_getElem? (i := 1149) (by decide +kernel)⟩
theorem lw_p59 : lw_okq (⟨"BooleanRunsModel", "opens", "(IIII)Z"⟩, 37) := ⟨⟨by decide +kernel, by decide +kernel⟩, List.mem_of_getElem? (i := 880) (by decide +kernel), List.mem_of_getElem? (i := 1152) (by decide +kernel), List.mem_of_getElem? (i := 1153) (by decide +kernel)⟩
theorem lw_p60 : lw_okq (⟨"BooleanRunsModel", "lay", "(II)V"⟩, 37) := ⟨⟨by decide +kernel, by decide +kernel⟩, List.mem_of_getElem? (i := 880) (by decide +kernel), List.mem_of_getElem? (i := 1156) (by decide +kernel), List.mem_of_getElem? (i := 1157) (by decide +kernel)⟩
theorem lw_p61 : lw_okq (⟨"BooleanRunsModel", "count", "(I)I"⟩, 37) := ⟨⟨by decide +kernel, by decide +kernel⟩, List.mem_of_getElem? (i := 880) (by decide +kernel), List.mem_of_getElem? (i := 1160) (by decide +kernel), List.mem_of_getElem? (i := 1161) (by decide +kernel)⟩
theorem lw_p62 : lw_okq (⟨"BooleanRunsModel", "thin", "()Z"⟩, 37) := ⟨⟨by decide +kernel, by decide +kernel⟩, List.mem_of_getElem? (i := 880) (by decide +kernel), List.mem_of_getElem? (i := 1164) (by decide +kernel), List.mem_of_getElem? (i := 1165) (by decide +kernel)⟩
theorem lw_p63 : lw_okq (⟨"BooleanRunsModel", "newBest", "(I)I"⟩, 37) := ⟨⟨by decide +kernel, by decide +kernel⟩, List.mem_of_getElem? (i := 880) (by decide +kernel), List.mem_of_getElem? (i := 1168) (by decide +kernel), List.mem_of_getElem? (i := 1169) (by decide +kernel)⟩
def lw_privs_4 : List (MethodName × Nat) := [(⟨"BooleanRunsModel", "mayAll", "(II)V"⟩, 37), (⟨"BooleanRunsModel", "fits", "(IZ)Z"⟩, 37), (⟨"BooleanRunsModel", "go", "(II)Z"⟩, 37), (⟨"BooleanRunsModel", "come", "(I)V"⟩, 37), (⟨"BooleanRunsModel", "sort", "(I)V"⟩, 37), (⟨"BooleanRunsModel", "goBool", "(I)V"⟩, 37), (⟨"BooleanRunsModel", "goBest", "(I)V"⟩, 37), (⟨"BooleanRunsModel", "goOne", "(II)V"⟩, 37), (⟨"BooleanRunsModel", "isOpen", "(I)Z"⟩, 37), (⟨"BooleanRunsModel", "newBool", "(I)I"⟩, 37), (⟨"BooleanRunsModel", "so", "(III)I"⟩, 37), (⟨"BooleanRunsModel", "opens", "(IIII)Z"⟩, 37), (⟨"BooleanRunsModel", "lay", "(II)V"⟩, 37), (⟨"BooleanRunsModel", "count", "(I)I"⟩, 37), (⟨"BooleanRunsModel", "thin", "()Z"⟩, 37), (⟨"BooleanRunsModel", "newBest", "(I)I"⟩, 37)]
theorem lw_r4 : ∀ q ∈ lw_privs_4, lw_okq q := List.forall_mem_cons.mpr ⟨lw_p48, List.forall_mem_cons.mpr ⟨lw_p49, List.forall_mem_cons.mpr ⟨lw_p50, List.forall_mem_cons.mpr ⟨lw_p51, List.forall_mem_cons.mpr ⟨lw_p52, List.forall_mem_cons.mpr ⟨lw_p53, List.forall_mem_cons.mpr ⟨lw_p54, List.forall_mem_cons.mpr ⟨lw_p55, List.forall_mem_cons.mpr ⟨lw_p56, List.forall_mem_cons.mpr ⟨lw_p57, List.forall_mem_cons.mpr ⟨lw_p58, List.forall_mem_cons.mpr ⟨lw_p59, List.forall_mem_cons.mpr ⟨lw_p60, List.forall_mem_cons.mpr ⟨lw_p61, List.forall_mem_cons.mpr ⟨lw_p62, List.forall_mem_cons.mpr ⟨lw_p63, fun _ h => absurd h List.not_mem_nil⟩⟩⟩⟩⟩⟩⟩⟩⟩⟩⟩⟩⟩⟩⟩⟩
theorem lw_p64 : lw_okq (⟨"BooleanRunsModel", "newOther", "(I)I"⟩, 37) := ⟨⟨by decide +kernel, by decide +kernel⟩, List.mem_of_getElem? (i := 880) (by decide +kernel), List.mem_of_getElem? (i := 1172) (by decide +kernel), List.mem_of_getElem? (i := 1173) (by decide +kernel)⟩
def lw_privs_5 : List (MethodName × Nat) := [(⟨"BooleanRunsModel", "newOther", "(I)I"⟩, 37)]
theorem lw_r5 : ∀ q ∈ lw_privs_5, lw_okq q := List.forall_mem_cons.mpr ⟨lw_p64, fun _ h => absurd h List.not_mem_nil⟩
def lw_privs : List (MethodName × Nat) := lw_privs_1 ++ (lw_privs_2 ++ (lw_privs_3 ++ (lw_privs_4 ++ (lw_privs_5))))
def lw_tbl : List Cond := k2_sels lw_privs ++ tables_1
theorem lw_privs_ok : ∀ q ∈ lw_privs, lw_okq q := by
  show ∀ q ∈ lw_privs_1 ++ (lw_privs_2 ++ (lw_privs_3 ++ (lw_privs_4 ++ (lw_privs_5)))), lw_okq q
  exact List.forall_mem_append.mpr ⟨lw_r1, List.forall_mem_append.mpr ⟨lw_r2, List.forall_mem_append.mpr ⟨lw_r3, List.forall_mem_append.mpr ⟨lw_r4, lw_r5⟩⟩⟩⟩
def RX0 : String := "BooleanRuns$Bounds"
def TX0 : u_T := fun k => match k with
  | 0 => ("BooleanRuns$Bounds", "lists", "LBooleanRuns$Lists;", true)
  | 1 => ("BooleanRuns$Bounds", "nodes", "LBooleanRuns$Nodes;", true)
  | 2 => ("BooleanRuns$Bounds", "sets", "LBooleanRuns$Sets;", true)
  | 3 => ("BooleanRuns$Bounds", "mays", "LBooleanRuns$Rows;", true)
  | 4 => ("BooleanRuns$Bounds", "sures", "LBooleanRuns$Rows;", true)
  | 5 => ("BooleanRuns$Bounds", "costs", "[I", true)
  | 6 => ("BooleanRuns$Bounds", "order", "[I", true)
  | 7 => ("BooleanRuns$Bounds", "enough", "[J", true)
  | _ => ("BooleanRuns$Bounds", "ready", "I", false)
def tyX0 : Nat → FieldType := fun k => match k with
  | 0 => .object "BooleanRuns$Lists"
  | 1 => .object "BooleanRuns$Nodes"
  | 2 => .object "BooleanRuns$Sets"
  | 3 => .object "BooleanRuns$Rows"
  | 4 => .object "BooleanRuns$Rows"
  | 5 => .array .int
  | 6 => .array .int
  | 7 => .array .long
  | _ => .int
abbrev wsX00 : List Cond := u_ws RX0 TX0 9
theorem nmX0 : ∀ a, a < 9 → ∀ b, b < 9 → a ≠ b → (TX0 a).2.1 ≠ (TX0 b).2.1 := by decide +kernel
theorem tyX0_ok : ∀ k, k < 9 → parseFieldDescriptor (TX0 k).2.2.1 = some (tyX0 k) := by decide +kernel
abbrev cX0_init : ByteArray := prog_2_method_1_code
def yX0_init : MethodName := ⟨RX0, "<init>", "(LBooleanRuns$Lists;LBooleanRuns$Nodes;LBooleanRuns$Sets;)V"⟩
abbrev cX0_maybe : ByteArray := prog_2_method_2_code
def yX0_maybe : MethodName := ⟨RX0, "maybe", "(II)Z"⟩
abbrev cX0_surely : ByteArray := prog_2_method_3_code
def yX0_surely : MethodName := ⟨RX0, "surely", "(II)Z"⟩
abbrev cX0_cost : ByteArray := prog_2_method_4_code
def yX0_cost : MethodName := ⟨RX0, "cost", "(I)I"⟩
abbrev cX0_placeInOrder : ByteArray := prog_2_method_5_code
def yX0_placeInOrder : MethodName := ⟨RX0, "placeInOrder", "(II)I"⟩
abbrev cX0_forgetFrom : ByteArray := prog_2_method_6_code
def yX0_forgetFrom : MethodName := ⟨RX0, "forgetFrom", "(I)V"⟩
abbrev cX0_prepare : ByteArray := prog_2_method_7_code
def yX0_prepare : MethodName := ⟨RX0, "prepare", "(I)V"⟩
abbrev cX0_fillRows : ByteArray := prog_2_method_8_code
def yX0_fillRows : MethodName := ⟨RX0, "fillRows", "(I)V"⟩
abbrev cX0_fillByList : ByteArray := prog_2_method_9_code
def yX0_fillByList : MethodName := ⟨RX0, "fillByList", "(I)V"⟩
abbrev cX0_fillByRange : ByteArray := prog_2_method_10_code
def yX0_fillByRange : MethodName := ⟨RX0, "fillByRange", "(I)V"⟩
abbrev cX0_addToBoth : ByteArray := prog_2_method_11_code
def yX0_addToBoth : MethodName := ⟨RX0, "addToBoth", "(II)V"⟩
abbrev cX0_fillByKept : ByteArray := prog_2_method_12_code
def yX0_fillByKept : MethodName := ⟨RX0, "fillByKept", "(I)V"⟩
abbrev cX0_joinParts : ByteArray := prog_2_method_13_code
def yX0_joinParts : MethodName := ⟨RX0, "joinParts", "(I)V"⟩
abbrev cX0_fillByBool : ByteArray := prog_2_method_14_code
def yX0_fillByBool : MethodName := ⟨RX0, "fillByBool", "(I)V"⟩
abbrev cX0_boolWord : ByteArray := prog_2_method_15_code
def yX0_boolWord : MethodName := ⟨RX0, "boolWord", "(IIILBooleanRuns$Rows;LBooleanRuns$Rows;)J"⟩
abbrev cX0_countIn : ByteArray := prog_2_method_16_code
def yX0_countIn : MethodName := ⟨RX0, "countIn", "(JI)V"⟩
abbrev cX0_costOf : ByteArray := prog_2_method_17_code
def yX0_costOf : MethodName := ⟨RX0, "costOf", "(I)I"⟩
abbrev cX0_costOfBool : ByteArray := prog_2_method_18_code
def yX0_costOfBool : MethodName := ⟨RX0, "costOfBool", "(I)I"⟩
abbrev cX0_costOfShoulds : ByteArray := prog_2_method_19_code
def yX0_costOfShoulds : MethodName := ⟨RX0, "costOfShoulds", "(I)I"⟩
abbrev cX0_arrange : ByteArray := prog_2_method_20_code
def yX0_arrange : MethodName := ⟨RX0, "arrange", "(I)V"⟩
abbrev cX0_rankOf : ByteArray := prog_2_method_21_code
def yX0_rankOf : MethodName := ⟨RX0, "rankOf", "(II)I"⟩
def RX1 : String := "BooleanRuns$Finds"
def TX1 : u_T := fun k => match k with
  | 0 => ("BooleanRuns$Finds", "objects", "[I", true)
  | 1 => ("BooleanRuns$Finds", "scores", "[J", true)
  | _ => ("BooleanRuns$Finds", "size", "I", false)
def tyX1 : Nat → FieldType := fun k => match k with
  | 0 => .array .int
  | 1 => .array .long
  | _ => .int
abbrev wsX10 : List Cond := u_ws RX1 TX1 3
theorem nmX1 : ∀ a, a < 3 → ∀ b, b < 3 → a ≠ b → (TX1 a).2.1 ≠ (TX1 b).2.1 := by decide +kernel
theorem tyX1_ok : ∀ k, k < 3 → parseFieldDescriptor (TX1 k).2.2.1 = some (tyX1 k) := by decide +kernel
abbrev cX1_init : ByteArray := prog_3_method_1_code
def yX1_init : MethodName := ⟨RX1, "<init>", "()V"⟩
abbrev cX1_size : ByteArray := prog_3_method_2_code
def yX1_size : MethodName := ⟨RX1, "size", "()I"⟩
abbrev cX1_has : ByteArray := prog_3_method_3_code
def yX1_has : MethodName := ⟨RX1, "has", "(I)Z"⟩
abbrev cX1_objectAt : ByteArray := prog_3_method_4_code
def yX1_objectAt : MethodName := ⟨RX1, "objectAt", "(I)I"⟩
abbrev cX1_scoreAt : ByteArray := prog_3_method_5_code
def yX1_scoreAt : MethodName := ⟨RX1, "scoreAt", "(I)J"⟩
abbrev cX1_clear : ByteArray := prog_3_method_6_code
def yX1_clear : MethodName := ⟨RX1, "clear", "()V"⟩
abbrev cX1_add : ByteArray := prog_3_method_7_code
def yX1_add : MethodName := ⟨RX1, "add", "(IJ)V"⟩
def RX2 : String := "BooleanRuns$Iterators"
def TX2 : u_T := fun k => match k with
  | 0 => ("BooleanRuns$Iterators", "opened", "[Z", true)
  | 1 => ("BooleanRuns$Iterators", "nodes", "[I", true)
  | 2 => ("BooleanRuns$Iterators", "stands", "[I", true)
  | _ => ("BooleanRuns$Iterators", "founds", "[I", true)
def tyX2 : Nat → FieldType := fun k => match k with
  | 0 => .array .boolean
  | 1 => .array .int
  | 2 => .array .int
  | _ => .array .int
abbrev wsX20 : List Cond := u_ws RX2 TX2 4
theorem nmX2 : ∀ a, a < 4 → ∀ b, b < 4 → a ≠ b → (TX2 a).2.1 ≠ (TX2 b).2.1 := by decide +kernel
theorem tyX2_ok : ∀ k, k < 4 → parseFieldDescriptor (TX2 k).2.2.1 = some (tyX2 k) := by decide +kernel
abbrev cX2_init : ByteArray := prog_4_method_1_code
def yX2_init : MethodName := ⟨RX2, "<init>", "()V"⟩
abbrev cX2_isOpen : ByteArray := prog_4_method_2_code
def yX2_isOpen : MethodName := ⟨RX2, "isOpen", "(I)Z"⟩
abbrev cX2_nodeOf : ByteArray := prog_4_method_3_code
def yX2_nodeOf : MethodName := ⟨RX2, "nodeOf", "(I)I"⟩
abbrev cX2_standOf : ByteArray := prog_4_method_4_code
def yX2_standOf : MethodName := ⟨RX2, "standOf", "(I)I"⟩
abbrev cX2_start : ByteArray := prog_4_method_5_code
def yX2_start : MethodName := ⟨RX2, "start", "(I)I"⟩
abbrev cX2_stopAt : ByteArray := prog_4_method_6_code
def yX2_stopAt : MethodName := ⟨RX2, "stopAt", "(II)V"⟩
abbrev cX2_finish : ByteArray := prog_4_method_7_code
def yX2_finish : MethodName := ⟨RX2, "finish", "(I)V"⟩
abbrev cX2_end : ByteArray := prog_4_method_8_code
def yX2_end : MethodName := ⟨RX2, "end", "(I)I"⟩
abbrev cX2_countOpen : ByteArray := prog_4_method_9_code
def yX2_countOpen : MethodName := ⟨RX2, "countOpen", "()I"⟩
def RX3 : String := "BooleanRuns$Lists"
def TX3 : u_T := fun k => match k with
  | 0 => ("BooleanRuns$Lists", "objects", "[I", true)
  | 1 => ("BooleanRuns$Lists", "weights", "[I", true)
  | _ => ("BooleanRuns$Lists", "sizes", "[I", true)
def tyX3 : Nat → FieldType := fun k => match k with
  | 0 => .array .int
  | 1 => .array .int
  | _ => .array .int
abbrev wsX30 : List Cond := u_ws RX3 TX3 3
theorem nmX3 : ∀ a, a < 3 → ∀ b, b < 3 → a ≠ b → (TX3 a).2.1 ≠ (TX3 b).2.1 := by decide +kernel
theorem tyX3_ok : ∀ k, k < 3 → parseFieldDescriptor (TX3 k).2.2.1 = some (tyX3 k) := by decide +kernel
abbrev cX3_init : ByteArray := prog_5_method_1_code
def yX3_init : MethodName := ⟨RX3, "<init>", "()V"⟩
abbrev cX3_size : ByteArray := prog_5_method_2_code
def yX3_size : MethodName := ⟨RX3, "size", "(I)I"⟩
abbrev cX3_objectAt : ByteArray := prog_5_method_3_code
def yX3_objectAt : MethodName := ⟨RX3, "objectAt", "(II)I"⟩
abbrev cX3_placeOf : ByteArray := prog_5_method_4_code
def yX3_placeOf : MethodName := ⟨RX3, "placeOf", "(II)I"⟩
abbrev cX3_weightOf : ByteArray := prog_5_method_5_code
def yX3_weightOf : MethodName := ⟨RX3, "weightOf", "(II)I"⟩
abbrev cX3_store : ByteArray := prog_5_method_6_code
def yX3_store : MethodName := ⟨RX3, "store", "(III)Z"⟩
abbrev cX3_remove : ByteArray := prog_5_method_7_code
def yX3_remove : MethodName := ⟨RX3, "remove", "(II)V"⟩
abbrev cX3_total : ByteArray := prog_5_method_8_code
def yX3_total : MethodName := ⟨RX3, "total", "()I"⟩
def RX4 : String := "BooleanRuns$Looker"
def TX4 : u_T := fun k => match k with
  | 0 => ("BooleanRuns$Looker", "lists", "LBooleanRuns$Lists;", true)
  | 1 => ("BooleanRuns$Looker", "nodes", "LBooleanRuns$Nodes;", true)
  | 2 => ("BooleanRuns$Looker", "sets", "LBooleanRuns$Sets;", true)
  | 3 => ("BooleanRuns$Looker", "bounds", "LBooleanRuns$Bounds;", true)
  | 4 => ("BooleanRuns$Looker", "outcomes", "[I", true)
  | 5 => ("BooleanRuns$Looker", "scores", "[J", true)
  | _ => ("BooleanRuns$Looker", "way", "[I", true)
def tyX4 : Nat → FieldType := fun k => match k with
  | 0 => .object "BooleanRuns$Lists"
  | 1 => .object "BooleanRuns$Nodes"
  | 2 => .object "BooleanRuns$Sets"
  | 3 => .object "BooleanRuns$Bounds"
  | 4 => .array .int
  | 5 => .array .long
  | _ => .array .int
abbrev wsX40 : List Cond := u_ws RX4 TX4 7
theorem nmX4 : ∀ a, a < 7 → ∀ b, b < 7 → a ≠ b → (TX4 a).2.1 ≠ (TX4 b).2.1 := by decide +kernel
theorem tyX4_ok : ∀ k, k < 7 → parseFieldDescriptor (TX4 k).2.2.1 = some (tyX4 k) := by decide +kernel
abbrev cX4_init : ByteArray := prog_6_method_1_code
def yX4_init : MethodName := ⟨RX4, "<init>", "(LBooleanRuns$Lists;LBooleanRuns$Nodes;LBooleanRuns$Sets;LBooleanRuns$Bounds;)V"⟩
abbrev cX4_matches : ByteArray := prog_6_method_2_code
def yX4_matches : MethodName := ⟨RX4, "matches", "(II)Z"⟩
abbrev cX4_scoreOf : ByteArray := prog_6_method_3_code
def yX4_scoreOf : MethodName := ⟨RX4, "scoreOf", "(I)J"⟩
abbrev cX4_wantedBy : ByteArray := prog_6_method_4_code
def yX4_wantedBy : MethodName := ⟨RX4, "wantedBy", "(II)I"⟩
abbrev cX4_wantedByBool : ByteArray := prog_6_method_5_code
def yX4_wantedByBool : MethodName := ⟨RX4, "wantedByBool", "(II)I"⟩
abbrev cX4_holds : ByteArray := prog_6_method_6_code
def yX4_holds : MethodName := ⟨RX4, "holds", "(III)Z"⟩
abbrev cX4_fitsByParts : ByteArray := prog_6_method_7_code
def yX4_fitsByParts : MethodName := ⟨RX4, "fitsByParts", "(II)Z"⟩
abbrev cX4_somePartMatches : ByteArray := prog_6_method_8_code
def yX4_somePartMatches : MethodName := ⟨RX4, "somePartMatches", "(I)Z"⟩
abbrev cX4_fitsBool : ByteArray := prog_6_method_9_code
def yX4_fitsBool : MethodName := ⟨RX4, "fitsBool", "(II)Z"⟩
abbrev cX4_passesTest : ByteArray := prog_6_method_10_code
def yX4_passesTest : MethodName := ⟨RX4, "passesTest", "(II)Z"⟩
abbrev cX4_scoreByParts : ByteArray := prog_6_method_11_code
def yX4_scoreByParts : MethodName := ⟨RX4, "scoreByParts", "(II)J"⟩
abbrev cX4_scoreOfBool : ByteArray := prog_6_method_12_code
def yX4_scoreOfBool : MethodName := ⟨RX4, "scoreOfBool", "(I)J"⟩
abbrev cX4_scoreOfBest : ByteArray := prog_6_method_13_code
def yX4_scoreOfBest : MethodName := ⟨RX4, "scoreOfBest", "(I)J"⟩
def RX5 : String := "BooleanRuns$Nodes"
def TX5 : u_T := fun k => match k with
  | 0 => ("BooleanRuns$Nodes", "count", "I", false)
  | 1 => ("BooleanRuns$Nodes", "kinds", "[I", true)
  | 2 => ("BooleanRuns$Nodes", "firsts", "[I", true)
  | 3 => ("BooleanRuns$Nodes", "seconds", "[I", true)
  | 4 => ("BooleanRuns$Nodes", "asked", "[I", true)
  | 5 => ("BooleanRuns$Nodes", "sizes", "[I", true)
  | 6 => ("BooleanRuns$Nodes", "roles", "[I", true)
  | _ => ("BooleanRuns$Nodes", "parts", "[I", true)
def tyX5 : Nat → FieldType := fun k => match k with
  | 0 => .int
  | 1 => .array .int
  | 2 => .array .int
  | 3 => .array .int
  | 4 => .array .int
  | 5 => .array .int
  | 6 => .array .int
  | _ => .array .int
abbrev wsX50 : List Cond := u_ws RX5 TX5 8
theorem nmX5 : ∀ a, a < 8 → ∀ b, b < 8 → a ≠ b → (TX5 a).2.1 ≠ (TX5 b).2.1 := by decide +kernel
theorem tyX5_ok : ∀ k, k < 8 → parseFieldDescriptor (TX5 k).2.2.1 = some (tyX5 k) := by decide +kernel
abbrev cX5_init : ByteArray := prog_7_method_1_code
def yX5_init : MethodName := ⟨RX5, "<init>", "()V"⟩
abbrev cX5_count : ByteArray := prog_7_method_2_code
def yX5_count : MethodName := ⟨RX5, "count", "()I"⟩
abbrev cX5_has : ByteArray := prog_7_method_3_code
def yX5_has : MethodName := ⟨RX5, "has", "(I)Z"⟩
abbrev cX5_kind : ByteArray := prog_7_method_4_code
def yX5_kind : MethodName := ⟨RX5, "kind", "(I)I"⟩
abbrev cX5_first : ByteArray := prog_7_method_5_code
def yX5_first : MethodName := ⟨RX5, "first", "(I)I"⟩
abbrev cX5_second : ByteArray := prog_7_method_6_code
def yX5_second : MethodName := ⟨RX5, "second", "(I)I"⟩
abbrev cX5_size : ByteArray := prog_7_method_7_code
def yX5_size : MethodName := ⟨RX5, "size", "(I)I"⟩
abbrev cX5_roleAt : ByteArray := prog_7_method_8_code
def yX5_roleAt : MethodName := ⟨RX5, "roleAt", "(II)I"⟩
abbrev cX5_partAt : ByteArray := prog_7_method_9_code
def yX5_partAt : MethodName := ⟨RX5, "partAt", "(II)I"⟩
abbrev cX5_asked : ByteArray := prog_7_method_10_code
def yX5_asked : MethodName := ⟨RX5, "asked", "(I)I"⟩
abbrev cX5_make : ByteArray := prog_7_method_11_code
def yX5_make : MethodName := ⟨RX5, "make", "(III)I"⟩
abbrev cX5_add : ByteArray := prog_7_method_12_code
def yX5_add : MethodName := ⟨RX5, "add", "(III)Z"⟩
abbrev cX5_shrinkTo : ByteArray := prog_7_method_13_code
def yX5_shrinkTo : MethodName := ⟨RX5, "shrinkTo", "(I)V"⟩
abbrev cX5_hasNumbers : ByteArray := prog_7_method_14_code
def yX5_hasNumbers : MethodName := ⟨RX5, "hasNumbers", "(IIII)Z"⟩
abbrev cX5_countOf : ByteArray := prog_7_method_15_code
def yX5_countOf : MethodName := ⟨RX5, "countOf", "(II)I"⟩
abbrev cX5_leastOf : ByteArray := prog_7_method_16_code
def yX5_leastOf : MethodName := ⟨RX5, "leastOf", "(I)I"⟩
abbrev cX5_ask : ByteArray := prog_7_method_17_code
def yX5_ask : MethodName := ⟨RX5, "ask", "(I)V"⟩
abbrev cX5_askedInAll : ByteArray := prog_7_method_18_code
def yX5_askedInAll : MethodName := ⟨RX5, "askedInAll", "()I"⟩
def RX6 : String := "BooleanRuns$PartRow"
def TX6 : u_T := fun k => match k with
  | 0 => ("BooleanRuns$PartRow", "roles", "[I", true)
  | 1 => ("BooleanRuns$PartRow", "parts", "[I", true)
  | _ => ("BooleanRuns$PartRow", "size", "I", false)
def tyX6 : Nat → FieldType := fun k => match k with
  | 0 => .array .int
  | 1 => .array .int
  | _ => .int
abbrev wsX60 : List Cond := u_ws RX6 TX6 3
theorem nmX6 : ∀ a, a < 3 → ∀ b, b < 3 → a ≠ b → (TX6 a).2.1 ≠ (TX6 b).2.1 := by decide +kernel
theorem tyX6_ok : ∀ k, k < 3 → parseFieldDescriptor (TX6 k).2.2.1 = some (tyX6 k) := by decide +kernel
abbrev cX6_init : ByteArray := prog_8_method_1_code
def yX6_init : MethodName := ⟨RX6, "<init>", "()V"⟩
abbrev cX6_size : ByteArray := prog_8_method_2_code
def yX6_size : MethodName := ⟨RX6, "size", "()I"⟩
abbrev cX6_roleAt : ByteArray := prog_8_method_3_code
def yX6_roleAt : MethodName := ⟨RX6, "roleAt", "(I)I"⟩
abbrev cX6_partAt : ByteArray := prog_8_method_4_code
def yX6_partAt : MethodName := ⟨RX6, "partAt", "(I)I"⟩
abbrev cX6_clear : ByteArray := prog_8_method_5_code
def yX6_clear : MethodName := ⟨RX6, "clear", "()V"⟩
abbrev cX6_add : ByteArray := prog_8_method_6_code
def yX6_add : MethodName := ⟨RX6, "add", "(II)V"⟩
abbrev cX6_countOf : ByteArray := prog_8_method_7_code
def yX6_countOf : MethodName := ⟨RX6, "countOf", "(I)I"⟩
abbrev cX6_makeShouldsMusts : ByteArray := prog_8_method_8_code
def yX6_makeShouldsMusts : MethodName := ⟨RX6, "makeShouldsMusts", "()V"⟩
abbrev cX6_contradictsItself : ByteArray := prog_8_method_9_code
def yX6_contradictsItself : MethodName := ⟨RX6, "contradictsItself", "()Z"⟩
abbrev cX6_leaveOutRepeats : ByteArray := prog_8_method_10_code
def yX6_leaveOutRepeats : MethodName := ⟨RX6, "leaveOutRepeats", "()V"⟩
abbrev cX6_isRepeat : ByteArray := prog_8_method_11_code
def yX6_isRepeat : MethodName := ⟨RX6, "isRepeat", "(II)Z"⟩
abbrev cX6_hasAhead : ByteArray := prog_8_method_12_code
def yX6_hasAhead : MethodName := ⟨RX6, "hasAhead", "(III)Z"⟩
abbrev cX6_hasBehind : ByteArray := prog_8_method_13_code
def yX6_hasBehind : MethodName := ⟨RX6, "hasBehind", "(III)Z"⟩
def RX7 : String := "BooleanRuns$Rewriter"
def TX7 : u_T := fun k => match k with
  | 0 => ("BooleanRuns$Rewriter", "lists", "LBooleanRuns$Lists;", true)
  | 1 => ("BooleanRuns$Rewriter", "nodes", "LBooleanRuns$Nodes;", true)
  | 2 => ("BooleanRuns$Rewriter", "under", "[Z", true)
  | 3 => ("BooleanRuns$Rewriter", "news", "[I", true)
  | _ => ("BooleanRuns$Rewriter", "row", "LBooleanRuns$PartRow;", true)
def tyX7 : Nat → FieldType := fun k => match k with
  | 0 => .object "BooleanRuns$Lists"
  | 1 => .object "BooleanRuns$Nodes"
  | 2 => .array .boolean
  | 3 => .array .int
  | _ => .object "BooleanRuns$PartRow"
abbrev wsX70 : List Cond := u_ws RX7 TX7 5
theorem nmX7 : ∀ a, a < 5 → ∀ b, b < 5 → a ≠ b → (TX7 a).2.1 ≠ (TX7 b).2.1 := by decide +kernel
theorem tyX7_ok : ∀ k, k < 5 → parseFieldDescriptor (TX7 k).2.2.1 = some (tyX7 k) := by decide +kernel
abbrev cX7_init : ByteArray := prog_9_method_1_code
def yX7_init : MethodName := ⟨RX7, "<init>", "(LBooleanRuns$Lists;LBooleanRuns$Nodes;)V"⟩
abbrev cX7_writeAnew : ByteArray := prog_9_method_2_code
def yX7_writeAnew : MethodName := ⟨RX7, "writeAnew", "(I)I"⟩
abbrev cX7_markUnder : ByteArray := prog_9_method_3_code
def yX7_markUnder : MethodName := ⟨RX7, "markUnder", "(I)V"⟩
abbrev cX7_newOf : ByteArray := prog_9_method_4_code
def yX7_newOf : MethodName := ⟨RX7, "newOf", "(I)I"⟩
abbrev cX7_newOfOne : ByteArray := prog_9_method_5_code
def yX7_newOfOne : MethodName := ⟨RX7, "newOfOne", "(III)I"⟩
abbrev cX7_newOfBest : ByteArray := prog_9_method_6_code
def yX7_newOfBest : MethodName := ⟨RX7, "newOfBest", "(I)I"⟩
abbrev cX7_gatherBool : ByteArray := prog_9_method_7_code
def yX7_gatherBool : MethodName := ⟨RX7, "gatherBool", "(I)Z"⟩
abbrev cX7_canDissolve : ByteArray := prog_9_method_8_code
def yX7_canDissolve : MethodName := ⟨RX7, "canDissolve", "(III)Z"⟩
abbrev cX7_dissolve : ByteArray := prog_9_method_9_code
def yX7_dissolve : MethodName := ⟨RX7, "dissolve", "(II)V"⟩
abbrev cX7_boolOfRow : ByteArray := prog_9_method_10_code
def yX7_boolOfRow : MethodName := ⟨RX7, "boolOfRow", "(I)I"⟩
abbrev cX7_thatIsSo : ByteArray := prog_9_method_11_code
def yX7_thatIsSo : MethodName := ⟨RX7, "thatIsSo", "(III)I"⟩
abbrev cX7_thatIsSoWithRow : ByteArray := prog_9_method_12_code
def yX7_thatIsSoWithRow : MethodName := ⟨RX7, "thatIsSoWithRow", "(II)I"⟩
abbrev cX7_hasPartsOfRow : ByteArray := prog_9_method_13_code
def yX7_hasPartsOfRow : MethodName := ⟨RX7, "hasPartsOfRow", "(I)Z"⟩
def RX8 : String := "BooleanRuns$Rows"
def TX8 : u_T := fun k => match k with
  | _ => ("BooleanRuns$Rows", "words", "[J", true)
def tyX8 : Nat → FieldType := fun k => match k with
  | _ => .array .long
abbrev wsX80 : List Cond := u_ws RX8 TX8 1
theorem nmX8 : ∀ a, a < 1 → ∀ b, b < 1 → a ≠ b → (TX8 a).2.1 ≠ (TX8 b).2.1 := by decide +kernel
theorem tyX8_ok : ∀ k, k < 1 → parseFieldDescriptor (TX8 k).2.2.1 = some (tyX8 k) := by decide +kernel
abbrev cX8_init : ByteArray := prog_10_method_1_code
def yX8_init : MethodName := ⟨RX8, "<init>", "()V"⟩
abbrev cX8_has : ByteArray := prog_10_method_2_code
def yX8_has : MethodName := ⟨RX8, "has", "(II)Z"⟩
abbrev cX8_add : ByteArray := prog_10_method_3_code
def yX8_add : MethodName := ⟨RX8, "add", "(II)V"⟩
abbrev cX8_clear : ByteArray := prog_10_method_4_code
def yX8_clear : MethodName := ⟨RX8, "clear", "(I)V"⟩
abbrev cX8_join : ByteArray := prog_10_method_5_code
def yX8_join : MethodName := ⟨RX8, "join", "(ILBooleanRuns$Rows;I)V"⟩
abbrev cX8_word : ByteArray := prog_10_method_6_code
def yX8_word : MethodName := ⟨RX8, "word", "(II)J"⟩
abbrev cX8_setWord : ByteArray := prog_10_method_7_code
def yX8_setWord : MethodName := ⟨RX8, "setWord", "(IIJ)V"⟩
def RX9 : String := "BooleanRuns$Sets"
def TX9 : u_T := fun k => match k with
  | 0 => ("BooleanRuns$Sets", "nodes", "LBooleanRuns$Nodes;", true)
  | 1 => ("BooleanRuns$Sets", "rows", "LBooleanRuns$Rows;", true)
  | 2 => ("BooleanRuns$Sets", "there", "[Z", true)
  | 3 => ("BooleanRuns$Sets", "sizes", "[I", true)
  | _ => ("BooleanRuns$Sets", "touched", "[Z", true)
def tyX9 : Nat → FieldType := fun k => match k with
  | 0 => .object "BooleanRuns$Nodes"
  | 1 => .object "BooleanRuns$Rows"
  | 2 => .array .boolean
  | 3 => .array .int
  | _ => .array .boolean
abbrev wsX90 : List Cond := u_ws RX9 TX9 5
theorem nmX9 : ∀ a, a < 5 → ∀ b, b < 5 → a ≠ b → (TX9 a).2.1 ≠ (TX9 b).2.1 := by decide +kernel
theorem tyX9_ok : ∀ k, k < 5 → parseFieldDescriptor (TX9 k).2.2.1 = some (tyX9 k) := by decide +kernel
abbrev cX9_init : ByteArray := prog_11_method_1_code
def yX9_init : MethodName := ⟨RX9, "<init>", "(LBooleanRuns$Nodes;)V"⟩
abbrev cX9_isThere : ByteArray := prog_11_method_2_code
def yX9_isThere : MethodName := ⟨RX9, "isThere", "(I)Z"⟩
abbrev cX9_size : ByteArray := prog_11_method_3_code
def yX9_size : MethodName := ⟨RX9, "size", "(I)I"⟩
abbrev cX9_rows : ByteArray := prog_11_method_4_code
def yX9_rows : MethodName := ⟨RX9, "rows", "()LBooleanRuns$Rows;"⟩
abbrev cX9_begin : ByteArray := prog_11_method_5_code
def yX9_begin : MethodName := ⟨RX9, "begin", "(I)V"⟩
abbrev cX9_add : ByteArray := prog_11_method_6_code
def yX9_add : MethodName := ⟨RX9, "add", "(II)V"⟩
abbrev cX9_count : ByteArray := prog_11_method_7_code
def yX9_count : MethodName := ⟨RX9, "count", "()I"⟩
abbrev cX9_dropThoseAbove : ByteArray := prog_11_method_8_code
def yX9_dropThoseAbove : MethodName := ⟨RX9, "dropThoseAbove", "(I)V"⟩
abbrev cX9_dropThoseOverList : ByteArray := prog_11_method_9_code
def yX9_dropThoseOverList : MethodName := ⟨RX9, "dropThoseOverList", "(I)V"⟩
abbrev cX9_touchesByParts : ByteArray := prog_11_method_10_code
def yX9_touchesByParts : MethodName := ⟨RX9, "touchesByParts", "(I)Z"⟩
def RX10 : String := "BooleanRuns"
def TX10 : u_T := fun k => match k with
  | 0 => ("BooleanRuns", "lists", "LBooleanRuns$Lists;", true)
  | 1 => ("BooleanRuns", "nodes", "LBooleanRuns$Nodes;", true)
  | 2 => ("BooleanRuns", "sets", "LBooleanRuns$Sets;", true)
  | 3 => ("BooleanRuns", "bounds", "LBooleanRuns$Bounds;", true)
  | 4 => ("BooleanRuns", "looker", "LBooleanRuns$Looker;", true)
  | 5 => ("BooleanRuns", "finds", "LBooleanRuns$Finds;", true)
  | 6 => ("BooleanRuns", "iterators", "LBooleanRuns$Iterators;", true)
  | 7 => ("BooleanRuns", "rewriter", "LBooleanRuns$Rewriter;", true)
  | _ => ("BooleanRuns", "latestScore", "J", false)
def tyX10 : Nat → FieldType := fun k => match k with
  | 0 => .object "BooleanRuns$Lists"
  | 1 => .object "BooleanRuns$Nodes"
  | 2 => .object "BooleanRuns$Sets"
  | 3 => .object "BooleanRuns$Bounds"
  | 4 => .object "BooleanRuns$Looker"
  | 5 => .object "BooleanRuns$Finds"
  | 6 => .object "BooleanRuns$Iterators"
  | 7 => .object "BooleanRuns$Rewriter"
  | _ => .long
abbrev wsX100 : List Cond := u_ws RX10 TX10 9
theorem nmX10 : ∀ a, a < 9 → ∀ b, b < 9 → a ≠ b → (TX10 a).2.1 ≠ (TX10 b).2.1 := by decide +kernel
theorem tyX10_ok : ∀ k, k < 9 → parseFieldDescriptor (TX10 k).2.2.1 = some (tyX10 k) := by decide +kernel
abbrev cX10_init : ByteArray := prog_1_method_1_code
def yX10_init : MethodName := ⟨RX10, "<init>", "()V"⟩
abbrev cX10_put : ByteArray := prog_1_method_2_code
def yX10_put : MethodName := ⟨RX10, "put", "(III)I"⟩
abbrev cX10_take : ByteArray := prog_1_method_3_code
def yX10_take : MethodName := ⟨RX10, "take", "(II)I"⟩
abbrev cX10_node : ByteArray := prog_1_method_4_code
def yX10_node : MethodName := ⟨RX10, "node", "(III)I"⟩
abbrev cX10_part : ByteArray := prog_1_method_5_code
def yX10_part : MethodName := ⟨RX10, "part", "(III)I"⟩
abbrev cX10_told : ByteArray := prog_1_method_6_code
def yX10_told : MethodName := ⟨RX10, "told", "(II)I"⟩
abbrev cX10_partOf : ByteArray := prog_1_method_7_code
def yX10_partOf : MethodName := ⟨RX10, "partOf", "(III)I"⟩
abbrev cX10_may : ByteArray := prog_1_method_8_code
def yX10_may : MethodName := ⟨RX10, "may", "(II)Z"⟩
abbrev cX10_sure : ByteArray := prog_1_method_9_code
def yX10_sure : MethodName := ⟨RX10, "sure", "(II)Z"⟩
abbrev cX10_look : ByteArray := prog_1_method_10_code
def yX10_look : MethodName := ⟨RX10, "look", "(II)I"⟩
abbrev cX10_scored : ByteArray := prog_1_method_11_code
def yX10_scored : MethodName := ⟨RX10, "scored", "()J"⟩
abbrev cX10_run : ByteArray := prog_1_method_12_code
def yX10_run : MethodName := ⟨RX10, "run", "(I)I"⟩
abbrev cX10_found : ByteArray := prog_1_method_13_code
def yX10_found : MethodName := ⟨RX10, "found", "(I)I"⟩
abbrev cX10_score : ByteArray := prog_1_method_14_code
def yX10_score : MethodName := ⟨RX10, "score", "(I)J"⟩
abbrev cX10_keep : ByteArray := prog_1_method_15_code
def yX10_keep : MethodName := ⟨RX10, "keep", "(I)I"⟩
abbrev cX10_open : ByteArray := prog_1_method_16_code
def yX10_open : MethodName := ⟨RX10, "open", "(I)I"⟩
abbrev cX10_next : ByteArray := prog_1_method_17_code
def yX10_next : MethodName := ⟨RX10, "next", "(II)I"⟩
abbrev cX10_close : ByteArray := prog_1_method_18_code
def yX10_close : MethodName := ⟨RX10, "close", "(I)I"⟩
abbrev cX10_rewrite : ByteArray := prog_1_method_19_code
def yX10_rewrite : MethodName := ⟨RX10, "rewrite", "(I)I"⟩
abbrev cX10_sum : ByteArray := prog_1_method_20_code
def yX10_sum : MethodName := ⟨RX10, "sum", "(I)I"⟩
abbrev cX10_listHasChanged : ByteArray := prog_1_method_21_code
def yX10_listHasChanged : MethodName := ⟨RX10, "listHasChanged", "(I)V"⟩
abbrev cX10_areNumbersOf : ByteArray := prog_1_method_22_code
def yX10_areNumbersOf : MethodName := ⟨RX10, "areNumbersOf", "(III)Z"⟩
abbrev cX10_hasSecondNumber : ByteArray := prog_1_method_23_code
def yX10_hasSecondNumber : MethodName := ⟨RX10, "hasSecondNumber", "(I)Z"⟩
abbrev cX10_isRoleOf : ByteArray := prog_1_method_24_code
def yX10_isRoleOf : MethodName := ⟨RX10, "isRoleOf", "(II)Z"⟩
abbrev cX10_isNeeded : ByteArray := prog_1_method_25_code
def yX10_isNeeded : MethodName := ⟨RX10, "isNeeded", "(I)Z"⟩
abbrev cX10_modulusOf : ByteArray := prog_1_method_26_code
def yX10_modulusOf : MethodName := ⟨RX10, "modulusOf", "(I)I"⟩
abbrev cX10_isList : ByteArray := prog_1_method_27_code
def yX10_isList : MethodName := ⟨RX10, "isList", "(I)Z"⟩
abbrev cX10_isObject : ByteArray := prog_1_method_28_code
def yX10_isObject : MethodName := ⟨RX10, "isObject", "(I)Z"⟩
abbrev cX10_isWithin : ByteArray := prog_1_method_29_code
def yX10_isWithin : MethodName := ⟨RX10, "isWithin", "(II)Z"⟩
def RX11 : String := "BooleanRunsModel"
def TX11 : u_T := fun k => match k with
  | 0 => ("BooleanRunsModel", "weight", "[I", true)
  | 1 => ("BooleanRunsModel", "size", "[I", true)
  | 2 => ("BooleanRunsModel", "nodes", "I", false)
  | 3 => ("BooleanRunsModel", "kind", "[I", true)
  | 4 => ("BooleanRunsModel", "first", "[I", true)
  | 5 => ("BooleanRunsModel", "second", "[I", true)
  | 6 => ("BooleanRunsModel", "many", "[I", true)
  | 7 => ("BooleanRunsModel", "role", "[I", true)
  | 8 => ("BooleanRunsModel", "part", "[I", true)
  | 9 => ("BooleanRunsModel", "asked", "[I", true)
  | 10 => ("BooleanRunsModel", "askedAll", "I", false)
  | 11 => ("BooleanRunsModel", "setSize", "[I", true)
  | 12 => ("BooleanRunsModel", "set", "[Z", true)
  | 13 => ("BooleanRunsModel", "by", "[I", true)
  | 14 => ("BooleanRunsModel", "at", "[I", true)
  | 15 => ("BooleanRunsModel", "over", "[Z", true)
  | 16 => ("BooleanRunsModel", "got", "[I", true)
  | 17 => ("BooleanRunsModel", "touched", "[Z", true)
  | 18 => ("BooleanRunsModel", "cost", "[I", true)
  | 19 => ("BooleanRunsModel", "mays", "[Z", true)
  | 20 => ("BooleanRunsModel", "sures", "[Z", true)
  | 21 => ("BooleanRunsModel", "matches", "[I", true)
  | 22 => ("BooleanRunsModel", "scores", "[J", true)
  | 23 => ("BooleanRunsModel", "order", "[I", true)
  | 24 => ("BooleanRunsModel", "step", "[I", true)
  | 25 => ("BooleanRunsModel", "pile", "[I", true)
  | 26 => ("BooleanRunsModel", "piled", "I", false)
  | 27 => ("BooleanRunsModel", "lastScore", "J", false)
  | 28 => ("BooleanRunsModel", "foundObject", "[I", true)
  | 29 => ("BooleanRunsModel", "foundScore", "[J", true)
  | 30 => ("BooleanRunsModel", "founds", "I", false)
  | 31 => ("BooleanRunsModel", "anew", "[I", true)
  | 32 => ("BooleanRunsModel", "rowRole", "[I", true)
  | 33 => ("BooleanRunsModel", "rowPart", "[I", true)
  | 34 => ("BooleanRunsModel", "row", "I", false)
  | 35 => ("BooleanRunsModel", "isFull", "Z", false)
  | _ => ("BooleanRunsModel", "leaves", "[Z", true)
def tyX11 : Nat → FieldType := fun k => match k with
  | 0 => .array .int
  | 1 => .array .int
  | 2 => .int
  | 3 => .array .int
  | 4 => .array .int
  | 5 => .array .int
  | 6 => .array .int
  | 7 => .array .int
  | 8 => .array .int
  | 9 => .array .int
  | 10 => .int
  | 11 => .array .int
  | 12 => .array .boolean
  | 13 => .array .int
  | 14 => .array .int
  | 15 => .array .boolean
  | 16 => .array .int
  | 17 => .array .boolean
  | 18 => .array .int
  | 19 => .array .boolean
  | 20 => .array .boolean
  | 21 => .array .int
  | 22 => .array .long
  | 23 => .array .int
  | 24 => .array .int
  | 25 => .array .int
  | 26 => .int
  | 27 => .long
  | 28 => .array .int
  | 29 => .array .long
  | 30 => .int
  | 31 => .array .int
  | 32 => .array .int
  | 33 => .array .int
  | 34 => .int
  | 35 => .boolean
  | _ => .array .boolean
abbrev wsX110 : List Cond := u_ws RX11 TX11 37
theorem nmX11 : ∀ a, a < 37 → ∀ b, b < 37 → a ≠ b → (TX11 a).2.1 ≠ (TX11 b).2.1 := by decide +kernel
theorem tyX11_ok : ∀ k, k < 37 → parseFieldDescriptor (TX11 k).2.2.1 = some (tyX11 k) := by decide +kernel
abbrev cX11_init : ByteArray := prog_13_method_1_code
def yX11_init : MethodName := ⟨RX11, "<init>", "()V"⟩
abbrev cX11_in : ByteArray := prog_13_method_2_code
def yX11_in : MethodName := ⟨RX11, "in", "(III)Z"⟩
abbrev cX11_isObject : ByteArray := prog_13_method_3_code
def yX11_isObject : MethodName := ⟨RX11, "isObject", "(I)Z"⟩
abbrev cX11_isNode : ByteArray := prog_13_method_4_code
def yX11_isNode : MethodName := ⟨RX11, "isNode", "(I)Z"⟩
abbrev cX11_forget : ByteArray := prog_13_method_5_code
def yX11_forget : MethodName := ⟨RX11, "forget", "(I)V"⟩
abbrev cX11_change : ByteArray := prog_13_method_6_code
def yX11_change : MethodName := ⟨RX11, "change", "(I)V"⟩
abbrev cX11_put : ByteArray := prog_13_method_7_code
def yX11_put : MethodName := ⟨RX11, "put", "(III)I"⟩
abbrev cX11_take : ByteArray := prog_13_method_8_code
def yX11_take : MethodName := ⟨RX11, "take", "(II)I"⟩
abbrev cX11_isToldSo : ByteArray := prog_13_method_9_code
def yX11_isToldSo : MethodName := ⟨RX11, "isToldSo", "(III)Z"⟩
abbrev cX11_make : ByteArray := prog_13_method_10_code
def yX11_make : MethodName := ⟨RX11, "make", "(III)V"⟩
abbrev cX11_node : ByteArray := prog_13_method_11_code
def yX11_node : MethodName := ⟨RX11, "node", "(III)I"⟩
abbrev cX11_part : ByteArray := prog_13_method_12_code
def yX11_part : MethodName := ⟨RX11, "part", "(III)I"⟩
abbrev cX11_told : ByteArray := prog_13_method_13_code
def yX11_told : MethodName := ⟨RX11, "told", "(II)I"⟩
abbrev cX11_partOf : ByteArray := prog_13_method_14_code
def yX11_partOf : MethodName := ⟨RX11, "partOf", "(III)I"⟩
abbrev cX11_costs : ByteArray := prog_13_method_15_code
def yX11_costs : MethodName := ⟨RX11, "costs", "()V"⟩
abbrev cX11_together : ByteArray := prog_13_method_16_code
def yX11_together : MethodName := ⟨RX11, "together", "(I)I"⟩
abbrev cX11_mayAll : ByteArray := prog_13_method_17_code
def yX11_mayAll : MethodName := ⟨RX11, "mayAll", "(II)V"⟩
abbrev cX11_fits : ByteArray := prog_13_method_18_code
def yX11_fits : MethodName := ⟨RX11, "fits", "(IZ)Z"⟩
abbrev cX11_may : ByteArray := prog_13_method_19_code
def yX11_may : MethodName := ⟨RX11, "may", "(II)Z"⟩
abbrev cX11_sure : ByteArray := prog_13_method_20_code
def yX11_sure : MethodName := ⟨RX11, "sure", "(II)Z"⟩
abbrev cX11_come : ByteArray := prog_13_method_21_code
def yX11_come : MethodName := ⟨RX11, "come", "(I)V"⟩
abbrev cX11_sort : ByteArray := prog_13_method_22_code
def yX11_sort : MethodName := ⟨RX11, "sort", "(I)V"⟩
abbrev cX11_go : ByteArray := prog_13_method_23_code
def yX11_go : MethodName := ⟨RX11, "go", "(II)Z"⟩
abbrev cX11_goOne : ByteArray := prog_13_method_24_code
def yX11_goOne : MethodName := ⟨RX11, "goOne", "(II)V"⟩
abbrev cX11_goBest : ByteArray := prog_13_method_25_code
def yX11_goBest : MethodName := ⟨RX11, "goBest", "(I)V"⟩
abbrev cX11_goBool : ByteArray := prog_13_method_26_code
def yX11_goBool : MethodName := ⟨RX11, "goBool", "(I)V"⟩
abbrev cX11_look : ByteArray := prog_13_method_27_code
def yX11_look : MethodName := ⟨RX11, "look", "(II)I"⟩
abbrev cX11_scored : ByteArray := prog_13_method_28_code
def yX11_scored : MethodName := ⟨RX11, "scored", "()J"⟩
abbrev cX11_run : ByteArray := prog_13_method_29_code
def yX11_run : MethodName := ⟨RX11, "run", "(I)I"⟩
abbrev cX11_found : ByteArray := prog_13_method_30_code
def yX11_found : MethodName := ⟨RX11, "found", "(I)I"⟩
abbrev cX11_score : ByteArray := prog_13_method_31_code
def yX11_score : MethodName := ⟨RX11, "score", "(I)J"⟩
abbrev cX11_keep : ByteArray := prog_13_method_32_code
def yX11_keep : MethodName := ⟨RX11, "keep", "(I)I"⟩
abbrev cX11_open : ByteArray := prog_13_method_33_code
def yX11_open : MethodName := ⟨RX11, "open", "(I)I"⟩
abbrev cX11_isOpen : ByteArray := prog_13_method_34_code
def yX11_isOpen : MethodName := ⟨RX11, "isOpen", "(I)Z"⟩
abbrev cX11_next : ByteArray := prog_13_method_35_code
def yX11_next : MethodName := ⟨RX11, "next", "(II)I"⟩
abbrev cX11_close : ByteArray := prog_13_method_36_code
def yX11_close : MethodName := ⟨RX11, "close", "(I)I"⟩
abbrev cX11_rewrite : ByteArray := prog_13_method_37_code
def yX11_rewrite : MethodName := ⟨RX11, "rewrite", "(I)I"⟩
abbrev cX11_so : ByteArray := prog_13_method_38_code
def yX11_so : MethodName := ⟨RX11, "so", "(III)I"⟩
abbrev cX11_newOther : ByteArray := prog_13_method_39_code
def yX11_newOther : MethodName := ⟨RX11, "newOther", "(I)I"⟩
abbrev cX11_lay : ByteArray := prog_13_method_40_code
def yX11_lay : MethodName := ⟨RX11, "lay", "(II)V"⟩
abbrev cX11_newBest : ByteArray := prog_13_method_41_code
def yX11_newBest : MethodName := ⟨RX11, "newBest", "(I)I"⟩
abbrev cX11_count : ByteArray := prog_13_method_42_code
def yX11_count : MethodName := ⟨RX11, "count", "(I)I"⟩
abbrev cX11_opens : ByteArray := prog_13_method_43_code
def yX11_opens : MethodName := ⟨RX11, "opens", "(IIII)Z"⟩
abbrev cX11_newBool : ByteArray := prog_13_method_44_code
def yX11_newBool : MethodName := ⟨RX11, "newBool", "(I)I"⟩
abbrev cX11_thin : ByteArray := prog_13_method_45_code
def yX11_thin : MethodName := ⟨RX11, "thin", "()Z"⟩
abbrev cX11_sum : ByteArray := prog_13_method_46_code
def yX11_sum : MethodName := ⟨RX11, "sum", "(I)I"⟩
def RJ9 : String := "java/lang/Math"
def TJ9 : u_T := fun k => match k with
  | _ => ("", "", "", false)
def tyJ9 : Nat → FieldType := fun k => match k with
  | _ => .int
abbrev cJ9_max_7cf53 : ByteArray := prog_14_method_65_code
def yJ9_max_7cf53 : MethodName := ⟨RJ9, "max", "(II)I"⟩
abbrev cJ9_max_f86c9 : ByteArray := prog_14_method_66_code
def yJ9_max_f86c9 : MethodName := ⟨RJ9, "max", "(JJ)J"⟩
abbrev cJ9_min_7cf53 : ByteArray := prog_14_method_69_code
def yJ9_min_7cf53 : MethodName := ⟨RJ9, "min", "(II)I"⟩
def RJ7 : String := "java/util/Arrays"
def TJ7 : u_T := fun k => match k with
  | _ => ("", "", "", false)
def tyJ7 : Nat → FieldType := fun k => match k with
  | _ => .int
abbrev cJ7_fill_d0a16 : ByteArray := prog_15_method_101_code
def yJ7_fill_d0a16 : MethodName := ⟨RJ7, "fill", "([JJ)V"⟩
abbrev cJ7_fill_53178 : ByteArray := prog_15_method_103_code
def yJ7_fill_53178 : MethodName := ⟨RJ7, "fill", "([II)V"⟩
def RL : String := "BooleanRunsLaw"
abbrev cL_law : ByteArray := code
def yL_law : MethodName := ⟨RL, "law", "([I)Z"⟩
abbrev vwCl : List vw_C := [(RX0, TX0, 9), (RX1, TX1, 3), (RX2, TX2, 4), (RX3, TX3, 3), (RX4, TX4, 7), (RX5, TX5, 8), (RX6, TX6, 3), (RX7, TX7, 5), (RX8, TX8, 1), (RX9, TX9, 5), (RX10, TX10, 9), (RX11, TX11, 37)]
theorem inX0 : ∀ w ∈ wsX00, w ∈ lw_tbl := by decide +kernel
theorem inX1 : ∀ w ∈ wsX10, w ∈ lw_tbl := by decide +kernel
theorem inX2 : ∀ w ∈ wsX20, w ∈ lw_tbl := by decide +kernel
theorem inX3 : ∀ w ∈ wsX30, w ∈ lw_tbl := by decide +kernel
theorem inX4 : ∀ w ∈ wsX40, w ∈ lw_tbl := by decide +kernel
theorem inX5 : ∀ w ∈ wsX50, w ∈ lw_tbl := by decide +kernel
theorem inX6 : ∀ w ∈ wsX60, w ∈ lw_tbl := by decide +kernel
theorem inX7 : ∀ w ∈ wsX70, w ∈ lw_tbl := by decide +kernel
theorem inX8 : ∀ w ∈ wsX80, w ∈ lw_tbl := by decide +kernel
theorem inX9 : ∀ w ∈ wsX90, w ∈ lw_tbl := by decide +kernel
theorem inX10 : ∀ w ∈ wsX100, w ∈ lw_tbl := by decide +kernel
theorem inX11 : ∀ w ∈ wsX110, w ∈ lw_tbl := by decide +kernel
end
section
theorem dX0_init_0 : decode cX0_init 0 = .ok (.aload_n 0, 1) := by decide +kernel
theorem dX0_init_1 : decode cX0_init 1 = .ok (.invokespecial 3, 3) := by decide +kernel
theorem dX0_init_4 : decode cX0_init 4 = .ok (.aload_n 0, 1) := by decide +kernel
theorem dX0_init_5 : decode cX0_init 5 = .ok (.new 9, 3) := by decide +kernel
theorem dX0_init_8 : decode cX0_init 8 = .ok (.dup, 1) := by decide +kernel
theorem dX0_init_9 : decode cX0_init 9 = .ok (.invokespecial 11, 3) := by decide +kernel
theorem dX0_init_12 : decode cX0_init 12 = .ok (.putfield 12, 3) := by decide +kernel
theorem dX0_init_15 : decode cX0_init 15 = .ok (.aload_n 0, 1) := by decide +kernel
theorem dX0_init_16 : decode cX0_init 16 = .ok (.new 9, 3) := by decide +kernel
theorem dX0_init_19 : decode cX0_init 19 = .ok (.dup, 1) := by decide +kernel
theorem dX0_init_20 : decode cX0_init 20 = .ok (.invokespecial 11, 3) := by decide +kernel
theorem dX0_init_23 : decode cX0_init 23 = .ok (.putfield 18, 3) := by decide +kernel
theorem dX0_init_26 : decode cX0_init 26 = .ok (.aload_n 0, 1) := by decide +kernel
theorem dX0_init_27 : decode cX0_init 27 = .ok (.bipush 80, 2) := by decide +kernel
theorem dX0_init_29 : decode cX0_init 29 = .ok (.newarray .int, 2) := by decide +kernel
theorem dX0_init_31 : decode cX0_init 31 = .ok (.putfield 21, 3) := by decide +kernel
theorem dX0_init_34 : decode cX0_init 34 = .ok (.aload_n 0, 1) := by decide +kernel
theorem dX0_init_35 : decode cX0_init 35 = .ok (.sipush 640, 3) := by decide +kernel
theorem dX0_init_38 : decode cX0_init 38 = .ok (.newarray .int, 2) := by decide +kernel
theorem dX0_init_40 : decode cX0_init 40 = .ok (.putfield 25, 3) := by decide +kernel
theorem dX0_init_43 : decode cX0_init 43 = .ok (.aload_n 0, 1) := by decide +kernel
theorem dX0_init_44 : decode cX0_init 44 = .ok (.bipush 9, 2) := by decide +kernel
theorem dX0_init_46 : decode cX0_init 46 = .ok (.newarray .long, 2) := by decide +kernel
theorem dX0_init_48 : decode cX0_init 48 = .ok (.putfield 28, 3) := by decide +kernel
theorem dX0_init_51 : decode cX0_init 51 = .ok (.aload_n 0, 1) := by decide +kernel
theorem dX0_init_52 : decode cX0_init 52 = .ok (.aload_n 1, 1) := by decide +kernel
theorem dX0_init_53 : decode cX0_init 53 = .ok (.putfield 32, 3) := by decide +kernel
theorem dX0_init_56 : decode cX0_init 56 = .ok (.aload_n 0, 1) := by decide +kernel
theorem dX0_init_57 : decode cX0_init 57 = .ok (.aload_n 2, 1) := by decide +kernel
theorem dX0_init_58 : decode cX0_init 58 = .ok (.putfield 36, 3) := by decide +kernel
theorem dX0_init_61 : decode cX0_init 61 = .ok (.aload_n 0, 1) := by decide +kernel
theorem dX0_init_62 : decode cX0_init 62 = .ok (.aload_n 3, 1) := by decide +kernel
theorem dX0_init_63 : decode cX0_init 63 = .ok (.putfield 40, 3) := by decide +kernel
theorem dX0_init_66 : decode cX0_init 66 = .ok (.return_, 1) := by decide +kernel
theorem dX0_maybe_0 : decode cX0_maybe 0 = .ok (.aload_n 0, 1) := by decide +kernel
theorem dX0_maybe_1 : decode cX0_maybe 1 = .ok (.getfield 12, 3) := by decide +kernel
theorem dX0_maybe_4 : decode cX0_maybe 4 = .ok (.iload_n 1, 1) := by decide +kernel
theorem dX0_maybe_5 : decode cX0_maybe 5 = .ok (.iload_n 2, 1) := by decide +kernel
theorem dX0_maybe_6 : decode cX0_maybe 6 = .ok (.invokevirtual 44, 3) := by decide +kernel
theorem dX0_maybe_9 : decode cX0_maybe 9 = .ok (.ireturn, 1) := by decide +kernel
theorem dX0_surely_0 : decode cX0_surely 0 = .ok (.aload_n 0, 1) := by decide +kernel
theorem dX0_surely_1 : decode cX0_surely 1 = .ok (.getfield 18, 3) := by decide +kernel
theorem dX0_surely_4 : decode cX0_surely 4 = .ok (.iload_n 1, 1) := by decide +kernel
theorem dX0_surely_5 : decode cX0_surely 5 = .ok (.iload_n 2, 1) := by decide +kernel
theorem dX0_surely_6 : decode cX0_surely 6 = .ok (.invokevirtual 44, 3) := by decide +kernel
theorem dX0_surely_9 : decode cX0_surely 9 = .ok (.ireturn, 1) := by decide +kernel
theorem dX0_cost_0 : decode cX0_cost 0 = .ok (.aload_n 0, 1) := by decide +kernel
theorem dX0_cost_1 : decode cX0_cost 1 = .ok (.getfield 21, 3) := by decide +kernel
theorem dX0_cost_4 : decode cX0_cost 4 = .ok (.iload_n 1, 1) := by decide +kernel
theorem dX0_cost_5 : decode cX0_cost 5 = .ok (.iaload, 1) := by decide +kernel
theorem dX0_cost_6 : decode cX0_cost 6 = .ok (.ireturn, 1) := by decide +kernel
theorem dX0_placeInOrder_0 : decode cX0_placeInOrder 0 = .ok (.aload_n 0, 1) := by decide +kernel
theorem dX0_placeInOrder_1 : decode cX0_placeInOrder 1 = .ok (.getfield 25, 3) := by decide +kernel
theorem dX0_placeInOrder_4 : decode cX0_placeInOrder 4 = .ok (.iload_n 1, 1) := by decide +kernel
theorem dX0_placeInOrder_5 : decode cX0_placeInOrder 5 = .ok (.bipush 8, 2) := by decide +kernel
theorem dX0_placeInOrder_7 : decode cX0_placeInOrder 7 = .ok (.imul, 1) := by decide +kernel
theorem dX0_placeInOrder_8 : decode cX0_placeInOrder 8 = .ok (.iload_n 2, 1) := by decide +kernel
theorem dX0_placeInOrder_9 : decode cX0_placeInOrder 9 = .ok (.iadd, 1) := by decide +kernel
theorem dX0_placeInOrder_10 : decode cX0_placeInOrder 10 = .ok (.iaload, 1) := by decide +kernel
theorem dX0_placeInOrder_11 : decode cX0_placeInOrder 11 = .ok (.ireturn, 1) := by decide +kernel
theorem dX0_forgetFrom_0 : decode cX0_forgetFrom 0 = .ok (.aload_n 0, 1) := by decide +kernel
theorem dX0_forgetFrom_1 : decode cX0_forgetFrom 1 = .ok (.aload_n 0, 1) := by decide +kernel
theorem dX0_forgetFrom_2 : decode cX0_forgetFrom 2 = .ok (.getfield 48, 3) := by decide +kernel
theorem dX0_forgetFrom_5 : decode cX0_forgetFrom 5 = .ok (.iload_n 1, 1) := by decide +kernel
theorem dX0_forgetFrom_6 : decode cX0_forgetFrom 6 = .ok (.invokestatic 52, 3) := by decide +kernel
theorem dX0_forgetFrom_9 : decode cX0_forgetFrom 9 = .ok (.putfield 48, 3) := by decide +kernel
theorem dX0_forgetFrom_12 : decode cX0_forgetFrom 12 = .ok (.return_, 1) := by decide +kernel
theorem dX0_prepare_0 : decode cX0_prepare 0 = .ok (.aload_n 0, 1) := by decide +kernel
theorem dX0_prepare_1 : decode cX0_prepare 1 = .ok (.getfield 48, 3) := by decide +kernel
theorem dX0_prepare_4 : decode cX0_prepare 4 = .ok (.istore_n 2, 1) := by decide +kernel
theorem dX0_prepare_5 : decode cX0_prepare 5 = .ok (.iload_n 2, 1) := by decide +kernel
theorem dX0_prepare_6 : decode cX0_prepare 6 = .ok (.iload_n 1, 1) := by decide +kernel
theorem dX0_prepare_7 : decode cX0_prepare 7 = .ok (.if_icmp .gt 58, 3) := by decide +kernel
theorem dX0_prepare_10 : decode cX0_prepare 10 = .ok (.aload_n 0, 1) := by decide +kernel
theorem dX0_prepare_11 : decode cX0_prepare 11 = .ok (.getfield 12, 3) := by decide +kernel
theorem dX0_prepare_14 : decode cX0_prepare 14 = .ok (.iload_n 2, 1) := by decide +kernel
theorem dX0_prepare_15 : decode cX0_prepare 15 = .ok (.invokevirtual 58, 3) := by decide +kernel
theorem dX0_prepare_18 : decode cX0_prepare 18 = .ok (.aload_n 0, 1) := by decide +kernel
theorem dX0_prepare_19 : decode cX0_prepare 19 = .ok (.getfield 18, 3) := by decide +kernel
theorem dX0_prepare_22 : decode cX0_prepare 22 = .ok (.iload_n 2, 1) := by decide +kernel
theorem dX0_prepare_23 : decode cX0_prepare 23 = .ok (.invokevirtual 58, 3) := by decide +kernel
theorem dX0_prepare_26 : decode cX0_prepare 26 = .ok (.aload_n 0, 1) := by decide +kernel
theorem dX0_prepare_27 : decode cX0_prepare 27 = .ok (.iload_n 2, 1) := by decide +kernel
theorem dX0_prepare_28 : decode cX0_prepare 28 = .ok (.invokevirtual 62, 3) := by decide +kernel
theorem dX0_prepare_31 : decode cX0_prepare 31 = .ok (.aload_n 0, 1) := by decide +kernel
theorem dX0_prepare_32 : decode cX0_prepare 32 = .ok (.getfield 21, 3) := by decide +kernel
theorem dX0_prepare_35 : decode cX0_prepare 35 = .ok (.iload_n 2, 1) := by decide +kernel
theorem dX0_prepare_36 : decode cX0_prepare 36 = .ok (.aload_n 0, 1) := by decide +kernel
theorem dX0_prepare_37 : decode cX0_prepare 37 = .ok (.iload_n 2, 1) := by decide +kernel
theorem dX0_prepare_38 : decode cX0_prepare 38 = .ok (.invokevirtual 65, 3) := by decide +kernel
theorem dX0_prepare_41 : decode cX0_prepare 41 = .ok (.iastore, 1) := by decide +kernel
theorem dX0_prepare_42 : decode cX0_prepare 42 = .ok (.aload_n 0, 1) := by decide +kernel
theorem dX0_prepare_43 : decode cX0_prepare 43 = .ok (.getfield 36, 3) := by decide +kernel
theorem dX0_prepare_46 : decode cX0_prepare 46 = .ok (.iload_n 2, 1) := by decide +kernel
theorem dX0_prepare_47 : decode cX0_prepare 47 = .ok (.invokevirtual 69, 3) := by decide +kernel
theorem dX0_prepare_50 : decode cX0_prepare 50 = .ok (.iconst 2, 1) := by decide +kernel
theorem dX0_prepare_51 : decode cX0_prepare 51 = .ok (.if_icmp .ne 8, 3) := by decide +kernel
theorem dX0_prepare_54 : decode cX0_prepare 54 = .ok (.aload_n 0, 1) := by decide +kernel
theorem dX0_prepare_55 : decode cX0_prepare 55 = .ok (.iload_n 2, 1) := by decide +kernel
theorem dX0_prepare_56 : decode cX0_prepare 56 = .ok (.invokevirtual 74, 3) := by decide +kernel
theorem dX0_prepare_59 : decode cX0_prepare 59 = .ok (.iinc 2 1, 3) := by decide +kernel
theorem dX0_prepare_62 : decode cX0_prepare 62 = .ok (.goto (-57), 3) := by decide +kernel
theorem dX0_prepare_65 : decode cX0_prepare 65 = .ok (.aload_n 0, 1) := by decide +kernel
theorem dX0_prepare_66 : decode cX0_prepare 66 = .ok (.aload_n 0, 1) := by decide +kernel
theorem dX0_prepare_67 : decode cX0_prepare 67 = .ok (.getfield 48, 3) := by decide +kernel
theorem dX0_prepare_70 : decode cX0_prepare 70 = .ok (.iload_n 1, 1) := by decide +kernel
theorem dX0_prepare_71 : decode cX0_prepare 71 = .ok (.iconst 1, 1) := by decide +kernel
theorem dX0_prepare_72 : decode cX0_prepare 72 = .ok (.iadd, 1) := by decide +kernel
theorem dX0_prepare_73 : decode cX0_prepare 73 = .ok (.invokestatic 77, 3) := by decide +kernel
theorem dX0_prepare_76 : decode cX0_prepare 76 = .ok (.putfield 48, 3) := by decide +kernel
theorem dX0_prepare_79 : decode cX0_prepare 79 = .ok (.return_, 1) := by decide +kernel
theorem dX0_fillRows_0 : decode cX0_fillRows 0 = .ok (.aload_n 0, 1) := by decide +kernel
theorem dX0_fillRows_1 : decode cX0_fillRows 1 = .ok (.getfield 36, 3) := by decide +kernel
theorem dX0_fillRows_4 : decode cX0_fillRows 4 = .ok (.iload_n 1, 1) := by decide +kernel
theorem dX0_fillRows_5 : decode cX0_fillRows 5 = .ok (.invokevirtual 69, 3) := by decide +kernel
theorem dX0_fillRows_8 : decode cX0_fillRows 8 = .ok (.tableswitch 108 0 6 #[44, 52, 60, 100, 100, 76, 68], 44) := by decide +kernel
theorem dX0_fillRows_52 : decode cX0_fillRows 52 = .ok (.aload_n 0, 1) := by decide +kernel
theorem dX0_fillRows_53 : decode cX0_fillRows 53 = .ok (.iload_n 1, 1) := by decide +kernel
theorem dX0_fillRows_54 : decode cX0_fillRows 54 = .ok (.invokevirtual 80, 3) := by decide +kernel
theorem dX0_fillRows_57 : decode cX0_fillRows 57 = .ok (.goto 59, 3) := by decide +kernel
theorem dX0_fillRows_60 : decode cX0_fillRows 60 = .ok (.aload_n 0, 1) := by decide +kernel
theorem dX0_fillRows_61 : decode cX0_fillRows 61 = .ok (.iload_n 1, 1) := by decide +kernel
theorem dX0_fillRows_62 : decode cX0_fillRows 62 = .ok (.invokevirtual 83, 3) := by decide +kernel
theorem dX0_fillRows_65 : decode cX0_fillRows 65 = .ok (.goto 51, 3) := by decide +kernel
theorem dX0_fillRows_68 : decode cX0_fillRows 68 = .ok (.aload_n 0, 1) := by decide +kernel
theorem dX0_fillRows_69 : decode cX0_fillRows 69 = .ok (.iload_n 1, 1) := by decide +kernel
theorem dX0_fillRows_70 : decode cX0_fillRows 70 = .ok (.invokevirtual 86, 3) := by decide +kernel
theorem dX0_fillRows_73 : decode cX0_fillRows 73 = .ok (.goto 43, 3) := by decide +kernel
theorem dX0_fillRows_76 : decode cX0_fillRows 76 = .ok (.aload_n 0, 1) := by decide +kernel
theorem dX0_fillRows_77 : decode cX0_fillRows 77 = .ok (.iload_n 1, 1) := by decide +kernel
theorem dX0_fillRows_78 : decode cX0_fillRows 78 = .ok (.invokevirtual 89, 3) := by decide +kernel
theorem dX0_fillRows_81 : decode cX0_fillRows 81 = .ok (.goto 35, 3) := by decide +kernel
theorem dX0_fillRows_84 : decode cX0_fillRows 84 = .ok (.aload_n 0, 1) := by decide +kernel
theorem dX0_fillRows_85 : decode cX0_fillRows 85 = .ok (.getfield 12, 3) := by decide +kernel
theorem dX0_fillRows_88 : decode cX0_fillRows 88 = .ok (.iload_n 1, 1) := by decide +kernel
theorem dX0_fillRows_89 : decode cX0_fillRows 89 = .ok (.aload_n 0, 1) := by decide +kernel
theorem dX0_fillRows_90 : decode cX0_fillRows 90 = .ok (.getfield 12, 3) := by decide +kernel
theorem dX0_fillRows_93 : decode cX0_fillRows 93 = .ok (.aload_n 0, 1) := by decide +kernel
theorem dX0_fillRows_94 : decode cX0_fillRows 94 = .ok (.getfield 36, 3) := by decide +kernel
theorem dX0_fillRows_97 : decode cX0_fillRows 97 = .ok (.iload_n 1, 1) := by decide +kernel
theorem dX0_fillRows_98 : decode cX0_fillRows 98 = .ok (.iconst 0, 1) := by decide +kernel
theorem dX0_fillRows_99 : decode cX0_fillRows 99 = .ok (.invokevirtual 92, 3) := by decide +kernel
theorem dX0_fillRows_102 : decode cX0_fillRows 102 = .ok (.invokevirtual 95, 3) := by decide +kernel
theorem dX0_fillRows_105 : decode cX0_fillRows 105 = .ok (.goto 11, 3) := by decide +kernel
theorem dX0_fillRows_108 : decode cX0_fillRows 108 = .ok (.aload_n 0, 1) := by decide +kernel
theorem dX0_fillRows_109 : decode cX0_fillRows 109 = .ok (.iload_n 1, 1) := by decide +kernel
theorem dX0_fillRows_110 : decode cX0_fillRows 110 = .ok (.invokevirtual 99, 3) := by decide +kernel
theorem dX0_fillRows_113 : decode cX0_fillRows 113 = .ok (.goto 3, 3) := by decide +kernel
theorem dX0_fillRows_116 : decode cX0_fillRows 116 = .ok (.return_, 1) := by decide +kernel
theorem dX0_fillByList_0 : decode cX0_fillByList 0 = .ok (.aload_n 0, 1) := by decide +kernel
theorem dX0_fillByList_1 : decode cX0_fillByList 1 = .ok (.getfield 36, 3) := by decide +kernel
theorem dX0_fillByList_4 : decode cX0_fillByList 4 = .ok (.iload_n 1, 1) := by decide +kernel
theorem dX0_fillByList_5 : decode cX0_fillByList 5 = .ok (.invokevirtual 102, 3) := by decide +kernel
theorem dX0_fillByList_8 : decode cX0_fillByList 8 = .ok (.istore_n 2, 1) := by decide +kernel
theorem dX0_fillByList_9 : decode cX0_fillByList 9 = .ok (.iconst 0, 1) := by decide +kernel
theorem dX0_fillByList_10 : decode cX0_fillByList 10 = .ok (.istore_n 3, 1) := by decide +kernel
theorem dX0_fillByList_11 : decode cX0_fillByList 11 = .ok (.iload_n 3, 1) := by decide +kernel
theorem dX0_fillByList_12 : decode cX0_fillByList 12 = .ok (.aload_n 0, 1) := by decide +kernel
theorem dX0_fillByList_13 : decode cX0_fillByList 13 = .ok (.getfield 32, 3) := by decide +kernel
theorem dX0_fillByList_16 : decode cX0_fillByList 16 = .ok (.iload_n 2, 1) := by decide +kernel
theorem dX0_fillByList_17 : decode cX0_fillByList 17 = .ok (.invokevirtual 105, 3) := by decide +kernel
theorem dX0_fillByList_20 : decode cX0_fillByList 20 = .ok (.if_icmp .ge 23, 3) := by decide +kernel
theorem dX0_fillByList_23 : decode cX0_fillByList 23 = .ok (.aload_n 0, 1) := by decide +kernel
theorem dX0_fillByList_24 : decode cX0_fillByList 24 = .ok (.iload_n 1, 1) := by decide +kernel
theorem dX0_fillByList_25 : decode cX0_fillByList 25 = .ok (.aload_n 0, 1) := by decide +kernel
theorem dX0_fillByList_26 : decode cX0_fillByList 26 = .ok (.getfield 32, 3) := by decide +kernel
theorem dX0_fillByList_29 : decode cX0_fillByList 29 = .ok (.iload_n 2, 1) := by decide +kernel
theorem dX0_fillByList_30 : decode cX0_fillByList 30 = .ok (.iload_n 3, 1) := by decide +kernel
theorem dX0_fillByList_31 : decode cX0_fillByList 31 = .ok (.invokevirtual 110, 3) := by decide +kernel
theorem dX0_fillByList_34 : decode cX0_fillByList 34 = .ok (.invokevirtual 113, 3) := by decide +kernel
theorem dX0_fillByList_37 : decode cX0_fillByList 37 = .ok (.iinc 3 1, 3) := by decide +kernel
theorem dX0_fillByList_40 : decode cX0_fillByList 40 = .ok (.goto (-29), 3) := by decide +kernel
theorem dX0_fillByList_43 : decode cX0_fillByList 43 = .ok (.return_, 1) := by decide +kernel
theorem dX0_fillByRange_0 : decode cX0_fillByRange 0 = .ok (.aload_n 0, 1) := by decide +kernel
theorem dX0_fillByRange_1 : decode cX0_fillByRange 1 = .ok (.getfield 36, 3) := by decide +kernel
theorem dX0_fillByRange_4 : decode cX0_fillByRange 4 = .ok (.iload_n 1, 1) := by decide +kernel
theorem dX0_fillByRange_5 : decode cX0_fillByRange 5 = .ok (.invokevirtual 102, 3) := by decide +kernel
theorem dX0_fillByRange_8 : decode cX0_fillByRange 8 = .ok (.istore_n 2, 1) := by decide +kernel
theorem dX0_fillByRange_9 : decode cX0_fillByRange 9 = .ok (.iload_n 2, 1) := by decide +kernel
theorem dX0_fillByRange_10 : decode cX0_fillByRange 10 = .ok (.aload_n 0, 1) := by decide +kernel
theorem dX0_fillByRange_11 : decode cX0_fillByRange 11 = .ok (.getfield 36, 3) := by decide +kernel
theorem dX0_fillByRange_14 : decode cX0_fillByRange 14 = .ok (.iload_n 1, 1) := by decide +kernel
theorem dX0_fillByRange_15 : decode cX0_fillByRange 15 = .ok (.invokevirtual 117, 3) := by decide +kernel
theorem dX0_fillByRange_18 : decode cX0_fillByRange 18 = .ok (.if_icmp .gt 15, 3) := by decide +kernel
theorem dX0_fillByRange_21 : decode cX0_fillByRange 21 = .ok (.aload_n 0, 1) := by decide +kernel
theorem dX0_fillByRange_22 : decode cX0_fillByRange 22 = .ok (.iload_n 1, 1) := by decide +kernel
theorem dX0_fillByRange_23 : decode cX0_fillByRange 23 = .ok (.iload_n 2, 1) := by decide +kernel
theorem dX0_fillByRange_24 : decode cX0_fillByRange 24 = .ok (.invokevirtual 113, 3) := by decide +kernel
theorem dX0_fillByRange_27 : decode cX0_fillByRange 27 = .ok (.iinc 2 1, 3) := by decide +kernel
theorem dX0_fillByRange_30 : decode cX0_fillByRange 30 = .ok (.goto (-21), 3) := by decide +kernel
theorem dX0_fillByRange_33 : decode cX0_fillByRange 33 = .ok (.return_, 1) := by decide +kernel
theorem dX0_addToBoth_0 : decode cX0_addToBoth 0 = .ok (.aload_n 0, 1) := by decide +kernel
theorem dX0_addToBoth_1 : decode cX0_addToBoth 1 = .ok (.getfield 12, 3) := by decide +kernel
theorem dX0_addToBoth_4 : decode cX0_addToBoth 4 = .ok (.iload_n 1, 1) := by decide +kernel
theorem dX0_addToBoth_5 : decode cX0_addToBoth 5 = .ok (.iload_n 2, 1) := by decide +kernel
theorem dX0_addToBoth_6 : decode cX0_addToBoth 6 = .ok (.invokevirtual 120, 3) := by decide +kernel
theorem dX0_addToBoth_9 : decode cX0_addToBoth 9 = .ok (.aload_n 0, 1) := by decide +kernel
theorem dX0_addToBoth_10 : decode cX0_addToBoth 10 = .ok (.getfield 18, 3) := by decide +kernel
theorem dX0_addToBoth_13 : decode cX0_addToBoth 13 = .ok (.iload_n 1, 1) := by decide +kernel
theorem dX0_addToBoth_14 : decode cX0_addToBoth 14 = .ok (.iload_n 2, 1) := by decide +kernel
theorem dX0_addToBoth_15 : decode cX0_addToBoth 15 = .ok (.invokevirtual 120, 3) := by decide +kernel
theorem dX0_addToBoth_18 : decode cX0_addToBoth 18 = .ok (.return_, 1) := by decide +kernel
theorem dX0_fillByKept_0 : decode cX0_fillByKept 0 = .ok (.aload_n 0, 1) := by decide +kernel
theorem dX0_fillByKept_1 : decode cX0_fillByKept 1 = .ok (.getfield 40, 3) := by decide +kernel
theorem dX0_fillByKept_4 : decode cX0_fillByKept 4 = .ok (.iload_n 1, 1) := by decide +kernel
theorem dX0_fillByKept_5 : decode cX0_fillByKept 5 = .ok (.invokevirtual 123, 3) := by decide +kernel
theorem dX0_fillByKept_8 : decode cX0_fillByKept 8 = .ok (.ifCond .eq 38, 3) := by decide +kernel
theorem dX0_fillByKept_11 : decode cX0_fillByKept 11 = .ok (.aload_n 0, 1) := by decide +kernel
theorem dX0_fillByKept_12 : decode cX0_fillByKept 12 = .ok (.getfield 12, 3) := by decide +kernel
theorem dX0_fillByKept_15 : decode cX0_fillByKept 15 = .ok (.iload_n 1, 1) := by decide +kernel
theorem dX0_fillByKept_16 : decode cX0_fillByKept 16 = .ok (.aload_n 0, 1) := by decide +kernel
theorem dX0_fillByKept_17 : decode cX0_fillByKept 17 = .ok (.getfield 40, 3) := by decide +kernel
theorem dX0_fillByKept_20 : decode cX0_fillByKept 20 = .ok (.invokevirtual 129, 3) := by decide +kernel
theorem dX0_fillByKept_23 : decode cX0_fillByKept 23 = .ok (.iload_n 1, 1) := by decide +kernel
theorem dX0_fillByKept_24 : decode cX0_fillByKept 24 = .ok (.invokevirtual 95, 3) := by decide +kernel
theorem dX0_fillByKept_27 : decode cX0_fillByKept 27 = .ok (.aload_n 0, 1) := by decide +kernel
theorem dX0_fillByKept_28 : decode cX0_fillByKept 28 = .ok (.getfield 18, 3) := by decide +kernel
theorem dX0_fillByKept_31 : decode cX0_fillByKept 31 = .ok (.iload_n 1, 1) := by decide +kernel
theorem dX0_fillByKept_32 : decode cX0_fillByKept 32 = .ok (.aload_n 0, 1) := by decide +kernel
theorem dX0_fillByKept_33 : decode cX0_fillByKept 33 = .ok (.getfield 40, 3) := by decide +kernel
theorem dX0_fillByKept_36 : decode cX0_fillByKept 36 = .ok (.invokevirtual 129, 3) := by decide +kernel
theorem dX0_fillByKept_39 : decode cX0_fillByKept 39 = .ok (.iload_n 1, 1) := by decide +kernel
theorem dX0_fillByKept_40 : decode cX0_fillByKept 40 = .ok (.invokevirtual 95, 3) := by decide +kernel
theorem dX0_fillByKept_43 : decode cX0_fillByKept 43 = .ok (.goto 8, 3) := by decide +kernel
theorem dX0_fillByKept_46 : decode cX0_fillByKept 46 = .ok (.aload_n 0, 1) := by decide +kernel
theorem dX0_fillByKept_47 : decode cX0_fillByKept 47 = .ok (.iload_n 1, 1) := by decide +kernel
theorem dX0_fillByKept_48 : decode cX0_fillByKept 48 = .ok (.invokevirtual 99, 3) := by decide +kernel
theorem dX0_fillByKept_51 : decode cX0_fillByKept 51 = .ok (.return_, 1) := by decide +kernel
theorem dX0_joinParts_0 : decode cX0_joinParts 0 = .ok (.iconst 0, 1) := by decide +kernel
theorem dX0_joinParts_1 : decode cX0_joinParts 1 = .ok (.istore_n 2, 1) := by decide +kernel
theorem dX0_joinParts_2 : decode cX0_joinParts 2 = .ok (.iload_n 2, 1) := by decide +kernel
theorem dX0_joinParts_3 : decode cX0_joinParts 3 = .ok (.aload_n 0, 1) := by decide +kernel
theorem dX0_joinParts_4 : decode cX0_joinParts 4 = .ok (.getfield 36, 3) := by decide +kernel
theorem dX0_joinParts_7 : decode cX0_joinParts 7 = .ok (.iload_n 1, 1) := by decide +kernel
theorem dX0_joinParts_8 : decode cX0_joinParts 8 = .ok (.invokevirtual 133, 3) := by decide +kernel
theorem dX0_joinParts_11 : decode cX0_joinParts 11 = .ok (.if_icmp .ge 51, 3) := by decide +kernel
theorem dX0_joinParts_14 : decode cX0_joinParts 14 = .ok (.aload_n 0, 1) := by decide +kernel
theorem dX0_joinParts_15 : decode cX0_joinParts 15 = .ok (.getfield 12, 3) := by decide +kernel
theorem dX0_joinParts_18 : decode cX0_joinParts 18 = .ok (.iload_n 1, 1) := by decide +kernel
theorem dX0_joinParts_19 : decode cX0_joinParts 19 = .ok (.aload_n 0, 1) := by decide +kernel
theorem dX0_joinParts_20 : decode cX0_joinParts 20 = .ok (.getfield 12, 3) := by decide +kernel
theorem dX0_joinParts_23 : decode cX0_joinParts 23 = .ok (.aload_n 0, 1) := by decide +kernel
theorem dX0_joinParts_24 : decode cX0_joinParts 24 = .ok (.getfield 36, 3) := by decide +kernel
theorem dX0_joinParts_27 : decode cX0_joinParts 27 = .ok (.iload_n 1, 1) := by decide +kernel
theorem dX0_joinParts_28 : decode cX0_joinParts 28 = .ok (.iload_n 2, 1) := by decide +kernel
theorem dX0_joinParts_29 : decode cX0_joinParts 29 = .ok (.invokevirtual 92, 3) := by decide +kernel
theorem dX0_joinParts_32 : decode cX0_joinParts 32 = .ok (.invokevirtual 95, 3) := by decide +kernel
theorem dX0_joinParts_35 : decode cX0_joinParts 35 = .ok (.aload_n 0, 1) := by decide +kernel
theorem dX0_joinParts_36 : decode cX0_joinParts 36 = .ok (.getfield 18, 3) := by decide +kernel
theorem dX0_joinParts_39 : decode cX0_joinParts 39 = .ok (.iload_n 1, 1) := by decide +kernel
theorem dX0_joinParts_40 : decode cX0_joinParts 40 = .ok (.aload_n 0, 1) := by decide +kernel
theorem dX0_joinParts_41 : decode cX0_joinParts 41 = .ok (.getfield 18, 3) := by decide +kernel
theorem dX0_joinParts_44 : decode cX0_joinParts 44 = .ok (.aload_n 0, 1) := by decide +kernel
theorem dX0_joinParts_45 : decode cX0_joinParts 45 = .ok (.getfield 36, 3) := by decide +kernel
theorem dX0_joinParts_48 : decode cX0_joinParts 48 = .ok (.iload_n 1, 1) := by decide +kernel
theorem dX0_joinParts_49 : decode cX0_joinParts 49 = .ok (.iload_n 2, 1) := by decide +kernel
theorem dX0_joinParts_50 : decode cX0_joinParts 50 = .ok (.invokevirtual 92, 3) := by decide +kernel
theorem dX0_joinParts_53 : decode cX0_joinParts 53 = .ok (.invokevirtual 95, 3) := by decide +kernel
theorem dX0_joinParts_56 : decode cX0_joinParts 56 = .ok (.iinc 2 1, 3) := by decide +kernel
theorem dX0_joinParts_59 : decode cX0_joinParts 59 = .ok (.goto (-57), 3) := by decide +kernel
theorem dX0_joinParts_62 : decode cX0_joinParts 62 = .ok (.return_, 1) := by decide +kernel
theorem dX0_fillByBool_0 : decode cX0_fillByBool 0 = .ok (.aload_n 0, 1) := by decide +kernel
theorem dX0_fillByBool_1 : decode cX0_fillByBool 1 = .ok (.getfield 36, 3) := by decide +kernel
theorem dX0_fillByBool_4 : decode cX0_fillByBool 4 = .ok (.iload_n 1, 1) := by decide +kernel
theorem dX0_fillByBool_5 : decode cX0_fillByBool 5 = .ok (.invokevirtual 134, 3) := by decide +kernel
theorem dX0_fillByBool_8 : decode cX0_fillByBool 8 = .ok (.istore_n 2, 1) := by decide +kernel
theorem dX0_fillByBool_9 : decode cX0_fillByBool 9 = .ok (.iconst 0, 1) := by decide +kernel
theorem dX0_fillByBool_10 : decode cX0_fillByBool 10 = .ok (.istore_n 3, 1) := by decide +kernel
theorem dX0_fillByBool_11 : decode cX0_fillByBool 11 = .ok (.iload_n 3, 1) := by decide +kernel
theorem dX0_fillByBool_12 : decode cX0_fillByBool 12 = .ok (.bipush 8, 2) := by decide +kernel
theorem dX0_fillByBool_14 : decode cX0_fillByBool 14 = .ok (.if_icmp .ge 57, 3) := by decide +kernel
theorem dX0_fillByBool_17 : decode cX0_fillByBool 17 = .ok (.aload_n 0, 1) := by decide +kernel
theorem dX0_fillByBool_18 : decode cX0_fillByBool 18 = .ok (.getfield 12, 3) := by decide +kernel
theorem dX0_fillByBool_21 : decode cX0_fillByBool 21 = .ok (.iload_n 1, 1) := by decide +kernel
theorem dX0_fillByBool_22 : decode cX0_fillByBool 22 = .ok (.iload_n 3, 1) := by decide +kernel
theorem dX0_fillByBool_23 : decode cX0_fillByBool 23 = .ok (.aload_n 0, 1) := by decide +kernel
theorem dX0_fillByBool_24 : decode cX0_fillByBool 24 = .ok (.iload_n 1, 1) := by decide +kernel
theorem dX0_fillByBool_25 : decode cX0_fillByBool 25 = .ok (.iload_n 3, 1) := by decide +kernel
theorem dX0_fillByBool_26 : decode cX0_fillByBool 26 = .ok (.iload_n 2, 1) := by decide +kernel
theorem dX0_fillByBool_27 : decode cX0_fillByBool 27 = .ok (.aload_n 0, 1) := by decide +kernel
theorem dX0_fillByBool_28 : decode cX0_fillByBool 28 = .ok (.getfield 12, 3) := by decide +kernel
theorem dX0_fillByBool_31 : decode cX0_fillByBool 31 = .ok (.aload_n 0, 1) := by decide +kernel
theorem dX0_fillByBool_32 : decode cX0_fillByBool 32 = .ok (.getfield 18, 3) := by decide +kernel
theorem dX0_fillByBool_35 : decode cX0_fillByBool 35 = .ok (.invokevirtual 137, 3) := by decide +kernel
theorem dX0_fillByBool_38 : decode cX0_fillByBool 38 = .ok (.invokevirtual 141, 3) := by decide +kernel
theorem dX0_fillByBool_41 : decode cX0_fillByBool 41 = .ok (.aload_n 0, 1) := by decide +kernel
theorem dX0_fillByBool_42 : decode cX0_fillByBool 42 = .ok (.getfield 18, 3) := by decide +kernel
theorem dX0_fillByBool_45 : decode cX0_fillByBool 45 = .ok (.iload_n 1, 1) := by decide +kernel
theorem dX0_fillByBool_46 : decode cX0_fillByBool 46 = .ok (.iload_n 3, 1) := by decide +kernel
theorem dX0_fillByBool_47 : decode cX0_fillByBool 47 = .ok (.aload_n 0, 1) := by decide +kernel
theorem dX0_fillByBool_48 : decode cX0_fillByBool 48 = .ok (.iload_n 1, 1) := by decide +kernel
theorem dX0_fillByBool_49 : decode cX0_fillByBool 49 = .ok (.iload_n 3, 1) := by decide +kernel
theorem dX0_fillByBool_50 : decode cX0_fillByBool 50 = .ok (.iload_n 2, 1) := by decide +kernel
theorem dX0_fillByBool_51 : decode cX0_fillByBool 51 = .ok (.aload_n 0, 1) := by decide +kernel
theorem dX0_fillByBool_52 : decode cX0_fillByBool 52 = .ok (.getfield 18, 3) := by decide +kernel
theorem dX0_fillByBool_55 : decode cX0_fillByBool 55 = .ok (.aload_n 0, 1) := by decide +kernel
theorem dX0_fillByBool_56 : decode cX0_fillByBool 56 = .ok (.getfield 12, 3) := by decide +kernel
theorem dX0_fillByBool_59 : decode cX0_fillByBool 59 = .ok (.invokevirtual 137, 3) := by decide +kernel
theorem dX0_fillByBool_62 : decode cX0_fillByBool 62 = .ok (.invokevirtual 141, 3) := by decide +kernel
theorem dX0_fillByBool_65 : decode cX0_fillByBool 65 = .ok (.iinc 3 1, 3) := by decide +kernel
theorem dX0_fillByBool_68 : decode cX0_fillByBool 68 = .ok (.goto (-57), 3) := by decide +kernel
theorem dX0_fillByBool_71 : decode cX0_fillByBool 71 = .ok (.return_, 1) := by decide +kernel
theorem dX0_boolWord_0 : decode cX0_boolWord 0 = .ok (.ldc2_w 145, 3) := by decide +kernel
theorem dX0_boolWord_3 : decode cX0_boolWord 3 = .ok (.lstore 6, 2) := by decide +kernel
theorem dX0_boolWord_5 : decode cX0_boolWord 5 = .ok (.aload_n 0, 1) := by decide +kernel
theorem dX0_boolWord_6 : decode cX0_boolWord 6 = .ok (.getfield 28, 3) := by decide +kernel
theorem dX0_boolWord_9 : decode cX0_boolWord 9 = .ok (.lconst 0, 1) := by decide +kernel
theorem dX0_boolWord_10 : decode cX0_boolWord 10 = .ok (.invokestatic 147, 3) := by decide +kernel
theorem dX0_boolWord_13 : decode cX0_boolWord 13 = .ok (.aload_n 0, 1) := by decide +kernel
theorem dX0_boolWord_14 : decode cX0_boolWord 14 = .ok (.getfield 28, 3) := by decide +kernel
theorem dX0_boolWord_17 : decode cX0_boolWord 17 = .ok (.iconst 0, 1) := by decide +kernel
theorem dX0_boolWord_18 : decode cX0_boolWord 18 = .ok (.ldc2_w 145, 3) := by decide +kernel
theorem dX0_boolWord_21 : decode cX0_boolWord 21 = .ok (.lastore, 1) := by decide +kernel
theorem dX0_boolWord_22 : decode cX0_boolWord 22 = .ok (.iconst 0, 1) := by decide +kernel
theorem dX0_boolWord_23 : decode cX0_boolWord 23 = .ok (.istore 8, 2) := by decide +kernel
theorem dX0_boolWord_25 : decode cX0_boolWord 25 = .ok (.iload 8, 2) := by decide +kernel
theorem dX0_boolWord_27 : decode cX0_boolWord 27 = .ok (.aload_n 0, 1) := by decide +kernel
theorem dX0_boolWord_28 : decode cX0_boolWord 28 = .ok (.getfield 36, 3) := by decide +kernel
theorem dX0_boolWord_31 : decode cX0_boolWord 31 = .ok (.iload_n 1, 1) := by decide +kernel
theorem dX0_boolWord_32 : decode cX0_boolWord 32 = .ok (.invokevirtual 133, 3) := by decide +kernel
theorem dX0_boolWord_35 : decode cX0_boolWord 35 = .ok (.if_icmp .ge 94, 3) := by decide +kernel
theorem dX0_boolWord_38 : decode cX0_boolWord 38 = .ok (.aload_n 0, 1) := by decide +kernel
theorem dX0_boolWord_39 : decode cX0_boolWord 39 = .ok (.getfield 36, 3) := by decide +kernel
theorem dX0_boolWord_42 : decode cX0_boolWord 42 = .ok (.iload_n 1, 1) := by decide +kernel
theorem dX0_boolWord_43 : decode cX0_boolWord 43 = .ok (.iload 8, 2) := by decide +kernel
theorem dX0_boolWord_45 : decode cX0_boolWord 45 = .ok (.invokevirtual 92, 3) := by decide +kernel
theorem dX0_boolWord_48 : decode cX0_boolWord 48 = .ok (.istore 9, 2) := by decide +kernel
theorem dX0_boolWord_50 : decode cX0_boolWord 50 = .ok (.aload_n 0, 1) := by decide +kernel
theorem dX0_boolWord_51 : decode cX0_boolWord 51 = .ok (.getfield 36, 3) := by decide +kernel
theorem dX0_boolWord_54 : decode cX0_boolWord 54 = .ok (.iload_n 1, 1) := by decide +kernel
theorem dX0_boolWord_55 : decode cX0_boolWord 55 = .ok (.iload 8, 2) := by decide +kernel
theorem dX0_boolWord_57 : decode cX0_boolWord 57 = .ok (.invokevirtual 153, 3) := by decide +kernel
theorem dX0_boolWord_60 : decode cX0_boolWord 60 = .ok (.istore 10, 2) := by decide +kernel
theorem dX0_boolWord_62 : decode cX0_boolWord 62 = .ok (.iload 10, 2) := by decide +kernel
theorem dX0_boolWord_64 : decode cX0_boolWord 64 = .ok (.iconst 2, 1) := by decide +kernel
theorem dX0_boolWord_65 : decode cX0_boolWord 65 = .ok (.if_icmp .ne 23, 3) := by decide +kernel
theorem dX0_boolWord_68 : decode cX0_boolWord 68 = .ok (.lload 6, 2) := by decide +kernel
theorem dX0_boolWord_70 : decode cX0_boolWord 70 = .ok (.aload 5, 2) := by decide +kernel
theorem dX0_boolWord_72 : decode cX0_boolWord 72 = .ok (.iload 9, 2) := by decide +kernel
theorem dX0_boolWord_74 : decode cX0_boolWord 74 = .ok (.iload_n 2, 1) := by decide +kernel
theorem dX0_boolWord_75 : decode cX0_boolWord 75 = .ok (.invokevirtual 156, 3) := by decide +kernel
theorem dX0_boolWord_78 : decode cX0_boolWord 78 = .ok (.ldc2_w 145, 3) := by decide +kernel
theorem dX0_boolWord_81 : decode cX0_boolWord 81 = .ok (.lxor, 1) := by decide +kernel
theorem dX0_boolWord_82 : decode cX0_boolWord 82 = .ok (.land, 1) := by decide +kernel
theorem dX0_boolWord_83 : decode cX0_boolWord 83 = .ok (.lstore 6, 2) := by decide +kernel
theorem dX0_boolWord_85 : decode cX0_boolWord 85 = .ok (.goto 38, 3) := by decide +kernel
theorem dX0_boolWord_88 : decode cX0_boolWord 88 = .ok (.iload 10, 2) := by decide +kernel
theorem dX0_boolWord_90 : decode cX0_boolWord 90 = .ok (.iconst 3, 1) := by decide +kernel
theorem dX0_boolWord_91 : decode cX0_boolWord 91 = .ok (.if_icmp .ne 19, 3) := by decide +kernel
theorem dX0_boolWord_94 : decode cX0_boolWord 94 = .ok (.aload_n 0, 1) := by decide +kernel
theorem dX0_boolWord_95 : decode cX0_boolWord 95 = .ok (.aload 4, 2) := by decide +kernel
theorem dX0_boolWord_97 : decode cX0_boolWord 97 = .ok (.iload 9, 2) := by decide +kernel
theorem dX0_boolWord_99 : decode cX0_boolWord 99 = .ok (.iload_n 2, 1) := by decide +kernel
theorem dX0_boolWord_100 : decode cX0_boolWord 100 = .ok (.invokevirtual 156, 3) := by decide +kernel
theorem dX0_boolWord_103 : decode cX0_boolWord 103 = .ok (.iload_n 3, 1) := by decide +kernel
theorem dX0_boolWord_104 : decode cX0_boolWord 104 = .ok (.invokevirtual 160, 3) := by decide +kernel
theorem dX0_boolWord_107 : decode cX0_boolWord 107 = .ok (.goto 16, 3) := by decide +kernel
theorem dX0_boolWord_110 : decode cX0_boolWord 110 = .ok (.lload 6, 2) := by decide +kernel
theorem dX0_boolWord_112 : decode cX0_boolWord 112 = .ok (.aload 4, 2) := by decide +kernel
theorem dX0_boolWord_114 : decode cX0_boolWord 114 = .ok (.iload 9, 2) := by decide +kernel
theorem dX0_boolWord_116 : decode cX0_boolWord 116 = .ok (.iload_n 2, 1) := by decide +kernel
theorem dX0_boolWord_117 : decode cX0_boolWord 117 = .ok (.invokevirtual 156, 3) := by decide +kernel
theorem dX0_boolWord_120 : decode cX0_boolWord 120 = .ok (.land, 1) := by decide +kernel
theorem dX0_boolWord_121 : decode cX0_boolWord 121 = .ok (.lstore 6, 2) := by decide +kernel
theorem dX0_boolWord_123 : decode cX0_boolWord 123 = .ok (.iinc 8 1, 3) := by decide +kernel
theorem dX0_boolWord_126 : decode cX0_boolWord 126 = .ok (.goto (-101), 3) := by decide +kernel
theorem dX0_boolWord_129 : decode cX0_boolWord 129 = .ok (.lload 6, 2) := by decide +kernel
theorem dX0_boolWord_131 : decode cX0_boolWord 131 = .ok (.aload_n 0, 1) := by decide +kernel
theorem dX0_boolWord_132 : decode cX0_boolWord 132 = .ok (.getfield 28, 3) := by decide +kernel
theorem dX0_boolWord_135 : decode cX0_boolWord 135 = .ok (.iload_n 3, 1) := by decide +kernel
theorem dX0_boolWord_136 : decode cX0_boolWord 136 = .ok (.laload, 1) := by decide +kernel
theorem dX0_boolWord_137 : decode cX0_boolWord 137 = .ok (.land, 1) := by decide +kernel
theorem dX0_boolWord_138 : decode cX0_boolWord 138 = .ok (.lreturn, 1) := by decide +kernel
theorem dX0_countIn_0 : decode cX0_countIn 0 = .ok (.iload_n 3, 1) := by decide +kernel
theorem dX0_countIn_1 : decode cX0_countIn 1 = .ok (.istore 4, 2) := by decide +kernel
theorem dX0_countIn_3 : decode cX0_countIn 3 = .ok (.iload 4, 2) := by decide +kernel
theorem dX0_countIn_5 : decode cX0_countIn 5 = .ok (.ifCond .le 30, 3) := by decide +kernel
theorem dX0_countIn_8 : decode cX0_countIn 8 = .ok (.aload_n 0, 1) := by decide +kernel
theorem dX0_countIn_9 : decode cX0_countIn 9 = .ok (.getfield 28, 3) := by decide +kernel
theorem dX0_countIn_12 : decode cX0_countIn 12 = .ok (.iload 4, 2) := by decide +kernel
theorem dX0_countIn_14 : decode cX0_countIn 14 = .ok (.dup2, 1) := by decide +kernel
theorem dX0_countIn_15 : decode cX0_countIn 15 = .ok (.laload, 1) := by decide +kernel
theorem dX0_countIn_16 : decode cX0_countIn 16 = .ok (.aload_n 0, 1) := by decide +kernel
theorem dX0_countIn_17 : decode cX0_countIn 17 = .ok (.getfield 28, 3) := by decide +kernel
theorem dX0_countIn_20 : decode cX0_countIn 20 = .ok (.iload 4, 2) := by decide +kernel
theorem dX0_countIn_22 : decode cX0_countIn 22 = .ok (.iconst 1, 1) := by decide +kernel
theorem dX0_countIn_23 : decode cX0_countIn 23 = .ok (.isub, 1) := by decide +kernel
theorem dX0_countIn_24 : decode cX0_countIn 24 = .ok (.laload, 1) := by decide +kernel
theorem dX0_countIn_25 : decode cX0_countIn 25 = .ok (.lload_n 1, 1) := by decide +kernel
theorem dX0_countIn_26 : decode cX0_countIn 26 = .ok (.land, 1) := by decide +kernel
theorem dX0_countIn_27 : decode cX0_countIn 27 = .ok (.lor, 1) := by decide +kernel
theorem dX0_countIn_28 : decode cX0_countIn 28 = .ok (.lastore, 1) := by decide +kernel
theorem dX0_countIn_29 : decode cX0_countIn 29 = .ok (.iinc 4 (-1), 3) := by decide +kernel
theorem dX0_countIn_32 : decode cX0_countIn 32 = .ok (.goto (-29), 3) := by decide +kernel
theorem dX0_countIn_35 : decode cX0_countIn 35 = .ok (.return_, 1) := by decide +kernel
theorem dX0_costOf_0 : decode cX0_costOf 0 = .ok (.aload_n 0, 1) := by decide +kernel
theorem dX0_costOf_1 : decode cX0_costOf 1 = .ok (.getfield 36, 3) := by decide +kernel
theorem dX0_costOf_4 : decode cX0_costOf 4 = .ok (.iload_n 1, 1) := by decide +kernel
theorem dX0_costOf_5 : decode cX0_costOf 5 = .ok (.invokevirtual 69, 3) := by decide +kernel
theorem dX0_costOf_8 : decode cX0_costOf 8 = .ok (.tableswitch 144 0 6 #[44, 60, 80, 86, 129, 129, 92], 44) := by decide +kernel
theorem dX0_costOf_52 : decode cX0_costOf 52 = .ok (.aload_n 0, 1) := by decide +kernel
theorem dX0_costOf_53 : decode cX0_costOf 53 = .ok (.getfield 32, 3) := by decide +kernel
theorem dX0_costOf_56 : decode cX0_costOf 56 = .ok (.aload_n 0, 1) := by decide +kernel
theorem dX0_costOf_57 : decode cX0_costOf 57 = .ok (.getfield 36, 3) := by decide +kernel
theorem dX0_costOf_60 : decode cX0_costOf 60 = .ok (.iload_n 1, 1) := by decide +kernel
theorem dX0_costOf_61 : decode cX0_costOf 61 = .ok (.invokevirtual 102, 3) := by decide +kernel
theorem dX0_costOf_64 : decode cX0_costOf 64 = .ok (.invokevirtual 105, 3) := by decide +kernel
theorem dX0_costOf_67 : decode cX0_costOf 67 = .ok (.ireturn, 1) := by decide +kernel
theorem dX0_costOf_68 : decode cX0_costOf 68 = .ok (.aload_n 0, 1) := by decide +kernel
theorem dX0_costOf_69 : decode cX0_costOf 69 = .ok (.getfield 36, 3) := by decide +kernel
theorem dX0_costOf_72 : decode cX0_costOf 72 = .ok (.iload_n 1, 1) := by decide +kernel
theorem dX0_costOf_73 : decode cX0_costOf 73 = .ok (.invokevirtual 117, 3) := by decide +kernel
theorem dX0_costOf_76 : decode cX0_costOf 76 = .ok (.aload_n 0, 1) := by decide +kernel
theorem dX0_costOf_77 : decode cX0_costOf 77 = .ok (.getfield 36, 3) := by decide +kernel
theorem dX0_costOf_80 : decode cX0_costOf 80 = .ok (.iload_n 1, 1) := by decide +kernel
theorem dX0_costOf_81 : decode cX0_costOf 81 = .ok (.invokevirtual 102, 3) := by decide +kernel
theorem dX0_costOf_84 : decode cX0_costOf 84 = .ok (.isub, 1) := by decide +kernel
theorem dX0_costOf_85 : decode cX0_costOf 85 = .ok (.iconst 1, 1) := by decide +kernel
theorem dX0_costOf_86 : decode cX0_costOf 86 = .ok (.iadd, 1) := by decide +kernel
theorem dX0_costOf_87 : decode cX0_costOf 87 = .ok (.ireturn, 1) := by decide +kernel
theorem dX0_costOf_88 : decode cX0_costOf 88 = .ok (.aload_n 0, 1) := by decide +kernel
theorem dX0_costOf_89 : decode cX0_costOf 89 = .ok (.iload_n 1, 1) := by decide +kernel
theorem dX0_costOf_90 : decode cX0_costOf 90 = .ok (.invokevirtual 164, 3) := by decide +kernel
theorem dX0_costOf_93 : decode cX0_costOf 93 = .ok (.ireturn, 1) := by decide +kernel
theorem dX0_costOf_94 : decode cX0_costOf 94 = .ok (.aload_n 0, 1) := by decide +kernel
theorem dX0_costOf_95 : decode cX0_costOf 95 = .ok (.iload_n 1, 1) := by decide +kernel
theorem dX0_costOf_96 : decode cX0_costOf 96 = .ok (.invokevirtual 167, 3) := by decide +kernel
theorem dX0_costOf_99 : decode cX0_costOf 99 = .ok (.ireturn, 1) := by decide +kernel
theorem dX0_costOf_100 : decode cX0_costOf 100 = .ok (.aload_n 0, 1) := by decide +kernel
theorem dX0_costOf_101 : decode cX0_costOf 101 = .ok (.getfield 40, 3) := by decide +kernel
theorem dX0_costOf_104 : decode cX0_costOf 104 = .ok (.iload_n 1, 1) := by decide +kernel
theorem dX0_costOf_105 : decode cX0_costOf 105 = .ok (.invokevirtual 123, 3) := by decide +kernel
theorem dX0_costOf_108 : decode cX0_costOf 108 = .ok (.ifCond .eq 14, 3) := by decide +kernel
theorem dX0_costOf_111 : decode cX0_costOf 111 = .ok (.aload_n 0, 1) := by decide +kernel
theorem dX0_costOf_112 : decode cX0_costOf 112 = .ok (.getfield 40, 3) := by decide +kernel
theorem dX0_costOf_115 : decode cX0_costOf 115 = .ok (.iload_n 1, 1) := by decide +kernel
theorem dX0_costOf_116 : decode cX0_costOf 116 = .ok (.invokevirtual 170, 3) := by decide +kernel
theorem dX0_costOf_119 : decode cX0_costOf 119 = .ok (.goto 17, 3) := by decide +kernel
theorem dX0_costOf_122 : decode cX0_costOf 122 = .ok (.aload_n 0, 1) := by decide +kernel
theorem dX0_costOf_123 : decode cX0_costOf 123 = .ok (.getfield 21, 3) := by decide +kernel
theorem dX0_costOf_126 : decode cX0_costOf 126 = .ok (.aload_n 0, 1) := by decide +kernel
theorem dX0_costOf_127 : decode cX0_costOf 127 = .ok (.getfield 36, 3) := by decide +kernel
theorem dX0_costOf_130 : decode cX0_costOf 130 = .ok (.iload_n 1, 1) := by decide +kernel
theorem dX0_costOf_131 : decode cX0_costOf 131 = .ok (.iconst 0, 1) := by decide +kernel
theorem dX0_costOf_132 : decode cX0_costOf 132 = .ok (.invokevirtual 92, 3) := by decide +kernel
theorem dX0_costOf_135 : decode cX0_costOf 135 = .ok (.iaload, 1) := by decide +kernel
theorem dX0_costOf_136 : decode cX0_costOf 136 = .ok (.ireturn, 1) := by decide +kernel
theorem dX0_costOf_137 : decode cX0_costOf 137 = .ok (.aload_n 0, 1) := by decide +kernel
theorem dX0_costOf_138 : decode cX0_costOf 138 = .ok (.getfield 21, 3) := by decide +kernel
theorem dX0_costOf_141 : decode cX0_costOf 141 = .ok (.aload_n 0, 1) := by decide +kernel
theorem dX0_costOf_142 : decode cX0_costOf 142 = .ok (.getfield 36, 3) := by decide +kernel
theorem dX0_costOf_145 : decode cX0_costOf 145 = .ok (.iload_n 1, 1) := by decide +kernel
theorem dX0_costOf_146 : decode cX0_costOf 146 = .ok (.iconst 0, 1) := by decide +kernel
theorem dX0_costOf_147 : decode cX0_costOf 147 = .ok (.invokevirtual 92, 3) := by decide +kernel
theorem dX0_costOf_150 : decode cX0_costOf 150 = .ok (.iaload, 1) := by decide +kernel
theorem dX0_costOf_151 : decode cX0_costOf 151 = .ok (.ireturn, 1) := by decide +kernel
theorem dX0_costOf_152 : decode cX0_costOf 152 = .ok (.iconst 0, 1) := by decide +kernel
theorem dX0_costOf_153 : decode cX0_costOf 153 = .ok (.ireturn, 1) := by decide +kernel
theorem dX0_costOfBool_0 : decode cX0_costOfBool 0 = .ok (.iconst (-1), 1) := by decide +kernel
theorem dX0_costOfBool_1 : decode cX0_costOfBool 1 = .ok (.istore_n 2, 1) := by decide +kernel
theorem dX0_costOfBool_2 : decode cX0_costOfBool 2 = .ok (.iconst 0, 1) := by decide +kernel
theorem dX0_costOfBool_3 : decode cX0_costOfBool 3 = .ok (.istore_n 3, 1) := by decide +kernel
theorem dX0_costOfBool_4 : decode cX0_costOfBool 4 = .ok (.iload_n 3, 1) := by decide +kernel
theorem dX0_costOfBool_5 : decode cX0_costOfBool 5 = .ok (.aload_n 0, 1) := by decide +kernel
theorem dX0_costOfBool_6 : decode cX0_costOfBool 6 = .ok (.getfield 36, 3) := by decide +kernel
theorem dX0_costOfBool_9 : decode cX0_costOfBool 9 = .ok (.iload_n 1, 1) := by decide +kernel
theorem dX0_costOfBool_10 : decode cX0_costOfBool 10 = .ok (.invokevirtual 133, 3) := by decide +kernel
theorem dX0_costOfBool_13 : decode cX0_costOfBool 13 = .ok (.if_icmp .ge 54, 3) := by decide +kernel
theorem dX0_costOfBool_16 : decode cX0_costOfBool 16 = .ok (.aload_n 0, 1) := by decide +kernel
theorem dX0_costOfBool_17 : decode cX0_costOfBool 17 = .ok (.getfield 21, 3) := by decide +kernel
theorem dX0_costOfBool_20 : decode cX0_costOfBool 20 = .ok (.aload_n 0, 1) := by decide +kernel
theorem dX0_costOfBool_21 : decode cX0_costOfBool 21 = .ok (.getfield 36, 3) := by decide +kernel
theorem dX0_costOfBool_24 : decode cX0_costOfBool 24 = .ok (.iload_n 1, 1) := by decide +kernel
theorem dX0_costOfBool_25 : decode cX0_costOfBool 25 = .ok (.iload_n 3, 1) := by decide +kernel
theorem dX0_costOfBool_26 : decode cX0_costOfBool 26 = .ok (.invokevirtual 92, 3) := by decide +kernel
theorem dX0_costOfBool_29 : decode cX0_costOfBool 29 = .ok (.iaload, 1) := by decide +kernel
theorem dX0_costOfBool_30 : decode cX0_costOfBool 30 = .ok (.istore 4, 2) := by decide +kernel
theorem dX0_costOfBool_32 : decode cX0_costOfBool 32 = .ok (.aload_n 0, 1) := by decide +kernel
theorem dX0_costOfBool_33 : decode cX0_costOfBool 33 = .ok (.getfield 36, 3) := by decide +kernel
theorem dX0_costOfBool_36 : decode cX0_costOfBool 36 = .ok (.iload_n 1, 1) := by decide +kernel
theorem dX0_costOfBool_37 : decode cX0_costOfBool 37 = .ok (.iload_n 3, 1) := by decide +kernel
theorem dX0_costOfBool_38 : decode cX0_costOfBool 38 = .ok (.invokevirtual 153, 3) := by decide +kernel
theorem dX0_costOfBool_41 : decode cX0_costOfBool 41 = .ok (.invokestatic 171, 3) := by decide +kernel
theorem dX0_costOfBool_44 : decode cX0_costOfBool 44 = .ok (.ifCond .eq 17, 3) := by decide +kernel
theorem dX0_costOfBool_47 : decode cX0_costOfBool 47 = .ok (.iload_n 2, 1) := by decide +kernel
theorem dX0_costOfBool_48 : decode cX0_costOfBool 48 = .ok (.iconst (-1), 1) := by decide +kernel
theorem dX0_costOfBool_49 : decode cX0_costOfBool 49 = .ok (.if_icmp .eq 9, 3) := by decide +kernel
theorem dX0_costOfBool_52 : decode cX0_costOfBool 52 = .ok (.iload 4, 2) := by decide +kernel
theorem dX0_costOfBool_54 : decode cX0_costOfBool 54 = .ok (.iload_n 2, 1) := by decide +kernel
theorem dX0_costOfBool_55 : decode cX0_costOfBool 55 = .ok (.if_icmp .ge 6, 3) := by decide +kernel
theorem dX0_costOfBool_58 : decode cX0_costOfBool 58 = .ok (.iload 4, 2) := by decide +kernel
theorem dX0_costOfBool_60 : decode cX0_costOfBool 60 = .ok (.istore_n 2, 1) := by decide +kernel
theorem dX0_costOfBool_61 : decode cX0_costOfBool 61 = .ok (.iinc 3 1, 3) := by decide +kernel
theorem dX0_costOfBool_64 : decode cX0_costOfBool 64 = .ok (.goto (-60), 3) := by decide +kernel
theorem dX0_costOfBool_67 : decode cX0_costOfBool 67 = .ok (.iload_n 2, 1) := by decide +kernel
theorem dX0_costOfBool_68 : decode cX0_costOfBool 68 = .ok (.iconst (-1), 1) := by decide +kernel
theorem dX0_costOfBool_69 : decode cX0_costOfBool 69 = .ok (.if_icmp .ne 11, 3) := by decide +kernel
theorem dX0_costOfBool_72 : decode cX0_costOfBool 72 = .ok (.aload_n 0, 1) := by decide +kernel
theorem dX0_costOfBool_73 : decode cX0_costOfBool 73 = .ok (.iload_n 1, 1) := by decide +kernel
theorem dX0_costOfBool_74 : decode cX0_costOfBool 74 = .ok (.invokevirtual 167, 3) := by decide +kernel
theorem dX0_costOfBool_77 : decode cX0_costOfBool 77 = .ok (.goto 4, 3) := by decide +kernel
theorem dX0_costOfBool_80 : decode cX0_costOfBool 80 = .ok (.iload_n 2, 1) := by decide +kernel
theorem dX0_costOfBool_81 : decode cX0_costOfBool 81 = .ok (.ireturn, 1) := by decide +kernel
theorem dX0_costOfShoulds_0 : decode cX0_costOfShoulds 0 = .ok (.iconst 0, 1) := by decide +kernel
theorem dX0_costOfShoulds_1 : decode cX0_costOfShoulds 1 = .ok (.istore_n 2, 1) := by decide +kernel
theorem dX0_costOfShoulds_2 : decode cX0_costOfShoulds 2 = .ok (.iconst 0, 1) := by decide +kernel
theorem dX0_costOfShoulds_3 : decode cX0_costOfShoulds 3 = .ok (.istore_n 3, 1) := by decide +kernel
theorem dX0_costOfShoulds_4 : decode cX0_costOfShoulds 4 = .ok (.iload_n 3, 1) := by decide +kernel
theorem dX0_costOfShoulds_5 : decode cX0_costOfShoulds 5 = .ok (.aload_n 0, 1) := by decide +kernel
theorem dX0_costOfShoulds_6 : decode cX0_costOfShoulds 6 = .ok (.getfield 36, 3) := by decide +kernel
theorem dX0_costOfShoulds_9 : decode cX0_costOfShoulds 9 = .ok (.iload_n 1, 1) := by decide +kernel
theorem dX0_costOfShoulds_10 : decode cX0_costOfShoulds 10 = .ok (.invokevirtual 133, 3) := by decide +kernel
theorem dX0_costOfShoulds_13 : decode cX0_costOfShoulds 13 = .ok (.if_icmp .ge 39, 3) := by decide +kernel
theorem dX0_costOfShoulds_16 : decode cX0_costOfShoulds 16 = .ok (.aload_n 0, 1) := by decide +kernel
theorem dX0_costOfShoulds_17 : decode cX0_costOfShoulds 17 = .ok (.getfield 36, 3) := by decide +kernel
theorem dX0_costOfShoulds_20 : decode cX0_costOfShoulds 20 = .ok (.iload_n 1, 1) := by decide +kernel
theorem dX0_costOfShoulds_21 : decode cX0_costOfShoulds 21 = .ok (.iload_n 3, 1) := by decide +kernel
theorem dX0_costOfShoulds_22 : decode cX0_costOfShoulds 22 = .ok (.invokevirtual 153, 3) := by decide +kernel
theorem dX0_costOfShoulds_25 : decode cX0_costOfShoulds 25 = .ok (.iconst 3, 1) := by decide +kernel
theorem dX0_costOfShoulds_26 : decode cX0_costOfShoulds 26 = .ok (.if_icmp .ne 20, 3) := by decide +kernel
theorem dX0_costOfShoulds_29 : decode cX0_costOfShoulds 29 = .ok (.iload_n 2, 1) := by decide +kernel
theorem dX0_costOfShoulds_30 : decode cX0_costOfShoulds 30 = .ok (.aload_n 0, 1) := by decide +kernel
theorem dX0_costOfShoulds_31 : decode cX0_costOfShoulds 31 = .ok (.getfield 21, 3) := by decide +kernel
theorem dX0_costOfShoulds_34 : decode cX0_costOfShoulds 34 = .ok (.aload_n 0, 1) := by decide +kernel
theorem dX0_costOfShoulds_35 : decode cX0_costOfShoulds 35 = .ok (.getfield 36, 3) := by decide +kernel
theorem dX0_costOfShoulds_38 : decode cX0_costOfShoulds 38 = .ok (.iload_n 1, 1) := by decide +kernel
theorem dX0_costOfShoulds_39 : decode cX0_costOfShoulds 39 = .ok (.iload_n 3, 1) := by decide +kernel
theorem dX0_costOfShoulds_40 : decode cX0_costOfShoulds 40 = .ok (.invokevirtual 92, 3) := by decide +kernel
theorem dX0_costOfShoulds_43 : decode cX0_costOfShoulds 43 = .ok (.iaload, 1) := by decide +kernel
theorem dX0_costOfShoulds_44 : decode cX0_costOfShoulds 44 = .ok (.iadd, 1) := by decide +kernel
theorem dX0_costOfShoulds_45 : decode cX0_costOfShoulds 45 = .ok (.istore_n 2, 1) := by decide +kernel
theorem dX0_costOfShoulds_46 : decode cX0_costOfShoulds 46 = .ok (.iinc 3 1, 3) := by decide +kernel
theorem dX0_costOfShoulds_49 : decode cX0_costOfShoulds 49 = .ok (.goto (-45), 3) := by decide +kernel
theorem dX0_costOfShoulds_52 : decode cX0_costOfShoulds 52 = .ok (.iload_n 2, 1) := by decide +kernel
theorem dX0_costOfShoulds_53 : decode cX0_costOfShoulds 53 = .ok (.sipush 512, 3) := by decide +kernel
theorem dX0_costOfShoulds_56 : decode cX0_costOfShoulds 56 = .ok (.invokestatic 52, 3) := by decide +kernel
theorem dX0_costOfShoulds_59 : decode cX0_costOfShoulds 59 = .ok (.ireturn, 1) := by decide +kernel
theorem dX0_arrange_0 : decode cX0_arrange 0 = .ok (.iload_n 1, 1) := by decide +kernel
theorem dX0_arrange_1 : decode cX0_arrange 1 = .ok (.bipush 8, 2) := by decide +kernel
theorem dX0_arrange_3 : decode cX0_arrange 3 = .ok (.imul, 1) := by decide +kernel
theorem dX0_arrange_4 : decode cX0_arrange 4 = .ok (.istore_n 2, 1) := by decide +kernel
theorem dX0_arrange_5 : decode cX0_arrange 5 = .ok (.iconst 0, 1) := by decide +kernel
theorem dX0_arrange_6 : decode cX0_arrange 6 = .ok (.istore_n 3, 1) := by decide +kernel
theorem dX0_arrange_7 : decode cX0_arrange 7 = .ok (.iload_n 3, 1) := by decide +kernel
theorem dX0_arrange_8 : decode cX0_arrange 8 = .ok (.aload_n 0, 1) := by decide +kernel
theorem dX0_arrange_9 : decode cX0_arrange 9 = .ok (.getfield 36, 3) := by decide +kernel
theorem dX0_arrange_12 : decode cX0_arrange 12 = .ok (.iload_n 1, 1) := by decide +kernel
theorem dX0_arrange_13 : decode cX0_arrange 13 = .ok (.invokevirtual 133, 3) := by decide +kernel
theorem dX0_arrange_16 : decode cX0_arrange 16 = .ok (.if_icmp .ge 77, 3) := by decide +kernel
theorem dX0_arrange_19 : decode cX0_arrange 19 = .ok (.aload_n 0, 1) := by decide +kernel
theorem dX0_arrange_20 : decode cX0_arrange 20 = .ok (.iload_n 1, 1) := by decide +kernel
theorem dX0_arrange_21 : decode cX0_arrange 21 = .ok (.iload_n 3, 1) := by decide +kernel
theorem dX0_arrange_22 : decode cX0_arrange 22 = .ok (.invokevirtual 174, 3) := by decide +kernel
theorem dX0_arrange_25 : decode cX0_arrange 25 = .ok (.istore 4, 2) := by decide +kernel
theorem dX0_arrange_27 : decode cX0_arrange 27 = .ok (.iload_n 2, 1) := by decide +kernel
theorem dX0_arrange_28 : decode cX0_arrange 28 = .ok (.iload_n 3, 1) := by decide +kernel
theorem dX0_arrange_29 : decode cX0_arrange 29 = .ok (.iadd, 1) := by decide +kernel
theorem dX0_arrange_30 : decode cX0_arrange 30 = .ok (.istore 5, 2) := by decide +kernel
theorem dX0_arrange_32 : decode cX0_arrange 32 = .ok (.iload 5, 2) := by decide +kernel
theorem dX0_arrange_34 : decode cX0_arrange 34 = .ok (.iload_n 2, 1) := by decide +kernel
theorem dX0_arrange_35 : decode cX0_arrange 35 = .ok (.if_icmp .le 44, 3) := by decide +kernel
theorem dX0_arrange_38 : decode cX0_arrange 38 = .ok (.aload_n 0, 1) := by decide +kernel
theorem dX0_arrange_39 : decode cX0_arrange 39 = .ok (.iload_n 1, 1) := by decide +kernel
theorem dX0_arrange_40 : decode cX0_arrange 40 = .ok (.aload_n 0, 1) := by decide +kernel
theorem dX0_arrange_41 : decode cX0_arrange 41 = .ok (.getfield 25, 3) := by decide +kernel
theorem dX0_arrange_44 : decode cX0_arrange 44 = .ok (.iload 5, 2) := by decide +kernel
theorem dX0_arrange_46 : decode cX0_arrange 46 = .ok (.iconst 1, 1) := by decide +kernel
theorem dX0_arrange_47 : decode cX0_arrange 47 = .ok (.isub, 1) := by decide +kernel
theorem dX0_arrange_48 : decode cX0_arrange 48 = .ok (.iaload, 1) := by decide +kernel
theorem dX0_arrange_49 : decode cX0_arrange 49 = .ok (.invokevirtual 174, 3) := by decide +kernel
theorem dX0_arrange_52 : decode cX0_arrange 52 = .ok (.iload 4, 2) := by decide +kernel
theorem dX0_arrange_54 : decode cX0_arrange 54 = .ok (.if_icmp .le 25, 3) := by decide +kernel
theorem dX0_arrange_57 : decode cX0_arrange 57 = .ok (.aload_n 0, 1) := by decide +kernel
theorem dX0_arrange_58 : decode cX0_arrange 58 = .ok (.getfield 25, 3) := by decide +kernel
theorem dX0_arrange_61 : decode cX0_arrange 61 = .ok (.iload 5, 2) := by decide +kernel
theorem dX0_arrange_63 : decode cX0_arrange 63 = .ok (.aload_n 0, 1) := by decide +kernel
theorem dX0_arrange_64 : decode cX0_arrange 64 = .ok (.getfield 25, 3) := by decide +kernel
theorem dX0_arrange_67 : decode cX0_arrange 67 = .ok (.iload 5, 2) := by decide +kernel
theorem dX0_arrange_69 : decode cX0_arrange 69 = .ok (.iconst 1, 1) := by decide +kernel
theorem dX0_arrange_70 : decode cX0_arrange 70 = .ok (.isub, 1) := by decide +kernel
theorem dX0_arrange_71 : decode cX0_arrange 71 = .ok (.iaload, 1) := by decide +kernel
theorem dX0_arrange_72 : decode cX0_arrange 72 = .ok (.iastore, 1) := by decide +kernel
theorem dX0_arrange_73 : decode cX0_arrange 73 = .ok (.iinc 5 (-1), 3) := by decide +kernel
theorem dX0_arrange_76 : decode cX0_arrange 76 = .ok (.goto (-44), 3) := by decide +kernel
theorem dX0_arrange_79 : decode cX0_arrange 79 = .ok (.aload_n 0, 1) := by decide +kernel
theorem dX0_arrange_80 : decode cX0_arrange 80 = .ok (.getfield 25, 3) := by decide +kernel
theorem dX0_arrange_83 : decode cX0_arrange 83 = .ok (.iload 5, 2) := by decide +kernel
theorem dX0_arrange_85 : decode cX0_arrange 85 = .ok (.iload_n 3, 1) := by decide +kernel
theorem dX0_arrange_86 : decode cX0_arrange 86 = .ok (.iastore, 1) := by decide +kernel
theorem dX0_arrange_87 : decode cX0_arrange 87 = .ok (.iinc 3 1, 3) := by decide +kernel
theorem dX0_arrange_90 : decode cX0_arrange 90 = .ok (.goto (-83), 3) := by decide +kernel
theorem dX0_arrange_93 : decode cX0_arrange 93 = .ok (.return_, 1) := by decide +kernel
theorem dX0_rankOf_0 : decode cX0_rankOf 0 = .ok (.aload_n 0, 1) := by decide +kernel
theorem dX0_rankOf_1 : decode cX0_rankOf 1 = .ok (.getfield 36, 3) := by decide +kernel
theorem dX0_rankOf_4 : decode cX0_rankOf 4 = .ok (.iload_n 1, 1) := by decide +kernel
theorem dX0_rankOf_5 : decode cX0_rankOf 5 = .ok (.iload_n 2, 1) := by decide +kernel
theorem dX0_rankOf_6 : decode cX0_rankOf 6 = .ok (.invokevirtual 153, 3) := by decide +kernel
theorem dX0_rankOf_9 : decode cX0_rankOf 9 = .ok (.istore_n 3, 1) := by decide +kernel
theorem dX0_rankOf_10 : decode cX0_rankOf 10 = .ok (.iload_n 3, 1) := by decide +kernel
theorem dX0_rankOf_11 : decode cX0_rankOf 11 = .ok (.invokestatic 171, 3) := by decide +kernel
theorem dX0_rankOf_14 : decode cX0_rankOf 14 = .ok (.ifCond .eq 20, 3) := by decide +kernel
theorem dX0_rankOf_17 : decode cX0_rankOf 17 = .ok (.aload_n 0, 1) := by decide +kernel
theorem dX0_rankOf_18 : decode cX0_rankOf 18 = .ok (.getfield 21, 3) := by decide +kernel
theorem dX0_rankOf_21 : decode cX0_rankOf 21 = .ok (.aload_n 0, 1) := by decide +kernel
theorem dX0_rankOf_22 : decode cX0_rankOf 22 = .ok (.getfield 36, 3) := by decide +kernel
theorem dX0_rankOf_25 : decode cX0_rankOf 25 = .ok (.iload_n 1, 1) := by decide +kernel
theorem dX0_rankOf_26 : decode cX0_rankOf 26 = .ok (.iload_n 2, 1) := by decide +kernel
theorem dX0_rankOf_27 : decode cX0_rankOf 27 = .ok (.invokevirtual 92, 3) := by decide +kernel
theorem dX0_rankOf_30 : decode cX0_rankOf 30 = .ok (.iaload, 1) := by decide +kernel
theorem dX0_rankOf_31 : decode cX0_rankOf 31 = .ok (.goto 8, 3) := by decide +kernel
theorem dX0_rankOf_34 : decode cX0_rankOf 34 = .ok (.sipush 512, 3) := by decide +kernel
theorem dX0_rankOf_37 : decode cX0_rankOf 37 = .ok (.iload_n 3, 1) := by decide +kernel
theorem dX0_rankOf_38 : decode cX0_rankOf 38 = .ok (.iadd, 1) := by decide +kernel
theorem dX0_rankOf_39 : decode cX0_rankOf 39 = .ok (.ireturn, 1) := by decide +kernel
theorem dX1_init_0 : decode cX1_init 0 = .ok (.aload_n 0, 1) := by decide +kernel
theorem dX1_init_1 : decode cX1_init 1 = .ok (.invokespecial 3, 3) := by decide +kernel
theorem dX1_init_4 : decode cX1_init 4 = .ok (.aload_n 0, 1) := by decide +kernel
theorem dX1_init_5 : decode cX1_init 5 = .ok (.sipush 512, 3) := by decide +kernel
theorem dX1_init_8 : decode cX1_init 8 = .ok (.newarray .int, 2) := by decide +kernel
theorem dX1_init_10 : decode cX1_init 10 = .ok (.putfield 9, 3) := by decide +kernel
theorem dX1_init_13 : decode cX1_init 13 = .ok (.aload_n 0, 1) := by decide +kernel
theorem dX1_init_14 : decode cX1_init 14 = .ok (.sipush 512, 3) := by decide +kernel
theorem dX1_init_17 : decode cX1_init 17 = .ok (.newarray .long, 2) := by decide +kernel
theorem dX1_init_19 : decode cX1_init 19 = .ok (.putfield 15, 3) := by decide +kernel
theorem dX1_init_22 : decode cX1_init 22 = .ok (.return_, 1) := by decide +kernel
theorem dX1_size_0 : decode cX1_size 0 = .ok (.aload_n 0, 1) := by decide +kernel
theorem dX1_size_1 : decode cX1_size 1 = .ok (.getfield 19, 3) := by decide +kernel
theorem dX1_size_4 : decode cX1_size 4 = .ok (.ireturn, 1) := by decide +kernel
theorem dX1_has_0 : decode cX1_has 0 = .ok (.iload_n 1, 1) := by decide +kernel
theorem dX1_has_1 : decode cX1_has 1 = .ok (.ifCond .lt 15, 3) := by decide +kernel
theorem dX1_has_4 : decode cX1_has 4 = .ok (.iload_n 1, 1) := by decide +kernel
theorem dX1_has_5 : decode cX1_has 5 = .ok (.aload_n 0, 1) := by decide +kernel
theorem dX1_has_6 : decode cX1_has 6 = .ok (.getfield 19, 3) := by decide +kernel
theorem dX1_has_9 : decode cX1_has 9 = .ok (.if_icmp .ge 7, 3) := by decide +kernel
theorem dX1_has_12 : decode cX1_has 12 = .ok (.iconst 1, 1) := by decide +kernel
theorem dX1_has_13 : decode cX1_has 13 = .ok (.goto 4, 3) := by decide +kernel
theorem dX1_has_16 : decode cX1_has 16 = .ok (.iconst 0, 1) := by decide +kernel
theorem dX1_has_17 : decode cX1_has 17 = .ok (.ireturn, 1) := by decide +kernel
theorem dX1_objectAt_0 : decode cX1_objectAt 0 = .ok (.aload_n 0, 1) := by decide +kernel
theorem dX1_objectAt_1 : decode cX1_objectAt 1 = .ok (.getfield 9, 3) := by decide +kernel
theorem dX1_objectAt_4 : decode cX1_objectAt 4 = .ok (.iload_n 1, 1) := by decide +kernel
theorem dX1_objectAt_5 : decode cX1_objectAt 5 = .ok (.iaload, 1) := by decide +kernel
theorem dX1_objectAt_6 : decode cX1_objectAt 6 = .ok (.ireturn, 1) := by decide +kernel
theorem dX1_scoreAt_0 : decode cX1_scoreAt 0 = .ok (.aload_n 0, 1) := by decide +kernel
theorem dX1_scoreAt_1 : decode cX1_scoreAt 1 = .ok (.getfield 15, 3) := by decide +kernel
theorem dX1_scoreAt_4 : decode cX1_scoreAt 4 = .ok (.iload_n 1, 1) := by decide +kernel
theorem dX1_scoreAt_5 : decode cX1_scoreAt 5 = .ok (.laload, 1) := by decide +kernel
theorem dX1_scoreAt_6 : decode cX1_scoreAt 6 = .ok (.lreturn, 1) := by decide +kernel
theorem dX1_clear_0 : decode cX1_clear 0 = .ok (.aload_n 0, 1) := by decide +kernel
theorem dX1_clear_1 : decode cX1_clear 1 = .ok (.iconst 0, 1) := by decide +kernel
theorem dX1_clear_2 : decode cX1_clear 2 = .ok (.putfield 19, 3) := by decide +kernel
theorem dX1_clear_5 : decode cX1_clear 5 = .ok (.return_, 1) := by decide +kernel
theorem dX1_add_0 : decode cX1_add 0 = .ok (.aload_n 0, 1) := by decide +kernel
theorem dX1_add_1 : decode cX1_add 1 = .ok (.getfield 19, 3) := by decide +kernel
theorem dX1_add_4 : decode cX1_add 4 = .ok (.sipush 512, 3) := by decide +kernel
theorem dX1_add_7 : decode cX1_add 7 = .ok (.if_icmp .ge 33, 3) := by decide +kernel
theorem dX1_add_10 : decode cX1_add 10 = .ok (.aload_n 0, 1) := by decide +kernel
theorem dX1_add_11 : decode cX1_add 11 = .ok (.getfield 9, 3) := by decide +kernel
theorem dX1_add_14 : decode cX1_add 14 = .ok (.aload_n 0, 1) := by decide +kernel
theorem dX1_add_15 : decode cX1_add 15 = .ok (.getfield 19, 3) := by decide +kernel
theorem dX1_add_18 : decode cX1_add 18 = .ok (.iload_n 1, 1) := by decide +kernel
theorem dX1_add_19 : decode cX1_add 19 = .ok (.iastore, 1) := by decide +kernel
theorem dX1_add_20 : decode cX1_add 20 = .ok (.aload_n 0, 1) := by decide +kernel
theorem dX1_add_21 : decode cX1_add 21 = .ok (.getfield 15, 3) := by decide +kernel
theorem dX1_add_24 : decode cX1_add 24 = .ok (.aload_n 0, 1) := by decide +kernel
theorem dX1_add_25 : decode cX1_add 25 = .ok (.getfield 19, 3) := by decide +kernel
theorem dX1_add_28 : decode cX1_add 28 = .ok (.lload_n 2, 1) := by decide +kernel
theorem dX1_add_29 : decode cX1_add 29 = .ok (.lastore, 1) := by decide +kernel
theorem dX1_add_30 : decode cX1_add 30 = .ok (.aload_n 0, 1) := by decide +kernel
theorem dX1_add_31 : decode cX1_add 31 = .ok (.dup, 1) := by decide +kernel
theorem dX1_add_32 : decode cX1_add 32 = .ok (.getfield 19, 3) := by decide +kernel
theorem dX1_add_35 : decode cX1_add 35 = .ok (.iconst 1, 1) := by decide +kernel
theorem dX1_add_36 : decode cX1_add 36 = .ok (.iadd, 1) := by decide +kernel
theorem dX1_add_37 : decode cX1_add 37 = .ok (.putfield 19, 3) := by decide +kernel
theorem dX1_add_40 : decode cX1_add 40 = .ok (.return_, 1) := by decide +kernel
theorem dX2_init_0 : decode cX2_init 0 = .ok (.aload_n 0, 1) := by decide +kernel
theorem dX2_init_1 : decode cX2_init 1 = .ok (.invokespecial 3, 3) := by decide +kernel
theorem dX2_init_4 : decode cX2_init 4 = .ok (.aload_n 0, 1) := by decide +kernel
theorem dX2_init_5 : decode cX2_init 5 = .ok (.bipush 8, 2) := by decide +kernel
theorem dX2_init_7 : decode cX2_init 7 = .ok (.newarray .boolean, 2) := by decide +kernel
theorem dX2_init_9 : decode cX2_init 9 = .ok (.putfield 9, 3) := by decide +kernel
theorem dX2_init_12 : decode cX2_init 12 = .ok (.aload_n 0, 1) := by decide +kernel
theorem dX2_init_13 : decode cX2_init 13 = .ok (.bipush 8, 2) := by decide +kernel
theorem dX2_init_15 : decode cX2_init 15 = .ok (.newarray .int, 2) := by decide +kernel
theorem dX2_init_17 : decode cX2_init 17 = .ok (.putfield 15, 3) := by decide +kernel
theorem dX2_init_20 : decode cX2_init 20 = .ok (.aload_n 0, 1) := by decide +kernel
theorem dX2_init_21 : decode cX2_init 21 = .ok (.bipush 8, 2) := by decide +kernel
theorem dX2_init_23 : decode cX2_init 23 = .ok (.newarray .int, 2) := by decide +kernel
theorem dX2_init_25 : decode cX2_init 25 = .ok (.putfield 19, 3) := by decide +kernel
theorem dX2_init_28 : decode cX2_init 28 = .ok (.aload_n 0, 1) := by decide +kernel
theorem dX2_init_29 : decode cX2_init 29 = .ok (.bipush 8, 2) := by decide +kernel
theorem dX2_init_31 : decode cX2_init 31 = .ok (.newarray .int, 2) := by decide +kernel
theorem dX2_init_33 : decode cX2_init 33 = .ok (.putfield 22, 3) := by decide +kernel
theorem dX2_init_36 : decode cX2_init 36 = .ok (.return_, 1) := by decide +kernel
theorem dX2_isOpen_0 : decode cX2_isOpen 0 = .ok (.iload_n 1, 1) := by decide +kernel
theorem dX2_isOpen_1 : decode cX2_isOpen 1 = .ok (.bipush 7, 2) := by decide +kernel
theorem dX2_isOpen_3 : decode cX2_isOpen 3 = .ok (.invokestatic 25, 3) := by decide +kernel
theorem dX2_isOpen_6 : decode cX2_isOpen 6 = .ok (.ifCond .eq 16, 3) := by decide +kernel
theorem dX2_isOpen_9 : decode cX2_isOpen 9 = .ok (.aload_n 0, 1) := by decide +kernel
theorem dX2_isOpen_10 : decode cX2_isOpen 10 = .ok (.getfield 9, 3) := by decide +kernel
theorem dX2_isOpen_13 : decode cX2_isOpen 13 = .ok (.iload_n 1, 1) := by decide +kernel
theorem dX2_isOpen_14 : decode cX2_isOpen 14 = .ok (.baload, 1) := by decide +kernel
theorem dX2_isOpen_15 : decode cX2_isOpen 15 = .ok (.ifCond .eq 7, 3) := by decide +kernel
theorem dX2_isOpen_18 : decode cX2_isOpen 18 = .ok (.iconst 1, 1) := by decide +kernel
theorem dX2_isOpen_19 : decode cX2_isOpen 19 = .ok (.goto 4, 3) := by decide +kernel
theorem dX2_isOpen_22 : decode cX2_isOpen 22 = .ok (.iconst 0, 1) := by decide +kernel
theorem dX2_isOpen_23 : decode cX2_isOpen 23 = .ok (.ireturn, 1) := by decide +kernel
theorem dX2_nodeOf_0 : decode cX2_nodeOf 0 = .ok (.aload_n 0, 1) := by decide +kernel
theorem dX2_nodeOf_1 : decode cX2_nodeOf 1 = .ok (.getfield 15, 3) := by decide +kernel
theorem dX2_nodeOf_4 : decode cX2_nodeOf 4 = .ok (.iload_n 1, 1) := by decide +kernel
theorem dX2_nodeOf_5 : decode cX2_nodeOf 5 = .ok (.iaload, 1) := by decide +kernel
theorem dX2_nodeOf_6 : decode cX2_nodeOf 6 = .ok (.ireturn, 1) := by decide +kernel
theorem dX2_standOf_0 : decode cX2_standOf 0 = .ok (.aload_n 0, 1) := by decide +kernel
theorem dX2_standOf_1 : decode cX2_standOf 1 = .ok (.getfield 19, 3) := by decide +kernel
theorem dX2_standOf_4 : decode cX2_standOf 4 = .ok (.iload_n 1, 1) := by decide +kernel
theorem dX2_standOf_5 : decode cX2_standOf 5 = .ok (.iaload, 1) := by decide +kernel
theorem dX2_standOf_6 : decode cX2_standOf 6 = .ok (.ireturn, 1) := by decide +kernel
theorem dX2_start_0 : decode cX2_start 0 = .ok (.iconst 0, 1) := by decide +kernel
theorem dX2_start_1 : decode cX2_start 1 = .ok (.istore_n 2, 1) := by decide +kernel
theorem dX2_start_2 : decode cX2_start 2 = .ok (.iload_n 2, 1) := by decide +kernel
theorem dX2_start_3 : decode cX2_start 3 = .ok (.bipush 8, 2) := by decide +kernel
theorem dX2_start_5 : decode cX2_start 5 = .ok (.if_icmp .ge 48, 3) := by decide +kernel
theorem dX2_start_8 : decode cX2_start 8 = .ok (.aload_n 0, 1) := by decide +kernel
theorem dX2_start_9 : decode cX2_start 9 = .ok (.getfield 9, 3) := by decide +kernel
theorem dX2_start_12 : decode cX2_start 12 = .ok (.iload_n 2, 1) := by decide +kernel
theorem dX2_start_13 : decode cX2_start 13 = .ok (.baload, 1) := by decide +kernel
theorem dX2_start_14 : decode cX2_start 14 = .ok (.ifCond .ne 33, 3) := by decide +kernel
theorem dX2_start_17 : decode cX2_start 17 = .ok (.aload_n 0, 1) := by decide +kernel
theorem dX2_start_18 : decode cX2_start 18 = .ok (.getfield 9, 3) := by decide +kernel
theorem dX2_start_21 : decode cX2_start 21 = .ok (.iload_n 2, 1) := by decide +kernel
theorem dX2_start_22 : decode cX2_start 22 = .ok (.iconst 1, 1) := by decide +kernel
theorem dX2_start_23 : decode cX2_start 23 = .ok (.bastore, 1) := by decide +kernel
theorem dX2_start_24 : decode cX2_start 24 = .ok (.aload_n 0, 1) := by decide +kernel
theorem dX2_start_25 : decode cX2_start 25 = .ok (.getfield 15, 3) := by decide +kernel
theorem dX2_start_28 : decode cX2_start 28 = .ok (.iload_n 2, 1) := by decide +kernel
theorem dX2_start_29 : decode cX2_start 29 = .ok (.iload_n 1, 1) := by decide +kernel
theorem dX2_start_30 : decode cX2_start 30 = .ok (.iastore, 1) := by decide +kernel
theorem dX2_start_31 : decode cX2_start 31 = .ok (.aload_n 0, 1) := by decide +kernel
theorem dX2_start_32 : decode cX2_start 32 = .ok (.getfield 19, 3) := by decide +kernel
theorem dX2_start_35 : decode cX2_start 35 = .ok (.iload_n 2, 1) := by decide +kernel
theorem dX2_start_36 : decode cX2_start 36 = .ok (.iconst (-1), 1) := by decide +kernel
theorem dX2_start_37 : decode cX2_start 37 = .ok (.iastore, 1) := by decide +kernel
theorem dX2_start_38 : decode cX2_start 38 = .ok (.aload_n 0, 1) := by decide +kernel
theorem dX2_start_39 : decode cX2_start 39 = .ok (.getfield 22, 3) := by decide +kernel
theorem dX2_start_42 : decode cX2_start 42 = .ok (.iload_n 2, 1) := by decide +kernel
theorem dX2_start_43 : decode cX2_start 43 = .ok (.iconst 0, 1) := by decide +kernel
theorem dX2_start_44 : decode cX2_start 44 = .ok (.iastore, 1) := by decide +kernel
theorem dX2_start_45 : decode cX2_start 45 = .ok (.iload_n 2, 1) := by decide +kernel
theorem dX2_start_46 : decode cX2_start 46 = .ok (.ireturn, 1) := by decide +kernel
theorem dX2_start_47 : decode cX2_start 47 = .ok (.iinc 2 1, 3) := by decide +kernel
theorem dX2_start_50 : decode cX2_start 50 = .ok (.goto (-48), 3) := by decide +kernel
theorem dX2_start_53 : decode cX2_start 53 = .ok (.bipush (-3), 2) := by decide +kernel
theorem dX2_start_55 : decode cX2_start 55 = .ok (.ireturn, 1) := by decide +kernel
theorem dX2_stopAt_0 : decode cX2_stopAt 0 = .ok (.aload_n 0, 1) := by decide +kernel
theorem dX2_stopAt_1 : decode cX2_stopAt 1 = .ok (.getfield 19, 3) := by decide +kernel
theorem dX2_stopAt_4 : decode cX2_stopAt 4 = .ok (.iload_n 1, 1) := by decide +kernel
theorem dX2_stopAt_5 : decode cX2_stopAt 5 = .ok (.iload_n 2, 1) := by decide +kernel
theorem dX2_stopAt_6 : decode cX2_stopAt 6 = .ok (.iastore, 1) := by decide +kernel
theorem dX2_stopAt_7 : decode cX2_stopAt 7 = .ok (.aload_n 0, 1) := by decide +kernel
theorem dX2_stopAt_8 : decode cX2_stopAt 8 = .ok (.getfield 22, 3) := by decide +kernel
theorem dX2_stopAt_11 : decode cX2_stopAt 11 = .ok (.iload_n 1, 1) := by decide +kernel
theorem dX2_stopAt_12 : decode cX2_stopAt 12 = .ok (.dup2, 1) := by decide +kernel
theorem dX2_stopAt_13 : decode cX2_stopAt 13 = .ok (.iaload, 1) := by decide +kernel
theorem dX2_stopAt_14 : decode cX2_stopAt 14 = .ok (.iconst 1, 1) := by decide +kernel
theorem dX2_stopAt_15 : decode cX2_stopAt 15 = .ok (.iadd, 1) := by decide +kernel
theorem dX2_stopAt_16 : decode cX2_stopAt 16 = .ok (.iastore, 1) := by decide +kernel
theorem dX2_stopAt_17 : decode cX2_stopAt 17 = .ok (.return_, 1) := by decide +kernel
theorem dX2_finish_0 : decode cX2_finish 0 = .ok (.aload_n 0, 1) := by decide +kernel
theorem dX2_finish_1 : decode cX2_finish 1 = .ok (.getfield 19, 3) := by decide +kernel
theorem dX2_finish_4 : decode cX2_finish 4 = .ok (.iload_n 1, 1) := by decide +kernel
theorem dX2_finish_5 : decode cX2_finish 5 = .ok (.sipush 511, 3) := by decide +kernel
theorem dX2_finish_8 : decode cX2_finish 8 = .ok (.iastore, 1) := by decide +kernel
theorem dX2_finish_9 : decode cX2_finish 9 = .ok (.return_, 1) := by decide +kernel
theorem dX2_end_0 : decode cX2_end 0 = .ok (.aload_n 0, 1) := by decide +kernel
theorem dX2_end_1 : decode cX2_end 1 = .ok (.getfield 9, 3) := by decide +kernel
theorem dX2_end_4 : decode cX2_end 4 = .ok (.iload_n 1, 1) := by decide +kernel
theorem dX2_end_5 : decode cX2_end 5 = .ok (.iconst 0, 1) := by decide +kernel
theorem dX2_end_6 : decode cX2_end 6 = .ok (.bastore, 1) := by decide +kernel
theorem dX2_end_7 : decode cX2_end 7 = .ok (.aload_n 0, 1) := by decide +kernel
theorem dX2_end_8 : decode cX2_end 8 = .ok (.getfield 22, 3) := by decide +kernel
theorem dX2_end_11 : decode cX2_end 11 = .ok (.iload_n 1, 1) := by decide +kernel
theorem dX2_end_12 : decode cX2_end 12 = .ok (.iaload, 1) := by decide +kernel
theorem dX2_end_13 : decode cX2_end 13 = .ok (.ireturn, 1) := by decide +kernel
theorem dX2_countOpen_0 : decode cX2_countOpen 0 = .ok (.iconst 0, 1) := by decide +kernel
theorem dX2_countOpen_1 : decode cX2_countOpen 1 = .ok (.istore_n 1, 1) := by decide +kernel
theorem dX2_countOpen_2 : decode cX2_countOpen 2 = .ok (.iconst 0, 1) := by decide +kernel
theorem dX2_countOpen_3 : decode cX2_countOpen 3 = .ok (.istore_n 2, 1) := by decide +kernel
theorem dX2_countOpen_4 : decode cX2_countOpen 4 = .ok (.iload_n 2, 1) := by decide +kernel
theorem dX2_countOpen_5 : decode cX2_countOpen 5 = .ok (.bipush 8, 2) := by decide +kernel
theorem dX2_countOpen_7 : decode cX2_countOpen 7 = .ok (.if_icmp .ge 21, 3) := by decide +kernel
theorem dX2_countOpen_10 : decode cX2_countOpen 10 = .ok (.aload_n 0, 1) := by decide +kernel
theorem dX2_countOpen_11 : decode cX2_countOpen 11 = .ok (.getfield 9, 3) := by decide +kernel
theorem dX2_countOpen_14 : decode cX2_countOpen 14 = .ok (.iload_n 2, 1) := by decide +kernel
theorem dX2_countOpen_15 : decode cX2_countOpen 15 = .ok (.baload, 1) := by decide +kernel
theorem dX2_countOpen_16 : decode cX2_countOpen 16 = .ok (.ifCond .eq 6, 3) := by decide +kernel
theorem dX2_countOpen_19 : decode cX2_countOpen 19 = .ok (.iinc 1 1, 3) := by decide +kernel
theorem dX2_countOpen_22 : decode cX2_countOpen 22 = .ok (.iinc 2 1, 3) := by decide +kernel
theorem dX2_countOpen_25 : decode cX2_countOpen 25 = .ok (.goto (-21), 3) := by decide +kernel
theorem dX2_countOpen_28 : decode cX2_countOpen 28 = .ok (.iload_n 1, 1) := by decide +kernel
theorem dX2_countOpen_29 : decode cX2_countOpen 29 = .ok (.ireturn, 1) := by decide +kernel
theorem dX3_init_0 : decode cX3_init 0 = .ok (.aload_n 0, 1) := by decide +kernel
theorem dX3_init_1 : decode cX3_init 1 = .ok (.invokespecial 3, 3) := by decide +kernel
theorem dX3_init_4 : decode cX3_init 4 = .ok (.aload_n 0, 1) := by decide +kernel
theorem dX3_init_5 : decode cX3_init 5 = .ok (.sipush 960, 3) := by decide +kernel
theorem dX3_init_8 : decode cX3_init 8 = .ok (.newarray .int, 2) := by decide +kernel
theorem dX3_init_10 : decode cX3_init 10 = .ok (.putfield 9, 3) := by decide +kernel
theorem dX3_init_13 : decode cX3_init 13 = .ok (.aload_n 0, 1) := by decide +kernel
theorem dX3_init_14 : decode cX3_init 14 = .ok (.sipush 960, 3) := by decide +kernel
theorem dX3_init_17 : decode cX3_init 17 = .ok (.newarray .int, 2) := by decide +kernel
theorem dX3_init_19 : decode cX3_init 19 = .ok (.putfield 15, 3) := by decide +kernel
theorem dX3_init_22 : decode cX3_init 22 = .ok (.aload_n 0, 1) := by decide +kernel
theorem dX3_init_23 : decode cX3_init 23 = .ok (.bipush 16, 2) := by decide +kernel
theorem dX3_init_25 : decode cX3_init 25 = .ok (.newarray .int, 2) := by decide +kernel
theorem dX3_init_27 : decode cX3_init 27 = .ok (.putfield 18, 3) := by decide +kernel
theorem dX3_init_30 : decode cX3_init 30 = .ok (.return_, 1) := by decide +kernel
theorem dX3_size_0 : decode cX3_size 0 = .ok (.aload_n 0, 1) := by decide +kernel
theorem dX3_size_1 : decode cX3_size 1 = .ok (.getfield 18, 3) := by decide +kernel
theorem dX3_size_4 : decode cX3_size 4 = .ok (.iload_n 1, 1) := by decide +kernel
theorem dX3_size_5 : decode cX3_size 5 = .ok (.iaload, 1) := by decide +kernel
theorem dX3_size_6 : decode cX3_size 6 = .ok (.ireturn, 1) := by decide +kernel
theorem dX3_objectAt_0 : decode cX3_objectAt 0 = .ok (.aload_n 0, 1) := by decide +kernel
theorem dX3_objectAt_1 : decode cX3_objectAt 1 = .ok (.getfield 9, 3) := by decide +kernel
theorem dX3_objectAt_4 : decode cX3_objectAt 4 = .ok (.iload_n 1, 1) := by decide +kernel
theorem dX3_objectAt_5 : decode cX3_objectAt 5 = .ok (.bipush 60, 2) := by decide +kernel
theorem dX3_objectAt_7 : decode cX3_objectAt 7 = .ok (.imul, 1) := by decide +kernel
theorem dX3_objectAt_8 : decode cX3_objectAt 8 = .ok (.iload_n 2, 1) := by decide +kernel
theorem dX3_objectAt_9 : decode cX3_objectAt 9 = .ok (.iadd, 1) := by decide +kernel
theorem dX3_objectAt_10 : decode cX3_objectAt 10 = .ok (.iaload, 1) := by decide +kernel
theorem dX3_objectAt_11 : decode cX3_objectAt 11 = .ok (.ireturn, 1) := by decide +kernel
theorem dX3_placeOf_0 : decode cX3_placeOf 0 = .ok (.iload_n 1, 1) := by decide +kernel
theorem dX3_placeOf_1 : decode cX3_placeOf 1 = .ok (.bipush 60, 2) := by decide +kernel
theorem dX3_placeOf_3 : decode cX3_placeOf 3 = .ok (.imul, 1) := by decide +kernel
theorem dX3_placeOf_4 : decode cX3_placeOf 4 = .ok (.istore_n 3, 1) := by decide +kernel
theorem dX3_placeOf_5 : decode cX3_placeOf 5 = .ok (.iload_n 3, 1) := by decide +kernel
theorem dX3_placeOf_6 : decode cX3_placeOf 6 = .ok (.aload_n 0, 1) := by decide +kernel
theorem dX3_placeOf_7 : decode cX3_placeOf 7 = .ok (.getfield 18, 3) := by decide +kernel
theorem dX3_placeOf_10 : decode cX3_placeOf 10 = .ok (.iload_n 1, 1) := by decide +kernel
theorem dX3_placeOf_11 : decode cX3_placeOf 11 = .ok (.iaload, 1) := by decide +kernel
theorem dX3_placeOf_12 : decode cX3_placeOf 12 = .ok (.iadd, 1) := by decide +kernel
theorem dX3_placeOf_13 : decode cX3_placeOf 13 = .ok (.istore 4, 2) := by decide +kernel
theorem dX3_placeOf_15 : decode cX3_placeOf 15 = .ok (.iload_n 3, 1) := by decide +kernel
theorem dX3_placeOf_16 : decode cX3_placeOf 16 = .ok (.istore 5, 2) := by decide +kernel
theorem dX3_placeOf_18 : decode cX3_placeOf 18 = .ok (.iload 5, 2) := by decide +kernel
theorem dX3_placeOf_20 : decode cX3_placeOf 20 = .ok (.iload 4, 2) := by decide +kernel
theorem dX3_placeOf_22 : decode cX3_placeOf 22 = .ok (.if_icmp .ge 23, 3) := by decide +kernel
theorem dX3_placeOf_25 : decode cX3_placeOf 25 = .ok (.aload_n 0, 1) := by decide +kernel
theorem dX3_placeOf_26 : decode cX3_placeOf 26 = .ok (.getfield 9, 3) := by decide +kernel
theorem dX3_placeOf_29 : decode cX3_placeOf 29 = .ok (.iload 5, 2) := by decide +kernel
theorem dX3_placeOf_31 : decode cX3_placeOf 31 = .ok (.iaload, 1) := by decide +kernel
theorem dX3_placeOf_32 : decode cX3_placeOf 32 = .ok (.iload_n 2, 1) := by decide +kernel
theorem dX3_placeOf_33 : decode cX3_placeOf 33 = .ok (.if_icmp .ne 6, 3) := by decide +kernel
theorem dX3_placeOf_36 : decode cX3_placeOf 36 = .ok (.iload 5, 2) := by decide +kernel
theorem dX3_placeOf_38 : decode cX3_placeOf 38 = .ok (.ireturn, 1) := by decide +kernel
theorem dX3_placeOf_39 : decode cX3_placeOf 39 = .ok (.iinc 5 1, 3) := by decide +kernel
theorem dX3_placeOf_42 : decode cX3_placeOf 42 = .ok (.goto (-24), 3) := by decide +kernel
theorem dX3_placeOf_45 : decode cX3_placeOf 45 = .ok (.iconst (-1), 1) := by decide +kernel
theorem dX3_placeOf_46 : decode cX3_placeOf 46 = .ok (.ireturn, 1) := by decide +kernel
theorem dX3_weightOf_0 : decode cX3_weightOf 0 = .ok (.aload_n 0, 1) := by decide +kernel
theorem dX3_weightOf_1 : decode cX3_weightOf 1 = .ok (.iload_n 1, 1) := by decide +kernel
theorem dX3_weightOf_2 : decode cX3_weightOf 2 = .ok (.iload_n 2, 1) := by decide +kernel
theorem dX3_weightOf_3 : decode cX3_weightOf 3 = .ok (.invokevirtual 21, 3) := by decide +kernel
theorem dX3_weightOf_6 : decode cX3_weightOf 6 = .ok (.istore_n 3, 1) := by decide +kernel
theorem dX3_weightOf_7 : decode cX3_weightOf 7 = .ok (.iload_n 3, 1) := by decide +kernel
theorem dX3_weightOf_8 : decode cX3_weightOf 8 = .ok (.iconst (-1), 1) := by decide +kernel
theorem dX3_weightOf_9 : decode cX3_weightOf 9 = .ok (.if_icmp .ne 7, 3) := by decide +kernel
theorem dX3_weightOf_12 : decode cX3_weightOf 12 = .ok (.iconst 0, 1) := by decide +kernel
theorem dX3_weightOf_13 : decode cX3_weightOf 13 = .ok (.goto 9, 3) := by decide +kernel
theorem dX3_weightOf_16 : decode cX3_weightOf 16 = .ok (.aload_n 0, 1) := by decide +kernel
theorem dX3_weightOf_17 : decode cX3_weightOf 17 = .ok (.getfield 15, 3) := by decide +kernel
theorem dX3_weightOf_20 : decode cX3_weightOf 20 = .ok (.iload_n 3, 1) := by decide +kernel
theorem dX3_weightOf_21 : decode cX3_weightOf 21 = .ok (.iaload, 1) := by decide +kernel
theorem dX3_weightOf_22 : decode cX3_weightOf 22 = .ok (.ireturn, 1) := by decide +kernel
theorem dX3_store_0 : decode cX3_store 0 = .ok (.aload_n 0, 1) := by decide +kernel
theorem dX3_store_1 : decode cX3_store 1 = .ok (.iload_n 1, 1) := by decide +kernel
theorem dX3_store_2 : decode cX3_store 2 = .ok (.iload_n 2, 1) := by decide +kernel
theorem dX3_store_3 : decode cX3_store 3 = .ok (.invokevirtual 21, 3) := by decide +kernel
theorem dX3_store_6 : decode cX3_store 6 = .ok (.istore 4, 2) := by decide +kernel
theorem dX3_store_8 : decode cX3_store 8 = .ok (.iload 4, 2) := by decide +kernel
theorem dX3_store_10 : decode cX3_store 10 = .ok (.iconst (-1), 1) := by decide +kernel
theorem dX3_store_11 : decode cX3_store 11 = .ok (.if_icmp .ne 39, 3) := by decide +kernel
theorem dX3_store_14 : decode cX3_store 14 = .ok (.aload_n 0, 1) := by decide +kernel
theorem dX3_store_15 : decode cX3_store 15 = .ok (.getfield 18, 3) := by decide +kernel
theorem dX3_store_18 : decode cX3_store 18 = .ok (.iload_n 1, 1) := by decide +kernel
theorem dX3_store_19 : decode cX3_store 19 = .ok (.iaload, 1) := by decide +kernel
theorem dX3_store_20 : decode cX3_store 20 = .ok (.bipush 60, 2) := by decide +kernel
theorem dX3_store_22 : decode cX3_store 22 = .ok (.if_icmp .lt 5, 3) := by decide +kernel
theorem dX3_store_25 : decode cX3_store 25 = .ok (.iconst 0, 1) := by decide +kernel
theorem dX3_store_26 : decode cX3_store 26 = .ok (.ireturn, 1) := by decide +kernel
theorem dX3_store_27 : decode cX3_store 27 = .ok (.iload_n 1, 1) := by decide +kernel
theorem dX3_store_28 : decode cX3_store 28 = .ok (.bipush 60, 2) := by decide +kernel
theorem dX3_store_30 : decode cX3_store 30 = .ok (.imul, 1) := by decide +kernel
theorem dX3_store_31 : decode cX3_store 31 = .ok (.aload_n 0, 1) := by decide +kernel
theorem dX3_store_32 : decode cX3_store 32 = .ok (.getfield 18, 3) := by decide +kernel
theorem dX3_store_35 : decode cX3_store 35 = .ok (.iload_n 1, 1) := by decide +kernel
theorem dX3_store_36 : decode cX3_store 36 = .ok (.iaload, 1) := by decide +kernel
theorem dX3_store_37 : decode cX3_store 37 = .ok (.iadd, 1) := by decide +kernel
theorem dX3_store_38 : decode cX3_store 38 = .ok (.istore 4, 2) := by decide +kernel
theorem dX3_store_40 : decode cX3_store 40 = .ok (.aload_n 0, 1) := by decide +kernel
theorem dX3_store_41 : decode cX3_store 41 = .ok (.getfield 18, 3) := by decide +kernel
theorem dX3_store_44 : decode cX3_store 44 = .ok (.iload_n 1, 1) := by decide +kernel
theorem dX3_store_45 : decode cX3_store 45 = .ok (.dup2, 1) := by decide +kernel
theorem dX3_store_46 : decode cX3_store 46 = .ok (.iaload, 1) := by decide +kernel
theorem dX3_store_47 : decode cX3_store 47 = .ok (.iconst 1, 1) := by decide +kernel
theorem dX3_store_48 : decode cX3_store 48 = .ok (.iadd, 1) := by decide +kernel
theorem dX3_store_49 : decode cX3_store 49 = .ok (.iastore, 1) := by decide +kernel
theorem dX3_store_50 : decode cX3_store 50 = .ok (.aload_n 0, 1) := by decide +kernel
theorem dX3_store_51 : decode cX3_store 51 = .ok (.getfield 9, 3) := by decide +kernel
theorem dX3_store_54 : decode cX3_store 54 = .ok (.iload 4, 2) := by decide +kernel
theorem dX3_store_56 : decode cX3_store 56 = .ok (.iload_n 2, 1) := by decide +kernel
theorem dX3_store_57 : decode cX3_store 57 = .ok (.iastore, 1) := by decide +kernel
theorem dX3_store_58 : decode cX3_store 58 = .ok (.aload_n 0, 1) := by decide +kernel
theorem dX3_store_59 : decode cX3_store 59 = .ok (.getfield 15, 3) := by decide +kernel
theorem dX3_store_62 : decode cX3_store 62 = .ok (.iload 4, 2) := by decide +kernel
theorem dX3_store_64 : decode cX3_store 64 = .ok (.iload_n 3, 1) := by decide +kernel
theorem dX3_store_65 : decode cX3_store 65 = .ok (.iastore, 1) := by decide +kernel
theorem dX3_store_66 : decode cX3_store 66 = .ok (.iconst 1, 1) := by decide +kernel
theorem dX3_store_67 : decode cX3_store 67 = .ok (.ireturn, 1) := by decide +kernel
theorem dX3_remove_0 : decode cX3_remove 0 = .ok (.aload_n 0, 1) := by decide +kernel
theorem dX3_remove_1 : decode cX3_remove 1 = .ok (.iload_n 1, 1) := by decide +kernel
theorem dX3_remove_2 : decode cX3_remove 2 = .ok (.iload_n 2, 1) := by decide +kernel
theorem dX3_remove_3 : decode cX3_remove 3 = .ok (.invokevirtual 21, 3) := by decide +kernel
theorem dX3_remove_6 : decode cX3_remove 6 = .ok (.istore_n 3, 1) := by decide +kernel
theorem dX3_remove_7 : decode cX3_remove 7 = .ok (.iload_n 3, 1) := by decide +kernel
theorem dX3_remove_8 : decode cX3_remove 8 = .ok (.iconst (-1), 1) := by decide +kernel
theorem dX3_remove_9 : decode cX3_remove 9 = .ok (.if_icmp .ne 4, 3) := by decide +kernel
theorem dX3_remove_12 : decode cX3_remove 12 = .ok (.return_, 1) := by decide +kernel
theorem dX3_remove_13 : decode cX3_remove 13 = .ok (.aload_n 0, 1) := by decide +kernel
theorem dX3_remove_14 : decode cX3_remove 14 = .ok (.getfield 18, 3) := by decide +kernel
theorem dX3_remove_17 : decode cX3_remove 17 = .ok (.iload_n 1, 1) := by decide +kernel
theorem dX3_remove_18 : decode cX3_remove 18 = .ok (.dup2, 1) := by decide +kernel
theorem dX3_remove_19 : decode cX3_remove 19 = .ok (.iaload, 1) := by decide +kernel
theorem dX3_remove_20 : decode cX3_remove 20 = .ok (.iconst 1, 1) := by decide +kernel
theorem dX3_remove_21 : decode cX3_remove 21 = .ok (.isub, 1) := by decide +kernel
theorem dX3_remove_22 : decode cX3_remove 22 = .ok (.iastore, 1) := by decide +kernel
theorem dX3_remove_23 : decode cX3_remove 23 = .ok (.iload_n 1, 1) := by decide +kernel
theorem dX3_remove_24 : decode cX3_remove 24 = .ok (.bipush 60, 2) := by decide +kernel
theorem dX3_remove_26 : decode cX3_remove 26 = .ok (.imul, 1) := by decide +kernel
theorem dX3_remove_27 : decode cX3_remove 27 = .ok (.aload_n 0, 1) := by decide +kernel
theorem dX3_remove_28 : decode cX3_remove 28 = .ok (.getfield 18, 3) := by decide +kernel
theorem dX3_remove_31 : decode cX3_remove 31 = .ok (.iload_n 1, 1) := by decide +kernel
theorem dX3_remove_32 : decode cX3_remove 32 = .ok (.iaload, 1) := by decide +kernel
theorem dX3_remove_33 : decode cX3_remove 33 = .ok (.iadd, 1) := by decide +kernel
theorem dX3_remove_34 : decode cX3_remove 34 = .ok (.istore 4, 2) := by decide +kernel
theorem dX3_remove_36 : decode cX3_remove 36 = .ok (.aload_n 0, 1) := by decide +kernel
theorem dX3_remove_37 : decode cX3_remove 37 = .ok (.getfield 9, 3) := by decide +kernel
theorem dX3_remove_40 : decode cX3_remove 40 = .ok (.iload_n 3, 1) := by decide +kernel
theorem dX3_remove_41 : decode cX3_remove 41 = .ok (.aload_n 0, 1) := by decide +kernel
theorem dX3_remove_42 : decode cX3_remove 42 = .ok (.getfield 9, 3) := by decide +kernel
theorem dX3_remove_45 : decode cX3_remove 45 = .ok (.iload 4, 2) := by decide +kernel
theorem dX3_remove_47 : decode cX3_remove 47 = .ok (.iaload, 1) := by decide +kernel
theorem dX3_remove_48 : decode cX3_remove 48 = .ok (.iastore, 1) := by decide +kernel
theorem dX3_remove_49 : decode cX3_remove 49 = .ok (.aload_n 0, 1) := by decide +kernel
theorem dX3_remove_50 : decode cX3_remove 50 = .ok (.getfield 15, 3) := by decide +kernel
theorem dX3_remove_53 : decode cX3_remove 53 = .ok (.iload_n 3, 1) := by decide +kernel
theorem dX3_remove_54 : decode cX3_remove 54 = .ok (.aload_n 0, 1) := by decide +kernel
theorem dX3_remove_55 : decode cX3_remove 55 = .ok (.getfield 15, 3) := by decide +kernel
theorem dX3_remove_58 : decode cX3_remove 58 = .ok (.iload 4, 2) := by decide +kernel
theorem dX3_remove_60 : decode cX3_remove 60 = .ok (.iaload, 1) := by decide +kernel
theorem dX3_remove_61 : decode cX3_remove 61 = .ok (.iastore, 1) := by decide +kernel
theorem dX3_remove_62 : decode cX3_remove 62 = .ok (.return_, 1) := by decide +kernel
theorem dX3_total_0 : decode cX3_total 0 = .ok (.iconst 0, 1) := by decide +kernel
theorem dX3_total_1 : decode cX3_total 1 = .ok (.istore_n 1, 1) := by decide +kernel
theorem dX3_total_2 : decode cX3_total 2 = .ok (.iconst 0, 1) := by decide +kernel
theorem dX3_total_3 : decode cX3_total 3 = .ok (.istore_n 2, 1) := by decide +kernel
theorem dX3_total_4 : decode cX3_total 4 = .ok (.iload_n 2, 1) := by decide +kernel
theorem dX3_total_5 : decode cX3_total 5 = .ok (.bipush 16, 2) := by decide +kernel
theorem dX3_total_7 : decode cX3_total 7 = .ok (.if_icmp .ge 18, 3) := by decide +kernel
theorem dX3_total_10 : decode cX3_total 10 = .ok (.iload_n 1, 1) := by decide +kernel
theorem dX3_total_11 : decode cX3_total 11 = .ok (.aload_n 0, 1) := by decide +kernel
theorem dX3_total_12 : decode cX3_total 12 = .ok (.getfield 18, 3) := by decide +kernel
theorem dX3_total_15 : decode cX3_total 15 = .ok (.iload_n 2, 1) := by decide +kernel
theorem dX3_total_16 : decode cX3_total 16 = .ok (.iaload, 1) := by decide +kernel
theorem dX3_total_17 : decode cX3_total 17 = .ok (.iadd, 1) := by decide +kernel
theorem dX3_total_18 : decode cX3_total 18 = .ok (.istore_n 1, 1) := by decide +kernel
theorem dX3_total_19 : decode cX3_total 19 = .ok (.iinc 2 1, 3) := by decide +kernel
theorem dX3_total_22 : decode cX3_total 22 = .ok (.goto (-18), 3) := by decide +kernel
theorem dX3_total_25 : decode cX3_total 25 = .ok (.iload_n 1, 1) := by decide +kernel
theorem dX3_total_26 : decode cX3_total 26 = .ok (.ireturn, 1) := by decide +kernel
theorem dX4_init_0 : decode cX4_init 0 = .ok (.aload_n 0, 1) := by decide +kernel
theorem dX4_init_1 : decode cX4_init 1 = .ok (.invokespecial 3, 3) := by decide +kernel
theorem dX4_init_4 : decode cX4_init 4 = .ok (.aload_n 0, 1) := by decide +kernel
theorem dX4_init_5 : decode cX4_init 5 = .ok (.bipush 80, 2) := by decide +kernel
theorem dX4_init_7 : decode cX4_init 7 = .ok (.newarray .int, 2) := by decide +kernel
theorem dX4_init_9 : decode cX4_init 9 = .ok (.putfield 9, 3) := by decide +kernel
theorem dX4_init_12 : decode cX4_init 12 = .ok (.aload_n 0, 1) := by decide +kernel
theorem dX4_init_13 : decode cX4_init 13 = .ok (.bipush 80, 2) := by decide +kernel
theorem dX4_init_15 : decode cX4_init 15 = .ok (.newarray .long, 2) := by decide +kernel
theorem dX4_init_17 : decode cX4_init 17 = .ok (.putfield 15, 3) := by decide +kernel
theorem dX4_init_20 : decode cX4_init 20 = .ok (.aload_n 0, 1) := by decide +kernel
theorem dX4_init_21 : decode cX4_init 21 = .ok (.bipush 80, 2) := by decide +kernel
theorem dX4_init_23 : decode cX4_init 23 = .ok (.newarray .int, 2) := by decide +kernel
theorem dX4_init_25 : decode cX4_init 25 = .ok (.putfield 19, 3) := by decide +kernel
theorem dX4_init_28 : decode cX4_init 28 = .ok (.aload_n 0, 1) := by decide +kernel
theorem dX4_init_29 : decode cX4_init 29 = .ok (.aload_n 1, 1) := by decide +kernel
theorem dX4_init_30 : decode cX4_init 30 = .ok (.putfield 22, 3) := by decide +kernel
theorem dX4_init_33 : decode cX4_init 33 = .ok (.aload_n 0, 1) := by decide +kernel
theorem dX4_init_34 : decode cX4_init 34 = .ok (.aload_n 2, 1) := by decide +kernel
theorem dX4_init_35 : decode cX4_init 35 = .ok (.putfield 26, 3) := by decide +kernel
theorem dX4_init_38 : decode cX4_init 38 = .ok (.aload_n 0, 1) := by decide +kernel
theorem dX4_init_39 : decode cX4_init 39 = .ok (.aload_n 3, 1) := by decide +kernel
theorem dX4_init_40 : decode cX4_init 40 = .ok (.putfield 30, 3) := by decide +kernel
theorem dX4_init_43 : decode cX4_init 43 = .ok (.aload_n 0, 1) := by decide +kernel
theorem dX4_init_44 : decode cX4_init 44 = .ok (.aload 4, 2) := by decide +kernel
theorem dX4_init_46 : decode cX4_init 46 = .ok (.putfield 34, 3) := by decide +kernel
theorem dX4_init_49 : decode cX4_init 49 = .ok (.return_, 1) := by decide +kernel
theorem dX4_matches_0 : decode cX4_matches 0 = .ok (.aload_n 0, 1) := by decide +kernel
theorem dX4_matches_1 : decode cX4_matches 1 = .ok (.getfield 34, 3) := by decide +kernel
theorem dX4_matches_4 : decode cX4_matches 4 = .ok (.iload_n 1, 1) := by decide +kernel
theorem dX4_matches_5 : decode cX4_matches 5 = .ok (.iload_n 2, 1) := by decide +kernel
theorem dX4_matches_6 : decode cX4_matches 6 = .ok (.invokevirtual 38, 3) := by decide +kernel
theorem dX4_matches_9 : decode cX4_matches 9 = .ok (.ifCond .ne 5, 3) := by decide +kernel
theorem dX4_matches_12 : decode cX4_matches 12 = .ok (.iconst 0, 1) := by decide +kernel
theorem dX4_matches_13 : decode cX4_matches 13 = .ok (.ireturn, 1) := by decide +kernel
theorem dX4_matches_14 : decode cX4_matches 14 = .ok (.aload_n 0, 1) := by decide +kernel
theorem dX4_matches_15 : decode cX4_matches 15 = .ok (.getfield 9, 3) := by decide +kernel
theorem dX4_matches_18 : decode cX4_matches 18 = .ok (.iconst 0, 1) := by decide +kernel
theorem dX4_matches_19 : decode cX4_matches 19 = .ok (.invokestatic 44, 3) := by decide +kernel
theorem dX4_matches_22 : decode cX4_matches 22 = .ok (.aload_n 0, 1) := by decide +kernel
theorem dX4_matches_23 : decode cX4_matches 23 = .ok (.getfield 19, 3) := by decide +kernel
theorem dX4_matches_26 : decode cX4_matches 26 = .ok (.iconst 0, 1) := by decide +kernel
theorem dX4_matches_27 : decode cX4_matches 27 = .ok (.iload_n 1, 1) := by decide +kernel
theorem dX4_matches_28 : decode cX4_matches 28 = .ok (.iastore, 1) := by decide +kernel
theorem dX4_matches_29 : decode cX4_matches 29 = .ok (.iconst 1, 1) := by decide +kernel
theorem dX4_matches_30 : decode cX4_matches 30 = .ok (.istore_n 3, 1) := by decide +kernel
theorem dX4_matches_31 : decode cX4_matches 31 = .ok (.iconst 0, 1) := by decide +kernel
theorem dX4_matches_32 : decode cX4_matches 32 = .ok (.istore 4, 2) := by decide +kernel
theorem dX4_matches_34 : decode cX4_matches 34 = .ok (.iload 4, 2) := by decide +kernel
theorem dX4_matches_36 : decode cX4_matches 36 = .ok (.sipush 160, 3) := by decide +kernel
theorem dX4_matches_39 : decode cX4_matches 39 = .ok (.if_icmp .ge 131, 3) := by decide +kernel
theorem dX4_matches_42 : decode cX4_matches 42 = .ok (.iload_n 3, 1) := by decide +kernel
theorem dX4_matches_43 : decode cX4_matches 43 = .ok (.ifCond .le 127, 3) := by decide +kernel
theorem dX4_matches_46 : decode cX4_matches 46 = .ok (.aload_n 0, 1) := by decide +kernel
theorem dX4_matches_47 : decode cX4_matches 47 = .ok (.getfield 19, 3) := by decide +kernel
theorem dX4_matches_50 : decode cX4_matches 50 = .ok (.iload_n 3, 1) := by decide +kernel
theorem dX4_matches_51 : decode cX4_matches 51 = .ok (.iconst 1, 1) := by decide +kernel
theorem dX4_matches_52 : decode cX4_matches 52 = .ok (.isub, 1) := by decide +kernel
theorem dX4_matches_53 : decode cX4_matches 53 = .ok (.iaload, 1) := by decide +kernel
theorem dX4_matches_54 : decode cX4_matches 54 = .ok (.istore 5, 2) := by decide +kernel
theorem dX4_matches_56 : decode cX4_matches 56 = .ok (.aload_n 0, 1) := by decide +kernel
theorem dX4_matches_57 : decode cX4_matches 57 = .ok (.iload 5, 2) := by decide +kernel
theorem dX4_matches_59 : decode cX4_matches 59 = .ok (.iload_n 2, 1) := by decide +kernel
theorem dX4_matches_60 : decode cX4_matches 60 = .ok (.invokevirtual 50, 3) := by decide +kernel
theorem dX4_matches_63 : decode cX4_matches 63 = .ok (.istore 6, 2) := by decide +kernel
theorem dX4_matches_65 : decode cX4_matches 65 = .ok (.iload 6, 2) := by decide +kernel
theorem dX4_matches_67 : decode cX4_matches 67 = .ok (.iconst (-1), 1) := by decide +kernel
theorem dX4_matches_68 : decode cX4_matches 68 = .ok (.if_icmp .eq 23, 3) := by decide +kernel
theorem dX4_matches_71 : decode cX4_matches 71 = .ok (.iload_n 3, 1) := by decide +kernel
theorem dX4_matches_72 : decode cX4_matches 72 = .ok (.bipush 80, 2) := by decide +kernel
theorem dX4_matches_74 : decode cX4_matches 74 = .ok (.if_icmp .ge 17, 3) := by decide +kernel
theorem dX4_matches_77 : decode cX4_matches 77 = .ok (.aload_n 0, 1) := by decide +kernel
theorem dX4_matches_78 : decode cX4_matches 78 = .ok (.getfield 19, 3) := by decide +kernel
theorem dX4_matches_81 : decode cX4_matches 81 = .ok (.iload_n 3, 1) := by decide +kernel
theorem dX4_matches_82 : decode cX4_matches 82 = .ok (.iload 6, 2) := by decide +kernel
theorem dX4_matches_84 : decode cX4_matches 84 = .ok (.iastore, 1) := by decide +kernel
theorem dX4_matches_85 : decode cX4_matches 85 = .ok (.iinc 3 1, 3) := by decide +kernel
theorem dX4_matches_88 : decode cX4_matches 88 = .ok (.goto 76, 3) := by decide +kernel
theorem dX4_matches_91 : decode cX4_matches 91 = .ok (.aload_n 0, 1) := by decide +kernel
theorem dX4_matches_92 : decode cX4_matches 92 = .ok (.getfield 34, 3) := by decide +kernel
theorem dX4_matches_95 : decode cX4_matches 95 = .ok (.iload 5, 2) := by decide +kernel
theorem dX4_matches_97 : decode cX4_matches 97 = .ok (.iload_n 2, 1) := by decide +kernel
theorem dX4_matches_98 : decode cX4_matches 98 = .ok (.invokevirtual 38, 3) := by decide +kernel
theorem dX4_matches_101 : decode cX4_matches 101 = .ok (.ifCond .eq 17, 3) := by decide +kernel
theorem dX4_matches_104 : decode cX4_matches 104 = .ok (.aload_n 0, 1) := by decide +kernel
theorem dX4_matches_105 : decode cX4_matches 105 = .ok (.iload 5, 2) := by decide +kernel
theorem dX4_matches_107 : decode cX4_matches 107 = .ok (.iload_n 2, 1) := by decide +kernel
theorem dX4_matches_108 : decode cX4_matches 108 = .ok (.invokevirtual 54, 3) := by decide +kernel
theorem dX4_matches_111 : decode cX4_matches 111 = .ok (.ifCond .eq 7, 3) := by decide +kernel
theorem dX4_matches_114 : decode cX4_matches 114 = .ok (.iconst 1, 1) := by decide +kernel
theorem dX4_matches_115 : decode cX4_matches 115 = .ok (.goto 4, 3) := by decide +kernel
theorem dX4_matches_118 : decode cX4_matches 118 = .ok (.iconst 0, 1) := by decide +kernel
theorem dX4_matches_119 : decode cX4_matches 119 = .ok (.istore 7, 2) := by decide +kernel
theorem dX4_matches_121 : decode cX4_matches 121 = .ok (.aload_n 0, 1) := by decide +kernel
theorem dX4_matches_122 : decode cX4_matches 122 = .ok (.getfield 9, 3) := by decide +kernel
theorem dX4_matches_125 : decode cX4_matches 125 = .ok (.iload 5, 2) := by decide +kernel
theorem dX4_matches_127 : decode cX4_matches 127 = .ok (.iload 7, 2) := by decide +kernel
theorem dX4_matches_129 : decode cX4_matches 129 = .ok (.ifCond .eq 7, 3) := by decide +kernel
theorem dX4_matches_132 : decode cX4_matches 132 = .ok (.iconst 1, 1) := by decide +kernel
theorem dX4_matches_133 : decode cX4_matches 133 = .ok (.goto 4, 3) := by decide +kernel
theorem dX4_matches_136 : decode cX4_matches 136 = .ok (.iconst 2, 1) := by decide +kernel
theorem dX4_matches_137 : decode cX4_matches 137 = .ok (.iastore, 1) := by decide +kernel
theorem dX4_matches_138 : decode cX4_matches 138 = .ok (.aload_n 0, 1) := by decide +kernel
theorem dX4_matches_139 : decode cX4_matches 139 = .ok (.getfield 15, 3) := by decide +kernel
theorem dX4_matches_142 : decode cX4_matches 142 = .ok (.iload 5, 2) := by decide +kernel
theorem dX4_matches_144 : decode cX4_matches 144 = .ok (.iload 7, 2) := by decide +kernel
theorem dX4_matches_146 : decode cX4_matches 146 = .ok (.ifCond .eq 13, 3) := by decide +kernel
theorem dX4_matches_149 : decode cX4_matches 149 = .ok (.aload_n 0, 1) := by decide +kernel
theorem dX4_matches_150 : decode cX4_matches 150 = .ok (.iload 5, 2) := by decide +kernel
theorem dX4_matches_152 : decode cX4_matches 152 = .ok (.iload_n 2, 1) := by decide +kernel
theorem dX4_matches_153 : decode cX4_matches 153 = .ok (.invokevirtual 57, 3) := by decide +kernel
theorem dX4_matches_156 : decode cX4_matches 156 = .ok (.goto 4, 3) := by decide +kernel
theorem dX4_matches_159 : decode cX4_matches 159 = .ok (.lconst 0, 1) := by decide +kernel
theorem dX4_matches_160 : decode cX4_matches 160 = .ok (.lastore, 1) := by decide +kernel
theorem dX4_matches_161 : decode cX4_matches 161 = .ok (.iinc 3 (-1), 3) := by decide +kernel
theorem dX4_matches_164 : decode cX4_matches 164 = .ok (.iinc 4 1, 3) := by decide +kernel
theorem dX4_matches_167 : decode cX4_matches 167 = .ok (.goto (-133), 3) := by decide +kernel
theorem dX4_matches_170 : decode cX4_matches 170 = .ok (.aload_n 0, 1) := by decide +kernel
theorem dX4_matches_171 : decode cX4_matches 171 = .ok (.getfield 9, 3) := by decide +kernel
theorem dX4_matches_174 : decode cX4_matches 174 = .ok (.iload_n 1, 1) := by decide +kernel
theorem dX4_matches_175 : decode cX4_matches 175 = .ok (.iaload, 1) := by decide +kernel
theorem dX4_matches_176 : decode cX4_matches 176 = .ok (.iconst 1, 1) := by decide +kernel
theorem dX4_matches_177 : decode cX4_matches 177 = .ok (.if_icmp .ne 7, 3) := by decide +kernel
theorem dX4_matches_180 : decode cX4_matches 180 = .ok (.iconst 1, 1) := by decide +kernel
theorem dX4_matches_181 : decode cX4_matches 181 = .ok (.goto 4, 3) := by decide +kernel
theorem dX4_matches_184 : decode cX4_matches 184 = .ok (.iconst 0, 1) := by decide +kernel
theorem dX4_matches_185 : decode cX4_matches 185 = .ok (.ireturn, 1) := by decide +kernel
theorem dX4_scoreOf_0 : decode cX4_scoreOf 0 = .ok (.aload_n 0, 1) := by decide +kernel
theorem dX4_scoreOf_1 : decode cX4_scoreOf 1 = .ok (.getfield 15, 3) := by decide +kernel
theorem dX4_scoreOf_4 : decode cX4_scoreOf 4 = .ok (.iload_n 1, 1) := by decide +kernel
theorem dX4_scoreOf_5 : decode cX4_scoreOf 5 = .ok (.laload, 1) := by decide +kernel
theorem dX4_scoreOf_6 : decode cX4_scoreOf 6 = .ok (.lreturn, 1) := by decide +kernel
theorem dX4_wantedBy_0 : decode cX4_wantedBy 0 = .ok (.aload_n 0, 1) := by decide +kernel
theorem dX4_wantedBy_1 : decode cX4_wantedBy 1 = .ok (.getfield 34, 3) := by decide +kernel
theorem dX4_wantedBy_4 : decode cX4_wantedBy 4 = .ok (.iload_n 1, 1) := by decide +kernel
theorem dX4_wantedBy_5 : decode cX4_wantedBy 5 = .ok (.iload_n 2, 1) := by decide +kernel
theorem dX4_wantedBy_6 : decode cX4_wantedBy 6 = .ok (.invokevirtual 38, 3) := by decide +kernel
theorem dX4_wantedBy_9 : decode cX4_wantedBy 9 = .ok (.ifCond .eq 14, 3) := by decide +kernel
theorem dX4_wantedBy_12 : decode cX4_wantedBy 12 = .ok (.aload_n 0, 1) := by decide +kernel
theorem dX4_wantedBy_13 : decode cX4_wantedBy 13 = .ok (.getfield 30, 3) := by decide +kernel
theorem dX4_wantedBy_16 : decode cX4_wantedBy 16 = .ok (.iload_n 1, 1) := by decide +kernel
theorem dX4_wantedBy_17 : decode cX4_wantedBy 17 = .ok (.invokevirtual 61, 3) := by decide +kernel
theorem dX4_wantedBy_20 : decode cX4_wantedBy 20 = .ok (.ifCond .eq 5, 3) := by decide +kernel
theorem dX4_wantedBy_23 : decode cX4_wantedBy 23 = .ok (.iconst (-1), 1) := by decide +kernel
theorem dX4_wantedBy_24 : decode cX4_wantedBy 24 = .ok (.ireturn, 1) := by decide +kernel
theorem dX4_wantedBy_25 : decode cX4_wantedBy 25 = .ok (.aload_n 0, 1) := by decide +kernel
theorem dX4_wantedBy_26 : decode cX4_wantedBy 26 = .ok (.getfield 26, 3) := by decide +kernel
theorem dX4_wantedBy_29 : decode cX4_wantedBy 29 = .ok (.iload_n 1, 1) := by decide +kernel
theorem dX4_wantedBy_30 : decode cX4_wantedBy 30 = .ok (.invokevirtual 67, 3) := by decide +kernel
theorem dX4_wantedBy_33 : decode cX4_wantedBy 33 = .ok (.iconst 2, 1) := by decide +kernel
theorem dX4_wantedBy_34 : decode cX4_wantedBy 34 = .ok (.if_icmp .ne 10, 3) := by decide +kernel
theorem dX4_wantedBy_37 : decode cX4_wantedBy 37 = .ok (.aload_n 0, 1) := by decide +kernel
theorem dX4_wantedBy_38 : decode cX4_wantedBy 38 = .ok (.iload_n 1, 1) := by decide +kernel
theorem dX4_wantedBy_39 : decode cX4_wantedBy 39 = .ok (.iload_n 2, 1) := by decide +kernel
theorem dX4_wantedBy_40 : decode cX4_wantedBy 40 = .ok (.invokevirtual 73, 3) := by decide +kernel
theorem dX4_wantedBy_43 : decode cX4_wantedBy 43 = .ok (.ireturn, 1) := by decide +kernel
theorem dX4_wantedBy_44 : decode cX4_wantedBy 44 = .ok (.iconst 0, 1) := by decide +kernel
theorem dX4_wantedBy_45 : decode cX4_wantedBy 45 = .ok (.istore_n 3, 1) := by decide +kernel
theorem dX4_wantedBy_46 : decode cX4_wantedBy 46 = .ok (.iload_n 3, 1) := by decide +kernel
theorem dX4_wantedBy_47 : decode cX4_wantedBy 47 = .ok (.aload_n 0, 1) := by decide +kernel
theorem dX4_wantedBy_48 : decode cX4_wantedBy 48 = .ok (.getfield 26, 3) := by decide +kernel
theorem dX4_wantedBy_51 : decode cX4_wantedBy 51 = .ok (.iload_n 1, 1) := by decide +kernel
theorem dX4_wantedBy_52 : decode cX4_wantedBy 52 = .ok (.invokevirtual 76, 3) := by decide +kernel
theorem dX4_wantedBy_55 : decode cX4_wantedBy 55 = .ok (.if_icmp .ge 33, 3) := by decide +kernel
theorem dX4_wantedBy_58 : decode cX4_wantedBy 58 = .ok (.aload_n 0, 1) := by decide +kernel
theorem dX4_wantedBy_59 : decode cX4_wantedBy 59 = .ok (.getfield 26, 3) := by decide +kernel
theorem dX4_wantedBy_62 : decode cX4_wantedBy 62 = .ok (.iload_n 1, 1) := by decide +kernel
theorem dX4_wantedBy_63 : decode cX4_wantedBy 63 = .ok (.iload_n 3, 1) := by decide +kernel
theorem dX4_wantedBy_64 : decode cX4_wantedBy 64 = .ok (.invokevirtual 79, 3) := by decide +kernel
theorem dX4_wantedBy_67 : decode cX4_wantedBy 67 = .ok (.istore 4, 2) := by decide +kernel
theorem dX4_wantedBy_69 : decode cX4_wantedBy 69 = .ok (.aload_n 0, 1) := by decide +kernel
theorem dX4_wantedBy_70 : decode cX4_wantedBy 70 = .ok (.getfield 9, 3) := by decide +kernel
theorem dX4_wantedBy_73 : decode cX4_wantedBy 73 = .ok (.iload 4, 2) := by decide +kernel
theorem dX4_wantedBy_75 : decode cX4_wantedBy 75 = .ok (.iaload, 1) := by decide +kernel
theorem dX4_wantedBy_76 : decode cX4_wantedBy 76 = .ok (.ifCond .ne 6, 3) := by decide +kernel
theorem dX4_wantedBy_79 : decode cX4_wantedBy 79 = .ok (.iload 4, 2) := by decide +kernel
theorem dX4_wantedBy_81 : decode cX4_wantedBy 81 = .ok (.ireturn, 1) := by decide +kernel
theorem dX4_wantedBy_82 : decode cX4_wantedBy 82 = .ok (.iinc 3 1, 3) := by decide +kernel
theorem dX4_wantedBy_85 : decode cX4_wantedBy 85 = .ok (.goto (-39), 3) := by decide +kernel
theorem dX4_wantedBy_88 : decode cX4_wantedBy 88 = .ok (.iconst (-1), 1) := by decide +kernel
theorem dX4_wantedBy_89 : decode cX4_wantedBy 89 = .ok (.ireturn, 1) := by decide +kernel
theorem dX4_wantedByBool_0 : decode cX4_wantedByBool 0 = .ok (.iconst 0, 1) := by decide +kernel
theorem dX4_wantedByBool_1 : decode cX4_wantedByBool 1 = .ok (.istore_n 3, 1) := by decide +kernel
theorem dX4_wantedByBool_2 : decode cX4_wantedByBool 2 = .ok (.iload_n 3, 1) := by decide +kernel
theorem dX4_wantedByBool_3 : decode cX4_wantedByBool 3 = .ok (.aload_n 0, 1) := by decide +kernel
theorem dX4_wantedByBool_4 : decode cX4_wantedByBool 4 = .ok (.getfield 26, 3) := by decide +kernel
theorem dX4_wantedByBool_7 : decode cX4_wantedByBool 7 = .ok (.iload_n 1, 1) := by decide +kernel
theorem dX4_wantedByBool_8 : decode cX4_wantedByBool 8 = .ok (.invokevirtual 76, 3) := by decide +kernel
theorem dX4_wantedByBool_11 : decode cX4_wantedByBool 11 = .ok (.if_icmp .ge 91, 3) := by decide +kernel
theorem dX4_wantedByBool_14 : decode cX4_wantedByBool 14 = .ok (.aload_n 0, 1) := by decide +kernel
theorem dX4_wantedByBool_15 : decode cX4_wantedByBool 15 = .ok (.getfield 34, 3) := by decide +kernel
theorem dX4_wantedByBool_18 : decode cX4_wantedByBool 18 = .ok (.iload_n 1, 1) := by decide +kernel
theorem dX4_wantedByBool_19 : decode cX4_wantedByBool 19 = .ok (.iload_n 3, 1) := by decide +kernel
theorem dX4_wantedByBool_20 : decode cX4_wantedByBool 20 = .ok (.invokevirtual 82, 3) := by decide +kernel
theorem dX4_wantedByBool_23 : decode cX4_wantedByBool 23 = .ok (.istore 4, 2) := by decide +kernel
theorem dX4_wantedByBool_25 : decode cX4_wantedByBool 25 = .ok (.aload_n 0, 1) := by decide +kernel
theorem dX4_wantedByBool_26 : decode cX4_wantedByBool 26 = .ok (.getfield 26, 3) := by decide +kernel
theorem dX4_wantedByBool_29 : decode cX4_wantedByBool 29 = .ok (.iload_n 1, 1) := by decide +kernel
theorem dX4_wantedByBool_30 : decode cX4_wantedByBool 30 = .ok (.iload 4, 2) := by decide +kernel
theorem dX4_wantedByBool_32 : decode cX4_wantedByBool 32 = .ok (.invokevirtual 79, 3) := by decide +kernel
theorem dX4_wantedByBool_35 : decode cX4_wantedByBool 35 = .ok (.istore 5, 2) := by decide +kernel
theorem dX4_wantedByBool_37 : decode cX4_wantedByBool 37 = .ok (.aload_n 0, 1) := by decide +kernel
theorem dX4_wantedByBool_38 : decode cX4_wantedByBool 38 = .ok (.getfield 26, 3) := by decide +kernel
theorem dX4_wantedByBool_41 : decode cX4_wantedByBool 41 = .ok (.iload_n 1, 1) := by decide +kernel
theorem dX4_wantedByBool_42 : decode cX4_wantedByBool 42 = .ok (.iload 4, 2) := by decide +kernel
theorem dX4_wantedByBool_44 : decode cX4_wantedByBool 44 = .ok (.invokevirtual 85, 3) := by decide +kernel
theorem dX4_wantedByBool_47 : decode cX4_wantedByBool 47 = .ok (.istore 6, 2) := by decide +kernel
theorem dX4_wantedByBool_49 : decode cX4_wantedByBool 49 = .ok (.aload_n 0, 1) := by decide +kernel
theorem dX4_wantedByBool_50 : decode cX4_wantedByBool 50 = .ok (.iload 5, 2) := by decide +kernel
theorem dX4_wantedByBool_52 : decode cX4_wantedByBool 52 = .ok (.iload 6, 2) := by decide +kernel
theorem dX4_wantedByBool_54 : decode cX4_wantedByBool 54 = .ok (.iload_n 2, 1) := by decide +kernel
theorem dX4_wantedByBool_55 : decode cX4_wantedByBool 55 = .ok (.invokevirtual 88, 3) := by decide +kernel
theorem dX4_wantedByBool_58 : decode cX4_wantedByBool 58 = .ok (.istore 7, 2) := by decide +kernel
theorem dX4_wantedByBool_60 : decode cX4_wantedByBool 60 = .ok (.iload 7, 2) := by decide +kernel
theorem dX4_wantedByBool_62 : decode cX4_wantedByBool 62 = .ok (.ifCond .ne 16, 3) := by decide +kernel
theorem dX4_wantedByBool_65 : decode cX4_wantedByBool 65 = .ok (.aload_n 0, 1) := by decide +kernel
theorem dX4_wantedByBool_66 : decode cX4_wantedByBool 66 = .ok (.getfield 9, 3) := by decide +kernel
theorem dX4_wantedByBool_69 : decode cX4_wantedByBool 69 = .ok (.iload 5, 2) := by decide +kernel
theorem dX4_wantedByBool_71 : decode cX4_wantedByBool 71 = .ok (.iaload, 1) := by decide +kernel
theorem dX4_wantedByBool_72 : decode cX4_wantedByBool 72 = .ok (.ifCond .ne 6, 3) := by decide +kernel
theorem dX4_wantedByBool_75 : decode cX4_wantedByBool 75 = .ok (.iload 5, 2) := by decide +kernel
theorem dX4_wantedByBool_77 : decode cX4_wantedByBool 77 = .ok (.ireturn, 1) := by decide +kernel
theorem dX4_wantedByBool_78 : decode cX4_wantedByBool 78 = .ok (.iload 6, 2) := by decide +kernel
theorem dX4_wantedByBool_80 : decode cX4_wantedByBool 80 = .ok (.iconst 3, 1) := by decide +kernel
theorem dX4_wantedByBool_81 : decode cX4_wantedByBool 81 = .ok (.if_icmp .eq 15, 3) := by decide +kernel
theorem dX4_wantedByBool_84 : decode cX4_wantedByBool 84 = .ok (.iload 7, 2) := by decide +kernel
theorem dX4_wantedByBool_86 : decode cX4_wantedByBool 86 = .ok (.iload 6, 2) := by decide +kernel
theorem dX4_wantedByBool_88 : decode cX4_wantedByBool 88 = .ok (.invokestatic 92, 3) := by decide +kernel
theorem dX4_wantedByBool_91 : decode cX4_wantedByBool 91 = .ok (.if_icmp .eq 5, 3) := by decide +kernel
theorem dX4_wantedByBool_94 : decode cX4_wantedByBool 94 = .ok (.iconst (-1), 1) := by decide +kernel
theorem dX4_wantedByBool_95 : decode cX4_wantedByBool 95 = .ok (.ireturn, 1) := by decide +kernel
theorem dX4_wantedByBool_96 : decode cX4_wantedByBool 96 = .ok (.iinc 3 1, 3) := by decide +kernel
theorem dX4_wantedByBool_99 : decode cX4_wantedByBool 99 = .ok (.goto (-97), 3) := by decide +kernel
theorem dX4_wantedByBool_102 : decode cX4_wantedByBool 102 = .ok (.iconst (-1), 1) := by decide +kernel
theorem dX4_wantedByBool_103 : decode cX4_wantedByBool 103 = .ok (.ireturn, 1) := by decide +kernel
theorem dX4_holds_0 : decode cX4_holds 0 = .ok (.iload_n 2, 1) := by decide +kernel
theorem dX4_holds_1 : decode cX4_holds 1 = .ok (.iconst 1, 1) := by decide +kernel
theorem dX4_holds_2 : decode cX4_holds 2 = .ok (.if_icmp .eq 8, 3) := by decide +kernel
theorem dX4_holds_5 : decode cX4_holds 5 = .ok (.iload_n 2, 1) := by decide +kernel
theorem dX4_holds_6 : decode cX4_holds 6 = .ok (.iconst 2, 1) := by decide +kernel
theorem dX4_holds_7 : decode cX4_holds 7 = .ok (.if_icmp .ne 7, 3) := by decide +kernel
theorem dX4_holds_10 : decode cX4_holds 10 = .ok (.iconst 1, 1) := by decide +kernel
theorem dX4_holds_11 : decode cX4_holds 11 = .ok (.goto 4, 3) := by decide +kernel
theorem dX4_holds_14 : decode cX4_holds 14 = .ok (.iconst 0, 1) := by decide +kernel
theorem dX4_holds_15 : decode cX4_holds 15 = .ok (.istore 4, 2) := by decide +kernel
theorem dX4_holds_17 : decode cX4_holds 17 = .ok (.aload_n 0, 1) := by decide +kernel
theorem dX4_holds_18 : decode cX4_holds 18 = .ok (.getfield 9, 3) := by decide +kernel
theorem dX4_holds_21 : decode cX4_holds 21 = .ok (.iload_n 1, 1) := by decide +kernel
theorem dX4_holds_22 : decode cX4_holds 22 = .ok (.iaload, 1) := by decide +kernel
theorem dX4_holds_23 : decode cX4_holds 23 = .ok (.iconst 1, 1) := by decide +kernel
theorem dX4_holds_24 : decode cX4_holds 24 = .ok (.if_icmp .eq 20, 3) := by decide +kernel
theorem dX4_holds_27 : decode cX4_holds 27 = .ok (.iload 4, 2) := by decide +kernel
theorem dX4_holds_29 : decode cX4_holds 29 = .ok (.ifCond .eq 19, 3) := by decide +kernel
theorem dX4_holds_32 : decode cX4_holds 32 = .ok (.aload_n 0, 1) := by decide +kernel
theorem dX4_holds_33 : decode cX4_holds 33 = .ok (.getfield 34, 3) := by decide +kernel
theorem dX4_holds_36 : decode cX4_holds 36 = .ok (.iload_n 1, 1) := by decide +kernel
theorem dX4_holds_37 : decode cX4_holds 37 = .ok (.iload_n 3, 1) := by decide +kernel
theorem dX4_holds_38 : decode cX4_holds 38 = .ok (.invokevirtual 95, 3) := by decide +kernel
theorem dX4_holds_41 : decode cX4_holds 41 = .ok (.ifCond .eq 7, 3) := by decide +kernel
theorem dX4_holds_44 : decode cX4_holds 44 = .ok (.iconst 1, 1) := by decide +kernel
theorem dX4_holds_45 : decode cX4_holds 45 = .ok (.goto 4, 3) := by decide +kernel
theorem dX4_holds_48 : decode cX4_holds 48 = .ok (.iconst 0, 1) := by decide +kernel
theorem dX4_holds_49 : decode cX4_holds 49 = .ok (.ireturn, 1) := by decide +kernel
theorem dX4_fitsByParts_0 : decode cX4_fitsByParts 0 = .ok (.aload_n 0, 1) := by decide +kernel
theorem dX4_fitsByParts_1 : decode cX4_fitsByParts 1 = .ok (.getfield 26, 3) := by decide +kernel
theorem dX4_fitsByParts_4 : decode cX4_fitsByParts 4 = .ok (.iload_n 1, 1) := by decide +kernel
theorem dX4_fitsByParts_5 : decode cX4_fitsByParts 5 = .ok (.invokevirtual 67, 3) := by decide +kernel
theorem dX4_fitsByParts_8 : decode cX4_fitsByParts 8 = .ok (.tableswitch 97 2 6 #[36, 43, 43, 49, 72], 36) := by decide +kernel
theorem dX4_fitsByParts_44 : decode cX4_fitsByParts 44 = .ok (.aload_n 0, 1) := by decide +kernel
theorem dX4_fitsByParts_45 : decode cX4_fitsByParts 45 = .ok (.iload_n 1, 1) := by decide +kernel
theorem dX4_fitsByParts_46 : decode cX4_fitsByParts 46 = .ok (.iload_n 2, 1) := by decide +kernel
theorem dX4_fitsByParts_47 : decode cX4_fitsByParts 47 = .ok (.invokevirtual 98, 3) := by decide +kernel
theorem dX4_fitsByParts_50 : decode cX4_fitsByParts 50 = .ok (.ireturn, 1) := by decide +kernel
theorem dX4_fitsByParts_51 : decode cX4_fitsByParts 51 = .ok (.aload_n 0, 1) := by decide +kernel
theorem dX4_fitsByParts_52 : decode cX4_fitsByParts 52 = .ok (.iload_n 1, 1) := by decide +kernel
theorem dX4_fitsByParts_53 : decode cX4_fitsByParts 53 = .ok (.invokevirtual 101, 3) := by decide +kernel
theorem dX4_fitsByParts_56 : decode cX4_fitsByParts 56 = .ok (.ireturn, 1) := by decide +kernel
theorem dX4_fitsByParts_57 : decode cX4_fitsByParts 57 = .ok (.aload_n 0, 1) := by decide +kernel
theorem dX4_fitsByParts_58 : decode cX4_fitsByParts 58 = .ok (.iload_n 1, 1) := by decide +kernel
theorem dX4_fitsByParts_59 : decode cX4_fitsByParts 59 = .ok (.invokevirtual 101, 3) := by decide +kernel
theorem dX4_fitsByParts_62 : decode cX4_fitsByParts 62 = .ok (.ifCond .eq 16, 3) := by decide +kernel
theorem dX4_fitsByParts_65 : decode cX4_fitsByParts 65 = .ok (.aload_n 0, 1) := by decide +kernel
theorem dX4_fitsByParts_66 : decode cX4_fitsByParts 66 = .ok (.iload_n 1, 1) := by decide +kernel
theorem dX4_fitsByParts_67 : decode cX4_fitsByParts 67 = .ok (.iload_n 2, 1) := by decide +kernel
theorem dX4_fitsByParts_68 : decode cX4_fitsByParts 68 = .ok (.invokevirtual 104, 3) := by decide +kernel
theorem dX4_fitsByParts_71 : decode cX4_fitsByParts 71 = .ok (.ifCond .eq 7, 3) := by decide +kernel
theorem dX4_fitsByParts_74 : decode cX4_fitsByParts 74 = .ok (.iconst 1, 1) := by decide +kernel
theorem dX4_fitsByParts_75 : decode cX4_fitsByParts 75 = .ok (.goto 4, 3) := by decide +kernel
theorem dX4_fitsByParts_78 : decode cX4_fitsByParts 78 = .ok (.iconst 0, 1) := by decide +kernel
theorem dX4_fitsByParts_79 : decode cX4_fitsByParts 79 = .ok (.ireturn, 1) := by decide +kernel
theorem dX4_fitsByParts_80 : decode cX4_fitsByParts 80 = .ok (.aload_n 0, 1) := by decide +kernel
theorem dX4_fitsByParts_81 : decode cX4_fitsByParts 81 = .ok (.getfield 30, 3) := by decide +kernel
theorem dX4_fitsByParts_84 : decode cX4_fitsByParts 84 = .ok (.iload_n 1, 1) := by decide +kernel
theorem dX4_fitsByParts_85 : decode cX4_fitsByParts 85 = .ok (.invokevirtual 61, 3) := by decide +kernel
theorem dX4_fitsByParts_88 : decode cX4_fitsByParts 88 = .ok (.ifCond .ne 11, 3) := by decide +kernel
theorem dX4_fitsByParts_91 : decode cX4_fitsByParts 91 = .ok (.aload_n 0, 1) := by decide +kernel
theorem dX4_fitsByParts_92 : decode cX4_fitsByParts 92 = .ok (.iload_n 1, 1) := by decide +kernel
theorem dX4_fitsByParts_93 : decode cX4_fitsByParts 93 = .ok (.invokevirtual 101, 3) := by decide +kernel
theorem dX4_fitsByParts_96 : decode cX4_fitsByParts 96 = .ok (.ifCond .eq 7, 3) := by decide +kernel
theorem dX4_fitsByParts_99 : decode cX4_fitsByParts 99 = .ok (.iconst 1, 1) := by decide +kernel
theorem dX4_fitsByParts_100 : decode cX4_fitsByParts 100 = .ok (.goto 4, 3) := by decide +kernel
theorem dX4_fitsByParts_103 : decode cX4_fitsByParts 103 = .ok (.iconst 0, 1) := by decide +kernel
theorem dX4_fitsByParts_104 : decode cX4_fitsByParts 104 = .ok (.ireturn, 1) := by decide +kernel
theorem dX4_fitsByParts_105 : decode cX4_fitsByParts 105 = .ok (.iconst 1, 1) := by decide +kernel
theorem dX4_fitsByParts_106 : decode cX4_fitsByParts 106 = .ok (.ireturn, 1) := by decide +kernel
theorem dX4_somePartMatches_0 : decode cX4_somePartMatches 0 = .ok (.iconst 0, 1) := by decide +kernel
theorem dX4_somePartMatches_1 : decode cX4_somePartMatches 1 = .ok (.istore_n 2, 1) := by decide +kernel
theorem dX4_somePartMatches_2 : decode cX4_somePartMatches 2 = .ok (.iload_n 2, 1) := by decide +kernel
theorem dX4_somePartMatches_3 : decode cX4_somePartMatches 3 = .ok (.aload_n 0, 1) := by decide +kernel
theorem dX4_somePartMatches_4 : decode cX4_somePartMatches 4 = .ok (.getfield 26, 3) := by decide +kernel
theorem dX4_somePartMatches_7 : decode cX4_somePartMatches 7 = .ok (.iload_n 1, 1) := by decide +kernel
theorem dX4_somePartMatches_8 : decode cX4_somePartMatches 8 = .ok (.invokevirtual 76, 3) := by decide +kernel
theorem dX4_somePartMatches_11 : decode cX4_somePartMatches 11 = .ok (.if_icmp .ge 29, 3) := by decide +kernel
theorem dX4_somePartMatches_14 : decode cX4_somePartMatches 14 = .ok (.aload_n 0, 1) := by decide +kernel
theorem dX4_somePartMatches_15 : decode cX4_somePartMatches 15 = .ok (.getfield 9, 3) := by decide +kernel
theorem dX4_somePartMatches_18 : decode cX4_somePartMatches 18 = .ok (.aload_n 0, 1) := by decide +kernel
theorem dX4_somePartMatches_19 : decode cX4_somePartMatches 19 = .ok (.getfield 26, 3) := by decide +kernel
theorem dX4_somePartMatches_22 : decode cX4_somePartMatches 22 = .ok (.iload_n 1, 1) := by decide +kernel
theorem dX4_somePartMatches_23 : decode cX4_somePartMatches 23 = .ok (.iload_n 2, 1) := by decide +kernel
theorem dX4_somePartMatches_24 : decode cX4_somePartMatches 24 = .ok (.invokevirtual 79, 3) := by decide +kernel
theorem dX4_somePartMatches_27 : decode cX4_somePartMatches 27 = .ok (.iaload, 1) := by decide +kernel
theorem dX4_somePartMatches_28 : decode cX4_somePartMatches 28 = .ok (.iconst 1, 1) := by decide +kernel
end
section
theorem dX4_somePartMatches_29 : decode cX4_somePartMatches 29 = .ok (.if_icmp .ne 5, 3) := by decide +kernel
theorem dX4_somePartMatches_32 : decode cX4_somePartMatches 32 = .ok (.iconst 1, 1) := by decide +kernel
theorem dX4_somePartMatches_33 : decode cX4_somePartMatches 33 = .ok (.ireturn, 1) := by decide +kernel
theorem dX4_somePartMatches_34 : decode cX4_somePartMatches 34 = .ok (.iinc 2 1, 3) := by decide +kernel
theorem dX4_somePartMatches_37 : decode cX4_somePartMatches 37 = .ok (.goto (-35), 3) := by decide +kernel
theorem dX4_somePartMatches_40 : decode cX4_somePartMatches 40 = .ok (.iconst 0, 1) := by decide +kernel
theorem dX4_somePartMatches_41 : decode cX4_somePartMatches 41 = .ok (.ireturn, 1) := by decide +kernel
theorem dX4_fitsBool_0 : decode cX4_fitsBool 0 = .ok (.iconst 0, 1) := by decide +kernel
theorem dX4_fitsBool_1 : decode cX4_fitsBool 1 = .ok (.istore_n 3, 1) := by decide +kernel
theorem dX4_fitsBool_2 : decode cX4_fitsBool 2 = .ok (.iconst 0, 1) := by decide +kernel
theorem dX4_fitsBool_3 : decode cX4_fitsBool 3 = .ok (.istore 4, 2) := by decide +kernel
theorem dX4_fitsBool_5 : decode cX4_fitsBool 5 = .ok (.iload 4, 2) := by decide +kernel
theorem dX4_fitsBool_7 : decode cX4_fitsBool 7 = .ok (.aload_n 0, 1) := by decide +kernel
theorem dX4_fitsBool_8 : decode cX4_fitsBool 8 = .ok (.getfield 26, 3) := by decide +kernel
theorem dX4_fitsBool_11 : decode cX4_fitsBool 11 = .ok (.iload_n 1, 1) := by decide +kernel
theorem dX4_fitsBool_12 : decode cX4_fitsBool 12 = .ok (.invokevirtual 76, 3) := by decide +kernel
theorem dX4_fitsBool_15 : decode cX4_fitsBool 15 = .ok (.if_icmp .ge 72, 3) := by decide +kernel
theorem dX4_fitsBool_18 : decode cX4_fitsBool 18 = .ok (.aload_n 0, 1) := by decide +kernel
theorem dX4_fitsBool_19 : decode cX4_fitsBool 19 = .ok (.getfield 26, 3) := by decide +kernel
theorem dX4_fitsBool_22 : decode cX4_fitsBool 22 = .ok (.iload_n 1, 1) := by decide +kernel
theorem dX4_fitsBool_23 : decode cX4_fitsBool 23 = .ok (.iload 4, 2) := by decide +kernel
theorem dX4_fitsBool_25 : decode cX4_fitsBool 25 = .ok (.invokevirtual 85, 3) := by decide +kernel
theorem dX4_fitsBool_28 : decode cX4_fitsBool 28 = .ok (.istore 5, 2) := by decide +kernel
theorem dX4_fitsBool_30 : decode cX4_fitsBool 30 = .ok (.aload_n 0, 1) := by decide +kernel
theorem dX4_fitsBool_31 : decode cX4_fitsBool 31 = .ok (.aload_n 0, 1) := by decide +kernel
theorem dX4_fitsBool_32 : decode cX4_fitsBool 32 = .ok (.getfield 26, 3) := by decide +kernel
theorem dX4_fitsBool_35 : decode cX4_fitsBool 35 = .ok (.iload_n 1, 1) := by decide +kernel
theorem dX4_fitsBool_36 : decode cX4_fitsBool 36 = .ok (.iload 4, 2) := by decide +kernel
theorem dX4_fitsBool_38 : decode cX4_fitsBool 38 = .ok (.invokevirtual 79, 3) := by decide +kernel
theorem dX4_fitsBool_41 : decode cX4_fitsBool 41 = .ok (.iload 5, 2) := by decide +kernel
theorem dX4_fitsBool_43 : decode cX4_fitsBool 43 = .ok (.iload_n 2, 1) := by decide +kernel
theorem dX4_fitsBool_44 : decode cX4_fitsBool 44 = .ok (.invokevirtual 88, 3) := by decide +kernel
theorem dX4_fitsBool_47 : decode cX4_fitsBool 47 = .ok (.istore 6, 2) := by decide +kernel
theorem dX4_fitsBool_49 : decode cX4_fitsBool 49 = .ok (.iload 5, 2) := by decide +kernel
theorem dX4_fitsBool_51 : decode cX4_fitsBool 51 = .ok (.iconst 3, 1) := by decide +kernel
theorem dX4_fitsBool_52 : decode cX4_fitsBool 52 = .ok (.if_icmp .eq 15, 3) := by decide +kernel
theorem dX4_fitsBool_55 : decode cX4_fitsBool 55 = .ok (.iload 6, 2) := by decide +kernel
theorem dX4_fitsBool_57 : decode cX4_fitsBool 57 = .ok (.iload 5, 2) := by decide +kernel
theorem dX4_fitsBool_59 : decode cX4_fitsBool 59 = .ok (.invokestatic 92, 3) := by decide +kernel
theorem dX4_fitsBool_62 : decode cX4_fitsBool 62 = .ok (.if_icmp .eq 5, 3) := by decide +kernel
theorem dX4_fitsBool_65 : decode cX4_fitsBool 65 = .ok (.iconst 0, 1) := by decide +kernel
theorem dX4_fitsBool_66 : decode cX4_fitsBool 66 = .ok (.ireturn, 1) := by decide +kernel
theorem dX4_fitsBool_67 : decode cX4_fitsBool 67 = .ok (.iload 5, 2) := by decide +kernel
theorem dX4_fitsBool_69 : decode cX4_fitsBool 69 = .ok (.iconst 3, 1) := by decide +kernel
theorem dX4_fitsBool_70 : decode cX4_fitsBool 70 = .ok (.if_icmp .ne 11, 3) := by decide +kernel
theorem dX4_fitsBool_73 : decode cX4_fitsBool 73 = .ok (.iload 6, 2) := by decide +kernel
theorem dX4_fitsBool_75 : decode cX4_fitsBool 75 = .ok (.ifCond .eq 6, 3) := by decide +kernel
theorem dX4_fitsBool_78 : decode cX4_fitsBool 78 = .ok (.iinc 3 1, 3) := by decide +kernel
theorem dX4_fitsBool_81 : decode cX4_fitsBool 81 = .ok (.iinc 4 1, 3) := by decide +kernel
theorem dX4_fitsBool_84 : decode cX4_fitsBool 84 = .ok (.goto (-79), 3) := by decide +kernel
theorem dX4_fitsBool_87 : decode cX4_fitsBool 87 = .ok (.iload_n 3, 1) := by decide +kernel
theorem dX4_fitsBool_88 : decode cX4_fitsBool 88 = .ok (.aload_n 0, 1) := by decide +kernel
theorem dX4_fitsBool_89 : decode cX4_fitsBool 89 = .ok (.getfield 26, 3) := by decide +kernel
theorem dX4_fitsBool_92 : decode cX4_fitsBool 92 = .ok (.iload_n 1, 1) := by decide +kernel
theorem dX4_fitsBool_93 : decode cX4_fitsBool 93 = .ok (.invokevirtual 107, 3) := by decide +kernel
theorem dX4_fitsBool_96 : decode cX4_fitsBool 96 = .ok (.if_icmp .lt 7, 3) := by decide +kernel
theorem dX4_fitsBool_99 : decode cX4_fitsBool 99 = .ok (.iconst 1, 1) := by decide +kernel
theorem dX4_fitsBool_100 : decode cX4_fitsBool 100 = .ok (.goto 4, 3) := by decide +kernel
theorem dX4_fitsBool_103 : decode cX4_fitsBool 103 = .ok (.iconst 0, 1) := by decide +kernel
theorem dX4_fitsBool_104 : decode cX4_fitsBool 104 = .ok (.ireturn, 1) := by decide +kernel
theorem dX4_passesTest_0 : decode cX4_passesTest 0 = .ok (.aload_n 0, 1) := by decide +kernel
theorem dX4_passesTest_1 : decode cX4_passesTest 1 = .ok (.getfield 26, 3) := by decide +kernel
theorem dX4_passesTest_4 : decode cX4_passesTest 4 = .ok (.iload_n 1, 1) := by decide +kernel
theorem dX4_passesTest_5 : decode cX4_passesTest 5 = .ok (.invokevirtual 110, 3) := by decide +kernel
theorem dX4_passesTest_8 : decode cX4_passesTest 8 = .ok (.aload_n 0, 1) := by decide +kernel
theorem dX4_passesTest_9 : decode cX4_passesTest 9 = .ok (.getfield 26, 3) := by decide +kernel
theorem dX4_passesTest_12 : decode cX4_passesTest 12 = .ok (.iload_n 1, 1) := by decide +kernel
theorem dX4_passesTest_13 : decode cX4_passesTest 13 = .ok (.invokevirtual 114, 3) := by decide +kernel
theorem dX4_passesTest_16 : decode cX4_passesTest 16 = .ok (.istore_n 3, 1) := by decide +kernel
theorem dX4_passesTest_17 : decode cX4_passesTest 17 = .ok (.iload_n 3, 1) := by decide +kernel
theorem dX4_passesTest_18 : decode cX4_passesTest 18 = .ok (.invokestatic 117, 3) := by decide +kernel
theorem dX4_passesTest_21 : decode cX4_passesTest 21 = .ok (.istore 4, 2) := by decide +kernel
theorem dX4_passesTest_23 : decode cX4_passesTest 23 = .ok (.iload 4, 2) := by decide +kernel
theorem dX4_passesTest_25 : decode cX4_passesTest 25 = .ok (.ifCond .le 24, 3) := by decide +kernel
theorem dX4_passesTest_28 : decode cX4_passesTest 28 = .ok (.iload_n 3, 1) := by decide +kernel
theorem dX4_passesTest_29 : decode cX4_passesTest 29 = .ok (.ldc 120, 2) := by decide +kernel
theorem dX4_passesTest_31 : decode cX4_passesTest 31 = .ok (.idiv, 1) := by decide +kernel
theorem dX4_passesTest_32 : decode cX4_passesTest 32 = .ok (.iload_n 2, 1) := by decide +kernel
theorem dX4_passesTest_33 : decode cX4_passesTest 33 = .ok (.imul, 1) := by decide +kernel
theorem dX4_passesTest_34 : decode cX4_passesTest 34 = .ok (.iload 4, 2) := by decide +kernel
theorem dX4_passesTest_36 : decode cX4_passesTest 36 = .ok (.irem, 1) := by decide +kernel
theorem dX4_passesTest_37 : decode cX4_passesTest 37 = .ok (.iload_n 3, 1) := by decide +kernel
theorem dX4_passesTest_38 : decode cX4_passesTest 38 = .ok (.sipush 1000, 3) := by decide +kernel
theorem dX4_passesTest_41 : decode cX4_passesTest 41 = .ok (.irem, 1) := by decide +kernel
theorem dX4_passesTest_42 : decode cX4_passesTest 42 = .ok (.if_icmp .ge 7, 3) := by decide +kernel
theorem dX4_passesTest_45 : decode cX4_passesTest 45 = .ok (.iconst 1, 1) := by decide +kernel
theorem dX4_passesTest_46 : decode cX4_passesTest 46 = .ok (.goto 4, 3) := by decide +kernel
theorem dX4_passesTest_49 : decode cX4_passesTest 49 = .ok (.iconst 0, 1) := by decide +kernel
theorem dX4_passesTest_50 : decode cX4_passesTest 50 = .ok (.ireturn, 1) := by decide +kernel
theorem dX4_scoreByParts_0 : decode cX4_scoreByParts 0 = .ok (.aload_n 0, 1) := by decide +kernel
theorem dX4_scoreByParts_1 : decode cX4_scoreByParts 1 = .ok (.getfield 26, 3) := by decide +kernel
theorem dX4_scoreByParts_4 : decode cX4_scoreByParts 4 = .ok (.iload_n 1, 1) := by decide +kernel
theorem dX4_scoreByParts_5 : decode cX4_scoreByParts 5 = .ok (.invokevirtual 67, 3) := by decide +kernel
theorem dX4_scoreByParts_8 : decode cX4_scoreByParts 8 = .ok (.tableswitch 95 0 5 #[40, 95, 58, 64, 70, 80], 40) := by decide +kernel
theorem dX4_scoreByParts_48 : decode cX4_scoreByParts 48 = .ok (.aload_n 0, 1) := by decide +kernel
theorem dX4_scoreByParts_49 : decode cX4_scoreByParts 49 = .ok (.getfield 22, 3) := by decide +kernel
theorem dX4_scoreByParts_52 : decode cX4_scoreByParts 52 = .ok (.aload_n 0, 1) := by decide +kernel
theorem dX4_scoreByParts_53 : decode cX4_scoreByParts 53 = .ok (.getfield 26, 3) := by decide +kernel
theorem dX4_scoreByParts_56 : decode cX4_scoreByParts 56 = .ok (.iload_n 1, 1) := by decide +kernel
theorem dX4_scoreByParts_57 : decode cX4_scoreByParts 57 = .ok (.invokevirtual 121, 3) := by decide +kernel
theorem dX4_scoreByParts_60 : decode cX4_scoreByParts 60 = .ok (.iload_n 2, 1) := by decide +kernel
theorem dX4_scoreByParts_61 : decode cX4_scoreByParts 61 = .ok (.invokevirtual 124, 3) := by decide +kernel
theorem dX4_scoreByParts_64 : decode cX4_scoreByParts 64 = .ok (.i2l, 1) := by decide +kernel
theorem dX4_scoreByParts_65 : decode cX4_scoreByParts 65 = .ok (.lreturn, 1) := by decide +kernel
theorem dX4_scoreByParts_66 : decode cX4_scoreByParts 66 = .ok (.aload_n 0, 1) := by decide +kernel
theorem dX4_scoreByParts_67 : decode cX4_scoreByParts 67 = .ok (.iload_n 1, 1) := by decide +kernel
theorem dX4_scoreByParts_68 : decode cX4_scoreByParts 68 = .ok (.invokevirtual 129, 3) := by decide +kernel
theorem dX4_scoreByParts_71 : decode cX4_scoreByParts 71 = .ok (.lreturn, 1) := by decide +kernel
theorem dX4_scoreByParts_72 : decode cX4_scoreByParts 72 = .ok (.aload_n 0, 1) := by decide +kernel
theorem dX4_scoreByParts_73 : decode cX4_scoreByParts 73 = .ok (.iload_n 1, 1) := by decide +kernel
theorem dX4_scoreByParts_74 : decode cX4_scoreByParts 74 = .ok (.invokevirtual 133, 3) := by decide +kernel
theorem dX4_scoreByParts_77 : decode cX4_scoreByParts 77 = .ok (.lreturn, 1) := by decide +kernel
theorem dX4_scoreByParts_78 : decode cX4_scoreByParts 78 = .ok (.aload_n 0, 1) := by decide +kernel
theorem dX4_scoreByParts_79 : decode cX4_scoreByParts 79 = .ok (.getfield 26, 3) := by decide +kernel
theorem dX4_scoreByParts_82 : decode cX4_scoreByParts 82 = .ok (.iload_n 1, 1) := by decide +kernel
theorem dX4_scoreByParts_83 : decode cX4_scoreByParts 83 = .ok (.invokevirtual 114, 3) := by decide +kernel
theorem dX4_scoreByParts_86 : decode cX4_scoreByParts 86 = .ok (.i2l, 1) := by decide +kernel
theorem dX4_scoreByParts_87 : decode cX4_scoreByParts 87 = .ok (.lreturn, 1) := by decide +kernel
theorem dX4_scoreByParts_88 : decode cX4_scoreByParts 88 = .ok (.aload_n 0, 1) := by decide +kernel
theorem dX4_scoreByParts_89 : decode cX4_scoreByParts 89 = .ok (.getfield 15, 3) := by decide +kernel
theorem dX4_scoreByParts_92 : decode cX4_scoreByParts 92 = .ok (.aload_n 0, 1) := by decide +kernel
theorem dX4_scoreByParts_93 : decode cX4_scoreByParts 93 = .ok (.getfield 26, 3) := by decide +kernel
theorem dX4_scoreByParts_96 : decode cX4_scoreByParts 96 = .ok (.iload_n 1, 1) := by decide +kernel
theorem dX4_scoreByParts_97 : decode cX4_scoreByParts 97 = .ok (.iconst 0, 1) := by decide +kernel
theorem dX4_scoreByParts_98 : decode cX4_scoreByParts 98 = .ok (.invokevirtual 79, 3) := by decide +kernel
theorem dX4_scoreByParts_101 : decode cX4_scoreByParts 101 = .ok (.laload, 1) := by decide +kernel
theorem dX4_scoreByParts_102 : decode cX4_scoreByParts 102 = .ok (.lreturn, 1) := by decide +kernel
theorem dX4_scoreByParts_103 : decode cX4_scoreByParts 103 = .ok (.lconst 0, 1) := by decide +kernel
theorem dX4_scoreByParts_104 : decode cX4_scoreByParts 104 = .ok (.lreturn, 1) := by decide +kernel
theorem dX4_scoreOfBool_0 : decode cX4_scoreOfBool 0 = .ok (.lconst 0, 1) := by decide +kernel
theorem dX4_scoreOfBool_1 : decode cX4_scoreOfBool 1 = .ok (.lstore_n 2, 1) := by decide +kernel
theorem dX4_scoreOfBool_2 : decode cX4_scoreOfBool 2 = .ok (.iconst 0, 1) := by decide +kernel
theorem dX4_scoreOfBool_3 : decode cX4_scoreOfBool 3 = .ok (.istore 4, 2) := by decide +kernel
theorem dX4_scoreOfBool_5 : decode cX4_scoreOfBool 5 = .ok (.iload 4, 2) := by decide +kernel
theorem dX4_scoreOfBool_7 : decode cX4_scoreOfBool 7 = .ok (.aload_n 0, 1) := by decide +kernel
theorem dX4_scoreOfBool_8 : decode cX4_scoreOfBool 8 = .ok (.getfield 26, 3) := by decide +kernel
theorem dX4_scoreOfBool_11 : decode cX4_scoreOfBool 11 = .ok (.iload_n 1, 1) := by decide +kernel
theorem dX4_scoreOfBool_12 : decode cX4_scoreOfBool 12 = .ok (.invokevirtual 76, 3) := by decide +kernel
theorem dX4_scoreOfBool_15 : decode cX4_scoreOfBool 15 = .ok (.if_icmp .ge 65, 3) := by decide +kernel
theorem dX4_scoreOfBool_18 : decode cX4_scoreOfBool 18 = .ok (.aload_n 0, 1) := by decide +kernel
theorem dX4_scoreOfBool_19 : decode cX4_scoreOfBool 19 = .ok (.getfield 26, 3) := by decide +kernel
theorem dX4_scoreOfBool_22 : decode cX4_scoreOfBool 22 = .ok (.iload_n 1, 1) := by decide +kernel
theorem dX4_scoreOfBool_23 : decode cX4_scoreOfBool 23 = .ok (.iload 4, 2) := by decide +kernel
theorem dX4_scoreOfBool_25 : decode cX4_scoreOfBool 25 = .ok (.invokevirtual 85, 3) := by decide +kernel
theorem dX4_scoreOfBool_28 : decode cX4_scoreOfBool 28 = .ok (.istore 5, 2) := by decide +kernel
theorem dX4_scoreOfBool_30 : decode cX4_scoreOfBool 30 = .ok (.aload_n 0, 1) := by decide +kernel
theorem dX4_scoreOfBool_31 : decode cX4_scoreOfBool 31 = .ok (.getfield 26, 3) := by decide +kernel
theorem dX4_scoreOfBool_34 : decode cX4_scoreOfBool 34 = .ok (.iload_n 1, 1) := by decide +kernel
theorem dX4_scoreOfBool_35 : decode cX4_scoreOfBool 35 = .ok (.iload 4, 2) := by decide +kernel
theorem dX4_scoreOfBool_37 : decode cX4_scoreOfBool 37 = .ok (.invokevirtual 79, 3) := by decide +kernel
theorem dX4_scoreOfBool_40 : decode cX4_scoreOfBool 40 = .ok (.istore 6, 2) := by decide +kernel
theorem dX4_scoreOfBool_42 : decode cX4_scoreOfBool 42 = .ok (.iload 5, 2) := by decide +kernel
theorem dX4_scoreOfBool_44 : decode cX4_scoreOfBool 44 = .ok (.ifCond .eq 9, 3) := by decide +kernel
theorem dX4_scoreOfBool_47 : decode cX4_scoreOfBool 47 = .ok (.iload 5, 2) := by decide +kernel
theorem dX4_scoreOfBool_49 : decode cX4_scoreOfBool 49 = .ok (.iconst 3, 1) := by decide +kernel
theorem dX4_scoreOfBool_50 : decode cX4_scoreOfBool 50 = .ok (.if_icmp .ne 24, 3) := by decide +kernel
theorem dX4_scoreOfBool_53 : decode cX4_scoreOfBool 53 = .ok (.aload_n 0, 1) := by decide +kernel
theorem dX4_scoreOfBool_54 : decode cX4_scoreOfBool 54 = .ok (.getfield 9, 3) := by decide +kernel
theorem dX4_scoreOfBool_57 : decode cX4_scoreOfBool 57 = .ok (.iload 6, 2) := by decide +kernel
theorem dX4_scoreOfBool_59 : decode cX4_scoreOfBool 59 = .ok (.iaload, 1) := by decide +kernel
theorem dX4_scoreOfBool_60 : decode cX4_scoreOfBool 60 = .ok (.iconst 1, 1) := by decide +kernel
theorem dX4_scoreOfBool_61 : decode cX4_scoreOfBool 61 = .ok (.if_icmp .ne 13, 3) := by decide +kernel
theorem dX4_scoreOfBool_64 : decode cX4_scoreOfBool 64 = .ok (.lload_n 2, 1) := by decide +kernel
theorem dX4_scoreOfBool_65 : decode cX4_scoreOfBool 65 = .ok (.aload_n 0, 1) := by decide +kernel
theorem dX4_scoreOfBool_66 : decode cX4_scoreOfBool 66 = .ok (.getfield 15, 3) := by decide +kernel
theorem dX4_scoreOfBool_69 : decode cX4_scoreOfBool 69 = .ok (.iload 6, 2) := by decide +kernel
theorem dX4_scoreOfBool_71 : decode cX4_scoreOfBool 71 = .ok (.laload, 1) := by decide +kernel
theorem dX4_scoreOfBool_72 : decode cX4_scoreOfBool 72 = .ok (.ladd, 1) := by decide +kernel
theorem dX4_scoreOfBool_73 : decode cX4_scoreOfBool 73 = .ok (.lstore_n 2, 1) := by decide +kernel
theorem dX4_scoreOfBool_74 : decode cX4_scoreOfBool 74 = .ok (.iinc 4 1, 3) := by decide +kernel
theorem dX4_scoreOfBool_77 : decode cX4_scoreOfBool 77 = .ok (.goto (-72), 3) := by decide +kernel
theorem dX4_scoreOfBool_80 : decode cX4_scoreOfBool 80 = .ok (.lload_n 2, 1) := by decide +kernel
theorem dX4_scoreOfBool_81 : decode cX4_scoreOfBool 81 = .ok (.lreturn, 1) := by decide +kernel
theorem dX4_scoreOfBest_0 : decode cX4_scoreOfBest 0 = .ok (.lconst 0, 1) := by decide +kernel
theorem dX4_scoreOfBest_1 : decode cX4_scoreOfBest 1 = .ok (.lstore_n 2, 1) := by decide +kernel
theorem dX4_scoreOfBest_2 : decode cX4_scoreOfBest 2 = .ok (.ldc2_w 138, 3) := by decide +kernel
theorem dX4_scoreOfBest_5 : decode cX4_scoreOfBest 5 = .ok (.lstore 4, 2) := by decide +kernel
theorem dX4_scoreOfBest_7 : decode cX4_scoreOfBest 7 = .ok (.iconst 0, 1) := by decide +kernel
theorem dX4_scoreOfBest_8 : decode cX4_scoreOfBest 8 = .ok (.istore 6, 2) := by decide +kernel
theorem dX4_scoreOfBest_10 : decode cX4_scoreOfBest 10 = .ok (.iload 6, 2) := by decide +kernel
theorem dX4_scoreOfBest_12 : decode cX4_scoreOfBest 12 = .ok (.aload_n 0, 1) := by decide +kernel
theorem dX4_scoreOfBest_13 : decode cX4_scoreOfBest 13 = .ok (.getfield 26, 3) := by decide +kernel
theorem dX4_scoreOfBest_16 : decode cX4_scoreOfBest 16 = .ok (.iload_n 1, 1) := by decide +kernel
theorem dX4_scoreOfBest_17 : decode cX4_scoreOfBest 17 = .ok (.invokevirtual 76, 3) := by decide +kernel
theorem dX4_scoreOfBest_20 : decode cX4_scoreOfBest 20 = .ok (.if_icmp .ge 56, 3) := by decide +kernel
theorem dX4_scoreOfBest_23 : decode cX4_scoreOfBest 23 = .ok (.aload_n 0, 1) := by decide +kernel
theorem dX4_scoreOfBest_24 : decode cX4_scoreOfBest 24 = .ok (.getfield 26, 3) := by decide +kernel
theorem dX4_scoreOfBest_27 : decode cX4_scoreOfBest 27 = .ok (.iload_n 1, 1) := by decide +kernel
theorem dX4_scoreOfBest_28 : decode cX4_scoreOfBest 28 = .ok (.iload 6, 2) := by decide +kernel
theorem dX4_scoreOfBest_30 : decode cX4_scoreOfBest 30 = .ok (.invokevirtual 79, 3) := by decide +kernel
theorem dX4_scoreOfBest_33 : decode cX4_scoreOfBest 33 = .ok (.istore 7, 2) := by decide +kernel
theorem dX4_scoreOfBest_35 : decode cX4_scoreOfBest 35 = .ok (.aload_n 0, 1) := by decide +kernel
theorem dX4_scoreOfBest_36 : decode cX4_scoreOfBest 36 = .ok (.getfield 9, 3) := by decide +kernel
theorem dX4_scoreOfBest_39 : decode cX4_scoreOfBest 39 = .ok (.iload 7, 2) := by decide +kernel
theorem dX4_scoreOfBest_41 : decode cX4_scoreOfBest 41 = .ok (.iaload, 1) := by decide +kernel
theorem dX4_scoreOfBest_42 : decode cX4_scoreOfBest 42 = .ok (.iconst 1, 1) := by decide +kernel
theorem dX4_scoreOfBest_43 : decode cX4_scoreOfBest 43 = .ok (.if_icmp .ne 27, 3) := by decide +kernel
theorem dX4_scoreOfBest_46 : decode cX4_scoreOfBest 46 = .ok (.lload_n 2, 1) := by decide +kernel
theorem dX4_scoreOfBest_47 : decode cX4_scoreOfBest 47 = .ok (.aload_n 0, 1) := by decide +kernel
theorem dX4_scoreOfBest_48 : decode cX4_scoreOfBest 48 = .ok (.getfield 15, 3) := by decide +kernel
theorem dX4_scoreOfBest_51 : decode cX4_scoreOfBest 51 = .ok (.iload 7, 2) := by decide +kernel
theorem dX4_scoreOfBest_53 : decode cX4_scoreOfBest 53 = .ok (.laload, 1) := by decide +kernel
theorem dX4_scoreOfBest_54 : decode cX4_scoreOfBest 54 = .ok (.ladd, 1) := by decide +kernel
theorem dX4_scoreOfBest_55 : decode cX4_scoreOfBest 55 = .ok (.lstore_n 2, 1) := by decide +kernel
theorem dX4_scoreOfBest_56 : decode cX4_scoreOfBest 56 = .ok (.lload 4, 2) := by decide +kernel
theorem dX4_scoreOfBest_58 : decode cX4_scoreOfBest 58 = .ok (.aload_n 0, 1) := by decide +kernel
theorem dX4_scoreOfBest_59 : decode cX4_scoreOfBest 59 = .ok (.getfield 15, 3) := by decide +kernel
theorem dX4_scoreOfBest_62 : decode cX4_scoreOfBest 62 = .ok (.iload 7, 2) := by decide +kernel
theorem dX4_scoreOfBest_64 : decode cX4_scoreOfBest 64 = .ok (.laload, 1) := by decide +kernel
theorem dX4_scoreOfBest_65 : decode cX4_scoreOfBest 65 = .ok (.invokestatic 140, 3) := by decide +kernel
theorem dX4_scoreOfBest_68 : decode cX4_scoreOfBest 68 = .ok (.lstore 4, 2) := by decide +kernel
theorem dX4_scoreOfBest_70 : decode cX4_scoreOfBest 70 = .ok (.iinc 6 1, 3) := by decide +kernel
theorem dX4_scoreOfBest_73 : decode cX4_scoreOfBest 73 = .ok (.goto (-63), 3) := by decide +kernel
theorem dX4_scoreOfBest_76 : decode cX4_scoreOfBest 76 = .ok (.lload 4, 2) := by decide +kernel
theorem dX4_scoreOfBest_78 : decode cX4_scoreOfBest 78 = .ok (.lload_n 2, 1) := by decide +kernel
theorem dX4_scoreOfBest_79 : decode cX4_scoreOfBest 79 = .ok (.lload 4, 2) := by decide +kernel
theorem dX4_scoreOfBest_81 : decode cX4_scoreOfBest 81 = .ok (.lsub, 1) := by decide +kernel
theorem dX4_scoreOfBest_82 : decode cX4_scoreOfBest 82 = .ok (.aload_n 0, 1) := by decide +kernel
theorem dX4_scoreOfBest_83 : decode cX4_scoreOfBest 83 = .ok (.getfield 26, 3) := by decide +kernel
theorem dX4_scoreOfBest_86 : decode cX4_scoreOfBest 86 = .ok (.iload_n 1, 1) := by decide +kernel
theorem dX4_scoreOfBest_87 : decode cX4_scoreOfBest 87 = .ok (.invokevirtual 121, 3) := by decide +kernel
theorem dX4_scoreOfBest_90 : decode cX4_scoreOfBest 90 = .ok (.i2l, 1) := by decide +kernel
theorem dX4_scoreOfBest_91 : decode cX4_scoreOfBest 91 = .ok (.lmul, 1) := by decide +kernel
theorem dX4_scoreOfBest_92 : decode cX4_scoreOfBest 92 = .ok (.ldc2_w 146, 3) := by decide +kernel
theorem dX4_scoreOfBest_95 : decode cX4_scoreOfBest 95 = .ok (.ldiv, 1) := by decide +kernel
theorem dX4_scoreOfBest_96 : decode cX4_scoreOfBest 96 = .ok (.ladd, 1) := by decide +kernel
theorem dX4_scoreOfBest_97 : decode cX4_scoreOfBest 97 = .ok (.lreturn, 1) := by decide +kernel
theorem dX5_init_0 : decode cX5_init 0 = .ok (.aload_n 0, 1) := by decide +kernel
theorem dX5_init_1 : decode cX5_init 1 = .ok (.invokespecial 3, 3) := by decide +kernel
theorem dX5_init_4 : decode cX5_init 4 = .ok (.aload_n 0, 1) := by decide +kernel
theorem dX5_init_5 : decode cX5_init 5 = .ok (.bipush 80, 2) := by decide +kernel
theorem dX5_init_7 : decode cX5_init 7 = .ok (.newarray .int, 2) := by decide +kernel
theorem dX5_init_9 : decode cX5_init 9 = .ok (.putfield 9, 3) := by decide +kernel
theorem dX5_init_12 : decode cX5_init 12 = .ok (.aload_n 0, 1) := by decide +kernel
theorem dX5_init_13 : decode cX5_init 13 = .ok (.bipush 80, 2) := by decide +kernel
theorem dX5_init_15 : decode cX5_init 15 = .ok (.newarray .int, 2) := by decide +kernel
theorem dX5_init_17 : decode cX5_init 17 = .ok (.putfield 15, 3) := by decide +kernel
theorem dX5_init_20 : decode cX5_init 20 = .ok (.aload_n 0, 1) := by decide +kernel
theorem dX5_init_21 : decode cX5_init 21 = .ok (.bipush 80, 2) := by decide +kernel
theorem dX5_init_23 : decode cX5_init 23 = .ok (.newarray .int, 2) := by decide +kernel
theorem dX5_init_25 : decode cX5_init 25 = .ok (.putfield 18, 3) := by decide +kernel
theorem dX5_init_28 : decode cX5_init 28 = .ok (.aload_n 0, 1) := by decide +kernel
theorem dX5_init_29 : decode cX5_init 29 = .ok (.bipush 80, 2) := by decide +kernel
theorem dX5_init_31 : decode cX5_init 31 = .ok (.newarray .int, 2) := by decide +kernel
theorem dX5_init_33 : decode cX5_init 33 = .ok (.putfield 21, 3) := by decide +kernel
theorem dX5_init_36 : decode cX5_init 36 = .ok (.aload_n 0, 1) := by decide +kernel
theorem dX5_init_37 : decode cX5_init 37 = .ok (.bipush 80, 2) := by decide +kernel
theorem dX5_init_39 : decode cX5_init 39 = .ok (.newarray .int, 2) := by decide +kernel
theorem dX5_init_41 : decode cX5_init 41 = .ok (.putfield 24, 3) := by decide +kernel
theorem dX5_init_44 : decode cX5_init 44 = .ok (.aload_n 0, 1) := by decide +kernel
theorem dX5_init_45 : decode cX5_init 45 = .ok (.sipush 640, 3) := by decide +kernel
theorem dX5_init_48 : decode cX5_init 48 = .ok (.newarray .int, 2) := by decide +kernel
theorem dX5_init_50 : decode cX5_init 50 = .ok (.putfield 27, 3) := by decide +kernel
theorem dX5_init_53 : decode cX5_init 53 = .ok (.aload_n 0, 1) := by decide +kernel
theorem dX5_init_54 : decode cX5_init 54 = .ok (.sipush 640, 3) := by decide +kernel
theorem dX5_init_57 : decode cX5_init 57 = .ok (.newarray .int, 2) := by decide +kernel
theorem dX5_init_59 : decode cX5_init 59 = .ok (.putfield 30, 3) := by decide +kernel
theorem dX5_init_62 : decode cX5_init 62 = .ok (.return_, 1) := by decide +kernel
theorem dX5_count_0 : decode cX5_count 0 = .ok (.aload_n 0, 1) := by decide +kernel
theorem dX5_count_1 : decode cX5_count 1 = .ok (.getfield 33, 3) := by decide +kernel
theorem dX5_count_4 : decode cX5_count 4 = .ok (.ireturn, 1) := by decide +kernel
theorem dX5_has_0 : decode cX5_has 0 = .ok (.iload_n 1, 1) := by decide +kernel
theorem dX5_has_1 : decode cX5_has 1 = .ok (.ifCond .lt 15, 3) := by decide +kernel
theorem dX5_has_4 : decode cX5_has 4 = .ok (.iload_n 1, 1) := by decide +kernel
theorem dX5_has_5 : decode cX5_has 5 = .ok (.aload_n 0, 1) := by decide +kernel
theorem dX5_has_6 : decode cX5_has 6 = .ok (.getfield 33, 3) := by decide +kernel
theorem dX5_has_9 : decode cX5_has 9 = .ok (.if_icmp .ge 7, 3) := by decide +kernel
theorem dX5_has_12 : decode cX5_has 12 = .ok (.iconst 1, 1) := by decide +kernel
theorem dX5_has_13 : decode cX5_has 13 = .ok (.goto 4, 3) := by decide +kernel
theorem dX5_has_16 : decode cX5_has 16 = .ok (.iconst 0, 1) := by decide +kernel
theorem dX5_has_17 : decode cX5_has 17 = .ok (.ireturn, 1) := by decide +kernel
theorem dX5_kind_0 : decode cX5_kind 0 = .ok (.aload_n 0, 1) := by decide +kernel
theorem dX5_kind_1 : decode cX5_kind 1 = .ok (.getfield 9, 3) := by decide +kernel
theorem dX5_kind_4 : decode cX5_kind 4 = .ok (.iload_n 1, 1) := by decide +kernel
theorem dX5_kind_5 : decode cX5_kind 5 = .ok (.iaload, 1) := by decide +kernel
theorem dX5_kind_6 : decode cX5_kind 6 = .ok (.ireturn, 1) := by decide +kernel
theorem dX5_first_0 : decode cX5_first 0 = .ok (.aload_n 0, 1) := by decide +kernel
theorem dX5_first_1 : decode cX5_first 1 = .ok (.getfield 15, 3) := by decide +kernel
theorem dX5_first_4 : decode cX5_first 4 = .ok (.iload_n 1, 1) := by decide +kernel
theorem dX5_first_5 : decode cX5_first 5 = .ok (.iaload, 1) := by decide +kernel
theorem dX5_first_6 : decode cX5_first 6 = .ok (.ireturn, 1) := by decide +kernel
theorem dX5_second_0 : decode cX5_second 0 = .ok (.aload_n 0, 1) := by decide +kernel
theorem dX5_second_1 : decode cX5_second 1 = .ok (.getfield 18, 3) := by decide +kernel
theorem dX5_second_4 : decode cX5_second 4 = .ok (.iload_n 1, 1) := by decide +kernel
theorem dX5_second_5 : decode cX5_second 5 = .ok (.iaload, 1) := by decide +kernel
theorem dX5_second_6 : decode cX5_second 6 = .ok (.ireturn, 1) := by decide +kernel
theorem dX5_size_0 : decode cX5_size 0 = .ok (.aload_n 0, 1) := by decide +kernel
theorem dX5_size_1 : decode cX5_size 1 = .ok (.getfield 24, 3) := by decide +kernel
theorem dX5_size_4 : decode cX5_size 4 = .ok (.iload_n 1, 1) := by decide +kernel
theorem dX5_size_5 : decode cX5_size 5 = .ok (.iaload, 1) := by decide +kernel
theorem dX5_size_6 : decode cX5_size 6 = .ok (.ireturn, 1) := by decide +kernel
theorem dX5_roleAt_0 : decode cX5_roleAt 0 = .ok (.aload_n 0, 1) := by decide +kernel
theorem dX5_roleAt_1 : decode cX5_roleAt 1 = .ok (.getfield 27, 3) := by decide +kernel
theorem dX5_roleAt_4 : decode cX5_roleAt 4 = .ok (.iload_n 1, 1) := by decide +kernel
theorem dX5_roleAt_5 : decode cX5_roleAt 5 = .ok (.bipush 8, 2) := by decide +kernel
theorem dX5_roleAt_7 : decode cX5_roleAt 7 = .ok (.imul, 1) := by decide +kernel
theorem dX5_roleAt_8 : decode cX5_roleAt 8 = .ok (.iload_n 2, 1) := by decide +kernel
theorem dX5_roleAt_9 : decode cX5_roleAt 9 = .ok (.iadd, 1) := by decide +kernel
theorem dX5_roleAt_10 : decode cX5_roleAt 10 = .ok (.iaload, 1) := by decide +kernel
theorem dX5_roleAt_11 : decode cX5_roleAt 11 = .ok (.ireturn, 1) := by decide +kernel
theorem dX5_partAt_0 : decode cX5_partAt 0 = .ok (.aload_n 0, 1) := by decide +kernel
theorem dX5_partAt_1 : decode cX5_partAt 1 = .ok (.getfield 30, 3) := by decide +kernel
theorem dX5_partAt_4 : decode cX5_partAt 4 = .ok (.iload_n 1, 1) := by decide +kernel
theorem dX5_partAt_5 : decode cX5_partAt 5 = .ok (.bipush 8, 2) := by decide +kernel
theorem dX5_partAt_7 : decode cX5_partAt 7 = .ok (.imul, 1) := by decide +kernel
theorem dX5_partAt_8 : decode cX5_partAt 8 = .ok (.iload_n 2, 1) := by decide +kernel
theorem dX5_partAt_9 : decode cX5_partAt 9 = .ok (.iadd, 1) := by decide +kernel
theorem dX5_partAt_10 : decode cX5_partAt 10 = .ok (.iaload, 1) := by decide +kernel
theorem dX5_partAt_11 : decode cX5_partAt 11 = .ok (.ireturn, 1) := by decide +kernel
theorem dX5_asked_0 : decode cX5_asked 0 = .ok (.aload_n 0, 1) := by decide +kernel
theorem dX5_asked_1 : decode cX5_asked 1 = .ok (.getfield 21, 3) := by decide +kernel
theorem dX5_asked_4 : decode cX5_asked 4 = .ok (.iload_n 1, 1) := by decide +kernel
theorem dX5_asked_5 : decode cX5_asked 5 = .ok (.iaload, 1) := by decide +kernel
theorem dX5_asked_6 : decode cX5_asked 6 = .ok (.ireturn, 1) := by decide +kernel
theorem dX5_make_0 : decode cX5_make 0 = .ok (.aload_n 0, 1) := by decide +kernel
theorem dX5_make_1 : decode cX5_make 1 = .ok (.getfield 33, 3) := by decide +kernel
theorem dX5_make_4 : decode cX5_make 4 = .ok (.bipush 80, 2) := by decide +kernel
theorem dX5_make_6 : decode cX5_make 6 = .ok (.if_icmp .lt 6, 3) := by decide +kernel
theorem dX5_make_9 : decode cX5_make 9 = .ok (.bipush (-3), 2) := by decide +kernel
theorem dX5_make_11 : decode cX5_make 11 = .ok (.ireturn, 1) := by decide +kernel
theorem dX5_make_12 : decode cX5_make 12 = .ok (.aload_n 0, 1) := by decide +kernel
theorem dX5_make_13 : decode cX5_make 13 = .ok (.getfield 33, 3) := by decide +kernel
theorem dX5_make_16 : decode cX5_make 16 = .ok (.istore 4, 2) := by decide +kernel
theorem dX5_make_18 : decode cX5_make 18 = .ok (.aload_n 0, 1) := by decide +kernel
theorem dX5_make_19 : decode cX5_make 19 = .ok (.dup, 1) := by decide +kernel
theorem dX5_make_20 : decode cX5_make 20 = .ok (.getfield 33, 3) := by decide +kernel
theorem dX5_make_23 : decode cX5_make 23 = .ok (.iconst 1, 1) := by decide +kernel
theorem dX5_make_24 : decode cX5_make 24 = .ok (.iadd, 1) := by decide +kernel
theorem dX5_make_25 : decode cX5_make 25 = .ok (.putfield 33, 3) := by decide +kernel
theorem dX5_make_28 : decode cX5_make 28 = .ok (.aload_n 0, 1) := by decide +kernel
theorem dX5_make_29 : decode cX5_make 29 = .ok (.getfield 9, 3) := by decide +kernel
theorem dX5_make_32 : decode cX5_make 32 = .ok (.iload 4, 2) := by decide +kernel
theorem dX5_make_34 : decode cX5_make 34 = .ok (.iload_n 1, 1) := by decide +kernel
theorem dX5_make_35 : decode cX5_make 35 = .ok (.iastore, 1) := by decide +kernel
theorem dX5_make_36 : decode cX5_make 36 = .ok (.aload_n 0, 1) := by decide +kernel
theorem dX5_make_37 : decode cX5_make 37 = .ok (.getfield 15, 3) := by decide +kernel
theorem dX5_make_40 : decode cX5_make 40 = .ok (.iload 4, 2) := by decide +kernel
theorem dX5_make_42 : decode cX5_make 42 = .ok (.iload_n 2, 1) := by decide +kernel
theorem dX5_make_43 : decode cX5_make 43 = .ok (.iastore, 1) := by decide +kernel
theorem dX5_make_44 : decode cX5_make 44 = .ok (.aload_n 0, 1) := by decide +kernel
theorem dX5_make_45 : decode cX5_make 45 = .ok (.getfield 18, 3) := by decide +kernel
theorem dX5_make_48 : decode cX5_make 48 = .ok (.iload 4, 2) := by decide +kernel
theorem dX5_make_50 : decode cX5_make 50 = .ok (.iload_n 3, 1) := by decide +kernel
theorem dX5_make_51 : decode cX5_make 51 = .ok (.iastore, 1) := by decide +kernel
theorem dX5_make_52 : decode cX5_make 52 = .ok (.aload_n 0, 1) := by decide +kernel
theorem dX5_make_53 : decode cX5_make 53 = .ok (.getfield 21, 3) := by decide +kernel
theorem dX5_make_56 : decode cX5_make 56 = .ok (.iload 4, 2) := by decide +kernel
theorem dX5_make_58 : decode cX5_make 58 = .ok (.iconst 0, 1) := by decide +kernel
theorem dX5_make_59 : decode cX5_make 59 = .ok (.iastore, 1) := by decide +kernel
theorem dX5_make_60 : decode cX5_make 60 = .ok (.aload_n 0, 1) := by decide +kernel
theorem dX5_make_61 : decode cX5_make 61 = .ok (.getfield 24, 3) := by decide +kernel
theorem dX5_make_64 : decode cX5_make 64 = .ok (.iload 4, 2) := by decide +kernel
theorem dX5_make_66 : decode cX5_make 66 = .ok (.iconst 0, 1) := by decide +kernel
theorem dX5_make_67 : decode cX5_make 67 = .ok (.iastore, 1) := by decide +kernel
theorem dX5_make_68 : decode cX5_make 68 = .ok (.iload_n 1, 1) := by decide +kernel
theorem dX5_make_69 : decode cX5_make 69 = .ok (.iconst 4, 1) := by decide +kernel
theorem dX5_make_70 : decode cX5_make 70 = .ok (.if_icmp .eq 14, 3) := by decide +kernel
theorem dX5_make_73 : decode cX5_make 73 = .ok (.iload_n 1, 1) := by decide +kernel
theorem dX5_make_74 : decode cX5_make 74 = .ok (.iconst 5, 1) := by decide +kernel
theorem dX5_make_75 : decode cX5_make 75 = .ok (.if_icmp .eq 9, 3) := by decide +kernel
theorem dX5_make_78 : decode cX5_make 78 = .ok (.iload_n 1, 1) := by decide +kernel
theorem dX5_make_79 : decode cX5_make 79 = .ok (.bipush 6, 2) := by decide +kernel
theorem dX5_make_81 : decode cX5_make 81 = .ok (.if_icmp .ne 12, 3) := by decide +kernel
theorem dX5_make_84 : decode cX5_make 84 = .ok (.aload_n 0, 1) := by decide +kernel
theorem dX5_make_85 : decode cX5_make 85 = .ok (.iload 4, 2) := by decide +kernel
theorem dX5_make_87 : decode cX5_make 87 = .ok (.iconst 0, 1) := by decide +kernel
theorem dX5_make_88 : decode cX5_make 88 = .ok (.iload_n 2, 1) := by decide +kernel
theorem dX5_make_89 : decode cX5_make 89 = .ok (.invokevirtual 37, 3) := by decide +kernel
theorem dX5_make_92 : decode cX5_make 92 = .ok (.pop, 1) := by decide +kernel
theorem dX5_make_93 : decode cX5_make 93 = .ok (.iload 4, 2) := by decide +kernel
theorem dX5_make_95 : decode cX5_make 95 = .ok (.ireturn, 1) := by decide +kernel
theorem dX5_add_0 : decode cX5_add 0 = .ok (.aload_n 0, 1) := by decide +kernel
theorem dX5_add_1 : decode cX5_add 1 = .ok (.getfield 24, 3) := by decide +kernel
theorem dX5_add_4 : decode cX5_add 4 = .ok (.iload_n 1, 1) := by decide +kernel
theorem dX5_add_5 : decode cX5_add 5 = .ok (.iaload, 1) := by decide +kernel
theorem dX5_add_6 : decode cX5_add 6 = .ok (.bipush 8, 2) := by decide +kernel
theorem dX5_add_8 : decode cX5_add 8 = .ok (.if_icmp .lt 5, 3) := by decide +kernel
theorem dX5_add_11 : decode cX5_add 11 = .ok (.iconst 0, 1) := by decide +kernel
theorem dX5_add_12 : decode cX5_add 12 = .ok (.ireturn, 1) := by decide +kernel
theorem dX5_add_13 : decode cX5_add 13 = .ok (.iload_n 1, 1) := by decide +kernel
theorem dX5_add_14 : decode cX5_add 14 = .ok (.bipush 8, 2) := by decide +kernel
theorem dX5_add_16 : decode cX5_add 16 = .ok (.imul, 1) := by decide +kernel
theorem dX5_add_17 : decode cX5_add 17 = .ok (.aload_n 0, 1) := by decide +kernel
theorem dX5_add_18 : decode cX5_add 18 = .ok (.getfield 24, 3) := by decide +kernel
theorem dX5_add_21 : decode cX5_add 21 = .ok (.iload_n 1, 1) := by decide +kernel
theorem dX5_add_22 : decode cX5_add 22 = .ok (.iaload, 1) := by decide +kernel
theorem dX5_add_23 : decode cX5_add 23 = .ok (.iadd, 1) := by decide +kernel
theorem dX5_add_24 : decode cX5_add 24 = .ok (.istore 4, 2) := by decide +kernel
theorem dX5_add_26 : decode cX5_add 26 = .ok (.aload_n 0, 1) := by decide +kernel
theorem dX5_add_27 : decode cX5_add 27 = .ok (.getfield 27, 3) := by decide +kernel
theorem dX5_add_30 : decode cX5_add 30 = .ok (.iload 4, 2) := by decide +kernel
theorem dX5_add_32 : decode cX5_add 32 = .ok (.iload_n 2, 1) := by decide +kernel
theorem dX5_add_33 : decode cX5_add 33 = .ok (.iastore, 1) := by decide +kernel
theorem dX5_add_34 : decode cX5_add 34 = .ok (.aload_n 0, 1) := by decide +kernel
theorem dX5_add_35 : decode cX5_add 35 = .ok (.getfield 30, 3) := by decide +kernel
theorem dX5_add_38 : decode cX5_add 38 = .ok (.iload 4, 2) := by decide +kernel
theorem dX5_add_40 : decode cX5_add 40 = .ok (.iload_n 3, 1) := by decide +kernel
theorem dX5_add_41 : decode cX5_add 41 = .ok (.iastore, 1) := by decide +kernel
theorem dX5_add_42 : decode cX5_add 42 = .ok (.aload_n 0, 1) := by decide +kernel
theorem dX5_add_43 : decode cX5_add 43 = .ok (.getfield 24, 3) := by decide +kernel
theorem dX5_add_46 : decode cX5_add 46 = .ok (.iload_n 1, 1) := by decide +kernel
theorem dX5_add_47 : decode cX5_add 47 = .ok (.dup2, 1) := by decide +kernel
theorem dX5_add_48 : decode cX5_add 48 = .ok (.iaload, 1) := by decide +kernel
theorem dX5_add_49 : decode cX5_add 49 = .ok (.iconst 1, 1) := by decide +kernel
theorem dX5_add_50 : decode cX5_add 50 = .ok (.iadd, 1) := by decide +kernel
theorem dX5_add_51 : decode cX5_add 51 = .ok (.iastore, 1) := by decide +kernel
theorem dX5_add_52 : decode cX5_add 52 = .ok (.iconst 1, 1) := by decide +kernel
theorem dX5_add_53 : decode cX5_add 53 = .ok (.ireturn, 1) := by decide +kernel
theorem dX5_shrinkTo_0 : decode cX5_shrinkTo 0 = .ok (.aload_n 0, 1) := by decide +kernel
theorem dX5_shrinkTo_1 : decode cX5_shrinkTo 1 = .ok (.iload_n 1, 1) := by decide +kernel
theorem dX5_shrinkTo_2 : decode cX5_shrinkTo 2 = .ok (.putfield 33, 3) := by decide +kernel
theorem dX5_shrinkTo_5 : decode cX5_shrinkTo 5 = .ok (.return_, 1) := by decide +kernel
theorem dX5_hasNumbers_0 : decode cX5_hasNumbers 0 = .ok (.aload_n 0, 1) := by decide +kernel
theorem dX5_hasNumbers_1 : decode cX5_hasNumbers 1 = .ok (.getfield 9, 3) := by decide +kernel
theorem dX5_hasNumbers_4 : decode cX5_hasNumbers 4 = .ok (.iload_n 1, 1) := by decide +kernel
theorem dX5_hasNumbers_5 : decode cX5_hasNumbers 5 = .ok (.iaload, 1) := by decide +kernel
theorem dX5_hasNumbers_6 : decode cX5_hasNumbers 6 = .ok (.iload_n 2, 1) := by decide +kernel
theorem dX5_hasNumbers_7 : decode cX5_hasNumbers 7 = .ok (.if_icmp .ne 28, 3) := by decide +kernel
theorem dX5_hasNumbers_10 : decode cX5_hasNumbers 10 = .ok (.aload_n 0, 1) := by decide +kernel
theorem dX5_hasNumbers_11 : decode cX5_hasNumbers 11 = .ok (.getfield 15, 3) := by decide +kernel
theorem dX5_hasNumbers_14 : decode cX5_hasNumbers 14 = .ok (.iload_n 1, 1) := by decide +kernel
theorem dX5_hasNumbers_15 : decode cX5_hasNumbers 15 = .ok (.iaload, 1) := by decide +kernel
theorem dX5_hasNumbers_16 : decode cX5_hasNumbers 16 = .ok (.iload_n 3, 1) := by decide +kernel
theorem dX5_hasNumbers_17 : decode cX5_hasNumbers 17 = .ok (.if_icmp .ne 18, 3) := by decide +kernel
theorem dX5_hasNumbers_20 : decode cX5_hasNumbers 20 = .ok (.aload_n 0, 1) := by decide +kernel
theorem dX5_hasNumbers_21 : decode cX5_hasNumbers 21 = .ok (.getfield 18, 3) := by decide +kernel
theorem dX5_hasNumbers_24 : decode cX5_hasNumbers 24 = .ok (.iload_n 1, 1) := by decide +kernel
theorem dX5_hasNumbers_25 : decode cX5_hasNumbers 25 = .ok (.iaload, 1) := by decide +kernel
theorem dX5_hasNumbers_26 : decode cX5_hasNumbers 26 = .ok (.iload 4, 2) := by decide +kernel
theorem dX5_hasNumbers_28 : decode cX5_hasNumbers 28 = .ok (.if_icmp .ne 7, 3) := by decide +kernel
theorem dX5_hasNumbers_31 : decode cX5_hasNumbers 31 = .ok (.iconst 1, 1) := by decide +kernel
theorem dX5_hasNumbers_32 : decode cX5_hasNumbers 32 = .ok (.goto 4, 3) := by decide +kernel
theorem dX5_hasNumbers_35 : decode cX5_hasNumbers 35 = .ok (.iconst 0, 1) := by decide +kernel
theorem dX5_hasNumbers_36 : decode cX5_hasNumbers 36 = .ok (.ireturn, 1) := by decide +kernel
theorem dX5_countOf_0 : decode cX5_countOf 0 = .ok (.iconst 0, 1) := by decide +kernel
theorem dX5_countOf_1 : decode cX5_countOf 1 = .ok (.istore_n 3, 1) := by decide +kernel
theorem dX5_countOf_2 : decode cX5_countOf 2 = .ok (.iconst 0, 1) := by decide +kernel
theorem dX5_countOf_3 : decode cX5_countOf 3 = .ok (.istore 4, 2) := by decide +kernel
theorem dX5_countOf_5 : decode cX5_countOf 5 = .ok (.iload 4, 2) := by decide +kernel
theorem dX5_countOf_7 : decode cX5_countOf 7 = .ok (.aload_n 0, 1) := by decide +kernel
theorem dX5_countOf_8 : decode cX5_countOf 8 = .ok (.getfield 24, 3) := by decide +kernel
theorem dX5_countOf_11 : decode cX5_countOf 11 = .ok (.iload_n 1, 1) := by decide +kernel
theorem dX5_countOf_12 : decode cX5_countOf 12 = .ok (.iaload, 1) := by decide +kernel
theorem dX5_countOf_13 : decode cX5_countOf 13 = .ok (.if_icmp .ge 23, 3) := by decide +kernel
theorem dX5_countOf_16 : decode cX5_countOf 16 = .ok (.aload_n 0, 1) := by decide +kernel
theorem dX5_countOf_17 : decode cX5_countOf 17 = .ok (.iload_n 1, 1) := by decide +kernel
theorem dX5_countOf_18 : decode cX5_countOf 18 = .ok (.iload 4, 2) := by decide +kernel
theorem dX5_countOf_20 : decode cX5_countOf 20 = .ok (.invokevirtual 41, 3) := by decide +kernel
theorem dX5_countOf_23 : decode cX5_countOf 23 = .ok (.iload_n 2, 1) := by decide +kernel
theorem dX5_countOf_24 : decode cX5_countOf 24 = .ok (.if_icmp .ne 6, 3) := by decide +kernel
theorem dX5_countOf_27 : decode cX5_countOf 27 = .ok (.iinc 3 1, 3) := by decide +kernel
theorem dX5_countOf_30 : decode cX5_countOf 30 = .ok (.iinc 4 1, 3) := by decide +kernel
theorem dX5_countOf_33 : decode cX5_countOf 33 = .ok (.goto (-28), 3) := by decide +kernel
theorem dX5_countOf_36 : decode cX5_countOf 36 = .ok (.iload_n 3, 1) := by decide +kernel
theorem dX5_countOf_37 : decode cX5_countOf 37 = .ok (.ireturn, 1) := by decide +kernel
theorem dX5_leastOf_0 : decode cX5_leastOf 0 = .ok (.aload_n 0, 1) := by decide +kernel
theorem dX5_leastOf_1 : decode cX5_leastOf 1 = .ok (.iload_n 1, 1) := by decide +kernel
theorem dX5_leastOf_2 : decode cX5_leastOf 2 = .ok (.iconst 0, 1) := by decide +kernel
theorem dX5_leastOf_3 : decode cX5_leastOf 3 = .ok (.invokevirtual 45, 3) := by decide +kernel
theorem dX5_leastOf_6 : decode cX5_leastOf 6 = .ok (.ifCond .ne 16, 3) := by decide +kernel
theorem dX5_leastOf_9 : decode cX5_leastOf 9 = .ok (.aload_n 0, 1) := by decide +kernel
theorem dX5_leastOf_10 : decode cX5_leastOf 10 = .ok (.iload_n 1, 1) := by decide +kernel
theorem dX5_leastOf_11 : decode cX5_leastOf 11 = .ok (.iconst 1, 1) := by decide +kernel
theorem dX5_leastOf_12 : decode cX5_leastOf 12 = .ok (.invokevirtual 45, 3) := by decide +kernel
theorem dX5_leastOf_15 : decode cX5_leastOf 15 = .ok (.ifCond .ne 7, 3) := by decide +kernel
theorem dX5_leastOf_18 : decode cX5_leastOf 18 = .ok (.iconst 1, 1) := by decide +kernel
theorem dX5_leastOf_19 : decode cX5_leastOf 19 = .ok (.goto 4, 3) := by decide +kernel
theorem dX5_leastOf_22 : decode cX5_leastOf 22 = .ok (.iconst 0, 1) := by decide +kernel
theorem dX5_leastOf_23 : decode cX5_leastOf 23 = .ok (.istore_n 2, 1) := by decide +kernel
theorem dX5_leastOf_24 : decode cX5_leastOf 24 = .ok (.iload_n 2, 1) := by decide +kernel
theorem dX5_leastOf_25 : decode cX5_leastOf 25 = .ok (.ifCond .eq 16, 3) := by decide +kernel
theorem dX5_leastOf_28 : decode cX5_leastOf 28 = .ok (.aload_n 0, 1) := by decide +kernel
theorem dX5_leastOf_29 : decode cX5_leastOf 29 = .ok (.getfield 15, 3) := by decide +kernel
theorem dX5_leastOf_32 : decode cX5_leastOf 32 = .ok (.iload_n 1, 1) := by decide +kernel
theorem dX5_leastOf_33 : decode cX5_leastOf 33 = .ok (.iaload, 1) := by decide +kernel
theorem dX5_leastOf_34 : decode cX5_leastOf 34 = .ok (.iconst 1, 1) := by decide +kernel
theorem dX5_leastOf_35 : decode cX5_leastOf 35 = .ok (.invokestatic 48, 3) := by decide +kernel
theorem dX5_leastOf_38 : decode cX5_leastOf 38 = .ok (.goto 9, 3) := by decide +kernel
theorem dX5_leastOf_41 : decode cX5_leastOf 41 = .ok (.aload_n 0, 1) := by decide +kernel
theorem dX5_leastOf_42 : decode cX5_leastOf 42 = .ok (.getfield 15, 3) := by decide +kernel
theorem dX5_leastOf_45 : decode cX5_leastOf 45 = .ok (.iload_n 1, 1) := by decide +kernel
theorem dX5_leastOf_46 : decode cX5_leastOf 46 = .ok (.iaload, 1) := by decide +kernel
theorem dX5_leastOf_47 : decode cX5_leastOf 47 = .ok (.ireturn, 1) := by decide +kernel
theorem dX5_ask_0 : decode cX5_ask 0 = .ok (.aload_n 0, 1) := by decide +kernel
theorem dX5_ask_1 : decode cX5_ask 1 = .ok (.getfield 21, 3) := by decide +kernel
theorem dX5_ask_4 : decode cX5_ask 4 = .ok (.iload_n 1, 1) := by decide +kernel
theorem dX5_ask_5 : decode cX5_ask 5 = .ok (.dup2, 1) := by decide +kernel
theorem dX5_ask_6 : decode cX5_ask 6 = .ok (.iaload, 1) := by decide +kernel
theorem dX5_ask_7 : decode cX5_ask 7 = .ok (.iconst 1, 1) := by decide +kernel
theorem dX5_ask_8 : decode cX5_ask 8 = .ok (.iadd, 1) := by decide +kernel
theorem dX5_ask_9 : decode cX5_ask 9 = .ok (.iastore, 1) := by decide +kernel
theorem dX5_ask_10 : decode cX5_ask 10 = .ok (.return_, 1) := by decide +kernel
theorem dX5_askedInAll_0 : decode cX5_askedInAll 0 = .ok (.iconst 0, 1) := by decide +kernel
theorem dX5_askedInAll_1 : decode cX5_askedInAll 1 = .ok (.istore_n 1, 1) := by decide +kernel
theorem dX5_askedInAll_2 : decode cX5_askedInAll 2 = .ok (.iconst 0, 1) := by decide +kernel
theorem dX5_askedInAll_3 : decode cX5_askedInAll 3 = .ok (.istore_n 2, 1) := by decide +kernel
theorem dX5_askedInAll_4 : decode cX5_askedInAll 4 = .ok (.iload_n 2, 1) := by decide +kernel
theorem dX5_askedInAll_5 : decode cX5_askedInAll 5 = .ok (.aload_n 0, 1) := by decide +kernel
theorem dX5_askedInAll_6 : decode cX5_askedInAll 6 = .ok (.getfield 33, 3) := by decide +kernel
theorem dX5_askedInAll_9 : decode cX5_askedInAll 9 = .ok (.if_icmp .ge 18, 3) := by decide +kernel
theorem dX5_askedInAll_12 : decode cX5_askedInAll 12 = .ok (.iload_n 1, 1) := by decide +kernel
theorem dX5_askedInAll_13 : decode cX5_askedInAll 13 = .ok (.aload_n 0, 1) := by decide +kernel
theorem dX5_askedInAll_14 : decode cX5_askedInAll 14 = .ok (.getfield 21, 3) := by decide +kernel
theorem dX5_askedInAll_17 : decode cX5_askedInAll 17 = .ok (.iload_n 2, 1) := by decide +kernel
theorem dX5_askedInAll_18 : decode cX5_askedInAll 18 = .ok (.iaload, 1) := by decide +kernel
theorem dX5_askedInAll_19 : decode cX5_askedInAll 19 = .ok (.iadd, 1) := by decide +kernel
theorem dX5_askedInAll_20 : decode cX5_askedInAll 20 = .ok (.istore_n 1, 1) := by decide +kernel
theorem dX5_askedInAll_21 : decode cX5_askedInAll 21 = .ok (.iinc 2 1, 3) := by decide +kernel
theorem dX5_askedInAll_24 : decode cX5_askedInAll 24 = .ok (.goto (-20), 3) := by decide +kernel
theorem dX5_askedInAll_27 : decode cX5_askedInAll 27 = .ok (.iload_n 1, 1) := by decide +kernel
theorem dX5_askedInAll_28 : decode cX5_askedInAll 28 = .ok (.ireturn, 1) := by decide +kernel
theorem dX6_init_0 : decode cX6_init 0 = .ok (.aload_n 0, 1) := by decide +kernel
theorem dX6_init_1 : decode cX6_init 1 = .ok (.invokespecial 3, 3) := by decide +kernel
theorem dX6_init_4 : decode cX6_init 4 = .ok (.aload_n 0, 1) := by decide +kernel
theorem dX6_init_5 : decode cX6_init 5 = .ok (.bipush 8, 2) := by decide +kernel
theorem dX6_init_7 : decode cX6_init 7 = .ok (.newarray .int, 2) := by decide +kernel
theorem dX6_init_9 : decode cX6_init 9 = .ok (.putfield 9, 3) := by decide +kernel
theorem dX6_init_12 : decode cX6_init 12 = .ok (.aload_n 0, 1) := by decide +kernel
theorem dX6_init_13 : decode cX6_init 13 = .ok (.bipush 8, 2) := by decide +kernel
theorem dX6_init_15 : decode cX6_init 15 = .ok (.newarray .int, 2) := by decide +kernel
theorem dX6_init_17 : decode cX6_init 17 = .ok (.putfield 15, 3) := by decide +kernel
theorem dX6_init_20 : decode cX6_init 20 = .ok (.return_, 1) := by decide +kernel
theorem dX6_size_0 : decode cX6_size 0 = .ok (.aload_n 0, 1) := by decide +kernel
theorem dX6_size_1 : decode cX6_size 1 = .ok (.getfield 18, 3) := by decide +kernel
theorem dX6_size_4 : decode cX6_size 4 = .ok (.ireturn, 1) := by decide +kernel
theorem dX6_roleAt_0 : decode cX6_roleAt 0 = .ok (.aload_n 0, 1) := by decide +kernel
theorem dX6_roleAt_1 : decode cX6_roleAt 1 = .ok (.getfield 9, 3) := by decide +kernel
theorem dX6_roleAt_4 : decode cX6_roleAt 4 = .ok (.iload_n 1, 1) := by decide +kernel
theorem dX6_roleAt_5 : decode cX6_roleAt 5 = .ok (.iaload, 1) := by decide +kernel
theorem dX6_roleAt_6 : decode cX6_roleAt 6 = .ok (.ireturn, 1) := by decide +kernel
theorem dX6_partAt_0 : decode cX6_partAt 0 = .ok (.aload_n 0, 1) := by decide +kernel
theorem dX6_partAt_1 : decode cX6_partAt 1 = .ok (.getfield 15, 3) := by decide +kernel
theorem dX6_partAt_4 : decode cX6_partAt 4 = .ok (.iload_n 1, 1) := by decide +kernel
theorem dX6_partAt_5 : decode cX6_partAt 5 = .ok (.iaload, 1) := by decide +kernel
theorem dX6_partAt_6 : decode cX6_partAt 6 = .ok (.ireturn, 1) := by decide +kernel
theorem dX6_clear_0 : decode cX6_clear 0 = .ok (.aload_n 0, 1) := by decide +kernel
theorem dX6_clear_1 : decode cX6_clear 1 = .ok (.iconst 0, 1) := by decide +kernel
theorem dX6_clear_2 : decode cX6_clear 2 = .ok (.putfield 18, 3) := by decide +kernel
theorem dX6_clear_5 : decode cX6_clear 5 = .ok (.return_, 1) := by decide +kernel
theorem dX6_add_0 : decode cX6_add 0 = .ok (.aload_n 0, 1) := by decide +kernel
theorem dX6_add_1 : decode cX6_add 1 = .ok (.getfield 18, 3) := by decide +kernel
theorem dX6_add_4 : decode cX6_add 4 = .ok (.bipush 8, 2) := by decide +kernel
theorem dX6_add_6 : decode cX6_add 6 = .ok (.if_icmp .ge 33, 3) := by decide +kernel
theorem dX6_add_9 : decode cX6_add 9 = .ok (.aload_n 0, 1) := by decide +kernel
theorem dX6_add_10 : decode cX6_add 10 = .ok (.getfield 9, 3) := by decide +kernel
theorem dX6_add_13 : decode cX6_add 13 = .ok (.aload_n 0, 1) := by decide +kernel
theorem dX6_add_14 : decode cX6_add 14 = .ok (.getfield 18, 3) := by decide +kernel
theorem dX6_add_17 : decode cX6_add 17 = .ok (.iload_n 1, 1) := by decide +kernel
theorem dX6_add_18 : decode cX6_add 18 = .ok (.iastore, 1) := by decide +kernel
theorem dX6_add_19 : decode cX6_add 19 = .ok (.aload_n 0, 1) := by decide +kernel
theorem dX6_add_20 : decode cX6_add 20 = .ok (.getfield 15, 3) := by decide +kernel
theorem dX6_add_23 : decode cX6_add 23 = .ok (.aload_n 0, 1) := by decide +kernel
theorem dX6_add_24 : decode cX6_add 24 = .ok (.getfield 18, 3) := by decide +kernel
theorem dX6_add_27 : decode cX6_add 27 = .ok (.iload_n 2, 1) := by decide +kernel
theorem dX6_add_28 : decode cX6_add 28 = .ok (.iastore, 1) := by decide +kernel
theorem dX6_add_29 : decode cX6_add 29 = .ok (.aload_n 0, 1) := by decide +kernel
theorem dX6_add_30 : decode cX6_add 30 = .ok (.dup, 1) := by decide +kernel
theorem dX6_add_31 : decode cX6_add 31 = .ok (.getfield 18, 3) := by decide +kernel
theorem dX6_add_34 : decode cX6_add 34 = .ok (.iconst 1, 1) := by decide +kernel
theorem dX6_add_35 : decode cX6_add 35 = .ok (.iadd, 1) := by decide +kernel
theorem dX6_add_36 : decode cX6_add 36 = .ok (.putfield 18, 3) := by decide +kernel
theorem dX6_add_39 : decode cX6_add 39 = .ok (.return_, 1) := by decide +kernel
theorem dX6_countOf_0 : decode cX6_countOf 0 = .ok (.iconst 0, 1) := by decide +kernel
theorem dX6_countOf_1 : decode cX6_countOf 1 = .ok (.istore_n 2, 1) := by decide +kernel
theorem dX6_countOf_2 : decode cX6_countOf 2 = .ok (.iconst 0, 1) := by decide +kernel
theorem dX6_countOf_3 : decode cX6_countOf 3 = .ok (.istore_n 3, 1) := by decide +kernel
theorem dX6_countOf_4 : decode cX6_countOf 4 = .ok (.iload_n 3, 1) := by decide +kernel
theorem dX6_countOf_5 : decode cX6_countOf 5 = .ok (.aload_n 0, 1) := by decide +kernel
theorem dX6_countOf_6 : decode cX6_countOf 6 = .ok (.getfield 18, 3) := by decide +kernel
theorem dX6_countOf_9 : decode cX6_countOf 9 = .ok (.if_icmp .ge 22, 3) := by decide +kernel
theorem dX6_countOf_12 : decode cX6_countOf 12 = .ok (.aload_n 0, 1) := by decide +kernel
theorem dX6_countOf_13 : decode cX6_countOf 13 = .ok (.getfield 9, 3) := by decide +kernel
theorem dX6_countOf_16 : decode cX6_countOf 16 = .ok (.iload_n 3, 1) := by decide +kernel
theorem dX6_countOf_17 : decode cX6_countOf 17 = .ok (.iaload, 1) := by decide +kernel
theorem dX6_countOf_18 : decode cX6_countOf 18 = .ok (.iload_n 1, 1) := by decide +kernel
theorem dX6_countOf_19 : decode cX6_countOf 19 = .ok (.if_icmp .ne 6, 3) := by decide +kernel
theorem dX6_countOf_22 : decode cX6_countOf 22 = .ok (.iinc 2 1, 3) := by decide +kernel
theorem dX6_countOf_25 : decode cX6_countOf 25 = .ok (.iinc 3 1, 3) := by decide +kernel
theorem dX6_countOf_28 : decode cX6_countOf 28 = .ok (.goto (-24), 3) := by decide +kernel
theorem dX6_countOf_31 : decode cX6_countOf 31 = .ok (.iload_n 2, 1) := by decide +kernel
theorem dX6_countOf_32 : decode cX6_countOf 32 = .ok (.ireturn, 1) := by decide +kernel
theorem dX6_makeShouldsMusts_0 : decode cX6_makeShouldsMusts 0 = .ok (.iconst 0, 1) := by decide +kernel
theorem dX6_makeShouldsMusts_1 : decode cX6_makeShouldsMusts 1 = .ok (.istore_n 1, 1) := by decide +kernel
theorem dX6_makeShouldsMusts_2 : decode cX6_makeShouldsMusts 2 = .ok (.iload_n 1, 1) := by decide +kernel
theorem dX6_makeShouldsMusts_3 : decode cX6_makeShouldsMusts 3 = .ok (.aload_n 0, 1) := by decide +kernel
theorem dX6_makeShouldsMusts_4 : decode cX6_makeShouldsMusts 4 = .ok (.getfield 18, 3) := by decide +kernel
theorem dX6_makeShouldsMusts_7 : decode cX6_makeShouldsMusts 7 = .ok (.if_icmp .ge 26, 3) := by decide +kernel
theorem dX6_makeShouldsMusts_10 : decode cX6_makeShouldsMusts 10 = .ok (.aload_n 0, 1) := by decide +kernel
theorem dX6_makeShouldsMusts_11 : decode cX6_makeShouldsMusts 11 = .ok (.getfield 9, 3) := by decide +kernel
theorem dX6_makeShouldsMusts_14 : decode cX6_makeShouldsMusts 14 = .ok (.iload_n 1, 1) := by decide +kernel
theorem dX6_makeShouldsMusts_15 : decode cX6_makeShouldsMusts 15 = .ok (.iaload, 1) := by decide +kernel
theorem dX6_makeShouldsMusts_16 : decode cX6_makeShouldsMusts 16 = .ok (.iconst 3, 1) := by decide +kernel
theorem dX6_makeShouldsMusts_17 : decode cX6_makeShouldsMusts 17 = .ok (.if_icmp .ne 10, 3) := by decide +kernel
theorem dX6_makeShouldsMusts_20 : decode cX6_makeShouldsMusts 20 = .ok (.aload_n 0, 1) := by decide +kernel
theorem dX6_makeShouldsMusts_21 : decode cX6_makeShouldsMusts 21 = .ok (.getfield 9, 3) := by decide +kernel
theorem dX6_makeShouldsMusts_24 : decode cX6_makeShouldsMusts 24 = .ok (.iload_n 1, 1) := by decide +kernel
theorem dX6_makeShouldsMusts_25 : decode cX6_makeShouldsMusts 25 = .ok (.iconst 0, 1) := by decide +kernel
theorem dX6_makeShouldsMusts_26 : decode cX6_makeShouldsMusts 26 = .ok (.iastore, 1) := by decide +kernel
theorem dX6_makeShouldsMusts_27 : decode cX6_makeShouldsMusts 27 = .ok (.iinc 1 1, 3) := by decide +kernel
theorem dX6_makeShouldsMusts_30 : decode cX6_makeShouldsMusts 30 = .ok (.goto (-28), 3) := by decide +kernel
theorem dX6_makeShouldsMusts_33 : decode cX6_makeShouldsMusts 33 = .ok (.return_, 1) := by decide +kernel
theorem dX6_contradictsItself_0 : decode cX6_contradictsItself 0 = .ok (.iconst 0, 1) := by decide +kernel
theorem dX6_contradictsItself_1 : decode cX6_contradictsItself 1 = .ok (.istore_n 1, 1) := by decide +kernel
theorem dX6_contradictsItself_2 : decode cX6_contradictsItself 2 = .ok (.iload_n 1, 1) := by decide +kernel
theorem dX6_contradictsItself_3 : decode cX6_contradictsItself 3 = .ok (.aload_n 0, 1) := by decide +kernel
theorem dX6_contradictsItself_4 : decode cX6_contradictsItself 4 = .ok (.getfield 18, 3) := by decide +kernel
theorem dX6_contradictsItself_7 : decode cX6_contradictsItself 7 = .ok (.if_icmp .ge 57, 3) := by decide +kernel
theorem dX6_contradictsItself_10 : decode cX6_contradictsItself 10 = .ok (.aload_n 0, 1) := by decide +kernel
theorem dX6_contradictsItself_11 : decode cX6_contradictsItself 11 = .ok (.getfield 9, 3) := by decide +kernel
theorem dX6_contradictsItself_14 : decode cX6_contradictsItself 14 = .ok (.iload_n 1, 1) := by decide +kernel
theorem dX6_contradictsItself_15 : decode cX6_contradictsItself 15 = .ok (.iaload, 1) := by decide +kernel
theorem dX6_contradictsItself_16 : decode cX6_contradictsItself 16 = .ok (.iconst 2, 1) := by decide +kernel
theorem dX6_contradictsItself_17 : decode cX6_contradictsItself 17 = .ok (.if_icmp .ne 41, 3) := by decide +kernel
theorem dX6_contradictsItself_20 : decode cX6_contradictsItself 20 = .ok (.aload_n 0, 1) := by decide +kernel
theorem dX6_contradictsItself_21 : decode cX6_contradictsItself 21 = .ok (.aload_n 0, 1) := by decide +kernel
theorem dX6_contradictsItself_22 : decode cX6_contradictsItself 22 = .ok (.getfield 18, 3) := by decide +kernel
theorem dX6_contradictsItself_25 : decode cX6_contradictsItself 25 = .ok (.iconst 0, 1) := by decide +kernel
theorem dX6_contradictsItself_26 : decode cX6_contradictsItself 26 = .ok (.aload_n 0, 1) := by decide +kernel
theorem dX6_contradictsItself_27 : decode cX6_contradictsItself 27 = .ok (.getfield 15, 3) := by decide +kernel
theorem dX6_contradictsItself_30 : decode cX6_contradictsItself 30 = .ok (.iload_n 1, 1) := by decide +kernel
theorem dX6_contradictsItself_31 : decode cX6_contradictsItself 31 = .ok (.iaload, 1) := by decide +kernel
theorem dX6_contradictsItself_32 : decode cX6_contradictsItself 32 = .ok (.invokevirtual 22, 3) := by decide +kernel
theorem dX6_contradictsItself_35 : decode cX6_contradictsItself 35 = .ok (.ifCond .ne 21, 3) := by decide +kernel
theorem dX6_contradictsItself_38 : decode cX6_contradictsItself 38 = .ok (.aload_n 0, 1) := by decide +kernel
theorem dX6_contradictsItself_39 : decode cX6_contradictsItself 39 = .ok (.aload_n 0, 1) := by decide +kernel
theorem dX6_contradictsItself_40 : decode cX6_contradictsItself 40 = .ok (.getfield 18, 3) := by decide +kernel
theorem dX6_contradictsItself_43 : decode cX6_contradictsItself 43 = .ok (.iconst 1, 1) := by decide +kernel
theorem dX6_contradictsItself_44 : decode cX6_contradictsItself 44 = .ok (.aload_n 0, 1) := by decide +kernel
theorem dX6_contradictsItself_45 : decode cX6_contradictsItself 45 = .ok (.getfield 15, 3) := by decide +kernel
theorem dX6_contradictsItself_48 : decode cX6_contradictsItself 48 = .ok (.iload_n 1, 1) := by decide +kernel
theorem dX6_contradictsItself_49 : decode cX6_contradictsItself 49 = .ok (.iaload, 1) := by decide +kernel
theorem dX6_contradictsItself_50 : decode cX6_contradictsItself 50 = .ok (.invokevirtual 22, 3) := by decide +kernel
theorem dX6_contradictsItself_53 : decode cX6_contradictsItself 53 = .ok (.ifCond .eq 5, 3) := by decide +kernel
theorem dX6_contradictsItself_56 : decode cX6_contradictsItself 56 = .ok (.iconst 1, 1) := by decide +kernel
theorem dX6_contradictsItself_57 : decode cX6_contradictsItself 57 = .ok (.ireturn, 1) := by decide +kernel
theorem dX6_contradictsItself_58 : decode cX6_contradictsItself 58 = .ok (.iinc 1 1, 3) := by decide +kernel
theorem dX6_contradictsItself_61 : decode cX6_contradictsItself 61 = .ok (.goto (-59), 3) := by decide +kernel
theorem dX6_contradictsItself_64 : decode cX6_contradictsItself 64 = .ok (.iconst 0, 1) := by decide +kernel
theorem dX6_contradictsItself_65 : decode cX6_contradictsItself 65 = .ok (.ireturn, 1) := by decide +kernel
theorem dX6_leaveOutRepeats_0 : decode cX6_leaveOutRepeats 0 = .ok (.iconst 0, 1) := by decide +kernel
theorem dX6_leaveOutRepeats_1 : decode cX6_leaveOutRepeats 1 = .ok (.istore_n 1, 1) := by decide +kernel
theorem dX6_leaveOutRepeats_2 : decode cX6_leaveOutRepeats 2 = .ok (.iconst 0, 1) := by decide +kernel
theorem dX6_leaveOutRepeats_3 : decode cX6_leaveOutRepeats 3 = .ok (.istore_n 2, 1) := by decide +kernel
theorem dX6_leaveOutRepeats_4 : decode cX6_leaveOutRepeats 4 = .ok (.iload_n 2, 1) := by decide +kernel
theorem dX6_leaveOutRepeats_5 : decode cX6_leaveOutRepeats 5 = .ok (.aload_n 0, 1) := by decide +kernel
theorem dX6_leaveOutRepeats_6 : decode cX6_leaveOutRepeats 6 = .ok (.getfield 18, 3) := by decide +kernel
theorem dX6_leaveOutRepeats_9 : decode cX6_leaveOutRepeats 9 = .ok (.if_icmp .ge 45, 3) := by decide +kernel
theorem dX6_leaveOutRepeats_12 : decode cX6_leaveOutRepeats 12 = .ok (.aload_n 0, 1) := by decide +kernel
theorem dX6_leaveOutRepeats_13 : decode cX6_leaveOutRepeats 13 = .ok (.iload_n 2, 1) := by decide +kernel
theorem dX6_leaveOutRepeats_14 : decode cX6_leaveOutRepeats 14 = .ok (.iload_n 1, 1) := by decide +kernel
theorem dX6_leaveOutRepeats_15 : decode cX6_leaveOutRepeats 15 = .ok (.invokevirtual 26, 3) := by decide +kernel
theorem dX6_leaveOutRepeats_18 : decode cX6_leaveOutRepeats 18 = .ok (.ifCond .ne 30, 3) := by decide +kernel
theorem dX6_leaveOutRepeats_21 : decode cX6_leaveOutRepeats 21 = .ok (.aload_n 0, 1) := by decide +kernel
theorem dX6_leaveOutRepeats_22 : decode cX6_leaveOutRepeats 22 = .ok (.getfield 9, 3) := by decide +kernel
theorem dX6_leaveOutRepeats_25 : decode cX6_leaveOutRepeats 25 = .ok (.iload_n 1, 1) := by decide +kernel
theorem dX6_leaveOutRepeats_26 : decode cX6_leaveOutRepeats 26 = .ok (.aload_n 0, 1) := by decide +kernel
theorem dX6_leaveOutRepeats_27 : decode cX6_leaveOutRepeats 27 = .ok (.getfield 9, 3) := by decide +kernel
theorem dX6_leaveOutRepeats_30 : decode cX6_leaveOutRepeats 30 = .ok (.iload_n 2, 1) := by decide +kernel
theorem dX6_leaveOutRepeats_31 : decode cX6_leaveOutRepeats 31 = .ok (.iaload, 1) := by decide +kernel
theorem dX6_leaveOutRepeats_32 : decode cX6_leaveOutRepeats 32 = .ok (.iastore, 1) := by decide +kernel
theorem dX6_leaveOutRepeats_33 : decode cX6_leaveOutRepeats 33 = .ok (.aload_n 0, 1) := by decide +kernel
theorem dX6_leaveOutRepeats_34 : decode cX6_leaveOutRepeats 34 = .ok (.getfield 15, 3) := by decide +kernel
theorem dX6_leaveOutRepeats_37 : decode cX6_leaveOutRepeats 37 = .ok (.iload_n 1, 1) := by decide +kernel
theorem dX6_leaveOutRepeats_38 : decode cX6_leaveOutRepeats 38 = .ok (.aload_n 0, 1) := by decide +kernel
theorem dX6_leaveOutRepeats_39 : decode cX6_leaveOutRepeats 39 = .ok (.getfield 15, 3) := by decide +kernel
theorem dX6_leaveOutRepeats_42 : decode cX6_leaveOutRepeats 42 = .ok (.iload_n 2, 1) := by decide +kernel
theorem dX6_leaveOutRepeats_43 : decode cX6_leaveOutRepeats 43 = .ok (.iaload, 1) := by decide +kernel
theorem dX6_leaveOutRepeats_44 : decode cX6_leaveOutRepeats 44 = .ok (.iastore, 1) := by decide +kernel
theorem dX6_leaveOutRepeats_45 : decode cX6_leaveOutRepeats 45 = .ok (.iinc 1 1, 3) := by decide +kernel
theorem dX6_leaveOutRepeats_48 : decode cX6_leaveOutRepeats 48 = .ok (.iinc 2 1, 3) := by decide +kernel
theorem dX6_leaveOutRepeats_51 : decode cX6_leaveOutRepeats 51 = .ok (.goto (-47), 3) := by decide +kernel
theorem dX6_leaveOutRepeats_54 : decode cX6_leaveOutRepeats 54 = .ok (.aload_n 0, 1) := by decide +kernel
theorem dX6_leaveOutRepeats_55 : decode cX6_leaveOutRepeats 55 = .ok (.iload_n 1, 1) := by decide +kernel
theorem dX6_leaveOutRepeats_56 : decode cX6_leaveOutRepeats 56 = .ok (.putfield 18, 3) := by decide +kernel
theorem dX6_leaveOutRepeats_59 : decode cX6_leaveOutRepeats 59 = .ok (.return_, 1) := by decide +kernel
theorem dX6_isRepeat_0 : decode cX6_isRepeat 0 = .ok (.aload_n 0, 1) := by decide +kernel
theorem dX6_isRepeat_1 : decode cX6_isRepeat 1 = .ok (.getfield 15, 3) := by decide +kernel
theorem dX6_isRepeat_4 : decode cX6_isRepeat 4 = .ok (.iload_n 1, 1) := by decide +kernel
theorem dX6_isRepeat_5 : decode cX6_isRepeat 5 = .ok (.iaload, 1) := by decide +kernel
theorem dX6_isRepeat_6 : decode cX6_isRepeat 6 = .ok (.istore_n 3, 1) := by decide +kernel
theorem dX6_isRepeat_7 : decode cX6_isRepeat 7 = .ok (.aload_n 0, 1) := by decide +kernel
theorem dX6_isRepeat_8 : decode cX6_isRepeat 8 = .ok (.getfield 9, 3) := by decide +kernel
theorem dX6_isRepeat_11 : decode cX6_isRepeat 11 = .ok (.iload_n 1, 1) := by decide +kernel
theorem dX6_isRepeat_12 : decode cX6_isRepeat 12 = .ok (.iaload, 1) := by decide +kernel
theorem dX6_isRepeat_13 : decode cX6_isRepeat 13 = .ok (.iconst 1, 1) := by decide +kernel
theorem dX6_isRepeat_14 : decode cX6_isRepeat 14 = .ok (.if_icmp .ne 39, 3) := by decide +kernel
theorem dX6_isRepeat_17 : decode cX6_isRepeat 17 = .ok (.aload_n 0, 1) := by decide +kernel
theorem dX6_isRepeat_18 : decode cX6_isRepeat 18 = .ok (.iload_n 2, 1) := by decide +kernel
theorem dX6_isRepeat_19 : decode cX6_isRepeat 19 = .ok (.iconst 1, 1) := by decide +kernel
theorem dX6_isRepeat_20 : decode cX6_isRepeat 20 = .ok (.iload_n 3, 1) := by decide +kernel
theorem dX6_isRepeat_21 : decode cX6_isRepeat 21 = .ok (.invokevirtual 22, 3) := by decide +kernel
theorem dX6_isRepeat_24 : decode cX6_isRepeat 24 = .ok (.ifCond .ne 23, 3) := by decide +kernel
theorem dX6_isRepeat_27 : decode cX6_isRepeat 27 = .ok (.aload_n 0, 1) := by decide +kernel
theorem dX6_isRepeat_28 : decode cX6_isRepeat 28 = .ok (.iload_n 2, 1) := by decide +kernel
theorem dX6_isRepeat_29 : decode cX6_isRepeat 29 = .ok (.iconst 0, 1) := by decide +kernel
theorem dX6_isRepeat_30 : decode cX6_isRepeat 30 = .ok (.iload_n 3, 1) := by decide +kernel
theorem dX6_isRepeat_31 : decode cX6_isRepeat 31 = .ok (.invokevirtual 22, 3) := by decide +kernel
theorem dX6_isRepeat_34 : decode cX6_isRepeat 34 = .ok (.ifCond .ne 13, 3) := by decide +kernel
theorem dX6_isRepeat_37 : decode cX6_isRepeat 37 = .ok (.aload_n 0, 1) := by decide +kernel
theorem dX6_isRepeat_38 : decode cX6_isRepeat 38 = .ok (.iload_n 1, 1) := by decide +kernel
theorem dX6_isRepeat_39 : decode cX6_isRepeat 39 = .ok (.iconst 0, 1) := by decide +kernel
theorem dX6_isRepeat_40 : decode cX6_isRepeat 40 = .ok (.iload_n 3, 1) := by decide +kernel
theorem dX6_isRepeat_41 : decode cX6_isRepeat 41 = .ok (.invokevirtual 30, 3) := by decide +kernel
theorem dX6_isRepeat_44 : decode cX6_isRepeat 44 = .ok (.ifCond .eq 7, 3) := by decide +kernel
theorem dX6_isRepeat_47 : decode cX6_isRepeat 47 = .ok (.iconst 1, 1) := by decide +kernel
theorem dX6_isRepeat_48 : decode cX6_isRepeat 48 = .ok (.goto 4, 3) := by decide +kernel
theorem dX6_isRepeat_51 : decode cX6_isRepeat 51 = .ok (.iconst 0, 1) := by decide +kernel
theorem dX6_isRepeat_52 : decode cX6_isRepeat 52 = .ok (.ireturn, 1) := by decide +kernel
theorem dX6_isRepeat_53 : decode cX6_isRepeat 53 = .ok (.aload_n 0, 1) := by decide +kernel
theorem dX6_isRepeat_54 : decode cX6_isRepeat 54 = .ok (.getfield 9, 3) := by decide +kernel
theorem dX6_isRepeat_57 : decode cX6_isRepeat 57 = .ok (.iload_n 1, 1) := by decide +kernel
theorem dX6_isRepeat_58 : decode cX6_isRepeat 58 = .ok (.iaload, 1) := by decide +kernel
theorem dX6_isRepeat_59 : decode cX6_isRepeat 59 = .ok (.iconst 2, 1) := by decide +kernel
theorem dX6_isRepeat_60 : decode cX6_isRepeat 60 = .ok (.if_icmp .ne 17, 3) := by decide +kernel
theorem dX6_isRepeat_63 : decode cX6_isRepeat 63 = .ok (.aload_n 0, 1) := by decide +kernel
theorem dX6_isRepeat_64 : decode cX6_isRepeat 64 = .ok (.iload_n 2, 1) := by decide +kernel
theorem dX6_isRepeat_65 : decode cX6_isRepeat 65 = .ok (.iconst 2, 1) := by decide +kernel
theorem dX6_isRepeat_66 : decode cX6_isRepeat 66 = .ok (.iload_n 3, 1) := by decide +kernel
theorem dX6_isRepeat_67 : decode cX6_isRepeat 67 = .ok (.invokevirtual 22, 3) := by decide +kernel
theorem dX6_isRepeat_70 : decode cX6_isRepeat 70 = .ok (.ifCond .eq 7, 3) := by decide +kernel
theorem dX6_isRepeat_73 : decode cX6_isRepeat 73 = .ok (.iconst 1, 1) := by decide +kernel
theorem dX6_isRepeat_74 : decode cX6_isRepeat 74 = .ok (.goto 4, 3) := by decide +kernel
theorem dX6_isRepeat_77 : decode cX6_isRepeat 77 = .ok (.iconst 0, 1) := by decide +kernel
theorem dX6_isRepeat_78 : decode cX6_isRepeat 78 = .ok (.ireturn, 1) := by decide +kernel
theorem dX6_hasAhead_0 : decode cX6_hasAhead 0 = .ok (.iconst 0, 1) := by decide +kernel
theorem dX6_hasAhead_1 : decode cX6_hasAhead 1 = .ok (.istore 4, 2) := by decide +kernel
theorem dX6_hasAhead_3 : decode cX6_hasAhead 3 = .ok (.iload 4, 2) := by decide +kernel
theorem dX6_hasAhead_5 : decode cX6_hasAhead 5 = .ok (.iload_n 1, 1) := by decide +kernel
theorem dX6_hasAhead_6 : decode cX6_hasAhead 6 = .ok (.if_icmp .ge 33, 3) := by decide +kernel
theorem dX6_hasAhead_9 : decode cX6_hasAhead 9 = .ok (.aload_n 0, 1) := by decide +kernel
theorem dX6_hasAhead_10 : decode cX6_hasAhead 10 = .ok (.getfield 9, 3) := by decide +kernel
theorem dX6_hasAhead_13 : decode cX6_hasAhead 13 = .ok (.iload 4, 2) := by decide +kernel
theorem dX6_hasAhead_15 : decode cX6_hasAhead 15 = .ok (.iaload, 1) := by decide +kernel
theorem dX6_hasAhead_16 : decode cX6_hasAhead 16 = .ok (.iload_n 2, 1) := by decide +kernel
theorem dX6_hasAhead_17 : decode cX6_hasAhead 17 = .ok (.if_icmp .ne 16, 3) := by decide +kernel
theorem dX6_hasAhead_20 : decode cX6_hasAhead 20 = .ok (.aload_n 0, 1) := by decide +kernel
theorem dX6_hasAhead_21 : decode cX6_hasAhead 21 = .ok (.getfield 15, 3) := by decide +kernel
theorem dX6_hasAhead_24 : decode cX6_hasAhead 24 = .ok (.iload 4, 2) := by decide +kernel
theorem dX6_hasAhead_26 : decode cX6_hasAhead 26 = .ok (.iaload, 1) := by decide +kernel
theorem dX6_hasAhead_27 : decode cX6_hasAhead 27 = .ok (.iload_n 3, 1) := by decide +kernel
theorem dX6_hasAhead_28 : decode cX6_hasAhead 28 = .ok (.if_icmp .ne 5, 3) := by decide +kernel
theorem dX6_hasAhead_31 : decode cX6_hasAhead 31 = .ok (.iconst 1, 1) := by decide +kernel
theorem dX6_hasAhead_32 : decode cX6_hasAhead 32 = .ok (.ireturn, 1) := by decide +kernel
theorem dX6_hasAhead_33 : decode cX6_hasAhead 33 = .ok (.iinc 4 1, 3) := by decide +kernel
theorem dX6_hasAhead_36 : decode cX6_hasAhead 36 = .ok (.goto (-33), 3) := by decide +kernel
theorem dX6_hasAhead_39 : decode cX6_hasAhead 39 = .ok (.iconst 0, 1) := by decide +kernel
theorem dX6_hasAhead_40 : decode cX6_hasAhead 40 = .ok (.ireturn, 1) := by decide +kernel
theorem dX6_hasBehind_0 : decode cX6_hasBehind 0 = .ok (.iload_n 1, 1) := by decide +kernel
theorem dX6_hasBehind_1 : decode cX6_hasBehind 1 = .ok (.iconst 1, 1) := by decide +kernel
theorem dX6_hasBehind_2 : decode cX6_hasBehind 2 = .ok (.iadd, 1) := by decide +kernel
theorem dX6_hasBehind_3 : decode cX6_hasBehind 3 = .ok (.istore 4, 2) := by decide +kernel
theorem dX6_hasBehind_5 : decode cX6_hasBehind 5 = .ok (.iload 4, 2) := by decide +kernel
theorem dX6_hasBehind_7 : decode cX6_hasBehind 7 = .ok (.aload_n 0, 1) := by decide +kernel
theorem dX6_hasBehind_8 : decode cX6_hasBehind 8 = .ok (.getfield 18, 3) := by decide +kernel
theorem dX6_hasBehind_11 : decode cX6_hasBehind 11 = .ok (.if_icmp .ge 33, 3) := by decide +kernel
theorem dX6_hasBehind_14 : decode cX6_hasBehind 14 = .ok (.aload_n 0, 1) := by decide +kernel
theorem dX6_hasBehind_15 : decode cX6_hasBehind 15 = .ok (.getfield 9, 3) := by decide +kernel
theorem dX6_hasBehind_18 : decode cX6_hasBehind 18 = .ok (.iload 4, 2) := by decide +kernel
theorem dX6_hasBehind_20 : decode cX6_hasBehind 20 = .ok (.iaload, 1) := by decide +kernel
theorem dX6_hasBehind_21 : decode cX6_hasBehind 21 = .ok (.iload_n 2, 1) := by decide +kernel
theorem dX6_hasBehind_22 : decode cX6_hasBehind 22 = .ok (.if_icmp .ne 16, 3) := by decide +kernel
theorem dX6_hasBehind_25 : decode cX6_hasBehind 25 = .ok (.aload_n 0, 1) := by decide +kernel
theorem dX6_hasBehind_26 : decode cX6_hasBehind 26 = .ok (.getfield 15, 3) := by decide +kernel
theorem dX6_hasBehind_29 : decode cX6_hasBehind 29 = .ok (.iload 4, 2) := by decide +kernel
theorem dX6_hasBehind_31 : decode cX6_hasBehind 31 = .ok (.iaload, 1) := by decide +kernel
theorem dX6_hasBehind_32 : decode cX6_hasBehind 32 = .ok (.iload_n 3, 1) := by decide +kernel
theorem dX6_hasBehind_33 : decode cX6_hasBehind 33 = .ok (.if_icmp .ne 5, 3) := by decide +kernel
theorem dX6_hasBehind_36 : decode cX6_hasBehind 36 = .ok (.iconst 1, 1) := by decide +kernel
theorem dX6_hasBehind_37 : decode cX6_hasBehind 37 = .ok (.ireturn, 1) := by decide +kernel
theorem dX6_hasBehind_38 : decode cX6_hasBehind 38 = .ok (.iinc 4 1, 3) := by decide +kernel
theorem dX6_hasBehind_41 : decode cX6_hasBehind 41 = .ok (.goto (-36), 3) := by decide +kernel
theorem dX6_hasBehind_44 : decode cX6_hasBehind 44 = .ok (.iconst 0, 1) := by decide +kernel
theorem dX6_hasBehind_45 : decode cX6_hasBehind 45 = .ok (.ireturn, 1) := by decide +kernel
theorem dX7_init_0 : decode cX7_init 0 = .ok (.aload_n 0, 1) := by decide +kernel
theorem dX7_init_1 : decode cX7_init 1 = .ok (.invokespecial 3, 3) := by decide +kernel
theorem dX7_init_4 : decode cX7_init 4 = .ok (.aload_n 0, 1) := by decide +kernel
theorem dX7_init_5 : decode cX7_init 5 = .ok (.bipush 80, 2) := by decide +kernel
theorem dX7_init_7 : decode cX7_init 7 = .ok (.newarray .boolean, 2) := by decide +kernel
theorem dX7_init_9 : decode cX7_init 9 = .ok (.putfield 9, 3) := by decide +kernel
theorem dX7_init_12 : decode cX7_init 12 = .ok (.aload_n 0, 1) := by decide +kernel
theorem dX7_init_13 : decode cX7_init 13 = .ok (.bipush 80, 2) := by decide +kernel
theorem dX7_init_15 : decode cX7_init 15 = .ok (.newarray .int, 2) := by decide +kernel
theorem dX7_init_17 : decode cX7_init 17 = .ok (.putfield 15, 3) := by decide +kernel
theorem dX7_init_20 : decode cX7_init 20 = .ok (.aload_n 0, 1) := by decide +kernel
theorem dX7_init_21 : decode cX7_init 21 = .ok (.new 19, 3) := by decide +kernel
theorem dX7_init_24 : decode cX7_init 24 = .ok (.dup, 1) := by decide +kernel
theorem dX7_init_25 : decode cX7_init 25 = .ok (.invokespecial 21, 3) := by decide +kernel
theorem dX7_init_28 : decode cX7_init 28 = .ok (.putfield 22, 3) := by decide +kernel
theorem dX7_init_31 : decode cX7_init 31 = .ok (.aload_n 0, 1) := by decide +kernel
theorem dX7_init_32 : decode cX7_init 32 = .ok (.aload_n 1, 1) := by decide +kernel
theorem dX7_init_33 : decode cX7_init 33 = .ok (.putfield 26, 3) := by decide +kernel
theorem dX7_init_36 : decode cX7_init 36 = .ok (.aload_n 0, 1) := by decide +kernel
theorem dX7_init_37 : decode cX7_init 37 = .ok (.aload_n 2, 1) := by decide +kernel
theorem dX7_init_38 : decode cX7_init 38 = .ok (.putfield 30, 3) := by decide +kernel
theorem dX7_init_41 : decode cX7_init 41 = .ok (.return_, 1) := by decide +kernel
theorem dX7_writeAnew_0 : decode cX7_writeAnew 0 = .ok (.aload_n 0, 1) := by decide +kernel
theorem dX7_writeAnew_1 : decode cX7_writeAnew 1 = .ok (.getfield 30, 3) := by decide +kernel
theorem dX7_writeAnew_4 : decode cX7_writeAnew 4 = .ok (.invokevirtual 34, 3) := by decide +kernel
theorem dX7_writeAnew_7 : decode cX7_writeAnew 7 = .ok (.istore_n 2, 1) := by decide +kernel
theorem dX7_writeAnew_8 : decode cX7_writeAnew 8 = .ok (.aload_n 0, 1) := by decide +kernel
theorem dX7_writeAnew_9 : decode cX7_writeAnew 9 = .ok (.iload_n 1, 1) := by decide +kernel
theorem dX7_writeAnew_10 : decode cX7_writeAnew 10 = .ok (.invokevirtual 40, 3) := by decide +kernel
theorem dX7_writeAnew_13 : decode cX7_writeAnew 13 = .ok (.iconst 0, 1) := by decide +kernel
theorem dX7_writeAnew_14 : decode cX7_writeAnew 14 = .ok (.istore_n 3, 1) := by decide +kernel
theorem dX7_writeAnew_15 : decode cX7_writeAnew 15 = .ok (.iload_n 3, 1) := by decide +kernel
theorem dX7_writeAnew_16 : decode cX7_writeAnew 16 = .ok (.iload_n 1, 1) := by decide +kernel
theorem dX7_writeAnew_17 : decode cX7_writeAnew 17 = .ok (.if_icmp .gt 70, 3) := by decide +kernel
theorem dX7_writeAnew_20 : decode cX7_writeAnew 20 = .ok (.aload_n 0, 1) := by decide +kernel
theorem dX7_writeAnew_21 : decode cX7_writeAnew 21 = .ok (.getfield 9, 3) := by decide +kernel
theorem dX7_writeAnew_24 : decode cX7_writeAnew 24 = .ok (.iload_n 3, 1) := by decide +kernel
theorem dX7_writeAnew_25 : decode cX7_writeAnew 25 = .ok (.baload, 1) := by decide +kernel
theorem dX7_writeAnew_26 : decode cX7_writeAnew 26 = .ok (.ifCond .eq 55, 3) := by decide +kernel
theorem dX7_writeAnew_29 : decode cX7_writeAnew 29 = .ok (.aload_n 0, 1) := by decide +kernel
theorem dX7_writeAnew_30 : decode cX7_writeAnew 30 = .ok (.iload_n 3, 1) := by decide +kernel
theorem dX7_writeAnew_31 : decode cX7_writeAnew 31 = .ok (.invokevirtual 44, 3) := by decide +kernel
theorem dX7_writeAnew_34 : decode cX7_writeAnew 34 = .ok (.istore 4, 2) := by decide +kernel
theorem dX7_writeAnew_36 : decode cX7_writeAnew 36 = .ok (.aload_n 0, 1) := by decide +kernel
theorem dX7_writeAnew_37 : decode cX7_writeAnew 37 = .ok (.getfield 15, 3) := by decide +kernel
theorem dX7_writeAnew_40 : decode cX7_writeAnew 40 = .ok (.iload_n 3, 1) := by decide +kernel
theorem dX7_writeAnew_41 : decode cX7_writeAnew 41 = .ok (.iload 4, 2) := by decide +kernel
theorem dX7_writeAnew_43 : decode cX7_writeAnew 43 = .ok (.iconst (-1), 1) := by decide +kernel
theorem dX7_writeAnew_44 : decode cX7_writeAnew 44 = .ok (.if_icmp .ne 14, 3) := by decide +kernel
theorem dX7_writeAnew_47 : decode cX7_writeAnew 47 = .ok (.aload_n 0, 1) := by decide +kernel
theorem dX7_writeAnew_48 : decode cX7_writeAnew 48 = .ok (.bipush 7, 2) := by decide +kernel
theorem dX7_writeAnew_50 : decode cX7_writeAnew 50 = .ok (.iconst 0, 1) := by decide +kernel
theorem dX7_writeAnew_51 : decode cX7_writeAnew 51 = .ok (.iconst 0, 1) := by decide +kernel
theorem dX7_writeAnew_52 : decode cX7_writeAnew 52 = .ok (.invokevirtual 48, 3) := by decide +kernel
theorem dX7_writeAnew_55 : decode cX7_writeAnew 55 = .ok (.goto 5, 3) := by decide +kernel
theorem dX7_writeAnew_58 : decode cX7_writeAnew 58 = .ok (.iload 4, 2) := by decide +kernel
theorem dX7_writeAnew_60 : decode cX7_writeAnew 60 = .ok (.iastore, 1) := by decide +kernel
theorem dX7_writeAnew_61 : decode cX7_writeAnew 61 = .ok (.aload_n 0, 1) := by decide +kernel
theorem dX7_writeAnew_62 : decode cX7_writeAnew 62 = .ok (.getfield 15, 3) := by decide +kernel
theorem dX7_writeAnew_65 : decode cX7_writeAnew 65 = .ok (.iload_n 3, 1) := by decide +kernel
theorem dX7_writeAnew_66 : decode cX7_writeAnew 66 = .ok (.iaload, 1) := by decide +kernel
theorem dX7_writeAnew_67 : decode cX7_writeAnew 67 = .ok (.ifCond .ge 14, 3) := by decide +kernel
theorem dX7_writeAnew_70 : decode cX7_writeAnew 70 = .ok (.aload_n 0, 1) := by decide +kernel
theorem dX7_writeAnew_71 : decode cX7_writeAnew 71 = .ok (.getfield 30, 3) := by decide +kernel
theorem dX7_writeAnew_74 : decode cX7_writeAnew 74 = .ok (.iload_n 2, 1) := by decide +kernel
theorem dX7_writeAnew_75 : decode cX7_writeAnew 75 = .ok (.invokevirtual 52, 3) := by decide +kernel
theorem dX7_writeAnew_78 : decode cX7_writeAnew 78 = .ok (.bipush (-3), 2) := by decide +kernel
theorem dX7_writeAnew_80 : decode cX7_writeAnew 80 = .ok (.ireturn, 1) := by decide +kernel
theorem dX7_writeAnew_81 : decode cX7_writeAnew 81 = .ok (.iinc 3 1, 3) := by decide +kernel
theorem dX7_writeAnew_84 : decode cX7_writeAnew 84 = .ok (.goto (-69), 3) := by decide +kernel
theorem dX7_writeAnew_87 : decode cX7_writeAnew 87 = .ok (.aload_n 0, 1) := by decide +kernel
theorem dX7_writeAnew_88 : decode cX7_writeAnew 88 = .ok (.getfield 15, 3) := by decide +kernel
theorem dX7_writeAnew_91 : decode cX7_writeAnew 91 = .ok (.iload_n 1, 1) := by decide +kernel
theorem dX7_writeAnew_92 : decode cX7_writeAnew 92 = .ok (.iaload, 1) := by decide +kernel
theorem dX7_writeAnew_93 : decode cX7_writeAnew 93 = .ok (.ireturn, 1) := by decide +kernel
theorem dX7_markUnder_0 : decode cX7_markUnder 0 = .ok (.iconst 0, 1) := by decide +kernel
theorem dX7_markUnder_1 : decode cX7_markUnder 1 = .ok (.istore_n 2, 1) := by decide +kernel
theorem dX7_markUnder_2 : decode cX7_markUnder 2 = .ok (.iload_n 2, 1) := by decide +kernel
theorem dX7_markUnder_3 : decode cX7_markUnder 3 = .ok (.iload_n 1, 1) := by decide +kernel
theorem dX7_markUnder_4 : decode cX7_markUnder 4 = .ok (.if_icmp .ge 16, 3) := by decide +kernel
theorem dX7_markUnder_7 : decode cX7_markUnder 7 = .ok (.aload_n 0, 1) := by decide +kernel
theorem dX7_markUnder_8 : decode cX7_markUnder 8 = .ok (.getfield 9, 3) := by decide +kernel
theorem dX7_markUnder_11 : decode cX7_markUnder 11 = .ok (.iload_n 2, 1) := by decide +kernel
theorem dX7_markUnder_12 : decode cX7_markUnder 12 = .ok (.iconst 0, 1) := by decide +kernel
theorem dX7_markUnder_13 : decode cX7_markUnder 13 = .ok (.bastore, 1) := by decide +kernel
theorem dX7_markUnder_14 : decode cX7_markUnder 14 = .ok (.iinc 2 1, 3) := by decide +kernel
theorem dX7_markUnder_17 : decode cX7_markUnder 17 = .ok (.goto (-15), 3) := by decide +kernel
theorem dX7_markUnder_20 : decode cX7_markUnder 20 = .ok (.aload_n 0, 1) := by decide +kernel
theorem dX7_markUnder_21 : decode cX7_markUnder 21 = .ok (.getfield 9, 3) := by decide +kernel
theorem dX7_markUnder_24 : decode cX7_markUnder 24 = .ok (.iload_n 1, 1) := by decide +kernel
theorem dX7_markUnder_25 : decode cX7_markUnder 25 = .ok (.iconst 1, 1) := by decide +kernel
theorem dX7_markUnder_26 : decode cX7_markUnder 26 = .ok (.bastore, 1) := by decide +kernel
theorem dX7_markUnder_27 : decode cX7_markUnder 27 = .ok (.iload_n 1, 1) := by decide +kernel
theorem dX7_markUnder_28 : decode cX7_markUnder 28 = .ok (.istore_n 2, 1) := by decide +kernel
theorem dX7_markUnder_29 : decode cX7_markUnder 29 = .ok (.iload_n 2, 1) := by decide +kernel
theorem dX7_markUnder_30 : decode cX7_markUnder 30 = .ok (.ifCond .le 53, 3) := by decide +kernel
theorem dX7_markUnder_33 : decode cX7_markUnder 33 = .ok (.iconst 0, 1) := by decide +kernel
theorem dX7_markUnder_34 : decode cX7_markUnder 34 = .ok (.istore_n 3, 1) := by decide +kernel
theorem dX7_markUnder_35 : decode cX7_markUnder 35 = .ok (.aload_n 0, 1) := by decide +kernel
theorem dX7_markUnder_36 : decode cX7_markUnder 36 = .ok (.getfield 9, 3) := by decide +kernel
theorem dX7_markUnder_39 : decode cX7_markUnder 39 = .ok (.iload_n 2, 1) := by decide +kernel
theorem dX7_markUnder_40 : decode cX7_markUnder 40 = .ok (.baload, 1) := by decide +kernel
theorem dX7_markUnder_41 : decode cX7_markUnder 41 = .ok (.ifCond .eq 36, 3) := by decide +kernel
theorem dX7_markUnder_44 : decode cX7_markUnder 44 = .ok (.iload_n 3, 1) := by decide +kernel
theorem dX7_markUnder_45 : decode cX7_markUnder 45 = .ok (.aload_n 0, 1) := by decide +kernel
theorem dX7_markUnder_46 : decode cX7_markUnder 46 = .ok (.getfield 30, 3) := by decide +kernel
theorem dX7_markUnder_49 : decode cX7_markUnder 49 = .ok (.iload_n 2, 1) := by decide +kernel
theorem dX7_markUnder_50 : decode cX7_markUnder 50 = .ok (.invokevirtual 55, 3) := by decide +kernel
theorem dX7_markUnder_53 : decode cX7_markUnder 53 = .ok (.if_icmp .ge 24, 3) := by decide +kernel
theorem dX7_markUnder_56 : decode cX7_markUnder 56 = .ok (.aload_n 0, 1) := by decide +kernel
theorem dX7_markUnder_57 : decode cX7_markUnder 57 = .ok (.getfield 9, 3) := by decide +kernel
theorem dX7_markUnder_60 : decode cX7_markUnder 60 = .ok (.aload_n 0, 1) := by decide +kernel
theorem dX7_markUnder_61 : decode cX7_markUnder 61 = .ok (.getfield 30, 3) := by decide +kernel
theorem dX7_markUnder_64 : decode cX7_markUnder 64 = .ok (.iload_n 2, 1) := by decide +kernel
theorem dX7_markUnder_65 : decode cX7_markUnder 65 = .ok (.iload_n 3, 1) := by decide +kernel
theorem dX7_markUnder_66 : decode cX7_markUnder 66 = .ok (.invokevirtual 58, 3) := by decide +kernel
theorem dX7_markUnder_69 : decode cX7_markUnder 69 = .ok (.iconst 1, 1) := by decide +kernel
theorem dX7_markUnder_70 : decode cX7_markUnder 70 = .ok (.bastore, 1) := by decide +kernel
theorem dX7_markUnder_71 : decode cX7_markUnder 71 = .ok (.iinc 3 1, 3) := by decide +kernel
theorem dX7_markUnder_74 : decode cX7_markUnder 74 = .ok (.goto (-39), 3) := by decide +kernel
theorem dX7_markUnder_77 : decode cX7_markUnder 77 = .ok (.iinc 2 (-1), 3) := by decide +kernel
theorem dX7_markUnder_80 : decode cX7_markUnder 80 = .ok (.goto (-51), 3) := by decide +kernel
theorem dX7_markUnder_83 : decode cX7_markUnder 83 = .ok (.return_, 1) := by decide +kernel
theorem dX7_newOf_0 : decode cX7_newOf 0 = .ok (.aload_n 0, 1) := by decide +kernel
theorem dX7_newOf_1 : decode cX7_newOf 1 = .ok (.getfield 30, 3) := by decide +kernel
theorem dX7_newOf_4 : decode cX7_newOf 4 = .ok (.iload_n 1, 1) := by decide +kernel
theorem dX7_newOf_5 : decode cX7_newOf 5 = .ok (.invokevirtual 62, 3) := by decide +kernel
theorem dX7_newOf_8 : decode cX7_newOf 8 = .ok (.istore_n 2, 1) := by decide +kernel
theorem dX7_newOf_9 : decode cX7_newOf 9 = .ok (.iload_n 2, 1) := by decide +kernel
theorem dX7_newOf_10 : decode cX7_newOf 10 = .ok (.tableswitch 138 0 6 #[42, 138, 79, 104, 110, 110, 110], 42) := by decide +kernel
theorem dX7_newOf_52 : decode cX7_newOf 52 = .ok (.aload_n 0, 1) := by decide +kernel
theorem dX7_newOf_53 : decode cX7_newOf 53 = .ok (.getfield 26, 3) := by decide +kernel
theorem dX7_newOf_56 : decode cX7_newOf 56 = .ok (.aload_n 0, 1) := by decide +kernel
theorem dX7_newOf_57 : decode cX7_newOf 57 = .ok (.getfield 30, 3) := by decide +kernel
theorem dX7_newOf_60 : decode cX7_newOf 60 = .ok (.iload_n 1, 1) := by decide +kernel
theorem dX7_newOf_61 : decode cX7_newOf 61 = .ok (.invokevirtual 65, 3) := by decide +kernel
theorem dX7_newOf_64 : decode cX7_newOf 64 = .ok (.invokevirtual 68, 3) := by decide +kernel
theorem dX7_newOf_67 : decode cX7_newOf 67 = .ok (.ifCond .ne 7, 3) := by decide +kernel
theorem dX7_newOf_70 : decode cX7_newOf 70 = .ok (.iconst (-1), 1) := by decide +kernel
theorem dX7_newOf_71 : decode cX7_newOf 71 = .ok (.goto 17, 3) := by decide +kernel
theorem dX7_newOf_74 : decode cX7_newOf 74 = .ok (.aload_n 0, 1) := by decide +kernel
theorem dX7_newOf_75 : decode cX7_newOf 75 = .ok (.iload_n 2, 1) := by decide +kernel
theorem dX7_newOf_76 : decode cX7_newOf 76 = .ok (.aload_n 0, 1) := by decide +kernel
theorem dX7_newOf_77 : decode cX7_newOf 77 = .ok (.getfield 30, 3) := by decide +kernel
theorem dX7_newOf_80 : decode cX7_newOf 80 = .ok (.iload_n 1, 1) := by decide +kernel
theorem dX7_newOf_81 : decode cX7_newOf 81 = .ok (.invokevirtual 65, 3) := by decide +kernel
theorem dX7_newOf_84 : decode cX7_newOf 84 = .ok (.iconst 0, 1) := by decide +kernel
theorem dX7_newOf_85 : decode cX7_newOf 85 = .ok (.invokevirtual 48, 3) := by decide +kernel
theorem dX7_newOf_88 : decode cX7_newOf 88 = .ok (.ireturn, 1) := by decide +kernel
theorem dX7_newOf_89 : decode cX7_newOf 89 = .ok (.aload_n 0, 1) := by decide +kernel
theorem dX7_newOf_90 : decode cX7_newOf 90 = .ok (.iload_n 1, 1) := by decide +kernel
theorem dX7_newOf_91 : decode cX7_newOf 91 = .ok (.invokevirtual 71, 3) := by decide +kernel
theorem dX7_newOf_94 : decode cX7_newOf 94 = .ok (.ifCond .eq 18, 3) := by decide +kernel
theorem dX7_newOf_97 : decode cX7_newOf 97 = .ok (.aload_n 0, 1) := by decide +kernel
theorem dX7_newOf_98 : decode cX7_newOf 98 = .ok (.aload_n 0, 1) := by decide +kernel
theorem dX7_newOf_99 : decode cX7_newOf 99 = .ok (.getfield 30, 3) := by decide +kernel
theorem dX7_newOf_102 : decode cX7_newOf 102 = .ok (.iload_n 1, 1) := by decide +kernel
theorem dX7_newOf_103 : decode cX7_newOf 103 = .ok (.invokevirtual 65, 3) := by decide +kernel
theorem dX7_newOf_106 : decode cX7_newOf 106 = .ok (.invokevirtual 75, 3) := by decide +kernel
theorem dX7_newOf_109 : decode cX7_newOf 109 = .ok (.goto 4, 3) := by decide +kernel
theorem dX7_newOf_112 : decode cX7_newOf 112 = .ok (.iconst (-1), 1) := by decide +kernel
theorem dX7_newOf_113 : decode cX7_newOf 113 = .ok (.ireturn, 1) := by decide +kernel
theorem dX7_newOf_114 : decode cX7_newOf 114 = .ok (.aload_n 0, 1) := by decide +kernel
theorem dX7_newOf_115 : decode cX7_newOf 115 = .ok (.iload_n 1, 1) := by decide +kernel
theorem dX7_newOf_116 : decode cX7_newOf 116 = .ok (.invokevirtual 78, 3) := by decide +kernel
theorem dX7_newOf_119 : decode cX7_newOf 119 = .ok (.ireturn, 1) := by decide +kernel
theorem dX7_newOf_120 : decode cX7_newOf 120 = .ok (.aload_n 0, 1) := by decide +kernel
theorem dX7_newOf_121 : decode cX7_newOf 121 = .ok (.iload_n 2, 1) := by decide +kernel
theorem dX7_newOf_122 : decode cX7_newOf 122 = .ok (.aload_n 0, 1) := by decide +kernel
theorem dX7_newOf_123 : decode cX7_newOf 123 = .ok (.getfield 15, 3) := by decide +kernel
theorem dX7_newOf_126 : decode cX7_newOf 126 = .ok (.aload_n 0, 1) := by decide +kernel
theorem dX7_newOf_127 : decode cX7_newOf 127 = .ok (.getfield 30, 3) := by decide +kernel
theorem dX7_newOf_130 : decode cX7_newOf 130 = .ok (.iload_n 1, 1) := by decide +kernel
theorem dX7_newOf_131 : decode cX7_newOf 131 = .ok (.iconst 0, 1) := by decide +kernel
theorem dX7_newOf_132 : decode cX7_newOf 132 = .ok (.invokevirtual 58, 3) := by decide +kernel
theorem dX7_newOf_135 : decode cX7_newOf 135 = .ok (.iaload, 1) := by decide +kernel
theorem dX7_newOf_136 : decode cX7_newOf 136 = .ok (.aload_n 0, 1) := by decide +kernel
theorem dX7_newOf_137 : decode cX7_newOf 137 = .ok (.getfield 30, 3) := by decide +kernel
theorem dX7_newOf_140 : decode cX7_newOf 140 = .ok (.iload_n 1, 1) := by decide +kernel
theorem dX7_newOf_141 : decode cX7_newOf 141 = .ok (.invokevirtual 81, 3) := by decide +kernel
theorem dX7_newOf_144 : decode cX7_newOf 144 = .ok (.invokevirtual 84, 3) := by decide +kernel
theorem dX7_newOf_147 : decode cX7_newOf 147 = .ok (.ireturn, 1) := by decide +kernel
theorem dX7_newOf_148 : decode cX7_newOf 148 = .ok (.aload_n 0, 1) := by decide +kernel
theorem dX7_newOf_149 : decode cX7_newOf 149 = .ok (.iload_n 2, 1) := by decide +kernel
theorem dX7_newOf_150 : decode cX7_newOf 150 = .ok (.aload_n 0, 1) := by decide +kernel
theorem dX7_newOf_151 : decode cX7_newOf 151 = .ok (.getfield 30, 3) := by decide +kernel
theorem dX7_newOf_154 : decode cX7_newOf 154 = .ok (.iload_n 1, 1) := by decide +kernel
theorem dX7_newOf_155 : decode cX7_newOf 155 = .ok (.invokevirtual 65, 3) := by decide +kernel
theorem dX7_newOf_158 : decode cX7_newOf 158 = .ok (.aload_n 0, 1) := by decide +kernel
theorem dX7_newOf_159 : decode cX7_newOf 159 = .ok (.getfield 30, 3) := by decide +kernel
theorem dX7_newOf_162 : decode cX7_newOf 162 = .ok (.iload_n 1, 1) := by decide +kernel
theorem dX7_newOf_163 : decode cX7_newOf 163 = .ok (.invokevirtual 81, 3) := by decide +kernel
theorem dX7_newOf_166 : decode cX7_newOf 166 = .ok (.invokevirtual 48, 3) := by decide +kernel
theorem dX7_newOf_169 : decode cX7_newOf 169 = .ok (.ireturn, 1) := by decide +kernel
theorem dX7_newOfOne_0 : decode cX7_newOfOne 0 = .ok (.aload_n 0, 1) := by decide +kernel
theorem dX7_newOfOne_1 : decode cX7_newOfOne 1 = .ok (.getfield 30, 3) := by decide +kernel
theorem dX7_newOfOne_4 : decode cX7_newOfOne 4 = .ok (.iload_n 2, 1) := by decide +kernel
theorem dX7_newOfOne_5 : decode cX7_newOfOne 5 = .ok (.invokevirtual 62, 3) := by decide +kernel
theorem dX7_newOfOne_8 : decode cX7_newOfOne 8 = .ok (.istore 4, 2) := by decide +kernel
theorem dX7_newOfOne_10 : decode cX7_newOfOne 10 = .ok (.iload 4, 2) := by decide +kernel
theorem dX7_newOfOne_12 : decode cX7_newOfOne 12 = .ok (.bipush 7, 2) := by decide +kernel
theorem dX7_newOfOne_14 : decode cX7_newOfOne 14 = .ok (.if_icmp .eq 16, 3) := by decide +kernel
theorem dX7_newOfOne_17 : decode cX7_newOfOne 17 = .ok (.iload_n 1, 1) := by decide +kernel
theorem dX7_newOfOne_18 : decode cX7_newOfOne 18 = .ok (.bipush 6, 2) := by decide +kernel
theorem dX7_newOfOne_20 : decode cX7_newOfOne 20 = .ok (.if_icmp .ne 12, 3) := by decide +kernel
theorem dX7_newOfOne_23 : decode cX7_newOfOne 23 = .ok (.iload 4, 2) := by decide +kernel
theorem dX7_newOfOne_25 : decode cX7_newOfOne 25 = .ok (.bipush 6, 2) := by decide +kernel
theorem dX7_newOfOne_27 : decode cX7_newOfOne 27 = .ok (.if_icmp .ne 5, 3) := by decide +kernel
theorem dX7_newOfOne_30 : decode cX7_newOfOne 30 = .ok (.iload_n 2, 1) := by decide +kernel
theorem dX7_newOfOne_31 : decode cX7_newOfOne 31 = .ok (.ireturn, 1) := by decide +kernel
theorem dX7_newOfOne_32 : decode cX7_newOfOne 32 = .ok (.iload 4, 2) := by decide +kernel
theorem dX7_newOfOne_34 : decode cX7_newOfOne 34 = .ok (.iconst 4, 1) := by decide +kernel
theorem dX7_newOfOne_35 : decode cX7_newOfOne 35 = .ok (.if_icmp .ne 24, 3) := by decide +kernel
theorem dX7_newOfOne_38 : decode cX7_newOfOne 38 = .ok (.iload_n 1, 1) := by decide +kernel
theorem dX7_newOfOne_39 : decode cX7_newOfOne 39 = .ok (.iconst 5, 1) := by decide +kernel
theorem dX7_newOfOne_40 : decode cX7_newOfOne 40 = .ok (.if_icmp .eq 19, 3) := by decide +kernel
theorem dX7_newOfOne_43 : decode cX7_newOfOne 43 = .ok (.aload_n 0, 1) := by decide +kernel
theorem dX7_newOfOne_44 : decode cX7_newOfOne 44 = .ok (.iload_n 1, 1) := by decide +kernel
theorem dX7_newOfOne_45 : decode cX7_newOfOne 45 = .ok (.aload_n 0, 1) := by decide +kernel
theorem dX7_newOfOne_46 : decode cX7_newOfOne 46 = .ok (.getfield 30, 3) := by decide +kernel
theorem dX7_newOfOne_49 : decode cX7_newOfOne 49 = .ok (.iload_n 2, 1) := by decide +kernel
theorem dX7_newOfOne_50 : decode cX7_newOfOne 50 = .ok (.iconst 0, 1) := by decide +kernel
theorem dX7_newOfOne_51 : decode cX7_newOfOne 51 = .ok (.invokevirtual 58, 3) := by decide +kernel
theorem dX7_newOfOne_54 : decode cX7_newOfOne 54 = .ok (.iload_n 3, 1) := by decide +kernel
theorem dX7_newOfOne_55 : decode cX7_newOfOne 55 = .ok (.invokevirtual 48, 3) := by decide +kernel
theorem dX7_newOfOne_58 : decode cX7_newOfOne 58 = .ok (.ireturn, 1) := by decide +kernel
theorem dX7_newOfOne_59 : decode cX7_newOfOne 59 = .ok (.aload_n 0, 1) := by decide +kernel
theorem dX7_newOfOne_60 : decode cX7_newOfOne 60 = .ok (.iload_n 1, 1) := by decide +kernel
theorem dX7_newOfOne_61 : decode cX7_newOfOne 61 = .ok (.iload_n 2, 1) := by decide +kernel
theorem dX7_newOfOne_62 : decode cX7_newOfOne 62 = .ok (.iload_n 3, 1) := by decide +kernel
theorem dX7_newOfOne_63 : decode cX7_newOfOne 63 = .ok (.invokevirtual 48, 3) := by decide +kernel
theorem dX7_newOfOne_66 : decode cX7_newOfOne 66 = .ok (.ireturn, 1) := by decide +kernel
theorem dX7_newOfBest_0 : decode cX7_newOfBest 0 = .ok (.aload_n 0, 1) := by decide +kernel
theorem dX7_newOfBest_1 : decode cX7_newOfBest 1 = .ok (.getfield 22, 3) := by decide +kernel
theorem dX7_newOfBest_4 : decode cX7_newOfBest 4 = .ok (.invokevirtual 87, 3) := by decide +kernel
theorem dX7_newOfBest_7 : decode cX7_newOfBest 7 = .ok (.iconst 0, 1) := by decide +kernel
theorem dX7_newOfBest_8 : decode cX7_newOfBest 8 = .ok (.istore_n 2, 1) := by decide +kernel
theorem dX7_newOfBest_9 : decode cX7_newOfBest 9 = .ok (.iload_n 2, 1) := by decide +kernel
theorem dX7_newOfBest_10 : decode cX7_newOfBest 10 = .ok (.aload_n 0, 1) := by decide +kernel
theorem dX7_newOfBest_11 : decode cX7_newOfBest 11 = .ok (.getfield 30, 3) := by decide +kernel
theorem dX7_newOfBest_14 : decode cX7_newOfBest 14 = .ok (.iload_n 1, 1) := by decide +kernel
theorem dX7_newOfBest_15 : decode cX7_newOfBest 15 = .ok (.invokevirtual 55, 3) := by decide +kernel
theorem dX7_newOfBest_18 : decode cX7_newOfBest 18 = .ok (.if_icmp .ge 46, 3) := by decide +kernel
theorem dX7_newOfBest_21 : decode cX7_newOfBest 21 = .ok (.aload_n 0, 1) := by decide +kernel
theorem dX7_newOfBest_22 : decode cX7_newOfBest 22 = .ok (.getfield 15, 3) := by decide +kernel
theorem dX7_newOfBest_25 : decode cX7_newOfBest 25 = .ok (.aload_n 0, 1) := by decide +kernel
theorem dX7_newOfBest_26 : decode cX7_newOfBest 26 = .ok (.getfield 30, 3) := by decide +kernel
theorem dX7_newOfBest_29 : decode cX7_newOfBest 29 = .ok (.iload_n 1, 1) := by decide +kernel
theorem dX7_newOfBest_30 : decode cX7_newOfBest 30 = .ok (.iload_n 2, 1) := by decide +kernel
theorem dX7_newOfBest_31 : decode cX7_newOfBest 31 = .ok (.invokevirtual 58, 3) := by decide +kernel
theorem dX7_newOfBest_34 : decode cX7_newOfBest 34 = .ok (.iaload, 1) := by decide +kernel
theorem dX7_newOfBest_35 : decode cX7_newOfBest 35 = .ok (.istore_n 3, 1) := by decide +kernel
theorem dX7_newOfBest_36 : decode cX7_newOfBest 36 = .ok (.aload_n 0, 1) := by decide +kernel
theorem dX7_newOfBest_37 : decode cX7_newOfBest 37 = .ok (.getfield 30, 3) := by decide +kernel
theorem dX7_newOfBest_40 : decode cX7_newOfBest 40 = .ok (.iload_n 3, 1) := by decide +kernel
theorem dX7_newOfBest_41 : decode cX7_newOfBest 41 = .ok (.invokevirtual 62, 3) := by decide +kernel
theorem dX7_newOfBest_44 : decode cX7_newOfBest 44 = .ok (.bipush 7, 2) := by decide +kernel
theorem dX7_newOfBest_46 : decode cX7_newOfBest 46 = .ok (.if_icmp .eq 12, 3) := by decide +kernel
theorem dX7_newOfBest_49 : decode cX7_newOfBest 49 = .ok (.aload_n 0, 1) := by decide +kernel
theorem dX7_newOfBest_50 : decode cX7_newOfBest 50 = .ok (.getfield 22, 3) := by decide +kernel
theorem dX7_newOfBest_53 : decode cX7_newOfBest 53 = .ok (.iconst 3, 1) := by decide +kernel
theorem dX7_newOfBest_54 : decode cX7_newOfBest 54 = .ok (.iload_n 3, 1) := by decide +kernel
theorem dX7_newOfBest_55 : decode cX7_newOfBest 55 = .ok (.invokevirtual 90, 3) := by decide +kernel
theorem dX7_newOfBest_58 : decode cX7_newOfBest 58 = .ok (.iinc 2 1, 3) := by decide +kernel
theorem dX7_newOfBest_61 : decode cX7_newOfBest 61 = .ok (.goto (-52), 3) := by decide +kernel
theorem dX7_newOfBest_64 : decode cX7_newOfBest 64 = .ok (.aload_n 0, 1) := by decide +kernel
theorem dX7_newOfBest_65 : decode cX7_newOfBest 65 = .ok (.getfield 22, 3) := by decide +kernel
theorem dX7_newOfBest_68 : decode cX7_newOfBest 68 = .ok (.invokevirtual 94, 3) := by decide +kernel
theorem dX7_newOfBest_71 : decode cX7_newOfBest 71 = .ok (.ifCond .ne 5, 3) := by decide +kernel
theorem dX7_newOfBest_74 : decode cX7_newOfBest 74 = .ok (.iconst (-1), 1) := by decide +kernel
theorem dX7_newOfBest_75 : decode cX7_newOfBest 75 = .ok (.ireturn, 1) := by decide +kernel
theorem dX7_newOfBest_76 : decode cX7_newOfBest 76 = .ok (.aload_n 0, 1) := by decide +kernel
theorem dX7_newOfBest_77 : decode cX7_newOfBest 77 = .ok (.getfield 22, 3) := by decide +kernel
theorem dX7_newOfBest_80 : decode cX7_newOfBest 80 = .ok (.invokevirtual 94, 3) := by decide +kernel
theorem dX7_newOfBest_83 : decode cX7_newOfBest 83 = .ok (.iconst 1, 1) := by decide +kernel
theorem dX7_newOfBest_84 : decode cX7_newOfBest 84 = .ok (.if_icmp .ne 14, 3) := by decide +kernel
theorem dX7_newOfBest_87 : decode cX7_newOfBest 87 = .ok (.aload_n 0, 1) := by decide +kernel
theorem dX7_newOfBest_88 : decode cX7_newOfBest 88 = .ok (.getfield 22, 3) := by decide +kernel
theorem dX7_newOfBest_91 : decode cX7_newOfBest 91 = .ok (.iconst 0, 1) := by decide +kernel
theorem dX7_newOfBest_92 : decode cX7_newOfBest 92 = .ok (.invokevirtual 96, 3) := by decide +kernel
theorem dX7_newOfBest_95 : decode cX7_newOfBest 95 = .ok (.goto 16, 3) := by decide +kernel
theorem dX7_newOfBest_98 : decode cX7_newOfBest 98 = .ok (.aload_n 0, 1) := by decide +kernel
theorem dX7_newOfBest_99 : decode cX7_newOfBest 99 = .ok (.iconst 3, 1) := by decide +kernel
theorem dX7_newOfBest_100 : decode cX7_newOfBest 100 = .ok (.aload_n 0, 1) := by decide +kernel
theorem dX7_newOfBest_101 : decode cX7_newOfBest 101 = .ok (.getfield 30, 3) := by decide +kernel
theorem dX7_newOfBest_104 : decode cX7_newOfBest 104 = .ok (.iload_n 1, 1) := by decide +kernel
theorem dX7_newOfBest_105 : decode cX7_newOfBest 105 = .ok (.invokevirtual 65, 3) := by decide +kernel
theorem dX7_newOfBest_108 : decode cX7_newOfBest 108 = .ok (.invokevirtual 98, 3) := by decide +kernel
theorem dX7_newOfBest_111 : decode cX7_newOfBest 111 = .ok (.ireturn, 1) := by decide +kernel
theorem dX7_gatherBool_0 : decode cX7_gatherBool 0 = .ok (.aload_n 0, 1) := by decide +kernel
theorem dX7_gatherBool_1 : decode cX7_gatherBool 1 = .ok (.getfield 22, 3) := by decide +kernel
theorem dX7_gatherBool_4 : decode cX7_gatherBool 4 = .ok (.invokevirtual 87, 3) := by decide +kernel
theorem dX7_gatherBool_7 : decode cX7_gatherBool 7 = .ok (.iconst 0, 1) := by decide +kernel
theorem dX7_gatherBool_8 : decode cX7_gatherBool 8 = .ok (.istore_n 2, 1) := by decide +kernel
theorem dX7_gatherBool_9 : decode cX7_gatherBool 9 = .ok (.iload_n 2, 1) := by decide +kernel
theorem dX7_gatherBool_10 : decode cX7_gatherBool 10 = .ok (.aload_n 0, 1) := by decide +kernel
theorem dX7_gatherBool_11 : decode cX7_gatherBool 11 = .ok (.getfield 30, 3) := by decide +kernel
theorem dX7_gatherBool_14 : decode cX7_gatherBool 14 = .ok (.iload_n 1, 1) := by decide +kernel
theorem dX7_gatherBool_15 : decode cX7_gatherBool 15 = .ok (.invokevirtual 55, 3) := by decide +kernel
theorem dX7_gatherBool_18 : decode cX7_gatherBool 18 = .ok (.if_icmp .ge 135, 3) := by decide +kernel
theorem dX7_gatherBool_21 : decode cX7_gatherBool 21 = .ok (.aload_n 0, 1) := by decide +kernel
theorem dX7_gatherBool_22 : decode cX7_gatherBool 22 = .ok (.getfield 30, 3) := by decide +kernel
theorem dX7_gatherBool_25 : decode cX7_gatherBool 25 = .ok (.iload_n 1, 1) := by decide +kernel
theorem dX7_gatherBool_26 : decode cX7_gatherBool 26 = .ok (.iload_n 2, 1) := by decide +kernel
theorem dX7_gatherBool_27 : decode cX7_gatherBool 27 = .ok (.invokevirtual 101, 3) := by decide +kernel
theorem dX7_gatherBool_30 : decode cX7_gatherBool 30 = .ok (.istore_n 3, 1) := by decide +kernel
theorem dX7_gatherBool_31 : decode cX7_gatherBool 31 = .ok (.aload_n 0, 1) := by decide +kernel
theorem dX7_gatherBool_32 : decode cX7_gatherBool 32 = .ok (.getfield 15, 3) := by decide +kernel
theorem dX7_gatherBool_35 : decode cX7_gatherBool 35 = .ok (.aload_n 0, 1) := by decide +kernel
theorem dX7_gatherBool_36 : decode cX7_gatherBool 36 = .ok (.getfield 30, 3) := by decide +kernel
theorem dX7_gatherBool_39 : decode cX7_gatherBool 39 = .ok (.iload_n 1, 1) := by decide +kernel
theorem dX7_gatherBool_40 : decode cX7_gatherBool 40 = .ok (.iload_n 2, 1) := by decide +kernel
theorem dX7_gatherBool_41 : decode cX7_gatherBool 41 = .ok (.invokevirtual 58, 3) := by decide +kernel
theorem dX7_gatherBool_44 : decode cX7_gatherBool 44 = .ok (.iaload, 1) := by decide +kernel
theorem dX7_gatherBool_45 : decode cX7_gatherBool 45 = .ok (.istore 4, 2) := by decide +kernel
theorem dX7_gatherBool_47 : decode cX7_gatherBool 47 = .ok (.aload_n 0, 1) := by decide +kernel
theorem dX7_gatherBool_48 : decode cX7_gatherBool 48 = .ok (.getfield 30, 3) := by decide +kernel
theorem dX7_gatherBool_51 : decode cX7_gatherBool 51 = .ok (.iload_n 1, 1) := by decide +kernel
theorem dX7_gatherBool_52 : decode cX7_gatherBool 52 = .ok (.invokevirtual 55, 3) := by decide +kernel
theorem dX7_gatherBool_55 : decode cX7_gatherBool 55 = .ok (.iload_n 2, 1) := by decide +kernel
theorem dX7_gatherBool_56 : decode cX7_gatherBool 56 = .ok (.isub, 1) := by decide +kernel
theorem dX7_gatherBool_57 : decode cX7_gatherBool 57 = .ok (.iconst 1, 1) := by decide +kernel
theorem dX7_gatherBool_58 : decode cX7_gatherBool 58 = .ok (.isub, 1) := by decide +kernel
theorem dX7_gatherBool_59 : decode cX7_gatherBool 59 = .ok (.istore 5, 2) := by decide +kernel
theorem dX7_gatherBool_61 : decode cX7_gatherBool 61 = .ok (.aload_n 0, 1) := by decide +kernel
theorem dX7_gatherBool_62 : decode cX7_gatherBool 62 = .ok (.getfield 30, 3) := by decide +kernel
theorem dX7_gatherBool_65 : decode cX7_gatherBool 65 = .ok (.iload 4, 2) := by decide +kernel
theorem dX7_gatherBool_67 : decode cX7_gatherBool 67 = .ok (.invokevirtual 62, 3) := by decide +kernel
theorem dX7_gatherBool_70 : decode cX7_gatherBool 70 = .ok (.bipush 7, 2) := by decide +kernel
theorem dX7_gatherBool_72 : decode cX7_gatherBool 72 = .ok (.if_icmp .ne 12, 3) := by decide +kernel
theorem dX7_gatherBool_75 : decode cX7_gatherBool 75 = .ok (.iload_n 3, 1) := by decide +kernel
theorem dX7_gatherBool_76 : decode cX7_gatherBool 76 = .ok (.invokestatic 104, 3) := by decide +kernel
theorem dX7_gatherBool_79 : decode cX7_gatherBool 79 = .ok (.ifCond .eq 68, 3) := by decide +kernel
theorem dX7_gatherBool_82 : decode cX7_gatherBool 82 = .ok (.iconst 0, 1) := by decide +kernel
theorem dX7_gatherBool_83 : decode cX7_gatherBool 83 = .ok (.ireturn, 1) := by decide +kernel
theorem dX7_gatherBool_84 : decode cX7_gatherBool 84 = .ok (.aload_n 0, 1) := by decide +kernel
theorem dX7_gatherBool_85 : decode cX7_gatherBool 85 = .ok (.iload_n 3, 1) := by decide +kernel
theorem dX7_gatherBool_86 : decode cX7_gatherBool 86 = .ok (.iload 4, 2) := by decide +kernel
theorem dX7_gatherBool_88 : decode cX7_gatherBool 88 = .ok (.aload_n 0, 1) := by decide +kernel
theorem dX7_gatherBool_89 : decode cX7_gatherBool 89 = .ok (.getfield 30, 3) := by decide +kernel
theorem dX7_gatherBool_92 : decode cX7_gatherBool 92 = .ok (.iload_n 1, 1) := by decide +kernel
theorem dX7_gatherBool_93 : decode cX7_gatherBool 93 = .ok (.invokevirtual 65, 3) := by decide +kernel
theorem dX7_gatherBool_96 : decode cX7_gatherBool 96 = .ok (.invokevirtual 107, 3) := by decide +kernel
theorem dX7_gatherBool_99 : decode cX7_gatherBool 99 = .ok (.ifCond .eq 38, 3) := by decide +kernel
theorem dX7_gatherBool_102 : decode cX7_gatherBool 102 = .ok (.aload_n 0, 1) := by decide +kernel
theorem dX7_gatherBool_103 : decode cX7_gatherBool 103 = .ok (.getfield 22, 3) := by decide +kernel
theorem dX7_gatherBool_106 : decode cX7_gatherBool 106 = .ok (.invokevirtual 94, 3) := by decide +kernel
theorem dX7_gatherBool_109 : decode cX7_gatherBool 109 = .ok (.aload_n 0, 1) := by decide +kernel
theorem dX7_gatherBool_110 : decode cX7_gatherBool 110 = .ok (.getfield 30, 3) := by decide +kernel
theorem dX7_gatherBool_113 : decode cX7_gatherBool 113 = .ok (.iload 4, 2) := by decide +kernel
theorem dX7_gatherBool_115 : decode cX7_gatherBool 115 = .ok (.invokevirtual 55, 3) := by decide +kernel
theorem dX7_gatherBool_118 : decode cX7_gatherBool 118 = .ok (.iadd, 1) := by decide +kernel
theorem dX7_gatherBool_119 : decode cX7_gatherBool 119 = .ok (.iload 5, 2) := by decide +kernel
theorem dX7_gatherBool_121 : decode cX7_gatherBool 121 = .ok (.iadd, 1) := by decide +kernel
theorem dX7_gatherBool_122 : decode cX7_gatherBool 122 = .ok (.bipush 8, 2) := by decide +kernel
theorem dX7_gatherBool_124 : decode cX7_gatherBool 124 = .ok (.if_icmp .gt 13, 3) := by decide +kernel
theorem dX7_gatherBool_127 : decode cX7_gatherBool 127 = .ok (.aload_n 0, 1) := by decide +kernel
theorem dX7_gatherBool_128 : decode cX7_gatherBool 128 = .ok (.iload_n 3, 1) := by decide +kernel
theorem dX7_gatherBool_129 : decode cX7_gatherBool 129 = .ok (.iload 4, 2) := by decide +kernel
theorem dX7_gatherBool_131 : decode cX7_gatherBool 131 = .ok (.invokevirtual 111, 3) := by decide +kernel
theorem dX7_gatherBool_134 : decode cX7_gatherBool 134 = .ok (.goto 13, 3) := by decide +kernel
theorem dX7_gatherBool_137 : decode cX7_gatherBool 137 = .ok (.aload_n 0, 1) := by decide +kernel
theorem dX7_gatherBool_138 : decode cX7_gatherBool 138 = .ok (.getfield 22, 3) := by decide +kernel
theorem dX7_gatherBool_141 : decode cX7_gatherBool 141 = .ok (.iload_n 3, 1) := by decide +kernel
theorem dX7_gatherBool_142 : decode cX7_gatherBool 142 = .ok (.iload 4, 2) := by decide +kernel
theorem dX7_gatherBool_144 : decode cX7_gatherBool 144 = .ok (.invokevirtual 90, 3) := by decide +kernel
theorem dX7_gatherBool_147 : decode cX7_gatherBool 147 = .ok (.iinc 2 1, 3) := by decide +kernel
theorem dX7_gatherBool_150 : decode cX7_gatherBool 150 = .ok (.goto (-141), 3) := by decide +kernel
theorem dX7_gatherBool_153 : decode cX7_gatherBool 153 = .ok (.iconst 1, 1) := by decide +kernel
theorem dX7_gatherBool_154 : decode cX7_gatherBool 154 = .ok (.ireturn, 1) := by decide +kernel
theorem dX7_canDissolve_0 : decode cX7_canDissolve 0 = .ok (.aload_n 0, 1) := by decide +kernel
theorem dX7_canDissolve_1 : decode cX7_canDissolve 1 = .ok (.getfield 30, 3) := by decide +kernel
theorem dX7_canDissolve_4 : decode cX7_canDissolve 4 = .ok (.iload_n 2, 1) := by decide +kernel
theorem dX7_canDissolve_5 : decode cX7_canDissolve 5 = .ok (.invokevirtual 62, 3) := by decide +kernel
theorem dX7_canDissolve_8 : decode cX7_canDissolve 8 = .ok (.iconst 2, 1) := by decide +kernel
theorem dX7_canDissolve_9 : decode cX7_canDissolve 9 = .ok (.if_icmp .ne 8, 3) := by decide +kernel
theorem dX7_canDissolve_12 : decode cX7_canDissolve 12 = .ok (.iload_n 1, 1) := by decide +kernel
theorem dX7_canDissolve_13 : decode cX7_canDissolve 13 = .ok (.iconst 2, 1) := by decide +kernel
theorem dX7_canDissolve_14 : decode cX7_canDissolve 14 = .ok (.if_icmp .ne 5, 3) := by decide +kernel
theorem dX7_canDissolve_17 : decode cX7_canDissolve 17 = .ok (.iconst 0, 1) := by decide +kernel
theorem dX7_canDissolve_18 : decode cX7_canDissolve 18 = .ok (.ireturn, 1) := by decide +kernel
theorem dX7_canDissolve_19 : decode cX7_canDissolve 19 = .ok (.aload_n 0, 1) := by decide +kernel
theorem dX7_canDissolve_20 : decode cX7_canDissolve 20 = .ok (.getfield 30, 3) := by decide +kernel
theorem dX7_canDissolve_23 : decode cX7_canDissolve 23 = .ok (.iload_n 2, 1) := by decide +kernel
theorem dX7_canDissolve_24 : decode cX7_canDissolve 24 = .ok (.invokevirtual 65, 3) := by decide +kernel
theorem dX7_canDissolve_27 : decode cX7_canDissolve 27 = .ok (.istore 4, 2) := by decide +kernel
theorem dX7_canDissolve_29 : decode cX7_canDissolve 29 = .ok (.aload_n 0, 1) := by decide +kernel
theorem dX7_canDissolve_30 : decode cX7_canDissolve 30 = .ok (.getfield 30, 3) := by decide +kernel
theorem dX7_canDissolve_33 : decode cX7_canDissolve 33 = .ok (.iload_n 2, 1) := by decide +kernel
theorem dX7_canDissolve_34 : decode cX7_canDissolve 34 = .ok (.iconst 3, 1) := by decide +kernel
theorem dX7_canDissolve_35 : decode cX7_canDissolve 35 = .ok (.invokevirtual 114, 3) := by decide +kernel
theorem dX7_canDissolve_38 : decode cX7_canDissolve 38 = .ok (.istore 5, 2) := by decide +kernel
theorem dX7_canDissolve_40 : decode cX7_canDissolve 40 = .ok (.iload_n 1, 1) := by decide +kernel
theorem dX7_canDissolve_41 : decode cX7_canDissolve 41 = .ok (.iconst 3, 1) := by decide +kernel
theorem dX7_canDissolve_42 : decode cX7_canDissolve 42 = .ok (.if_icmp .ne 33, 3) := by decide +kernel
theorem dX7_canDissolve_45 : decode cX7_canDissolve 45 = .ok (.iload_n 3, 1) := by decide +kernel
theorem dX7_canDissolve_46 : decode cX7_canDissolve 46 = .ok (.iconst 1, 1) := by decide +kernel
theorem dX7_canDissolve_47 : decode cX7_canDissolve 47 = .ok (.if_icmp .gt 26, 3) := by decide +kernel
theorem dX7_canDissolve_50 : decode cX7_canDissolve 50 = .ok (.iload 4, 2) := by decide +kernel
theorem dX7_canDissolve_52 : decode cX7_canDissolve 52 = .ok (.iconst 1, 1) := by decide +kernel
theorem dX7_canDissolve_53 : decode cX7_canDissolve 53 = .ok (.if_icmp .gt 20, 3) := by decide +kernel
theorem dX7_canDissolve_56 : decode cX7_canDissolve 56 = .ok (.iload 5, 2) := by decide +kernel
theorem dX7_canDissolve_58 : decode cX7_canDissolve 58 = .ok (.aload_n 0, 1) := by decide +kernel
theorem dX7_canDissolve_59 : decode cX7_canDissolve 59 = .ok (.getfield 30, 3) := by decide +kernel
theorem dX7_canDissolve_62 : decode cX7_canDissolve 62 = .ok (.iload_n 2, 1) := by decide +kernel
theorem dX7_canDissolve_63 : decode cX7_canDissolve 63 = .ok (.invokevirtual 55, 3) := by decide +kernel
theorem dX7_canDissolve_66 : decode cX7_canDissolve 66 = .ok (.if_icmp .ne 7, 3) := by decide +kernel
theorem dX7_canDissolve_69 : decode cX7_canDissolve 69 = .ok (.iconst 1, 1) := by decide +kernel
theorem dX7_canDissolve_70 : decode cX7_canDissolve 70 = .ok (.goto 4, 3) := by decide +kernel
theorem dX7_canDissolve_73 : decode cX7_canDissolve 73 = .ok (.iconst 0, 1) := by decide +kernel
theorem dX7_canDissolve_74 : decode cX7_canDissolve 74 = .ok (.ireturn, 1) := by decide +kernel
theorem dX7_canDissolve_75 : decode cX7_canDissolve 75 = .ok (.iload 4, 2) := by decide +kernel
theorem dX7_canDissolve_77 : decode cX7_canDissolve 77 = .ok (.ifCond .ne 12, 3) := by decide +kernel
theorem dX7_canDissolve_80 : decode cX7_canDissolve 80 = .ok (.iload 5, 2) := by decide +kernel
theorem dX7_canDissolve_82 : decode cX7_canDissolve 82 = .ok (.ifCond .ne 7, 3) := by decide +kernel
theorem dX7_canDissolve_85 : decode cX7_canDissolve 85 = .ok (.iconst 1, 1) := by decide +kernel
theorem dX7_canDissolve_86 : decode cX7_canDissolve 86 = .ok (.goto 4, 3) := by decide +kernel
theorem dX7_canDissolve_89 : decode cX7_canDissolve 89 = .ok (.iconst 0, 1) := by decide +kernel
theorem dX7_canDissolve_90 : decode cX7_canDissolve 90 = .ok (.ireturn, 1) := by decide +kernel
theorem dX7_dissolve_0 : decode cX7_dissolve 0 = .ok (.iconst 0, 1) := by decide +kernel
theorem dX7_dissolve_1 : decode cX7_dissolve 1 = .ok (.istore_n 3, 1) := by decide +kernel
theorem dX7_dissolve_2 : decode cX7_dissolve 2 = .ok (.iload_n 3, 1) := by decide +kernel
theorem dX7_dissolve_3 : decode cX7_dissolve 3 = .ok (.aload_n 0, 1) := by decide +kernel
theorem dX7_dissolve_4 : decode cX7_dissolve 4 = .ok (.getfield 30, 3) := by decide +kernel
theorem dX7_dissolve_7 : decode cX7_dissolve 7 = .ok (.iload_n 2, 1) := by decide +kernel
theorem dX7_dissolve_8 : decode cX7_dissolve 8 = .ok (.invokevirtual 55, 3) := by decide +kernel
theorem dX7_dissolve_11 : decode cX7_dissolve 11 = .ok (.if_icmp .ge 52, 3) := by decide +kernel
theorem dX7_dissolve_14 : decode cX7_dissolve 14 = .ok (.aload_n 0, 1) := by decide +kernel
theorem dX7_dissolve_15 : decode cX7_dissolve 15 = .ok (.getfield 30, 3) := by decide +kernel
theorem dX7_dissolve_18 : decode cX7_dissolve 18 = .ok (.iload_n 2, 1) := by decide +kernel
theorem dX7_dissolve_19 : decode cX7_dissolve 19 = .ok (.iload_n 3, 1) := by decide +kernel
theorem dX7_dissolve_20 : decode cX7_dissolve 20 = .ok (.invokevirtual 101, 3) := by decide +kernel
theorem dX7_dissolve_23 : decode cX7_dissolve 23 = .ok (.istore 4, 2) := by decide +kernel
theorem dX7_dissolve_25 : decode cX7_dissolve 25 = .ok (.aload_n 0, 1) := by decide +kernel
theorem dX7_dissolve_26 : decode cX7_dissolve 26 = .ok (.getfield 22, 3) := by decide +kernel
theorem dX7_dissolve_29 : decode cX7_dissolve 29 = .ok (.iload_n 1, 1) := by decide +kernel
theorem dX7_dissolve_30 : decode cX7_dissolve 30 = .ok (.iconst 1, 1) := by decide +kernel
theorem dX7_dissolve_31 : decode cX7_dissolve 31 = .ok (.if_icmp .ne 12, 3) := by decide +kernel
theorem dX7_dissolve_34 : decode cX7_dissolve 34 = .ok (.iload 4, 2) := by decide +kernel
theorem dX7_dissolve_36 : decode cX7_dissolve 36 = .ok (.ifCond .ne 7, 3) := by decide +kernel
theorem dX7_dissolve_39 : decode cX7_dissolve 39 = .ok (.iconst 1, 1) := by decide +kernel
theorem dX7_dissolve_40 : decode cX7_dissolve 40 = .ok (.goto 5, 3) := by decide +kernel
theorem dX7_dissolve_43 : decode cX7_dissolve 43 = .ok (.iload 4, 2) := by decide +kernel
theorem dX7_dissolve_45 : decode cX7_dissolve 45 = .ok (.aload_n 0, 1) := by decide +kernel
theorem dX7_dissolve_46 : decode cX7_dissolve 46 = .ok (.getfield 30, 3) := by decide +kernel
theorem dX7_dissolve_49 : decode cX7_dissolve 49 = .ok (.iload_n 2, 1) := by decide +kernel
theorem dX7_dissolve_50 : decode cX7_dissolve 50 = .ok (.iload_n 3, 1) := by decide +kernel
theorem dX7_dissolve_51 : decode cX7_dissolve 51 = .ok (.invokevirtual 58, 3) := by decide +kernel
theorem dX7_dissolve_54 : decode cX7_dissolve 54 = .ok (.invokevirtual 90, 3) := by decide +kernel
theorem dX7_dissolve_57 : decode cX7_dissolve 57 = .ok (.iinc 3 1, 3) := by decide +kernel
theorem dX7_dissolve_60 : decode cX7_dissolve 60 = .ok (.goto (-58), 3) := by decide +kernel
theorem dX7_dissolve_63 : decode cX7_dissolve 63 = .ok (.return_, 1) := by decide +kernel
theorem dX7_boolOfRow_0 : decode cX7_boolOfRow 0 = .ok (.iload_n 1, 1) := by decide +kernel
theorem dX7_boolOfRow_1 : decode cX7_boolOfRow 1 = .ok (.istore_n 2, 1) := by decide +kernel
theorem dX7_boolOfRow_2 : decode cX7_boolOfRow 2 = .ok (.aload_n 0, 1) := by decide +kernel
theorem dX7_boolOfRow_3 : decode cX7_boolOfRow 3 = .ok (.getfield 22, 3) := by decide +kernel
theorem dX7_boolOfRow_6 : decode cX7_boolOfRow 6 = .ok (.iconst 3, 1) := by decide +kernel
theorem dX7_boolOfRow_7 : decode cX7_boolOfRow 7 = .ok (.invokevirtual 117, 3) := by decide +kernel
theorem dX7_boolOfRow_10 : decode cX7_boolOfRow 10 = .ok (.istore_n 3, 1) := by decide +kernel
theorem dX7_boolOfRow_11 : decode cX7_boolOfRow 11 = .ok (.iload_n 2, 1) := by decide +kernel
theorem dX7_boolOfRow_12 : decode cX7_boolOfRow 12 = .ok (.iload_n 3, 1) := by decide +kernel
theorem dX7_boolOfRow_13 : decode cX7_boolOfRow 13 = .ok (.if_icmp .le 5, 3) := by decide +kernel
theorem dX7_boolOfRow_16 : decode cX7_boolOfRow 16 = .ok (.iconst (-1), 1) := by decide +kernel
theorem dX7_boolOfRow_17 : decode cX7_boolOfRow 17 = .ok (.ireturn, 1) := by decide +kernel
theorem dX7_boolOfRow_18 : decode cX7_boolOfRow 18 = .ok (.aload_n 0, 1) := by decide +kernel
theorem dX7_boolOfRow_19 : decode cX7_boolOfRow 19 = .ok (.getfield 22, 3) := by decide +kernel
theorem dX7_boolOfRow_22 : decode cX7_boolOfRow 22 = .ok (.iconst 0, 1) := by decide +kernel
theorem dX7_boolOfRow_23 : decode cX7_boolOfRow 23 = .ok (.invokevirtual 117, 3) := by decide +kernel
theorem dX7_boolOfRow_26 : decode cX7_boolOfRow 26 = .ok (.ifCond .ne 26, 3) := by decide +kernel
theorem dX7_boolOfRow_29 : decode cX7_boolOfRow 29 = .ok (.aload_n 0, 1) := by decide +kernel
theorem dX7_boolOfRow_30 : decode cX7_boolOfRow 30 = .ok (.getfield 22, 3) := by decide +kernel
theorem dX7_boolOfRow_33 : decode cX7_boolOfRow 33 = .ok (.iconst 1, 1) := by decide +kernel
theorem dX7_boolOfRow_34 : decode cX7_boolOfRow 34 = .ok (.invokevirtual 117, 3) := by decide +kernel
theorem dX7_boolOfRow_37 : decode cX7_boolOfRow 37 = .ok (.ifCond .ne 15, 3) := by decide +kernel
theorem dX7_boolOfRow_40 : decode cX7_boolOfRow 40 = .ok (.iload_n 3, 1) := by decide +kernel
theorem dX7_boolOfRow_41 : decode cX7_boolOfRow 41 = .ok (.ifCond .ne 5, 3) := by decide +kernel
theorem dX7_boolOfRow_44 : decode cX7_boolOfRow 44 = .ok (.iconst (-1), 1) := by decide +kernel
theorem dX7_boolOfRow_45 : decode cX7_boolOfRow 45 = .ok (.ireturn, 1) := by decide +kernel
theorem dX7_boolOfRow_46 : decode cX7_boolOfRow 46 = .ok (.iload_n 2, 1) := by decide +kernel
theorem dX7_boolOfRow_47 : decode cX7_boolOfRow 47 = .ok (.iconst 1, 1) := by decide +kernel
theorem dX7_boolOfRow_48 : decode cX7_boolOfRow 48 = .ok (.invokestatic 119, 3) := by decide +kernel
theorem dX7_boolOfRow_51 : decode cX7_boolOfRow 51 = .ok (.istore_n 2, 1) := by decide +kernel
theorem dX7_boolOfRow_52 : decode cX7_boolOfRow 52 = .ok (.iload_n 2, 1) := by decide +kernel
theorem dX7_boolOfRow_53 : decode cX7_boolOfRow 53 = .ok (.ifCond .le 17, 3) := by decide +kernel
theorem dX7_boolOfRow_56 : decode cX7_boolOfRow 56 = .ok (.iload_n 2, 1) := by decide +kernel
theorem dX7_boolOfRow_57 : decode cX7_boolOfRow 57 = .ok (.iload_n 3, 1) := by decide +kernel
theorem dX7_boolOfRow_58 : decode cX7_boolOfRow 58 = .ok (.if_icmp .ne 12, 3) := by decide +kernel
theorem dX7_boolOfRow_61 : decode cX7_boolOfRow 61 = .ok (.aload_n 0, 1) := by decide +kernel
theorem dX7_boolOfRow_62 : decode cX7_boolOfRow 62 = .ok (.getfield 22, 3) := by decide +kernel
theorem dX7_boolOfRow_65 : decode cX7_boolOfRow 65 = .ok (.invokevirtual 124, 3) := by decide +kernel
theorem dX7_boolOfRow_68 : decode cX7_boolOfRow 68 = .ok (.iconst 0, 1) := by decide +kernel
theorem dX7_boolOfRow_69 : decode cX7_boolOfRow 69 = .ok (.istore_n 2, 1) := by decide +kernel
theorem dX7_boolOfRow_70 : decode cX7_boolOfRow 70 = .ok (.aload_n 0, 1) := by decide +kernel
theorem dX7_boolOfRow_71 : decode cX7_boolOfRow 71 = .ok (.getfield 22, 3) := by decide +kernel
theorem dX7_boolOfRow_74 : decode cX7_boolOfRow 74 = .ok (.invokevirtual 127, 3) := by decide +kernel
theorem dX7_boolOfRow_77 : decode cX7_boolOfRow 77 = .ok (.ifCond .eq 5, 3) := by decide +kernel
theorem dX7_boolOfRow_80 : decode cX7_boolOfRow 80 = .ok (.iconst (-1), 1) := by decide +kernel
theorem dX7_boolOfRow_81 : decode cX7_boolOfRow 81 = .ok (.ireturn, 1) := by decide +kernel
theorem dX7_boolOfRow_82 : decode cX7_boolOfRow 82 = .ok (.aload_n 0, 1) := by decide +kernel
theorem dX7_boolOfRow_83 : decode cX7_boolOfRow 83 = .ok (.getfield 22, 3) := by decide +kernel
theorem dX7_boolOfRow_86 : decode cX7_boolOfRow 86 = .ok (.invokevirtual 131, 3) := by decide +kernel
theorem dX7_boolOfRow_89 : decode cX7_boolOfRow 89 = .ok (.aload_n 0, 1) := by decide +kernel
theorem dX7_boolOfRow_90 : decode cX7_boolOfRow 90 = .ok (.getfield 22, 3) := by decide +kernel
theorem dX7_boolOfRow_93 : decode cX7_boolOfRow 93 = .ok (.invokevirtual 94, 3) := by decide +kernel
theorem dX7_boolOfRow_96 : decode cX7_boolOfRow 96 = .ok (.iconst 1, 1) := by decide +kernel
theorem dX7_boolOfRow_97 : decode cX7_boolOfRow 97 = .ok (.if_icmp .ne 23, 3) := by decide +kernel
theorem dX7_boolOfRow_100 : decode cX7_boolOfRow 100 = .ok (.aload_n 0, 1) := by decide +kernel
theorem dX7_boolOfRow_101 : decode cX7_boolOfRow 101 = .ok (.getfield 22, 3) := by decide +kernel
theorem dX7_boolOfRow_104 : decode cX7_boolOfRow 104 = .ok (.iconst 0, 1) := by decide +kernel
theorem dX7_boolOfRow_105 : decode cX7_boolOfRow 105 = .ok (.invokevirtual 134, 3) := by decide +kernel
theorem dX7_boolOfRow_108 : decode cX7_boolOfRow 108 = .ok (.ifCond .ne 12, 3) := by decide +kernel
theorem dX7_boolOfRow_111 : decode cX7_boolOfRow 111 = .ok (.aload_n 0, 1) := by decide +kernel
theorem dX7_boolOfRow_112 : decode cX7_boolOfRow 112 = .ok (.getfield 22, 3) := by decide +kernel
theorem dX7_boolOfRow_115 : decode cX7_boolOfRow 115 = .ok (.iconst 0, 1) := by decide +kernel
theorem dX7_boolOfRow_116 : decode cX7_boolOfRow 116 = .ok (.invokevirtual 96, 3) := by decide +kernel
theorem dX7_boolOfRow_119 : decode cX7_boolOfRow 119 = .ok (.ireturn, 1) := by decide +kernel
theorem dX7_boolOfRow_120 : decode cX7_boolOfRow 120 = .ok (.aload_n 0, 1) := by decide +kernel
theorem dX7_boolOfRow_121 : decode cX7_boolOfRow 121 = .ok (.iconst 2, 1) := by decide +kernel
theorem dX7_boolOfRow_122 : decode cX7_boolOfRow 122 = .ok (.iload_n 2, 1) := by decide +kernel
theorem dX7_boolOfRow_123 : decode cX7_boolOfRow 123 = .ok (.invokevirtual 98, 3) := by decide +kernel
theorem dX7_boolOfRow_126 : decode cX7_boolOfRow 126 = .ok (.ireturn, 1) := by decide +kernel
theorem dX7_thatIsSo_0 : decode cX7_thatIsSo 0 = .ok (.iconst 0, 1) := by decide +kernel
theorem dX7_thatIsSo_1 : decode cX7_thatIsSo 1 = .ok (.istore 4, 2) := by decide +kernel
theorem dX7_thatIsSo_3 : decode cX7_thatIsSo 3 = .ok (.iload 4, 2) := by decide +kernel
theorem dX7_thatIsSo_5 : decode cX7_thatIsSo 5 = .ok (.aload_n 0, 1) := by decide +kernel
theorem dX7_thatIsSo_6 : decode cX7_thatIsSo 6 = .ok (.getfield 30, 3) := by decide +kernel
theorem dX7_thatIsSo_9 : decode cX7_thatIsSo 9 = .ok (.invokevirtual 34, 3) := by decide +kernel
end
section
theorem dX7_thatIsSo_12 : decode cX7_thatIsSo 12 = .ok (.if_icmp .ge 27, 3) := by decide +kernel
theorem dX7_thatIsSo_15 : decode cX7_thatIsSo 15 = .ok (.aload_n 0, 1) := by decide +kernel
theorem dX7_thatIsSo_16 : decode cX7_thatIsSo 16 = .ok (.getfield 30, 3) := by decide +kernel
theorem dX7_thatIsSo_19 : decode cX7_thatIsSo 19 = .ok (.iload 4, 2) := by decide +kernel
theorem dX7_thatIsSo_21 : decode cX7_thatIsSo 21 = .ok (.iload_n 1, 1) := by decide +kernel
theorem dX7_thatIsSo_22 : decode cX7_thatIsSo 22 = .ok (.iload_n 2, 1) := by decide +kernel
theorem dX7_thatIsSo_23 : decode cX7_thatIsSo 23 = .ok (.iload_n 3, 1) := by decide +kernel
theorem dX7_thatIsSo_24 : decode cX7_thatIsSo 24 = .ok (.invokevirtual 136, 3) := by decide +kernel
theorem dX7_thatIsSo_27 : decode cX7_thatIsSo 27 = .ok (.ifCond .eq 6, 3) := by decide +kernel
theorem dX7_thatIsSo_30 : decode cX7_thatIsSo 30 = .ok (.iload 4, 2) := by decide +kernel
theorem dX7_thatIsSo_32 : decode cX7_thatIsSo 32 = .ok (.ireturn, 1) := by decide +kernel
theorem dX7_thatIsSo_33 : decode cX7_thatIsSo 33 = .ok (.iinc 4 1, 3) := by decide +kernel
theorem dX7_thatIsSo_36 : decode cX7_thatIsSo 36 = .ok (.goto (-33), 3) := by decide +kernel
theorem dX7_thatIsSo_39 : decode cX7_thatIsSo 39 = .ok (.aload_n 0, 1) := by decide +kernel
theorem dX7_thatIsSo_40 : decode cX7_thatIsSo 40 = .ok (.getfield 30, 3) := by decide +kernel
theorem dX7_thatIsSo_43 : decode cX7_thatIsSo 43 = .ok (.iload_n 1, 1) := by decide +kernel
theorem dX7_thatIsSo_44 : decode cX7_thatIsSo 44 = .ok (.iload_n 2, 1) := by decide +kernel
theorem dX7_thatIsSo_45 : decode cX7_thatIsSo 45 = .ok (.iload_n 3, 1) := by decide +kernel
theorem dX7_thatIsSo_46 : decode cX7_thatIsSo 46 = .ok (.invokevirtual 140, 3) := by decide +kernel
theorem dX7_thatIsSo_49 : decode cX7_thatIsSo 49 = .ok (.ireturn, 1) := by decide +kernel
theorem dX7_thatIsSoWithRow_0 : decode cX7_thatIsSoWithRow 0 = .ok (.iconst 0, 1) := by decide +kernel
theorem dX7_thatIsSoWithRow_1 : decode cX7_thatIsSoWithRow 1 = .ok (.istore_n 3, 1) := by decide +kernel
theorem dX7_thatIsSoWithRow_2 : decode cX7_thatIsSoWithRow 2 = .ok (.iload_n 3, 1) := by decide +kernel
theorem dX7_thatIsSoWithRow_3 : decode cX7_thatIsSoWithRow 3 = .ok (.aload_n 0, 1) := by decide +kernel
theorem dX7_thatIsSoWithRow_4 : decode cX7_thatIsSoWithRow 4 = .ok (.getfield 30, 3) := by decide +kernel
theorem dX7_thatIsSoWithRow_7 : decode cX7_thatIsSoWithRow 7 = .ok (.invokevirtual 34, 3) := by decide +kernel
theorem dX7_thatIsSoWithRow_10 : decode cX7_thatIsSoWithRow 10 = .ok (.if_icmp .ge 33, 3) := by decide +kernel
theorem dX7_thatIsSoWithRow_13 : decode cX7_thatIsSoWithRow 13 = .ok (.aload_n 0, 1) := by decide +kernel
theorem dX7_thatIsSoWithRow_14 : decode cX7_thatIsSoWithRow 14 = .ok (.getfield 30, 3) := by decide +kernel
theorem dX7_thatIsSoWithRow_17 : decode cX7_thatIsSoWithRow 17 = .ok (.iload_n 3, 1) := by decide +kernel
theorem dX7_thatIsSoWithRow_18 : decode cX7_thatIsSoWithRow 18 = .ok (.iload_n 1, 1) := by decide +kernel
theorem dX7_thatIsSoWithRow_19 : decode cX7_thatIsSoWithRow 19 = .ok (.iload_n 2, 1) := by decide +kernel
theorem dX7_thatIsSoWithRow_20 : decode cX7_thatIsSoWithRow 20 = .ok (.iconst 0, 1) := by decide +kernel
theorem dX7_thatIsSoWithRow_21 : decode cX7_thatIsSoWithRow 21 = .ok (.invokevirtual 136, 3) := by decide +kernel
theorem dX7_thatIsSoWithRow_24 : decode cX7_thatIsSoWithRow 24 = .ok (.ifCond .eq 13, 3) := by decide +kernel
theorem dX7_thatIsSoWithRow_27 : decode cX7_thatIsSoWithRow 27 = .ok (.aload_n 0, 1) := by decide +kernel
theorem dX7_thatIsSoWithRow_28 : decode cX7_thatIsSoWithRow 28 = .ok (.iload_n 3, 1) := by decide +kernel
theorem dX7_thatIsSoWithRow_29 : decode cX7_thatIsSoWithRow 29 = .ok (.invokevirtual 143, 3) := by decide +kernel
theorem dX7_thatIsSoWithRow_32 : decode cX7_thatIsSoWithRow 32 = .ok (.ifCond .eq 5, 3) := by decide +kernel
theorem dX7_thatIsSoWithRow_35 : decode cX7_thatIsSoWithRow 35 = .ok (.iload_n 3, 1) := by decide +kernel
theorem dX7_thatIsSoWithRow_36 : decode cX7_thatIsSoWithRow 36 = .ok (.ireturn, 1) := by decide +kernel
theorem dX7_thatIsSoWithRow_37 : decode cX7_thatIsSoWithRow 37 = .ok (.iinc 3 1, 3) := by decide +kernel
theorem dX7_thatIsSoWithRow_40 : decode cX7_thatIsSoWithRow 40 = .ok (.goto (-38), 3) := by decide +kernel
theorem dX7_thatIsSoWithRow_43 : decode cX7_thatIsSoWithRow 43 = .ok (.aload_n 0, 1) := by decide +kernel
theorem dX7_thatIsSoWithRow_44 : decode cX7_thatIsSoWithRow 44 = .ok (.getfield 30, 3) := by decide +kernel
theorem dX7_thatIsSoWithRow_47 : decode cX7_thatIsSoWithRow 47 = .ok (.iload_n 1, 1) := by decide +kernel
theorem dX7_thatIsSoWithRow_48 : decode cX7_thatIsSoWithRow 48 = .ok (.iload_n 2, 1) := by decide +kernel
theorem dX7_thatIsSoWithRow_49 : decode cX7_thatIsSoWithRow 49 = .ok (.iconst 0, 1) := by decide +kernel
theorem dX7_thatIsSoWithRow_50 : decode cX7_thatIsSoWithRow 50 = .ok (.invokevirtual 140, 3) := by decide +kernel
theorem dX7_thatIsSoWithRow_53 : decode cX7_thatIsSoWithRow 53 = .ok (.istore_n 3, 1) := by decide +kernel
theorem dX7_thatIsSoWithRow_54 : decode cX7_thatIsSoWithRow 54 = .ok (.iconst 0, 1) := by decide +kernel
theorem dX7_thatIsSoWithRow_55 : decode cX7_thatIsSoWithRow 55 = .ok (.istore 4, 2) := by decide +kernel
theorem dX7_thatIsSoWithRow_57 : decode cX7_thatIsSoWithRow 57 = .ok (.iload_n 3, 1) := by decide +kernel
theorem dX7_thatIsSoWithRow_58 : decode cX7_thatIsSoWithRow 58 = .ok (.ifCond .lt 48, 3) := by decide +kernel
theorem dX7_thatIsSoWithRow_61 : decode cX7_thatIsSoWithRow 61 = .ok (.iload 4, 2) := by decide +kernel
theorem dX7_thatIsSoWithRow_63 : decode cX7_thatIsSoWithRow 63 = .ok (.aload_n 0, 1) := by decide +kernel
theorem dX7_thatIsSoWithRow_64 : decode cX7_thatIsSoWithRow 64 = .ok (.getfield 22, 3) := by decide +kernel
theorem dX7_thatIsSoWithRow_67 : decode cX7_thatIsSoWithRow 67 = .ok (.invokevirtual 94, 3) := by decide +kernel
theorem dX7_thatIsSoWithRow_70 : decode cX7_thatIsSoWithRow 70 = .ok (.if_icmp .ge 36, 3) := by decide +kernel
theorem dX7_thatIsSoWithRow_73 : decode cX7_thatIsSoWithRow 73 = .ok (.aload_n 0, 1) := by decide +kernel
theorem dX7_thatIsSoWithRow_74 : decode cX7_thatIsSoWithRow 74 = .ok (.getfield 30, 3) := by decide +kernel
theorem dX7_thatIsSoWithRow_77 : decode cX7_thatIsSoWithRow 77 = .ok (.iload_n 3, 1) := by decide +kernel
theorem dX7_thatIsSoWithRow_78 : decode cX7_thatIsSoWithRow 78 = .ok (.aload_n 0, 1) := by decide +kernel
theorem dX7_thatIsSoWithRow_79 : decode cX7_thatIsSoWithRow 79 = .ok (.getfield 22, 3) := by decide +kernel
theorem dX7_thatIsSoWithRow_82 : decode cX7_thatIsSoWithRow 82 = .ok (.iload 4, 2) := by decide +kernel
theorem dX7_thatIsSoWithRow_84 : decode cX7_thatIsSoWithRow 84 = .ok (.invokevirtual 134, 3) := by decide +kernel
theorem dX7_thatIsSoWithRow_87 : decode cX7_thatIsSoWithRow 87 = .ok (.aload_n 0, 1) := by decide +kernel
theorem dX7_thatIsSoWithRow_88 : decode cX7_thatIsSoWithRow 88 = .ok (.getfield 22, 3) := by decide +kernel
theorem dX7_thatIsSoWithRow_91 : decode cX7_thatIsSoWithRow 91 = .ok (.iload 4, 2) := by decide +kernel
theorem dX7_thatIsSoWithRow_93 : decode cX7_thatIsSoWithRow 93 = .ok (.invokevirtual 96, 3) := by decide +kernel
theorem dX7_thatIsSoWithRow_96 : decode cX7_thatIsSoWithRow 96 = .ok (.invokevirtual 146, 3) := by decide +kernel
theorem dX7_thatIsSoWithRow_99 : decode cX7_thatIsSoWithRow 99 = .ok (.pop, 1) := by decide +kernel
theorem dX7_thatIsSoWithRow_100 : decode cX7_thatIsSoWithRow 100 = .ok (.iinc 4 1, 3) := by decide +kernel
theorem dX7_thatIsSoWithRow_103 : decode cX7_thatIsSoWithRow 103 = .ok (.goto (-46), 3) := by decide +kernel
theorem dX7_thatIsSoWithRow_106 : decode cX7_thatIsSoWithRow 106 = .ok (.iload_n 3, 1) := by decide +kernel
theorem dX7_thatIsSoWithRow_107 : decode cX7_thatIsSoWithRow 107 = .ok (.ireturn, 1) := by decide +kernel
theorem dX7_hasPartsOfRow_0 : decode cX7_hasPartsOfRow 0 = .ok (.aload_n 0, 1) := by decide +kernel
theorem dX7_hasPartsOfRow_1 : decode cX7_hasPartsOfRow 1 = .ok (.getfield 30, 3) := by decide +kernel
theorem dX7_hasPartsOfRow_4 : decode cX7_hasPartsOfRow 4 = .ok (.iload_n 1, 1) := by decide +kernel
theorem dX7_hasPartsOfRow_5 : decode cX7_hasPartsOfRow 5 = .ok (.invokevirtual 55, 3) := by decide +kernel
theorem dX7_hasPartsOfRow_8 : decode cX7_hasPartsOfRow 8 = .ok (.aload_n 0, 1) := by decide +kernel
theorem dX7_hasPartsOfRow_9 : decode cX7_hasPartsOfRow 9 = .ok (.getfield 22, 3) := by decide +kernel
theorem dX7_hasPartsOfRow_12 : decode cX7_hasPartsOfRow 12 = .ok (.invokevirtual 94, 3) := by decide +kernel
theorem dX7_hasPartsOfRow_15 : decode cX7_hasPartsOfRow 15 = .ok (.if_icmp .eq 5, 3) := by decide +kernel
theorem dX7_hasPartsOfRow_18 : decode cX7_hasPartsOfRow 18 = .ok (.iconst 0, 1) := by decide +kernel
theorem dX7_hasPartsOfRow_19 : decode cX7_hasPartsOfRow 19 = .ok (.ireturn, 1) := by decide +kernel
theorem dX7_hasPartsOfRow_20 : decode cX7_hasPartsOfRow 20 = .ok (.iconst 0, 1) := by decide +kernel
theorem dX7_hasPartsOfRow_21 : decode cX7_hasPartsOfRow 21 = .ok (.istore_n 2, 1) := by decide +kernel
theorem dX7_hasPartsOfRow_22 : decode cX7_hasPartsOfRow 22 = .ok (.iload_n 2, 1) := by decide +kernel
theorem dX7_hasPartsOfRow_23 : decode cX7_hasPartsOfRow 23 = .ok (.aload_n 0, 1) := by decide +kernel
theorem dX7_hasPartsOfRow_24 : decode cX7_hasPartsOfRow 24 = .ok (.getfield 22, 3) := by decide +kernel
theorem dX7_hasPartsOfRow_27 : decode cX7_hasPartsOfRow 27 = .ok (.invokevirtual 94, 3) := by decide +kernel
theorem dX7_hasPartsOfRow_30 : decode cX7_hasPartsOfRow 30 = .ok (.if_icmp .ge 51, 3) := by decide +kernel
theorem dX7_hasPartsOfRow_33 : decode cX7_hasPartsOfRow 33 = .ok (.aload_n 0, 1) := by decide +kernel
theorem dX7_hasPartsOfRow_34 : decode cX7_hasPartsOfRow 34 = .ok (.getfield 30, 3) := by decide +kernel
theorem dX7_hasPartsOfRow_37 : decode cX7_hasPartsOfRow 37 = .ok (.iload_n 1, 1) := by decide +kernel
theorem dX7_hasPartsOfRow_38 : decode cX7_hasPartsOfRow 38 = .ok (.iload_n 2, 1) := by decide +kernel
theorem dX7_hasPartsOfRow_39 : decode cX7_hasPartsOfRow 39 = .ok (.invokevirtual 101, 3) := by decide +kernel
theorem dX7_hasPartsOfRow_42 : decode cX7_hasPartsOfRow 42 = .ok (.aload_n 0, 1) := by decide +kernel
theorem dX7_hasPartsOfRow_43 : decode cX7_hasPartsOfRow 43 = .ok (.getfield 22, 3) := by decide +kernel
theorem dX7_hasPartsOfRow_46 : decode cX7_hasPartsOfRow 46 = .ok (.iload_n 2, 1) := by decide +kernel
theorem dX7_hasPartsOfRow_47 : decode cX7_hasPartsOfRow 47 = .ok (.invokevirtual 134, 3) := by decide +kernel
theorem dX7_hasPartsOfRow_50 : decode cX7_hasPartsOfRow 50 = .ok (.if_icmp .ne 23, 3) := by decide +kernel
theorem dX7_hasPartsOfRow_53 : decode cX7_hasPartsOfRow 53 = .ok (.aload_n 0, 1) := by decide +kernel
theorem dX7_hasPartsOfRow_54 : decode cX7_hasPartsOfRow 54 = .ok (.getfield 30, 3) := by decide +kernel
theorem dX7_hasPartsOfRow_57 : decode cX7_hasPartsOfRow 57 = .ok (.iload_n 1, 1) := by decide +kernel
theorem dX7_hasPartsOfRow_58 : decode cX7_hasPartsOfRow 58 = .ok (.iload_n 2, 1) := by decide +kernel
theorem dX7_hasPartsOfRow_59 : decode cX7_hasPartsOfRow 59 = .ok (.invokevirtual 58, 3) := by decide +kernel
theorem dX7_hasPartsOfRow_62 : decode cX7_hasPartsOfRow 62 = .ok (.aload_n 0, 1) := by decide +kernel
theorem dX7_hasPartsOfRow_63 : decode cX7_hasPartsOfRow 63 = .ok (.getfield 22, 3) := by decide +kernel
theorem dX7_hasPartsOfRow_66 : decode cX7_hasPartsOfRow 66 = .ok (.iload_n 2, 1) := by decide +kernel
theorem dX7_hasPartsOfRow_67 : decode cX7_hasPartsOfRow 67 = .ok (.invokevirtual 96, 3) := by decide +kernel
theorem dX7_hasPartsOfRow_70 : decode cX7_hasPartsOfRow 70 = .ok (.if_icmp .eq 5, 3) := by decide +kernel
theorem dX7_hasPartsOfRow_73 : decode cX7_hasPartsOfRow 73 = .ok (.iconst 0, 1) := by decide +kernel
theorem dX7_hasPartsOfRow_74 : decode cX7_hasPartsOfRow 74 = .ok (.ireturn, 1) := by decide +kernel
theorem dX7_hasPartsOfRow_75 : decode cX7_hasPartsOfRow 75 = .ok (.iinc 2 1, 3) := by decide +kernel
theorem dX7_hasPartsOfRow_78 : decode cX7_hasPartsOfRow 78 = .ok (.goto (-56), 3) := by decide +kernel
theorem dX7_hasPartsOfRow_81 : decode cX7_hasPartsOfRow 81 = .ok (.iconst 1, 1) := by decide +kernel
theorem dX7_hasPartsOfRow_82 : decode cX7_hasPartsOfRow 82 = .ok (.ireturn, 1) := by decide +kernel
theorem dX8_init_0 : decode cX8_init 0 = .ok (.aload_n 0, 1) := by decide +kernel
theorem dX8_init_1 : decode cX8_init 1 = .ok (.invokespecial 3, 3) := by decide +kernel
theorem dX8_init_4 : decode cX8_init 4 = .ok (.aload_n 0, 1) := by decide +kernel
theorem dX8_init_5 : decode cX8_init 5 = .ok (.sipush 640, 3) := by decide +kernel
theorem dX8_init_8 : decode cX8_init 8 = .ok (.newarray .long, 2) := by decide +kernel
theorem dX8_init_10 : decode cX8_init 10 = .ok (.putfield 9, 3) := by decide +kernel
theorem dX8_init_13 : decode cX8_init 13 = .ok (.return_, 1) := by decide +kernel
theorem dX8_has_0 : decode cX8_has 0 = .ok (.aload_n 0, 1) := by decide +kernel
theorem dX8_has_1 : decode cX8_has 1 = .ok (.getfield 9, 3) := by decide +kernel
theorem dX8_has_4 : decode cX8_has 4 = .ok (.iload_n 1, 1) := by decide +kernel
theorem dX8_has_5 : decode cX8_has 5 = .ok (.bipush 8, 2) := by decide +kernel
theorem dX8_has_7 : decode cX8_has 7 = .ok (.imul, 1) := by decide +kernel
theorem dX8_has_8 : decode cX8_has 8 = .ok (.iload_n 2, 1) := by decide +kernel
theorem dX8_has_9 : decode cX8_has 9 = .ok (.bipush 6, 2) := by decide +kernel
theorem dX8_has_11 : decode cX8_has 11 = .ok (.ishr, 1) := by decide +kernel
theorem dX8_has_12 : decode cX8_has 12 = .ok (.iadd, 1) := by decide +kernel
theorem dX8_has_13 : decode cX8_has 13 = .ok (.laload, 1) := by decide +kernel
theorem dX8_has_14 : decode cX8_has 14 = .ok (.iload_n 2, 1) := by decide +kernel
theorem dX8_has_15 : decode cX8_has 15 = .ok (.bipush 63, 2) := by decide +kernel
theorem dX8_has_17 : decode cX8_has 17 = .ok (.iand, 1) := by decide +kernel
theorem dX8_has_18 : decode cX8_has 18 = .ok (.lushr, 1) := by decide +kernel
theorem dX8_has_19 : decode cX8_has 19 = .ok (.lconst 1, 1) := by decide +kernel
theorem dX8_has_20 : decode cX8_has 20 = .ok (.land, 1) := by decide +kernel
theorem dX8_has_21 : decode cX8_has 21 = .ok (.lconst 0, 1) := by decide +kernel
theorem dX8_has_22 : decode cX8_has 22 = .ok (.lcmp, 1) := by decide +kernel
theorem dX8_has_23 : decode cX8_has 23 = .ok (.ifCond .eq 7, 3) := by decide +kernel
theorem dX8_has_26 : decode cX8_has 26 = .ok (.iconst 1, 1) := by decide +kernel
theorem dX8_has_27 : decode cX8_has 27 = .ok (.goto 4, 3) := by decide +kernel
theorem dX8_has_30 : decode cX8_has 30 = .ok (.iconst 0, 1) := by decide +kernel
theorem dX8_has_31 : decode cX8_has 31 = .ok (.ireturn, 1) := by decide +kernel
theorem dX8_add_0 : decode cX8_add 0 = .ok (.aload_n 0, 1) := by decide +kernel
theorem dX8_add_1 : decode cX8_add 1 = .ok (.getfield 9, 3) := by decide +kernel
theorem dX8_add_4 : decode cX8_add 4 = .ok (.iload_n 1, 1) := by decide +kernel
theorem dX8_add_5 : decode cX8_add 5 = .ok (.bipush 8, 2) := by decide +kernel
theorem dX8_add_7 : decode cX8_add 7 = .ok (.imul, 1) := by decide +kernel
theorem dX8_add_8 : decode cX8_add 8 = .ok (.iload_n 2, 1) := by decide +kernel
theorem dX8_add_9 : decode cX8_add 9 = .ok (.bipush 6, 2) := by decide +kernel
theorem dX8_add_11 : decode cX8_add 11 = .ok (.ishr, 1) := by decide +kernel
theorem dX8_add_12 : decode cX8_add 12 = .ok (.iadd, 1) := by decide +kernel
theorem dX8_add_13 : decode cX8_add 13 = .ok (.dup2, 1) := by decide +kernel
theorem dX8_add_14 : decode cX8_add 14 = .ok (.laload, 1) := by decide +kernel
theorem dX8_add_15 : decode cX8_add 15 = .ok (.lconst 1, 1) := by decide +kernel
theorem dX8_add_16 : decode cX8_add 16 = .ok (.iload_n 2, 1) := by decide +kernel
theorem dX8_add_17 : decode cX8_add 17 = .ok (.bipush 63, 2) := by decide +kernel
theorem dX8_add_19 : decode cX8_add 19 = .ok (.iand, 1) := by decide +kernel
theorem dX8_add_20 : decode cX8_add 20 = .ok (.lshl, 1) := by decide +kernel
theorem dX8_add_21 : decode cX8_add 21 = .ok (.lor, 1) := by decide +kernel
theorem dX8_add_22 : decode cX8_add 22 = .ok (.lastore, 1) := by decide +kernel
theorem dX8_add_23 : decode cX8_add 23 = .ok (.return_, 1) := by decide +kernel
theorem dX8_clear_0 : decode cX8_clear 0 = .ok (.iconst 0, 1) := by decide +kernel
theorem dX8_clear_1 : decode cX8_clear 1 = .ok (.istore_n 2, 1) := by decide +kernel
theorem dX8_clear_2 : decode cX8_clear 2 = .ok (.iload_n 2, 1) := by decide +kernel
theorem dX8_clear_3 : decode cX8_clear 3 = .ok (.bipush 8, 2) := by decide +kernel
theorem dX8_clear_5 : decode cX8_clear 5 = .ok (.if_icmp .ge 21, 3) := by decide +kernel
theorem dX8_clear_8 : decode cX8_clear 8 = .ok (.aload_n 0, 1) := by decide +kernel
theorem dX8_clear_9 : decode cX8_clear 9 = .ok (.getfield 9, 3) := by decide +kernel
theorem dX8_clear_12 : decode cX8_clear 12 = .ok (.iload_n 1, 1) := by decide +kernel
theorem dX8_clear_13 : decode cX8_clear 13 = .ok (.bipush 8, 2) := by decide +kernel
theorem dX8_clear_15 : decode cX8_clear 15 = .ok (.imul, 1) := by decide +kernel
theorem dX8_clear_16 : decode cX8_clear 16 = .ok (.iload_n 2, 1) := by decide +kernel
theorem dX8_clear_17 : decode cX8_clear 17 = .ok (.iadd, 1) := by decide +kernel
theorem dX8_clear_18 : decode cX8_clear 18 = .ok (.lconst 0, 1) := by decide +kernel
theorem dX8_clear_19 : decode cX8_clear 19 = .ok (.lastore, 1) := by decide +kernel
theorem dX8_clear_20 : decode cX8_clear 20 = .ok (.iinc 2 1, 3) := by decide +kernel
theorem dX8_clear_23 : decode cX8_clear 23 = .ok (.goto (-21), 3) := by decide +kernel
theorem dX8_clear_26 : decode cX8_clear 26 = .ok (.return_, 1) := by decide +kernel
theorem dX8_join_0 : decode cX8_join 0 = .ok (.iconst 0, 1) := by decide +kernel
theorem dX8_join_1 : decode cX8_join 1 = .ok (.istore 4, 2) := by decide +kernel
theorem dX8_join_3 : decode cX8_join 3 = .ok (.iload 4, 2) := by decide +kernel
theorem dX8_join_5 : decode cX8_join 5 = .ok (.bipush 8, 2) := by decide +kernel
theorem dX8_join_7 : decode cX8_join 7 = .ok (.if_icmp .ge 36, 3) := by decide +kernel
theorem dX8_join_10 : decode cX8_join 10 = .ok (.aload_n 0, 1) := by decide +kernel
theorem dX8_join_11 : decode cX8_join 11 = .ok (.getfield 9, 3) := by decide +kernel
theorem dX8_join_14 : decode cX8_join 14 = .ok (.iload_n 1, 1) := by decide +kernel
theorem dX8_join_15 : decode cX8_join 15 = .ok (.bipush 8, 2) := by decide +kernel
theorem dX8_join_17 : decode cX8_join 17 = .ok (.imul, 1) := by decide +kernel
theorem dX8_join_18 : decode cX8_join 18 = .ok (.iload 4, 2) := by decide +kernel
theorem dX8_join_20 : decode cX8_join 20 = .ok (.iadd, 1) := by decide +kernel
theorem dX8_join_21 : decode cX8_join 21 = .ok (.dup2, 1) := by decide +kernel
theorem dX8_join_22 : decode cX8_join 22 = .ok (.laload, 1) := by decide +kernel
theorem dX8_join_23 : decode cX8_join 23 = .ok (.aload_n 2, 1) := by decide +kernel
theorem dX8_join_24 : decode cX8_join 24 = .ok (.getfield 9, 3) := by decide +kernel
theorem dX8_join_27 : decode cX8_join 27 = .ok (.iload_n 3, 1) := by decide +kernel
theorem dX8_join_28 : decode cX8_join 28 = .ok (.bipush 8, 2) := by decide +kernel
theorem dX8_join_30 : decode cX8_join 30 = .ok (.imul, 1) := by decide +kernel
theorem dX8_join_31 : decode cX8_join 31 = .ok (.iload 4, 2) := by decide +kernel
theorem dX8_join_33 : decode cX8_join 33 = .ok (.iadd, 1) := by decide +kernel
theorem dX8_join_34 : decode cX8_join 34 = .ok (.laload, 1) := by decide +kernel
theorem dX8_join_35 : decode cX8_join 35 = .ok (.lor, 1) := by decide +kernel
theorem dX8_join_36 : decode cX8_join 36 = .ok (.lastore, 1) := by decide +kernel
theorem dX8_join_37 : decode cX8_join 37 = .ok (.iinc 4 1, 3) := by decide +kernel
theorem dX8_join_40 : decode cX8_join 40 = .ok (.goto (-37), 3) := by decide +kernel
theorem dX8_join_43 : decode cX8_join 43 = .ok (.return_, 1) := by decide +kernel
theorem dX8_word_0 : decode cX8_word 0 = .ok (.aload_n 0, 1) := by decide +kernel
theorem dX8_word_1 : decode cX8_word 1 = .ok (.getfield 9, 3) := by decide +kernel
theorem dX8_word_4 : decode cX8_word 4 = .ok (.iload_n 1, 1) := by decide +kernel
theorem dX8_word_5 : decode cX8_word 5 = .ok (.bipush 8, 2) := by decide +kernel
theorem dX8_word_7 : decode cX8_word 7 = .ok (.imul, 1) := by decide +kernel
theorem dX8_word_8 : decode cX8_word 8 = .ok (.iload_n 2, 1) := by decide +kernel
theorem dX8_word_9 : decode cX8_word 9 = .ok (.iadd, 1) := by decide +kernel
theorem dX8_word_10 : decode cX8_word 10 = .ok (.laload, 1) := by decide +kernel
theorem dX8_word_11 : decode cX8_word 11 = .ok (.lreturn, 1) := by decide +kernel
theorem dX8_setWord_0 : decode cX8_setWord 0 = .ok (.aload_n 0, 1) := by decide +kernel
theorem dX8_setWord_1 : decode cX8_setWord 1 = .ok (.getfield 9, 3) := by decide +kernel
theorem dX8_setWord_4 : decode cX8_setWord 4 = .ok (.iload_n 1, 1) := by decide +kernel
theorem dX8_setWord_5 : decode cX8_setWord 5 = .ok (.bipush 8, 2) := by decide +kernel
theorem dX8_setWord_7 : decode cX8_setWord 7 = .ok (.imul, 1) := by decide +kernel
theorem dX8_setWord_8 : decode cX8_setWord 8 = .ok (.iload_n 2, 1) := by decide +kernel
theorem dX8_setWord_9 : decode cX8_setWord 9 = .ok (.iadd, 1) := by decide +kernel
theorem dX8_setWord_10 : decode cX8_setWord 10 = .ok (.lload_n 3, 1) := by decide +kernel
theorem dX8_setWord_11 : decode cX8_setWord 11 = .ok (.lastore, 1) := by decide +kernel
theorem dX8_setWord_12 : decode cX8_setWord 12 = .ok (.return_, 1) := by decide +kernel
theorem dX9_init_0 : decode cX9_init 0 = .ok (.aload_n 0, 1) := by decide +kernel
theorem dX9_init_1 : decode cX9_init 1 = .ok (.invokespecial 3, 3) := by decide +kernel
theorem dX9_init_4 : decode cX9_init 4 = .ok (.aload_n 0, 1) := by decide +kernel
theorem dX9_init_5 : decode cX9_init 5 = .ok (.new 9, 3) := by decide +kernel
theorem dX9_init_8 : decode cX9_init 8 = .ok (.dup, 1) := by decide +kernel
theorem dX9_init_9 : decode cX9_init 9 = .ok (.invokespecial 11, 3) := by decide +kernel
theorem dX9_init_12 : decode cX9_init 12 = .ok (.putfield 12, 3) := by decide +kernel
theorem dX9_init_15 : decode cX9_init 15 = .ok (.aload_n 0, 1) := by decide +kernel
theorem dX9_init_16 : decode cX9_init 16 = .ok (.bipush 80, 2) := by decide +kernel
theorem dX9_init_18 : decode cX9_init 18 = .ok (.newarray .boolean, 2) := by decide +kernel
theorem dX9_init_20 : decode cX9_init 20 = .ok (.putfield 18, 3) := by decide +kernel
theorem dX9_init_23 : decode cX9_init 23 = .ok (.aload_n 0, 1) := by decide +kernel
theorem dX9_init_24 : decode cX9_init 24 = .ok (.bipush 80, 2) := by decide +kernel
theorem dX9_init_26 : decode cX9_init 26 = .ok (.newarray .int, 2) := by decide +kernel
theorem dX9_init_28 : decode cX9_init 28 = .ok (.putfield 22, 3) := by decide +kernel
theorem dX9_init_31 : decode cX9_init 31 = .ok (.aload_n 0, 1) := by decide +kernel
theorem dX9_init_32 : decode cX9_init 32 = .ok (.bipush 80, 2) := by decide +kernel
theorem dX9_init_34 : decode cX9_init 34 = .ok (.newarray .boolean, 2) := by decide +kernel
theorem dX9_init_36 : decode cX9_init 36 = .ok (.putfield 26, 3) := by decide +kernel
theorem dX9_init_39 : decode cX9_init 39 = .ok (.aload_n 0, 1) := by decide +kernel
theorem dX9_init_40 : decode cX9_init 40 = .ok (.aload_n 1, 1) := by decide +kernel
theorem dX9_init_41 : decode cX9_init 41 = .ok (.putfield 29, 3) := by decide +kernel
theorem dX9_init_44 : decode cX9_init 44 = .ok (.return_, 1) := by decide +kernel
theorem dX9_isThere_0 : decode cX9_isThere 0 = .ok (.aload_n 0, 1) := by decide +kernel
theorem dX9_isThere_1 : decode cX9_isThere 1 = .ok (.getfield 18, 3) := by decide +kernel
theorem dX9_isThere_4 : decode cX9_isThere 4 = .ok (.iload_n 1, 1) := by decide +kernel
theorem dX9_isThere_5 : decode cX9_isThere 5 = .ok (.baload, 1) := by decide +kernel
theorem dX9_isThere_6 : decode cX9_isThere 6 = .ok (.ireturn, 1) := by decide +kernel
theorem dX9_size_0 : decode cX9_size 0 = .ok (.aload_n 0, 1) := by decide +kernel
theorem dX9_size_1 : decode cX9_size 1 = .ok (.getfield 22, 3) := by decide +kernel
theorem dX9_size_4 : decode cX9_size 4 = .ok (.iload_n 1, 1) := by decide +kernel
theorem dX9_size_5 : decode cX9_size 5 = .ok (.iaload, 1) := by decide +kernel
theorem dX9_size_6 : decode cX9_size 6 = .ok (.ireturn, 1) := by decide +kernel
theorem dX9_rows_0 : decode cX9_rows 0 = .ok (.aload_n 0, 1) := by decide +kernel
theorem dX9_rows_1 : decode cX9_rows 1 = .ok (.getfield 12, 3) := by decide +kernel
theorem dX9_rows_4 : decode cX9_rows 4 = .ok (.areturn, 1) := by decide +kernel
theorem dX9_begin_0 : decode cX9_begin 0 = .ok (.aload_n 0, 1) := by decide +kernel
theorem dX9_begin_1 : decode cX9_begin 1 = .ok (.getfield 18, 3) := by decide +kernel
theorem dX9_begin_4 : decode cX9_begin 4 = .ok (.iload_n 1, 1) := by decide +kernel
theorem dX9_begin_5 : decode cX9_begin 5 = .ok (.iconst 1, 1) := by decide +kernel
theorem dX9_begin_6 : decode cX9_begin 6 = .ok (.bastore, 1) := by decide +kernel
theorem dX9_begin_7 : decode cX9_begin 7 = .ok (.aload_n 0, 1) := by decide +kernel
theorem dX9_begin_8 : decode cX9_begin 8 = .ok (.getfield 22, 3) := by decide +kernel
theorem dX9_begin_11 : decode cX9_begin 11 = .ok (.iload_n 1, 1) := by decide +kernel
theorem dX9_begin_12 : decode cX9_begin 12 = .ok (.iconst 0, 1) := by decide +kernel
theorem dX9_begin_13 : decode cX9_begin 13 = .ok (.iastore, 1) := by decide +kernel
theorem dX9_begin_14 : decode cX9_begin 14 = .ok (.aload_n 0, 1) := by decide +kernel
theorem dX9_begin_15 : decode cX9_begin 15 = .ok (.getfield 12, 3) := by decide +kernel
theorem dX9_begin_18 : decode cX9_begin 18 = .ok (.iload_n 1, 1) := by decide +kernel
theorem dX9_begin_19 : decode cX9_begin 19 = .ok (.invokevirtual 33, 3) := by decide +kernel
theorem dX9_begin_22 : decode cX9_begin 22 = .ok (.return_, 1) := by decide +kernel
theorem dX9_add_0 : decode cX9_add 0 = .ok (.aload_n 0, 1) := by decide +kernel
theorem dX9_add_1 : decode cX9_add 1 = .ok (.getfield 12, 3) := by decide +kernel
theorem dX9_add_4 : decode cX9_add 4 = .ok (.iload_n 1, 1) := by decide +kernel
theorem dX9_add_5 : decode cX9_add 5 = .ok (.iload_n 2, 1) := by decide +kernel
theorem dX9_add_6 : decode cX9_add 6 = .ok (.invokevirtual 37, 3) := by decide +kernel
theorem dX9_add_9 : decode cX9_add 9 = .ok (.aload_n 0, 1) := by decide +kernel
theorem dX9_add_10 : decode cX9_add 10 = .ok (.getfield 22, 3) := by decide +kernel
theorem dX9_add_13 : decode cX9_add 13 = .ok (.iload_n 1, 1) := by decide +kernel
theorem dX9_add_14 : decode cX9_add 14 = .ok (.dup2, 1) := by decide +kernel
theorem dX9_add_15 : decode cX9_add 15 = .ok (.iaload, 1) := by decide +kernel
theorem dX9_add_16 : decode cX9_add 16 = .ok (.iconst 1, 1) := by decide +kernel
theorem dX9_add_17 : decode cX9_add 17 = .ok (.iadd, 1) := by decide +kernel
theorem dX9_add_18 : decode cX9_add 18 = .ok (.iastore, 1) := by decide +kernel
theorem dX9_add_19 : decode cX9_add 19 = .ok (.return_, 1) := by decide +kernel
theorem dX9_count_0 : decode cX9_count 0 = .ok (.iconst 0, 1) := by decide +kernel
theorem dX9_count_1 : decode cX9_count 1 = .ok (.istore_n 1, 1) := by decide +kernel
theorem dX9_count_2 : decode cX9_count 2 = .ok (.iconst 0, 1) := by decide +kernel
theorem dX9_count_3 : decode cX9_count 3 = .ok (.istore_n 2, 1) := by decide +kernel
theorem dX9_count_4 : decode cX9_count 4 = .ok (.iload_n 2, 1) := by decide +kernel
theorem dX9_count_5 : decode cX9_count 5 = .ok (.bipush 80, 2) := by decide +kernel
theorem dX9_count_7 : decode cX9_count 7 = .ok (.if_icmp .ge 21, 3) := by decide +kernel
theorem dX9_count_10 : decode cX9_count 10 = .ok (.aload_n 0, 1) := by decide +kernel
theorem dX9_count_11 : decode cX9_count 11 = .ok (.getfield 18, 3) := by decide +kernel
theorem dX9_count_14 : decode cX9_count 14 = .ok (.iload_n 2, 1) := by decide +kernel
theorem dX9_count_15 : decode cX9_count 15 = .ok (.baload, 1) := by decide +kernel
theorem dX9_count_16 : decode cX9_count 16 = .ok (.ifCond .eq 6, 3) := by decide +kernel
theorem dX9_count_19 : decode cX9_count 19 = .ok (.iinc 1 1, 3) := by decide +kernel
theorem dX9_count_22 : decode cX9_count 22 = .ok (.iinc 2 1, 3) := by decide +kernel
theorem dX9_count_25 : decode cX9_count 25 = .ok (.goto (-21), 3) := by decide +kernel
theorem dX9_count_28 : decode cX9_count 28 = .ok (.iload_n 1, 1) := by decide +kernel
theorem dX9_count_29 : decode cX9_count 29 = .ok (.ireturn, 1) := by decide +kernel
theorem dX9_dropThoseAbove_0 : decode cX9_dropThoseAbove 0 = .ok (.iconst 0, 1) := by decide +kernel
theorem dX9_dropThoseAbove_1 : decode cX9_dropThoseAbove 1 = .ok (.istore_n 2, 1) := by decide +kernel
theorem dX9_dropThoseAbove_2 : decode cX9_dropThoseAbove 2 = .ok (.iload_n 2, 1) := by decide +kernel
theorem dX9_dropThoseAbove_3 : decode cX9_dropThoseAbove 3 = .ok (.aload_n 0, 1) := by decide +kernel
theorem dX9_dropThoseAbove_4 : decode cX9_dropThoseAbove 4 = .ok (.getfield 29, 3) := by decide +kernel
theorem dX9_dropThoseAbove_7 : decode cX9_dropThoseAbove 7 = .ok (.invokevirtual 41, 3) := by decide +kernel
theorem dX9_dropThoseAbove_10 : decode cX9_dropThoseAbove 10 = .ok (.if_icmp .ge 62, 3) := by decide +kernel
theorem dX9_dropThoseAbove_13 : decode cX9_dropThoseAbove 13 = .ok (.aload_n 0, 1) := by decide +kernel
theorem dX9_dropThoseAbove_14 : decode cX9_dropThoseAbove 14 = .ok (.getfield 26, 3) := by decide +kernel
theorem dX9_dropThoseAbove_17 : decode cX9_dropThoseAbove 17 = .ok (.iload_n 2, 1) := by decide +kernel
theorem dX9_dropThoseAbove_18 : decode cX9_dropThoseAbove 18 = .ok (.iload_n 2, 1) := by decide +kernel
theorem dX9_dropThoseAbove_19 : decode cX9_dropThoseAbove 19 = .ok (.iload_n 1, 1) := by decide +kernel
theorem dX9_dropThoseAbove_20 : decode cX9_dropThoseAbove 20 = .ok (.if_icmp .eq 11, 3) := by decide +kernel
theorem dX9_dropThoseAbove_23 : decode cX9_dropThoseAbove 23 = .ok (.aload_n 0, 1) := by decide +kernel
theorem dX9_dropThoseAbove_24 : decode cX9_dropThoseAbove 24 = .ok (.iload_n 2, 1) := by decide +kernel
theorem dX9_dropThoseAbove_25 : decode cX9_dropThoseAbove 25 = .ok (.invokevirtual 47, 3) := by decide +kernel
theorem dX9_dropThoseAbove_28 : decode cX9_dropThoseAbove 28 = .ok (.ifCond .eq 7, 3) := by decide +kernel
theorem dX9_dropThoseAbove_31 : decode cX9_dropThoseAbove 31 = .ok (.iconst 1, 1) := by decide +kernel
theorem dX9_dropThoseAbove_32 : decode cX9_dropThoseAbove 32 = .ok (.goto 4, 3) := by decide +kernel
theorem dX9_dropThoseAbove_35 : decode cX9_dropThoseAbove 35 = .ok (.iconst 0, 1) := by decide +kernel
theorem dX9_dropThoseAbove_36 : decode cX9_dropThoseAbove 36 = .ok (.bastore, 1) := by decide +kernel
theorem dX9_dropThoseAbove_37 : decode cX9_dropThoseAbove 37 = .ok (.aload_n 0, 1) := by decide +kernel
theorem dX9_dropThoseAbove_38 : decode cX9_dropThoseAbove 38 = .ok (.getfield 18, 3) := by decide +kernel
theorem dX9_dropThoseAbove_41 : decode cX9_dropThoseAbove 41 = .ok (.iload_n 2, 1) := by decide +kernel
theorem dX9_dropThoseAbove_42 : decode cX9_dropThoseAbove 42 = .ok (.aload_n 0, 1) := by decide +kernel
theorem dX9_dropThoseAbove_43 : decode cX9_dropThoseAbove 43 = .ok (.getfield 18, 3) := by decide +kernel
theorem dX9_dropThoseAbove_46 : decode cX9_dropThoseAbove 46 = .ok (.iload_n 2, 1) := by decide +kernel
theorem dX9_dropThoseAbove_47 : decode cX9_dropThoseAbove 47 = .ok (.baload, 1) := by decide +kernel
theorem dX9_dropThoseAbove_48 : decode cX9_dropThoseAbove 48 = .ok (.ifCond .eq 16, 3) := by decide +kernel
theorem dX9_dropThoseAbove_51 : decode cX9_dropThoseAbove 51 = .ok (.aload_n 0, 1) := by decide +kernel
theorem dX9_dropThoseAbove_52 : decode cX9_dropThoseAbove 52 = .ok (.getfield 26, 3) := by decide +kernel
theorem dX9_dropThoseAbove_55 : decode cX9_dropThoseAbove 55 = .ok (.iload_n 2, 1) := by decide +kernel
theorem dX9_dropThoseAbove_56 : decode cX9_dropThoseAbove 56 = .ok (.baload, 1) := by decide +kernel
theorem dX9_dropThoseAbove_57 : decode cX9_dropThoseAbove 57 = .ok (.ifCond .ne 7, 3) := by decide +kernel
theorem dX9_dropThoseAbove_60 : decode cX9_dropThoseAbove 60 = .ok (.iconst 1, 1) := by decide +kernel
theorem dX9_dropThoseAbove_61 : decode cX9_dropThoseAbove 61 = .ok (.goto 4, 3) := by decide +kernel
theorem dX9_dropThoseAbove_64 : decode cX9_dropThoseAbove 64 = .ok (.iconst 0, 1) := by decide +kernel
theorem dX9_dropThoseAbove_65 : decode cX9_dropThoseAbove 65 = .ok (.bastore, 1) := by decide +kernel
theorem dX9_dropThoseAbove_66 : decode cX9_dropThoseAbove 66 = .ok (.iinc 2 1, 3) := by decide +kernel
theorem dX9_dropThoseAbove_69 : decode cX9_dropThoseAbove 69 = .ok (.goto (-67), 3) := by decide +kernel
theorem dX9_dropThoseAbove_72 : decode cX9_dropThoseAbove 72 = .ok (.return_, 1) := by decide +kernel
theorem dX9_dropThoseOverList_0 : decode cX9_dropThoseOverList 0 = .ok (.iconst 0, 1) := by decide +kernel
theorem dX9_dropThoseOverList_1 : decode cX9_dropThoseOverList 1 = .ok (.istore_n 2, 1) := by decide +kernel
theorem dX9_dropThoseOverList_2 : decode cX9_dropThoseOverList 2 = .ok (.iload_n 2, 1) := by decide +kernel
theorem dX9_dropThoseOverList_3 : decode cX9_dropThoseOverList 3 = .ok (.aload_n 0, 1) := by decide +kernel
theorem dX9_dropThoseOverList_4 : decode cX9_dropThoseOverList 4 = .ok (.getfield 29, 3) := by decide +kernel
theorem dX9_dropThoseOverList_7 : decode cX9_dropThoseOverList 7 = .ok (.invokevirtual 41, 3) := by decide +kernel
theorem dX9_dropThoseOverList_10 : decode cX9_dropThoseOverList 10 = .ok (.if_icmp .ge 71, 3) := by decide +kernel
theorem dX9_dropThoseOverList_13 : decode cX9_dropThoseOverList 13 = .ok (.aload_n 0, 1) := by decide +kernel
theorem dX9_dropThoseOverList_14 : decode cX9_dropThoseOverList 14 = .ok (.getfield 26, 3) := by decide +kernel
theorem dX9_dropThoseOverList_17 : decode cX9_dropThoseOverList 17 = .ok (.iload_n 2, 1) := by decide +kernel
theorem dX9_dropThoseOverList_18 : decode cX9_dropThoseOverList 18 = .ok (.aload_n 0, 1) := by decide +kernel
theorem dX9_dropThoseOverList_19 : decode cX9_dropThoseOverList 19 = .ok (.getfield 29, 3) := by decide +kernel
theorem dX9_dropThoseOverList_22 : decode cX9_dropThoseOverList 22 = .ok (.iload_n 2, 1) := by decide +kernel
theorem dX9_dropThoseOverList_23 : decode cX9_dropThoseOverList 23 = .ok (.iconst 0, 1) := by decide +kernel
theorem dX9_dropThoseOverList_24 : decode cX9_dropThoseOverList 24 = .ok (.iload_n 1, 1) := by decide +kernel
theorem dX9_dropThoseOverList_25 : decode cX9_dropThoseOverList 25 = .ok (.iconst 0, 1) := by decide +kernel
theorem dX9_dropThoseOverList_26 : decode cX9_dropThoseOverList 26 = .ok (.invokevirtual 51, 3) := by decide +kernel
theorem dX9_dropThoseOverList_29 : decode cX9_dropThoseOverList 29 = .ok (.ifCond .ne 11, 3) := by decide +kernel
theorem dX9_dropThoseOverList_32 : decode cX9_dropThoseOverList 32 = .ok (.aload_n 0, 1) := by decide +kernel
theorem dX9_dropThoseOverList_33 : decode cX9_dropThoseOverList 33 = .ok (.iload_n 2, 1) := by decide +kernel
theorem dX9_dropThoseOverList_34 : decode cX9_dropThoseOverList 34 = .ok (.invokevirtual 47, 3) := by decide +kernel
theorem dX9_dropThoseOverList_37 : decode cX9_dropThoseOverList 37 = .ok (.ifCond .eq 7, 3) := by decide +kernel
theorem dX9_dropThoseOverList_40 : decode cX9_dropThoseOverList 40 = .ok (.iconst 1, 1) := by decide +kernel
theorem dX9_dropThoseOverList_41 : decode cX9_dropThoseOverList 41 = .ok (.goto 4, 3) := by decide +kernel
theorem dX9_dropThoseOverList_44 : decode cX9_dropThoseOverList 44 = .ok (.iconst 0, 1) := by decide +kernel
theorem dX9_dropThoseOverList_45 : decode cX9_dropThoseOverList 45 = .ok (.bastore, 1) := by decide +kernel
theorem dX9_dropThoseOverList_46 : decode cX9_dropThoseOverList 46 = .ok (.aload_n 0, 1) := by decide +kernel
theorem dX9_dropThoseOverList_47 : decode cX9_dropThoseOverList 47 = .ok (.getfield 18, 3) := by decide +kernel
theorem dX9_dropThoseOverList_50 : decode cX9_dropThoseOverList 50 = .ok (.iload_n 2, 1) := by decide +kernel
theorem dX9_dropThoseOverList_51 : decode cX9_dropThoseOverList 51 = .ok (.aload_n 0, 1) := by decide +kernel
theorem dX9_dropThoseOverList_52 : decode cX9_dropThoseOverList 52 = .ok (.getfield 18, 3) := by decide +kernel
theorem dX9_dropThoseOverList_55 : decode cX9_dropThoseOverList 55 = .ok (.iload_n 2, 1) := by decide +kernel
theorem dX9_dropThoseOverList_56 : decode cX9_dropThoseOverList 56 = .ok (.baload, 1) := by decide +kernel
theorem dX9_dropThoseOverList_57 : decode cX9_dropThoseOverList 57 = .ok (.ifCond .eq 16, 3) := by decide +kernel
theorem dX9_dropThoseOverList_60 : decode cX9_dropThoseOverList 60 = .ok (.aload_n 0, 1) := by decide +kernel
theorem dX9_dropThoseOverList_61 : decode cX9_dropThoseOverList 61 = .ok (.getfield 26, 3) := by decide +kernel
theorem dX9_dropThoseOverList_64 : decode cX9_dropThoseOverList 64 = .ok (.iload_n 2, 1) := by decide +kernel
theorem dX9_dropThoseOverList_65 : decode cX9_dropThoseOverList 65 = .ok (.baload, 1) := by decide +kernel
theorem dX9_dropThoseOverList_66 : decode cX9_dropThoseOverList 66 = .ok (.ifCond .ne 7, 3) := by decide +kernel
theorem dX9_dropThoseOverList_69 : decode cX9_dropThoseOverList 69 = .ok (.iconst 1, 1) := by decide +kernel
theorem dX9_dropThoseOverList_70 : decode cX9_dropThoseOverList 70 = .ok (.goto 4, 3) := by decide +kernel
theorem dX9_dropThoseOverList_73 : decode cX9_dropThoseOverList 73 = .ok (.iconst 0, 1) := by decide +kernel
theorem dX9_dropThoseOverList_74 : decode cX9_dropThoseOverList 74 = .ok (.bastore, 1) := by decide +kernel
theorem dX9_dropThoseOverList_75 : decode cX9_dropThoseOverList 75 = .ok (.iinc 2 1, 3) := by decide +kernel
theorem dX9_dropThoseOverList_78 : decode cX9_dropThoseOverList 78 = .ok (.goto (-76), 3) := by decide +kernel
theorem dX9_dropThoseOverList_81 : decode cX9_dropThoseOverList 81 = .ok (.return_, 1) := by decide +kernel
theorem dX9_touchesByParts_0 : decode cX9_touchesByParts 0 = .ok (.iconst 0, 1) := by decide +kernel
theorem dX9_touchesByParts_1 : decode cX9_touchesByParts 1 = .ok (.istore_n 2, 1) := by decide +kernel
theorem dX9_touchesByParts_2 : decode cX9_touchesByParts 2 = .ok (.iload_n 2, 1) := by decide +kernel
theorem dX9_touchesByParts_3 : decode cX9_touchesByParts 3 = .ok (.aload_n 0, 1) := by decide +kernel
theorem dX9_touchesByParts_4 : decode cX9_touchesByParts 4 = .ok (.getfield 29, 3) := by decide +kernel
theorem dX9_touchesByParts_7 : decode cX9_touchesByParts 7 = .ok (.iload_n 1, 1) := by decide +kernel
theorem dX9_touchesByParts_8 : decode cX9_touchesByParts 8 = .ok (.invokevirtual 55, 3) := by decide +kernel
theorem dX9_touchesByParts_11 : decode cX9_touchesByParts 11 = .ok (.if_icmp .ge 28, 3) := by decide +kernel
theorem dX9_touchesByParts_14 : decode cX9_touchesByParts 14 = .ok (.aload_n 0, 1) := by decide +kernel
theorem dX9_touchesByParts_15 : decode cX9_touchesByParts 15 = .ok (.getfield 26, 3) := by decide +kernel
theorem dX9_touchesByParts_18 : decode cX9_touchesByParts 18 = .ok (.aload_n 0, 1) := by decide +kernel
theorem dX9_touchesByParts_19 : decode cX9_touchesByParts 19 = .ok (.getfield 29, 3) := by decide +kernel
theorem dX9_touchesByParts_22 : decode cX9_touchesByParts 22 = .ok (.iload_n 1, 1) := by decide +kernel
theorem dX9_touchesByParts_23 : decode cX9_touchesByParts 23 = .ok (.iload_n 2, 1) := by decide +kernel
theorem dX9_touchesByParts_24 : decode cX9_touchesByParts 24 = .ok (.invokevirtual 59, 3) := by decide +kernel
theorem dX9_touchesByParts_27 : decode cX9_touchesByParts 27 = .ok (.baload, 1) := by decide +kernel
theorem dX9_touchesByParts_28 : decode cX9_touchesByParts 28 = .ok (.ifCond .eq 5, 3) := by decide +kernel
theorem dX9_touchesByParts_31 : decode cX9_touchesByParts 31 = .ok (.iconst 1, 1) := by decide +kernel
theorem dX9_touchesByParts_32 : decode cX9_touchesByParts 32 = .ok (.ireturn, 1) := by decide +kernel
theorem dX9_touchesByParts_33 : decode cX9_touchesByParts 33 = .ok (.iinc 2 1, 3) := by decide +kernel
theorem dX9_touchesByParts_36 : decode cX9_touchesByParts 36 = .ok (.goto (-34), 3) := by decide +kernel
theorem dX9_touchesByParts_39 : decode cX9_touchesByParts 39 = .ok (.iconst 0, 1) := by decide +kernel
theorem dX9_touchesByParts_40 : decode cX9_touchesByParts 40 = .ok (.ireturn, 1) := by decide +kernel
theorem dX10_init_0 : decode cX10_init 0 = .ok (.aload_n 0, 1) := by decide +kernel
theorem dX10_init_1 : decode cX10_init 1 = .ok (.invokespecial 3, 3) := by decide +kernel
theorem dX10_init_4 : decode cX10_init 4 = .ok (.aload_n 0, 1) := by decide +kernel
theorem dX10_init_5 : decode cX10_init 5 = .ok (.new 9, 3) := by decide +kernel
theorem dX10_init_8 : decode cX10_init 8 = .ok (.dup, 1) := by decide +kernel
theorem dX10_init_9 : decode cX10_init 9 = .ok (.invokespecial 11, 3) := by decide +kernel
theorem dX10_init_12 : decode cX10_init 12 = .ok (.putfield 12, 3) := by decide +kernel
theorem dX10_init_15 : decode cX10_init 15 = .ok (.aload_n 0, 1) := by decide +kernel
theorem dX10_init_16 : decode cX10_init 16 = .ok (.new 16, 3) := by decide +kernel
theorem dX10_init_19 : decode cX10_init 19 = .ok (.dup, 1) := by decide +kernel
theorem dX10_init_20 : decode cX10_init 20 = .ok (.invokespecial 18, 3) := by decide +kernel
theorem dX10_init_23 : decode cX10_init 23 = .ok (.putfield 19, 3) := by decide +kernel
theorem dX10_init_26 : decode cX10_init 26 = .ok (.aload_n 0, 1) := by decide +kernel
theorem dX10_init_27 : decode cX10_init 27 = .ok (.new 23, 3) := by decide +kernel
theorem dX10_init_30 : decode cX10_init 30 = .ok (.dup, 1) := by decide +kernel
theorem dX10_init_31 : decode cX10_init 31 = .ok (.aload_n 0, 1) := by decide +kernel
theorem dX10_init_32 : decode cX10_init 32 = .ok (.getfield 19, 3) := by decide +kernel
theorem dX10_init_35 : decode cX10_init 35 = .ok (.invokespecial 25, 3) := by decide +kernel
theorem dX10_init_38 : decode cX10_init 38 = .ok (.putfield 28, 3) := by decide +kernel
theorem dX10_init_41 : decode cX10_init 41 = .ok (.aload_n 0, 1) := by decide +kernel
theorem dX10_init_42 : decode cX10_init 42 = .ok (.new 32, 3) := by decide +kernel
theorem dX10_init_45 : decode cX10_init 45 = .ok (.dup, 1) := by decide +kernel
theorem dX10_init_46 : decode cX10_init 46 = .ok (.aload_n 0, 1) := by decide +kernel
theorem dX10_init_47 : decode cX10_init 47 = .ok (.getfield 12, 3) := by decide +kernel
theorem dX10_init_50 : decode cX10_init 50 = .ok (.aload_n 0, 1) := by decide +kernel
theorem dX10_init_51 : decode cX10_init 51 = .ok (.getfield 19, 3) := by decide +kernel
theorem dX10_init_54 : decode cX10_init 54 = .ok (.aload_n 0, 1) := by decide +kernel
theorem dX10_init_55 : decode cX10_init 55 = .ok (.getfield 28, 3) := by decide +kernel
theorem dX10_init_58 : decode cX10_init 58 = .ok (.invokespecial 34, 3) := by decide +kernel
theorem dX10_init_61 : decode cX10_init 61 = .ok (.putfield 37, 3) := by decide +kernel
theorem dX10_init_64 : decode cX10_init 64 = .ok (.aload_n 0, 1) := by decide +kernel
theorem dX10_init_65 : decode cX10_init 65 = .ok (.new 41, 3) := by decide +kernel
theorem dX10_init_68 : decode cX10_init 68 = .ok (.dup, 1) := by decide +kernel
theorem dX10_init_69 : decode cX10_init 69 = .ok (.aload_n 0, 1) := by decide +kernel
theorem dX10_init_70 : decode cX10_init 70 = .ok (.getfield 12, 3) := by decide +kernel
theorem dX10_init_73 : decode cX10_init 73 = .ok (.aload_n 0, 1) := by decide +kernel
theorem dX10_init_74 : decode cX10_init 74 = .ok (.getfield 19, 3) := by decide +kernel
theorem dX10_init_77 : decode cX10_init 77 = .ok (.aload_n 0, 1) := by decide +kernel
theorem dX10_init_78 : decode cX10_init 78 = .ok (.getfield 28, 3) := by decide +kernel
theorem dX10_init_81 : decode cX10_init 81 = .ok (.aload_n 0, 1) := by decide +kernel
theorem dX10_init_82 : decode cX10_init 82 = .ok (.getfield 37, 3) := by decide +kernel
theorem dX10_init_85 : decode cX10_init 85 = .ok (.invokespecial 43, 3) := by decide +kernel
theorem dX10_init_88 : decode cX10_init 88 = .ok (.putfield 46, 3) := by decide +kernel
theorem dX10_init_91 : decode cX10_init 91 = .ok (.aload_n 0, 1) := by decide +kernel
theorem dX10_init_92 : decode cX10_init 92 = .ok (.new 50, 3) := by decide +kernel
theorem dX10_init_95 : decode cX10_init 95 = .ok (.dup, 1) := by decide +kernel
theorem dX10_init_96 : decode cX10_init 96 = .ok (.invokespecial 52, 3) := by decide +kernel
theorem dX10_init_99 : decode cX10_init 99 = .ok (.putfield 53, 3) := by decide +kernel
theorem dX10_init_102 : decode cX10_init 102 = .ok (.aload_n 0, 1) := by decide +kernel
theorem dX10_init_103 : decode cX10_init 103 = .ok (.new 57, 3) := by decide +kernel
theorem dX10_init_106 : decode cX10_init 106 = .ok (.dup, 1) := by decide +kernel
theorem dX10_init_107 : decode cX10_init 107 = .ok (.invokespecial 59, 3) := by decide +kernel
theorem dX10_init_110 : decode cX10_init 110 = .ok (.putfield 60, 3) := by decide +kernel
theorem dX10_init_113 : decode cX10_init 113 = .ok (.aload_n 0, 1) := by decide +kernel
theorem dX10_init_114 : decode cX10_init 114 = .ok (.new 64, 3) := by decide +kernel
theorem dX10_init_117 : decode cX10_init 117 = .ok (.dup, 1) := by decide +kernel
theorem dX10_init_118 : decode cX10_init 118 = .ok (.aload_n 0, 1) := by decide +kernel
theorem dX10_init_119 : decode cX10_init 119 = .ok (.getfield 12, 3) := by decide +kernel
theorem dX10_init_122 : decode cX10_init 122 = .ok (.aload_n 0, 1) := by decide +kernel
theorem dX10_init_123 : decode cX10_init 123 = .ok (.getfield 19, 3) := by decide +kernel
theorem dX10_init_126 : decode cX10_init 126 = .ok (.invokespecial 66, 3) := by decide +kernel
theorem dX10_init_129 : decode cX10_init 129 = .ok (.putfield 69, 3) := by decide +kernel
theorem dX10_init_132 : decode cX10_init 132 = .ok (.return_, 1) := by decide +kernel
theorem dX10_put_0 : decode cX10_put 0 = .ok (.iload_n 1, 1) := by decide +kernel
theorem dX10_put_1 : decode cX10_put 1 = .ok (.invokestatic 73, 3) := by decide +kernel
theorem dX10_put_4 : decode cX10_put 4 = .ok (.ifCond .eq 19, 3) := by decide +kernel
theorem dX10_put_7 : decode cX10_put 7 = .ok (.iload_n 2, 1) := by decide +kernel
theorem dX10_put_8 : decode cX10_put 8 = .ok (.invokestatic 77, 3) := by decide +kernel
theorem dX10_put_11 : decode cX10_put 11 = .ok (.ifCond .eq 12, 3) := by decide +kernel
theorem dX10_put_14 : decode cX10_put 14 = .ok (.iload_n 3, 1) := by decide +kernel
theorem dX10_put_15 : decode cX10_put 15 = .ok (.ldc 80, 2) := by decide +kernel
theorem dX10_put_17 : decode cX10_put 17 = .ok (.invokestatic 81, 3) := by decide +kernel
theorem dX10_put_20 : decode cX10_put 20 = .ok (.ifCond .ne 6, 3) := by decide +kernel
theorem dX10_put_23 : decode cX10_put 23 = .ok (.bipush (-2), 2) := by decide +kernel
theorem dX10_put_25 : decode cX10_put 25 = .ok (.ireturn, 1) := by decide +kernel
theorem dX10_put_26 : decode cX10_put 26 = .ok (.aload_n 0, 1) := by decide +kernel
theorem dX10_put_27 : decode cX10_put 27 = .ok (.getfield 12, 3) := by decide +kernel
theorem dX10_put_30 : decode cX10_put 30 = .ok (.iload_n 1, 1) := by decide +kernel
theorem dX10_put_31 : decode cX10_put 31 = .ok (.iload_n 2, 1) := by decide +kernel
theorem dX10_put_32 : decode cX10_put 32 = .ok (.iload_n 3, 1) := by decide +kernel
theorem dX10_put_33 : decode cX10_put 33 = .ok (.invokevirtual 85, 3) := by decide +kernel
theorem dX10_put_36 : decode cX10_put 36 = .ok (.ifCond .ne 6, 3) := by decide +kernel
theorem dX10_put_39 : decode cX10_put 39 = .ok (.bipush (-3), 2) := by decide +kernel
theorem dX10_put_41 : decode cX10_put 41 = .ok (.ireturn, 1) := by decide +kernel
theorem dX10_put_42 : decode cX10_put 42 = .ok (.aload_n 0, 1) := by decide +kernel
theorem dX10_put_43 : decode cX10_put 43 = .ok (.iload_n 1, 1) := by decide +kernel
theorem dX10_put_44 : decode cX10_put 44 = .ok (.invokevirtual 89, 3) := by decide +kernel
theorem dX10_put_47 : decode cX10_put 47 = .ok (.aload_n 0, 1) := by decide +kernel
theorem dX10_put_48 : decode cX10_put 48 = .ok (.getfield 12, 3) := by decide +kernel
theorem dX10_put_51 : decode cX10_put 51 = .ok (.iload_n 1, 1) := by decide +kernel
theorem dX10_put_52 : decode cX10_put 52 = .ok (.invokevirtual 93, 3) := by decide +kernel
theorem dX10_put_55 : decode cX10_put 55 = .ok (.ireturn, 1) := by decide +kernel
theorem dX10_take_0 : decode cX10_take 0 = .ok (.iload_n 1, 1) := by decide +kernel
theorem dX10_take_1 : decode cX10_take 1 = .ok (.invokestatic 73, 3) := by decide +kernel
theorem dX10_take_4 : decode cX10_take 4 = .ok (.ifCond .eq 10, 3) := by decide +kernel
theorem dX10_take_7 : decode cX10_take 7 = .ok (.iload_n 2, 1) := by decide +kernel
theorem dX10_take_8 : decode cX10_take 8 = .ok (.invokestatic 77, 3) := by decide +kernel
theorem dX10_take_11 : decode cX10_take 11 = .ok (.ifCond .ne 6, 3) := by decide +kernel
theorem dX10_take_14 : decode cX10_take 14 = .ok (.bipush (-2), 2) := by decide +kernel
theorem dX10_take_16 : decode cX10_take 16 = .ok (.ireturn, 1) := by decide +kernel
theorem dX10_take_17 : decode cX10_take 17 = .ok (.aload_n 0, 1) := by decide +kernel
theorem dX10_take_18 : decode cX10_take 18 = .ok (.getfield 12, 3) := by decide +kernel
theorem dX10_take_21 : decode cX10_take 21 = .ok (.iload_n 1, 1) := by decide +kernel
theorem dX10_take_22 : decode cX10_take 22 = .ok (.iload_n 2, 1) := by decide +kernel
theorem dX10_take_23 : decode cX10_take 23 = .ok (.invokevirtual 97, 3) := by decide +kernel
theorem dX10_take_26 : decode cX10_take 26 = .ok (.iconst (-1), 1) := by decide +kernel
theorem dX10_take_27 : decode cX10_take 27 = .ok (.if_icmp .ne 6, 3) := by decide +kernel
theorem dX10_take_30 : decode cX10_take 30 = .ok (.bipush (-4), 2) := by decide +kernel
theorem dX10_take_32 : decode cX10_take 32 = .ok (.ireturn, 1) := by decide +kernel
theorem dX10_take_33 : decode cX10_take 33 = .ok (.aload_n 0, 1) := by decide +kernel
theorem dX10_take_34 : decode cX10_take 34 = .ok (.getfield 12, 3) := by decide +kernel
theorem dX10_take_37 : decode cX10_take 37 = .ok (.iload_n 1, 1) := by decide +kernel
theorem dX10_take_38 : decode cX10_take 38 = .ok (.iload_n 2, 1) := by decide +kernel
theorem dX10_take_39 : decode cX10_take 39 = .ok (.invokevirtual 101, 3) := by decide +kernel
theorem dX10_take_42 : decode cX10_take 42 = .ok (.istore_n 3, 1) := by decide +kernel
theorem dX10_take_43 : decode cX10_take 43 = .ok (.aload_n 0, 1) := by decide +kernel
theorem dX10_take_44 : decode cX10_take 44 = .ok (.getfield 12, 3) := by decide +kernel
theorem dX10_take_47 : decode cX10_take 47 = .ok (.iload_n 1, 1) := by decide +kernel
theorem dX10_take_48 : decode cX10_take 48 = .ok (.iload_n 2, 1) := by decide +kernel
theorem dX10_take_49 : decode cX10_take 49 = .ok (.invokevirtual 104, 3) := by decide +kernel
theorem dX10_take_52 : decode cX10_take 52 = .ok (.aload_n 0, 1) := by decide +kernel
theorem dX10_take_53 : decode cX10_take 53 = .ok (.iload_n 1, 1) := by decide +kernel
theorem dX10_take_54 : decode cX10_take 54 = .ok (.invokevirtual 89, 3) := by decide +kernel
theorem dX10_take_57 : decode cX10_take 57 = .ok (.iload_n 3, 1) := by decide +kernel
theorem dX10_take_58 : decode cX10_take 58 = .ok (.ireturn, 1) := by decide +kernel
theorem dX10_node_0 : decode cX10_node 0 = .ok (.aload_n 0, 1) := by decide +kernel
theorem dX10_node_1 : decode cX10_node 1 = .ok (.iload_n 1, 1) := by decide +kernel
theorem dX10_node_2 : decode cX10_node 2 = .ok (.iload_n 2, 1) := by decide +kernel
theorem dX10_node_3 : decode cX10_node 3 = .ok (.iload_n 3, 1) := by decide +kernel
theorem dX10_node_4 : decode cX10_node 4 = .ok (.invokevirtual 108, 3) := by decide +kernel
theorem dX10_node_7 : decode cX10_node 7 = .ok (.ifCond .ne 6, 3) := by decide +kernel
theorem dX10_node_10 : decode cX10_node 10 = .ok (.bipush (-2), 2) := by decide +kernel
theorem dX10_node_12 : decode cX10_node 12 = .ok (.ireturn, 1) := by decide +kernel
theorem dX10_node_13 : decode cX10_node 13 = .ok (.aload_n 0, 1) := by decide +kernel
theorem dX10_node_14 : decode cX10_node 14 = .ok (.getfield 19, 3) := by decide +kernel
theorem dX10_node_17 : decode cX10_node 17 = .ok (.iload_n 1, 1) := by decide +kernel
theorem dX10_node_18 : decode cX10_node 18 = .ok (.iload_n 1, 1) := by decide +kernel
theorem dX10_node_19 : decode cX10_node 19 = .ok (.bipush 7, 2) := by decide +kernel
theorem dX10_node_21 : decode cX10_node 21 = .ok (.if_icmp .ne 7, 3) := by decide +kernel
theorem dX10_node_24 : decode cX10_node 24 = .ok (.iconst 0, 1) := by decide +kernel
theorem dX10_node_25 : decode cX10_node 25 = .ok (.goto 4, 3) := by decide +kernel
theorem dX10_node_28 : decode cX10_node 28 = .ok (.iload_n 2, 1) := by decide +kernel
theorem dX10_node_29 : decode cX10_node 29 = .ok (.iload_n 1, 1) := by decide +kernel
theorem dX10_node_30 : decode cX10_node 30 = .ok (.invokestatic 111, 3) := by decide +kernel
theorem dX10_node_33 : decode cX10_node 33 = .ok (.ifCond .eq 7, 3) := by decide +kernel
theorem dX10_node_36 : decode cX10_node 36 = .ok (.iload_n 3, 1) := by decide +kernel
theorem dX10_node_37 : decode cX10_node 37 = .ok (.goto 4, 3) := by decide +kernel
theorem dX10_node_40 : decode cX10_node 40 = .ok (.iconst 0, 1) := by decide +kernel
theorem dX10_node_41 : decode cX10_node 41 = .ok (.invokevirtual 114, 3) := by decide +kernel
theorem dX10_node_44 : decode cX10_node 44 = .ok (.ireturn, 1) := by decide +kernel
theorem dX10_part_0 : decode cX10_part 0 = .ok (.aload_n 0, 1) := by decide +kernel
theorem dX10_part_1 : decode cX10_part 1 = .ok (.getfield 19, 3) := by decide +kernel
theorem dX10_part_4 : decode cX10_part 4 = .ok (.iload_n 1, 1) := by decide +kernel
theorem dX10_part_5 : decode cX10_part 5 = .ok (.invokevirtual 118, 3) := by decide +kernel
theorem dX10_part_8 : decode cX10_part 8 = .ok (.ifCond .eq 27, 3) := by decide +kernel
theorem dX10_part_11 : decode cX10_part 11 = .ok (.aload_n 0, 1) := by decide +kernel
theorem dX10_part_12 : decode cX10_part 12 = .ok (.getfield 19, 3) := by decide +kernel
theorem dX10_part_15 : decode cX10_part 15 = .ok (.iload_n 1, 1) := by decide +kernel
theorem dX10_part_16 : decode cX10_part 16 = .ok (.invokevirtual 121, 3) := by decide +kernel
theorem dX10_part_19 : decode cX10_part 19 = .ok (.iload_n 2, 1) := by decide +kernel
theorem dX10_part_20 : decode cX10_part 20 = .ok (.invokestatic 124, 3) := by decide +kernel
theorem dX10_part_23 : decode cX10_part 23 = .ok (.ifCond .eq 12, 3) := by decide +kernel
theorem dX10_part_26 : decode cX10_part 26 = .ok (.iload_n 3, 1) := by decide +kernel
theorem dX10_part_27 : decode cX10_part 27 = .ok (.ifCond .lt 8, 3) := by decide +kernel
theorem dX10_part_30 : decode cX10_part 30 = .ok (.iload_n 3, 1) := by decide +kernel
theorem dX10_part_31 : decode cX10_part 31 = .ok (.iload_n 1, 1) := by decide +kernel
theorem dX10_part_32 : decode cX10_part 32 = .ok (.if_icmp .lt 6, 3) := by decide +kernel
theorem dX10_part_35 : decode cX10_part 35 = .ok (.bipush (-2), 2) := by decide +kernel
theorem dX10_part_37 : decode cX10_part 37 = .ok (.ireturn, 1) := by decide +kernel
theorem dX10_part_38 : decode cX10_part 38 = .ok (.aload_n 0, 1) := by decide +kernel
theorem dX10_part_39 : decode cX10_part 39 = .ok (.getfield 19, 3) := by decide +kernel
theorem dX10_part_42 : decode cX10_part 42 = .ok (.iload_n 1, 1) := by decide +kernel
theorem dX10_part_43 : decode cX10_part 43 = .ok (.iload_n 2, 1) := by decide +kernel
theorem dX10_part_44 : decode cX10_part 44 = .ok (.iload_n 3, 1) := by decide +kernel
theorem dX10_part_45 : decode cX10_part 45 = .ok (.invokevirtual 127, 3) := by decide +kernel
theorem dX10_part_48 : decode cX10_part 48 = .ok (.ifCond .ne 6, 3) := by decide +kernel
theorem dX10_part_51 : decode cX10_part 51 = .ok (.bipush (-3), 2) := by decide +kernel
theorem dX10_part_53 : decode cX10_part 53 = .ok (.ireturn, 1) := by decide +kernel
theorem dX10_part_54 : decode cX10_part 54 = .ok (.aload_n 0, 1) := by decide +kernel
theorem dX10_part_55 : decode cX10_part 55 = .ok (.getfield 28, 3) := by decide +kernel
theorem dX10_part_58 : decode cX10_part 58 = .ok (.iload_n 1, 1) := by decide +kernel
theorem dX10_part_59 : decode cX10_part 59 = .ok (.invokevirtual 130, 3) := by decide +kernel
theorem dX10_part_62 : decode cX10_part 62 = .ok (.aload_n 0, 1) := by decide +kernel
theorem dX10_part_63 : decode cX10_part 63 = .ok (.getfield 37, 3) := by decide +kernel
theorem dX10_part_66 : decode cX10_part 66 = .ok (.iload_n 1, 1) := by decide +kernel
theorem dX10_part_67 : decode cX10_part 67 = .ok (.invokevirtual 133, 3) := by decide +kernel
theorem dX10_part_70 : decode cX10_part 70 = .ok (.aload_n 0, 1) := by decide +kernel
theorem dX10_part_71 : decode cX10_part 71 = .ok (.getfield 19, 3) := by decide +kernel
theorem dX10_part_74 : decode cX10_part 74 = .ok (.iload_n 1, 1) := by decide +kernel
theorem dX10_part_75 : decode cX10_part 75 = .ok (.invokevirtual 136, 3) := by decide +kernel
theorem dX10_part_78 : decode cX10_part 78 = .ok (.ireturn, 1) := by decide +kernel
theorem dX10_told_0 : decode cX10_told 0 = .ok (.aload_n 0, 1) := by decide +kernel
theorem dX10_told_1 : decode cX10_told 1 = .ok (.getfield 19, 3) := by decide +kernel
theorem dX10_told_4 : decode cX10_told 4 = .ok (.iload_n 1, 1) := by decide +kernel
theorem dX10_told_5 : decode cX10_told 5 = .ok (.invokevirtual 118, 3) := by decide +kernel
theorem dX10_told_8 : decode cX10_told 8 = .ok (.ifCond .ne 6, 3) := by decide +kernel
theorem dX10_told_11 : decode cX10_told 11 = .ok (.bipush (-2), 2) := by decide +kernel
theorem dX10_told_13 : decode cX10_told 13 = .ok (.ireturn, 1) := by decide +kernel
theorem dX10_told_14 : decode cX10_told 14 = .ok (.iload_n 2, 1) := by decide +kernel
theorem dX10_told_15 : decode cX10_told 15 = .ok (.tableswitch 127 0 6 #[41, 50, 59, 68, 77, 94, 103], 41) := by decide +kernel
theorem dX10_told_56 : decode cX10_told 56 = .ok (.aload_n 0, 1) := by decide +kernel
theorem dX10_told_57 : decode cX10_told 57 = .ok (.getfield 19, 3) := by decide +kernel
theorem dX10_told_60 : decode cX10_told 60 = .ok (.iload_n 1, 1) := by decide +kernel
theorem dX10_told_61 : decode cX10_told 61 = .ok (.invokevirtual 121, 3) := by decide +kernel
theorem dX10_told_64 : decode cX10_told 64 = .ok (.ireturn, 1) := by decide +kernel
theorem dX10_told_65 : decode cX10_told 65 = .ok (.aload_n 0, 1) := by decide +kernel
theorem dX10_told_66 : decode cX10_told 66 = .ok (.getfield 19, 3) := by decide +kernel
theorem dX10_told_69 : decode cX10_told 69 = .ok (.iload_n 1, 1) := by decide +kernel
theorem dX10_told_70 : decode cX10_told 70 = .ok (.invokevirtual 137, 3) := by decide +kernel
theorem dX10_told_73 : decode cX10_told 73 = .ok (.ireturn, 1) := by decide +kernel
theorem dX10_told_74 : decode cX10_told 74 = .ok (.aload_n 0, 1) := by decide +kernel
theorem dX10_told_75 : decode cX10_told 75 = .ok (.getfield 19, 3) := by decide +kernel
theorem dX10_told_78 : decode cX10_told 78 = .ok (.iload_n 1, 1) := by decide +kernel
theorem dX10_told_79 : decode cX10_told 79 = .ok (.invokevirtual 140, 3) := by decide +kernel
theorem dX10_told_82 : decode cX10_told 82 = .ok (.ireturn, 1) := by decide +kernel
theorem dX10_told_83 : decode cX10_told 83 = .ok (.aload_n 0, 1) := by decide +kernel
theorem dX10_told_84 : decode cX10_told 84 = .ok (.getfield 19, 3) := by decide +kernel
theorem dX10_told_87 : decode cX10_told 87 = .ok (.iload_n 1, 1) := by decide +kernel
theorem dX10_told_88 : decode cX10_told 88 = .ok (.invokevirtual 136, 3) := by decide +kernel
theorem dX10_told_91 : decode cX10_told 91 = .ok (.ireturn, 1) := by decide +kernel
theorem dX10_told_92 : decode cX10_told 92 = .ok (.aload_n 0, 1) := by decide +kernel
theorem dX10_told_93 : decode cX10_told 93 = .ok (.getfield 37, 3) := by decide +kernel
theorem dX10_told_96 : decode cX10_told 96 = .ok (.iload_n 1, 1) := by decide +kernel
theorem dX10_told_97 : decode cX10_told 97 = .ok (.invokevirtual 143, 3) := by decide +kernel
theorem dX10_told_100 : decode cX10_told 100 = .ok (.aload_n 0, 1) := by decide +kernel
theorem dX10_told_101 : decode cX10_told 101 = .ok (.getfield 37, 3) := by decide +kernel
theorem dX10_told_104 : decode cX10_told 104 = .ok (.iload_n 1, 1) := by decide +kernel
theorem dX10_told_105 : decode cX10_told 105 = .ok (.invokevirtual 146, 3) := by decide +kernel
theorem dX10_told_108 : decode cX10_told 108 = .ok (.ireturn, 1) := by decide +kernel
theorem dX10_told_109 : decode cX10_told 109 = .ok (.aload_n 0, 1) := by decide +kernel
theorem dX10_told_110 : decode cX10_told 110 = .ok (.getfield 19, 3) := by decide +kernel
theorem dX10_told_113 : decode cX10_told 113 = .ok (.iload_n 1, 1) := by decide +kernel
theorem dX10_told_114 : decode cX10_told 114 = .ok (.invokevirtual 149, 3) := by decide +kernel
theorem dX10_told_117 : decode cX10_told 117 = .ok (.ireturn, 1) := by decide +kernel
theorem dX10_told_118 : decode cX10_told 118 = .ok (.aload_n 0, 1) := by decide +kernel
theorem dX10_told_119 : decode cX10_told 119 = .ok (.getfield 28, 3) := by decide +kernel
theorem dX10_told_122 : decode cX10_told 122 = .ok (.iload_n 1, 1) := by decide +kernel
theorem dX10_told_123 : decode cX10_told 123 = .ok (.invokevirtual 152, 3) := by decide +kernel
theorem dX10_told_126 : decode cX10_told 126 = .ok (.ifCond .eq 14, 3) := by decide +kernel
theorem dX10_told_129 : decode cX10_told 129 = .ok (.aload_n 0, 1) := by decide +kernel
theorem dX10_told_130 : decode cX10_told 130 = .ok (.getfield 28, 3) := by decide +kernel
theorem dX10_told_133 : decode cX10_told 133 = .ok (.iload_n 1, 1) := by decide +kernel
theorem dX10_told_134 : decode cX10_told 134 = .ok (.invokevirtual 155, 3) := by decide +kernel
theorem dX10_told_137 : decode cX10_told 137 = .ok (.goto 4, 3) := by decide +kernel
theorem dX10_told_140 : decode cX10_told 140 = .ok (.iconst (-1), 1) := by decide +kernel
theorem dX10_told_141 : decode cX10_told 141 = .ok (.ireturn, 1) := by decide +kernel
theorem dX10_told_142 : decode cX10_told 142 = .ok (.bipush (-2), 2) := by decide +kernel
theorem dX10_told_144 : decode cX10_told 144 = .ok (.ireturn, 1) := by decide +kernel
theorem dX10_partOf_0 : decode cX10_partOf 0 = .ok (.aload_n 0, 1) := by decide +kernel
theorem dX10_partOf_1 : decode cX10_partOf 1 = .ok (.getfield 19, 3) := by decide +kernel
theorem dX10_partOf_4 : decode cX10_partOf 4 = .ok (.iload_n 1, 1) := by decide +kernel
theorem dX10_partOf_5 : decode cX10_partOf 5 = .ok (.invokevirtual 118, 3) := by decide +kernel
theorem dX10_partOf_8 : decode cX10_partOf 8 = .ok (.ifCond .eq 19, 3) := by decide +kernel
theorem dX10_partOf_11 : decode cX10_partOf 11 = .ok (.iload_n 2, 1) := by decide +kernel
theorem dX10_partOf_12 : decode cX10_partOf 12 = .ok (.ifCond .lt 15, 3) := by decide +kernel
theorem dX10_partOf_15 : decode cX10_partOf 15 = .ok (.iload_n 2, 1) := by decide +kernel
theorem dX10_partOf_16 : decode cX10_partOf 16 = .ok (.aload_n 0, 1) := by decide +kernel
theorem dX10_partOf_17 : decode cX10_partOf 17 = .ok (.getfield 19, 3) := by decide +kernel
theorem dX10_partOf_20 : decode cX10_partOf 20 = .ok (.iload_n 1, 1) := by decide +kernel
theorem dX10_partOf_21 : decode cX10_partOf 21 = .ok (.invokevirtual 136, 3) := by decide +kernel
theorem dX10_partOf_24 : decode cX10_partOf 24 = .ok (.if_icmp .lt 6, 3) := by decide +kernel
theorem dX10_partOf_27 : decode cX10_partOf 27 = .ok (.bipush (-2), 2) := by decide +kernel
theorem dX10_partOf_29 : decode cX10_partOf 29 = .ok (.ireturn, 1) := by decide +kernel
theorem dX10_partOf_30 : decode cX10_partOf 30 = .ok (.iload_n 3, 1) := by decide +kernel
theorem dX10_partOf_31 : decode cX10_partOf 31 = .ok (.lookupswitch 45 #[(0, 25), (1, 35)], 25) := by decide +kernel
theorem dX10_partOf_56 : decode cX10_partOf 56 = .ok (.aload_n 0, 1) := by decide +kernel
theorem dX10_partOf_57 : decode cX10_partOf 57 = .ok (.getfield 19, 3) := by decide +kernel
theorem dX10_partOf_60 : decode cX10_partOf 60 = .ok (.iload_n 1, 1) := by decide +kernel
theorem dX10_partOf_61 : decode cX10_partOf 61 = .ok (.iload_n 2, 1) := by decide +kernel
theorem dX10_partOf_62 : decode cX10_partOf 62 = .ok (.invokevirtual 156, 3) := by decide +kernel
theorem dX10_partOf_65 : decode cX10_partOf 65 = .ok (.ireturn, 1) := by decide +kernel
theorem dX10_partOf_66 : decode cX10_partOf 66 = .ok (.aload_n 0, 1) := by decide +kernel
theorem dX10_partOf_67 : decode cX10_partOf 67 = .ok (.getfield 19, 3) := by decide +kernel
theorem dX10_partOf_70 : decode cX10_partOf 70 = .ok (.iload_n 1, 1) := by decide +kernel
theorem dX10_partOf_71 : decode cX10_partOf 71 = .ok (.iload_n 2, 1) := by decide +kernel
theorem dX10_partOf_72 : decode cX10_partOf 72 = .ok (.invokevirtual 159, 3) := by decide +kernel
theorem dX10_partOf_75 : decode cX10_partOf 75 = .ok (.ireturn, 1) := by decide +kernel
theorem dX10_partOf_76 : decode cX10_partOf 76 = .ok (.bipush (-2), 2) := by decide +kernel
theorem dX10_partOf_78 : decode cX10_partOf 78 = .ok (.ireturn, 1) := by decide +kernel
theorem dX10_may_0 : decode cX10_may 0 = .ok (.aload_n 0, 1) := by decide +kernel
theorem dX10_may_1 : decode cX10_may 1 = .ok (.getfield 19, 3) := by decide +kernel
theorem dX10_may_4 : decode cX10_may 4 = .ok (.iload_n 1, 1) := by decide +kernel
theorem dX10_may_5 : decode cX10_may 5 = .ok (.invokevirtual 118, 3) := by decide +kernel
theorem dX10_may_8 : decode cX10_may 8 = .ok (.ifCond .eq 10, 3) := by decide +kernel
theorem dX10_may_11 : decode cX10_may 11 = .ok (.iload_n 2, 1) := by decide +kernel
theorem dX10_may_12 : decode cX10_may 12 = .ok (.invokestatic 77, 3) := by decide +kernel
theorem dX10_may_15 : decode cX10_may 15 = .ok (.ifCond .ne 5, 3) := by decide +kernel
theorem dX10_may_18 : decode cX10_may 18 = .ok (.iconst 0, 1) := by decide +kernel
theorem dX10_may_19 : decode cX10_may 19 = .ok (.ireturn, 1) := by decide +kernel
theorem dX10_may_20 : decode cX10_may 20 = .ok (.aload_n 0, 1) := by decide +kernel
theorem dX10_may_21 : decode cX10_may 21 = .ok (.getfield 37, 3) := by decide +kernel
theorem dX10_may_24 : decode cX10_may 24 = .ok (.iload_n 1, 1) := by decide +kernel
theorem dX10_may_25 : decode cX10_may 25 = .ok (.invokevirtual 143, 3) := by decide +kernel
theorem dX10_may_28 : decode cX10_may 28 = .ok (.aload_n 0, 1) := by decide +kernel
theorem dX10_may_29 : decode cX10_may 29 = .ok (.getfield 37, 3) := by decide +kernel
theorem dX10_may_32 : decode cX10_may 32 = .ok (.iload_n 1, 1) := by decide +kernel
theorem dX10_may_33 : decode cX10_may 33 = .ok (.iload_n 2, 1) := by decide +kernel
theorem dX10_may_34 : decode cX10_may 34 = .ok (.invokevirtual 162, 3) := by decide +kernel
theorem dX10_may_37 : decode cX10_may 37 = .ok (.ireturn, 1) := by decide +kernel
theorem dX10_sure_0 : decode cX10_sure 0 = .ok (.aload_n 0, 1) := by decide +kernel
theorem dX10_sure_1 : decode cX10_sure 1 = .ok (.getfield 19, 3) := by decide +kernel
theorem dX10_sure_4 : decode cX10_sure 4 = .ok (.iload_n 1, 1) := by decide +kernel
theorem dX10_sure_5 : decode cX10_sure 5 = .ok (.invokevirtual 118, 3) := by decide +kernel
theorem dX10_sure_8 : decode cX10_sure 8 = .ok (.ifCond .eq 10, 3) := by decide +kernel
theorem dX10_sure_11 : decode cX10_sure 11 = .ok (.iload_n 2, 1) := by decide +kernel
theorem dX10_sure_12 : decode cX10_sure 12 = .ok (.invokestatic 77, 3) := by decide +kernel
theorem dX10_sure_15 : decode cX10_sure 15 = .ok (.ifCond .ne 5, 3) := by decide +kernel
theorem dX10_sure_18 : decode cX10_sure 18 = .ok (.iconst 0, 1) := by decide +kernel
theorem dX10_sure_19 : decode cX10_sure 19 = .ok (.ireturn, 1) := by decide +kernel
theorem dX10_sure_20 : decode cX10_sure 20 = .ok (.aload_n 0, 1) := by decide +kernel
theorem dX10_sure_21 : decode cX10_sure 21 = .ok (.getfield 37, 3) := by decide +kernel
theorem dX10_sure_24 : decode cX10_sure 24 = .ok (.iload_n 1, 1) := by decide +kernel
theorem dX10_sure_25 : decode cX10_sure 25 = .ok (.invokevirtual 143, 3) := by decide +kernel
theorem dX10_sure_28 : decode cX10_sure 28 = .ok (.aload_n 0, 1) := by decide +kernel
theorem dX10_sure_29 : decode cX10_sure 29 = .ok (.getfield 37, 3) := by decide +kernel
theorem dX10_sure_32 : decode cX10_sure 32 = .ok (.iload_n 1, 1) := by decide +kernel
theorem dX10_sure_33 : decode cX10_sure 33 = .ok (.iload_n 2, 1) := by decide +kernel
theorem dX10_sure_34 : decode cX10_sure 34 = .ok (.invokevirtual 165, 3) := by decide +kernel
theorem dX10_sure_37 : decode cX10_sure 37 = .ok (.ireturn, 1) := by decide +kernel
theorem dX10_look_0 : decode cX10_look 0 = .ok (.aload_n 0, 1) := by decide +kernel
theorem dX10_look_1 : decode cX10_look 1 = .ok (.getfield 19, 3) := by decide +kernel
theorem dX10_look_4 : decode cX10_look 4 = .ok (.iload_n 1, 1) := by decide +kernel
theorem dX10_look_5 : decode cX10_look 5 = .ok (.invokevirtual 118, 3) := by decide +kernel
theorem dX10_look_8 : decode cX10_look 8 = .ok (.ifCond .eq 10, 3) := by decide +kernel
theorem dX10_look_11 : decode cX10_look 11 = .ok (.iload_n 2, 1) := by decide +kernel
theorem dX10_look_12 : decode cX10_look 12 = .ok (.invokestatic 77, 3) := by decide +kernel
theorem dX10_look_15 : decode cX10_look 15 = .ok (.ifCond .ne 6, 3) := by decide +kernel
theorem dX10_look_18 : decode cX10_look 18 = .ok (.bipush (-2), 2) := by decide +kernel
theorem dX10_look_20 : decode cX10_look 20 = .ok (.ireturn, 1) := by decide +kernel
theorem dX10_look_21 : decode cX10_look 21 = .ok (.aload_n 0, 1) := by decide +kernel
theorem dX10_look_22 : decode cX10_look 22 = .ok (.getfield 37, 3) := by decide +kernel
theorem dX10_look_25 : decode cX10_look 25 = .ok (.iload_n 1, 1) := by decide +kernel
theorem dX10_look_26 : decode cX10_look 26 = .ok (.invokevirtual 143, 3) := by decide +kernel
theorem dX10_look_29 : decode cX10_look 29 = .ok (.aload_n 0, 1) := by decide +kernel
theorem dX10_look_30 : decode cX10_look 30 = .ok (.getfield 46, 3) := by decide +kernel
theorem dX10_look_33 : decode cX10_look 33 = .ok (.iload_n 1, 1) := by decide +kernel
theorem dX10_look_34 : decode cX10_look 34 = .ok (.iload_n 2, 1) := by decide +kernel
theorem dX10_look_35 : decode cX10_look 35 = .ok (.invokevirtual 168, 3) := by decide +kernel
theorem dX10_look_38 : decode cX10_look 38 = .ok (.ifCond .ne 5, 3) := by decide +kernel
theorem dX10_look_41 : decode cX10_look 41 = .ok (.iconst 0, 1) := by decide +kernel
theorem dX10_look_42 : decode cX10_look 42 = .ok (.ireturn, 1) := by decide +kernel
theorem dX10_look_43 : decode cX10_look 43 = .ok (.aload_n 0, 1) := by decide +kernel
theorem dX10_look_44 : decode cX10_look 44 = .ok (.aload_n 0, 1) := by decide +kernel
theorem dX10_look_45 : decode cX10_look 45 = .ok (.getfield 46, 3) := by decide +kernel
theorem dX10_look_48 : decode cX10_look 48 = .ok (.iload_n 1, 1) := by decide +kernel
theorem dX10_look_49 : decode cX10_look 49 = .ok (.invokevirtual 171, 3) := by decide +kernel
theorem dX10_look_52 : decode cX10_look 52 = .ok (.putfield 175, 3) := by decide +kernel
theorem dX10_look_55 : decode cX10_look 55 = .ok (.iconst 1, 1) := by decide +kernel
theorem dX10_look_56 : decode cX10_look 56 = .ok (.ireturn, 1) := by decide +kernel
theorem dX10_scored_0 : decode cX10_scored 0 = .ok (.aload_n 0, 1) := by decide +kernel
theorem dX10_scored_1 : decode cX10_scored 1 = .ok (.getfield 175, 3) := by decide +kernel
theorem dX10_scored_4 : decode cX10_scored 4 = .ok (.lreturn, 1) := by decide +kernel
theorem dX10_run_0 : decode cX10_run 0 = .ok (.aload_n 0, 1) := by decide +kernel
theorem dX10_run_1 : decode cX10_run 1 = .ok (.getfield 19, 3) := by decide +kernel
theorem dX10_run_4 : decode cX10_run 4 = .ok (.iload_n 1, 1) := by decide +kernel
theorem dX10_run_5 : decode cX10_run 5 = .ok (.invokevirtual 118, 3) := by decide +kernel
theorem dX10_run_8 : decode cX10_run 8 = .ok (.ifCond .ne 6, 3) := by decide +kernel
theorem dX10_run_11 : decode cX10_run 11 = .ok (.bipush (-2), 2) := by decide +kernel
theorem dX10_run_13 : decode cX10_run 13 = .ok (.ireturn, 1) := by decide +kernel
theorem dX10_run_14 : decode cX10_run 14 = .ok (.aload_n 0, 1) := by decide +kernel
theorem dX10_run_15 : decode cX10_run 15 = .ok (.getfield 37, 3) := by decide +kernel
theorem dX10_run_18 : decode cX10_run 18 = .ok (.iload_n 1, 1) := by decide +kernel
theorem dX10_run_19 : decode cX10_run 19 = .ok (.invokevirtual 143, 3) := by decide +kernel
theorem dX10_run_22 : decode cX10_run 22 = .ok (.aload_n 0, 1) := by decide +kernel
theorem dX10_run_23 : decode cX10_run 23 = .ok (.getfield 53, 3) := by decide +kernel
theorem dX10_run_26 : decode cX10_run 26 = .ok (.invokevirtual 179, 3) := by decide +kernel
theorem dX10_run_29 : decode cX10_run 29 = .ok (.iconst 0, 1) := by decide +kernel
theorem dX10_run_30 : decode cX10_run 30 = .ok (.istore_n 2, 1) := by decide +kernel
theorem dX10_run_31 : decode cX10_run 31 = .ok (.iload_n 2, 1) := by decide +kernel
theorem dX10_run_32 : decode cX10_run 32 = .ok (.sipush 512, 3) := by decide +kernel
theorem dX10_run_35 : decode cX10_run 35 = .ok (.if_icmp .ge 37, 3) := by decide +kernel
theorem dX10_run_38 : decode cX10_run 38 = .ok (.aload_n 0, 1) := by decide +kernel
theorem dX10_run_39 : decode cX10_run 39 = .ok (.getfield 46, 3) := by decide +kernel
theorem dX10_run_42 : decode cX10_run 42 = .ok (.iload_n 1, 1) := by decide +kernel
theorem dX10_run_43 : decode cX10_run 43 = .ok (.iload_n 2, 1) := by decide +kernel
theorem dX10_run_44 : decode cX10_run 44 = .ok (.invokevirtual 168, 3) := by decide +kernel
theorem dX10_run_47 : decode cX10_run 47 = .ok (.ifCond .eq 19, 3) := by decide +kernel
theorem dX10_run_50 : decode cX10_run 50 = .ok (.aload_n 0, 1) := by decide +kernel
theorem dX10_run_51 : decode cX10_run 51 = .ok (.getfield 53, 3) := by decide +kernel
theorem dX10_run_54 : decode cX10_run 54 = .ok (.iload_n 2, 1) := by decide +kernel
theorem dX10_run_55 : decode cX10_run 55 = .ok (.aload_n 0, 1) := by decide +kernel
theorem dX10_run_56 : decode cX10_run 56 = .ok (.getfield 46, 3) := by decide +kernel
theorem dX10_run_59 : decode cX10_run 59 = .ok (.iload_n 1, 1) := by decide +kernel
theorem dX10_run_60 : decode cX10_run 60 = .ok (.invokevirtual 171, 3) := by decide +kernel
theorem dX10_run_63 : decode cX10_run 63 = .ok (.invokevirtual 182, 3) := by decide +kernel
theorem dX10_run_66 : decode cX10_run 66 = .ok (.iinc 2 1, 3) := by decide +kernel
theorem dX10_run_69 : decode cX10_run 69 = .ok (.goto (-38), 3) := by decide +kernel
theorem dX10_run_72 : decode cX10_run 72 = .ok (.aload_n 0, 1) := by decide +kernel
theorem dX10_run_73 : decode cX10_run 73 = .ok (.getfield 53, 3) := by decide +kernel
theorem dX10_run_76 : decode cX10_run 76 = .ok (.invokevirtual 185, 3) := by decide +kernel
theorem dX10_run_79 : decode cX10_run 79 = .ok (.ireturn, 1) := by decide +kernel
theorem dX10_found_0 : decode cX10_found 0 = .ok (.aload_n 0, 1) := by decide +kernel
theorem dX10_found_1 : decode cX10_found 1 = .ok (.getfield 53, 3) := by decide +kernel
theorem dX10_found_4 : decode cX10_found 4 = .ok (.iload_n 1, 1) := by decide +kernel
theorem dX10_found_5 : decode cX10_found 5 = .ok (.invokevirtual 188, 3) := by decide +kernel
theorem dX10_found_8 : decode cX10_found 8 = .ok (.ifCond .eq 14, 3) := by decide +kernel
theorem dX10_found_11 : decode cX10_found 11 = .ok (.aload_n 0, 1) := by decide +kernel
theorem dX10_found_12 : decode cX10_found 12 = .ok (.getfield 53, 3) := by decide +kernel
theorem dX10_found_15 : decode cX10_found 15 = .ok (.iload_n 1, 1) := by decide +kernel
theorem dX10_found_16 : decode cX10_found 16 = .ok (.invokevirtual 189, 3) := by decide +kernel
theorem dX10_found_19 : decode cX10_found 19 = .ok (.goto 4, 3) := by decide +kernel
theorem dX10_found_22 : decode cX10_found 22 = .ok (.iconst (-1), 1) := by decide +kernel
theorem dX10_found_23 : decode cX10_found 23 = .ok (.ireturn, 1) := by decide +kernel
theorem dX10_score_0 : decode cX10_score 0 = .ok (.aload_n 0, 1) := by decide +kernel
theorem dX10_score_1 : decode cX10_score 1 = .ok (.getfield 53, 3) := by decide +kernel
theorem dX10_score_4 : decode cX10_score 4 = .ok (.iload_n 1, 1) := by decide +kernel
theorem dX10_score_5 : decode cX10_score 5 = .ok (.invokevirtual 188, 3) := by decide +kernel
theorem dX10_score_8 : decode cX10_score 8 = .ok (.ifCond .eq 14, 3) := by decide +kernel
theorem dX10_score_11 : decode cX10_score 11 = .ok (.aload_n 0, 1) := by decide +kernel
theorem dX10_score_12 : decode cX10_score 12 = .ok (.getfield 53, 3) := by decide +kernel
theorem dX10_score_15 : decode cX10_score 15 = .ok (.iload_n 1, 1) := by decide +kernel
theorem dX10_score_16 : decode cX10_score 16 = .ok (.invokevirtual 192, 3) := by decide +kernel
theorem dX10_score_19 : decode cX10_score 19 = .ok (.goto 4, 3) := by decide +kernel
theorem dX10_score_22 : decode cX10_score 22 = .ok (.lconst 0, 1) := by decide +kernel
theorem dX10_score_23 : decode cX10_score 23 = .ok (.lreturn, 1) := by decide +kernel
theorem dX10_keep_0 : decode cX10_keep 0 = .ok (.aload_n 0, 1) := by decide +kernel
theorem dX10_keep_1 : decode cX10_keep 1 = .ok (.getfield 19, 3) := by decide +kernel
theorem dX10_keep_4 : decode cX10_keep 4 = .ok (.iload_n 1, 1) := by decide +kernel
theorem dX10_keep_5 : decode cX10_keep 5 = .ok (.invokevirtual 118, 3) := by decide +kernel
theorem dX10_keep_8 : decode cX10_keep 8 = .ok (.ifCond .eq 16, 3) := by decide +kernel
theorem dX10_keep_11 : decode cX10_keep 11 = .ok (.aload_n 0, 1) := by decide +kernel
theorem dX10_keep_12 : decode cX10_keep 12 = .ok (.getfield 19, 3) := by decide +kernel
theorem dX10_keep_15 : decode cX10_keep 15 = .ok (.iload_n 1, 1) := by decide +kernel
theorem dX10_keep_16 : decode cX10_keep 16 = .ok (.invokevirtual 121, 3) := by decide +kernel
theorem dX10_keep_19 : decode cX10_keep 19 = .ok (.bipush 6, 2) := by decide +kernel
theorem dX10_keep_21 : decode cX10_keep 21 = .ok (.if_icmp .eq 6, 3) := by decide +kernel
theorem dX10_keep_24 : decode cX10_keep 24 = .ok (.bipush (-2), 2) := by decide +kernel
theorem dX10_keep_26 : decode cX10_keep 26 = .ok (.ireturn, 1) := by decide +kernel
theorem dX10_keep_27 : decode cX10_keep 27 = .ok (.aload_n 0, 1) := by decide +kernel
theorem dX10_keep_28 : decode cX10_keep 28 = .ok (.getfield 28, 3) := by decide +kernel
theorem dX10_keep_31 : decode cX10_keep 31 = .ok (.iload_n 1, 1) := by decide +kernel
theorem dX10_keep_32 : decode cX10_keep 32 = .ok (.invokevirtual 152, 3) := by decide +kernel
theorem dX10_keep_35 : decode cX10_keep 35 = .ok (.ifCond .eq 6, 3) := by decide +kernel
theorem dX10_keep_38 : decode cX10_keep 38 = .ok (.bipush (-4), 2) := by decide +kernel
theorem dX10_keep_40 : decode cX10_keep 40 = .ok (.ireturn, 1) := by decide +kernel
theorem dX10_keep_41 : decode cX10_keep 41 = .ok (.aload_n 0, 1) := by decide +kernel
theorem dX10_keep_42 : decode cX10_keep 42 = .ok (.getfield 19, 3) := by decide +kernel
theorem dX10_keep_45 : decode cX10_keep 45 = .ok (.iload_n 1, 1) := by decide +kernel
theorem dX10_keep_46 : decode cX10_keep 46 = .ok (.iconst 0, 1) := by decide +kernel
theorem dX10_keep_47 : decode cX10_keep 47 = .ok (.invokevirtual 159, 3) := by decide +kernel
theorem dX10_keep_50 : decode cX10_keep 50 = .ok (.istore_n 2, 1) := by decide +kernel
theorem dX10_keep_51 : decode cX10_keep 51 = .ok (.aload_n 0, 1) := by decide +kernel
theorem dX10_keep_52 : decode cX10_keep 52 = .ok (.getfield 37, 3) := by decide +kernel
theorem dX10_keep_55 : decode cX10_keep 55 = .ok (.iload_n 2, 1) := by decide +kernel
theorem dX10_keep_56 : decode cX10_keep 56 = .ok (.invokevirtual 143, 3) := by decide +kernel
theorem dX10_keep_59 : decode cX10_keep 59 = .ok (.aload_n 0, 1) := by decide +kernel
theorem dX10_keep_60 : decode cX10_keep 60 = .ok (.getfield 28, 3) := by decide +kernel
theorem dX10_keep_63 : decode cX10_keep 63 = .ok (.iload_n 1, 1) := by decide +kernel
theorem dX10_keep_64 : decode cX10_keep 64 = .ok (.invokevirtual 195, 3) := by decide +kernel
theorem dX10_keep_67 : decode cX10_keep 67 = .ok (.iconst 0, 1) := by decide +kernel
theorem dX10_keep_68 : decode cX10_keep 68 = .ok (.istore_n 3, 1) := by decide +kernel
theorem dX10_keep_69 : decode cX10_keep 69 = .ok (.iload_n 3, 1) := by decide +kernel
theorem dX10_keep_70 : decode cX10_keep 70 = .ok (.sipush 512, 3) := by decide +kernel
theorem dX10_keep_73 : decode cX10_keep 73 = .ok (.if_icmp .ge 30, 3) := by decide +kernel
theorem dX10_keep_76 : decode cX10_keep 76 = .ok (.aload_n 0, 1) := by decide +kernel
theorem dX10_keep_77 : decode cX10_keep 77 = .ok (.getfield 46, 3) := by decide +kernel
theorem dX10_keep_80 : decode cX10_keep 80 = .ok (.iload_n 2, 1) := by decide +kernel
theorem dX10_keep_81 : decode cX10_keep 81 = .ok (.iload_n 3, 1) := by decide +kernel
theorem dX10_keep_82 : decode cX10_keep 82 = .ok (.invokevirtual 168, 3) := by decide +kernel
theorem dX10_keep_85 : decode cX10_keep 85 = .ok (.ifCond .eq 12, 3) := by decide +kernel
theorem dX10_keep_88 : decode cX10_keep 88 = .ok (.aload_n 0, 1) := by decide +kernel
theorem dX10_keep_89 : decode cX10_keep 89 = .ok (.getfield 28, 3) := by decide +kernel
theorem dX10_keep_92 : decode cX10_keep 92 = .ok (.iload_n 1, 1) := by decide +kernel
theorem dX10_keep_93 : decode cX10_keep 93 = .ok (.iload_n 3, 1) := by decide +kernel
theorem dX10_keep_94 : decode cX10_keep 94 = .ok (.invokevirtual 198, 3) := by decide +kernel
theorem dX10_keep_97 : decode cX10_keep 97 = .ok (.iinc 3 1, 3) := by decide +kernel
theorem dX10_keep_100 : decode cX10_keep 100 = .ok (.goto (-31), 3) := by decide +kernel
theorem dX10_keep_103 : decode cX10_keep 103 = .ok (.aload_n 0, 1) := by decide +kernel
theorem dX10_keep_104 : decode cX10_keep 104 = .ok (.getfield 37, 3) := by decide +kernel
theorem dX10_keep_107 : decode cX10_keep 107 = .ok (.iload_n 1, 1) := by decide +kernel
theorem dX10_keep_108 : decode cX10_keep 108 = .ok (.invokevirtual 133, 3) := by decide +kernel
theorem dX10_keep_111 : decode cX10_keep 111 = .ok (.aload_n 0, 1) := by decide +kernel
theorem dX10_keep_112 : decode cX10_keep 112 = .ok (.getfield 28, 3) := by decide +kernel
theorem dX10_keep_115 : decode cX10_keep 115 = .ok (.iload_n 1, 1) := by decide +kernel
theorem dX10_keep_116 : decode cX10_keep 116 = .ok (.invokevirtual 155, 3) := by decide +kernel
theorem dX10_keep_119 : decode cX10_keep 119 = .ok (.ireturn, 1) := by decide +kernel
theorem dX10_open_0 : decode cX10_open 0 = .ok (.aload_n 0, 1) := by decide +kernel
theorem dX10_open_1 : decode cX10_open 1 = .ok (.getfield 19, 3) := by decide +kernel
theorem dX10_open_4 : decode cX10_open 4 = .ok (.iload_n 1, 1) := by decide +kernel
theorem dX10_open_5 : decode cX10_open 5 = .ok (.invokevirtual 118, 3) := by decide +kernel
theorem dX10_open_8 : decode cX10_open 8 = .ok (.ifCond .ne 6, 3) := by decide +kernel
theorem dX10_open_11 : decode cX10_open 11 = .ok (.bipush (-2), 2) := by decide +kernel
theorem dX10_open_13 : decode cX10_open 13 = .ok (.ireturn, 1) := by decide +kernel
theorem dX10_open_14 : decode cX10_open 14 = .ok (.aload_n 0, 1) := by decide +kernel
theorem dX10_open_15 : decode cX10_open 15 = .ok (.getfield 60, 3) := by decide +kernel
theorem dX10_open_18 : decode cX10_open 18 = .ok (.iload_n 1, 1) := by decide +kernel
theorem dX10_open_19 : decode cX10_open 19 = .ok (.invokevirtual 200, 3) := by decide +kernel
theorem dX10_open_22 : decode cX10_open 22 = .ok (.ireturn, 1) := by decide +kernel
theorem dX10_next_0 : decode cX10_next 0 = .ok (.aload_n 0, 1) := by decide +kernel
theorem dX10_next_1 : decode cX10_next 1 = .ok (.getfield 60, 3) := by decide +kernel
theorem dX10_next_4 : decode cX10_next 4 = .ok (.iload_n 1, 1) := by decide +kernel
theorem dX10_next_5 : decode cX10_next 5 = .ok (.invokevirtual 203, 3) := by decide +kernel
theorem dX10_next_8 : decode cX10_next 8 = .ok (.ifCond .eq 10, 3) := by decide +kernel
theorem dX10_next_11 : decode cX10_next 11 = .ok (.iload_n 2, 1) := by decide +kernel
theorem dX10_next_12 : decode cX10_next 12 = .ok (.invokestatic 77, 3) := by decide +kernel
theorem dX10_next_15 : decode cX10_next 15 = .ok (.ifCond .ne 6, 3) := by decide +kernel
theorem dX10_next_18 : decode cX10_next 18 = .ok (.bipush (-2), 2) := by decide +kernel
theorem dX10_next_20 : decode cX10_next 20 = .ok (.ireturn, 1) := by decide +kernel
theorem dX10_next_21 : decode cX10_next 21 = .ok (.aload_n 0, 1) := by decide +kernel
theorem dX10_next_22 : decode cX10_next 22 = .ok (.getfield 60, 3) := by decide +kernel
theorem dX10_next_25 : decode cX10_next 25 = .ok (.iload_n 1, 1) := by decide +kernel
theorem dX10_next_26 : decode cX10_next 26 = .ok (.invokevirtual 206, 3) := by decide +kernel
theorem dX10_next_29 : decode cX10_next 29 = .ok (.istore_n 3, 1) := by decide +kernel
theorem dX10_next_30 : decode cX10_next 30 = .ok (.aload_n 0, 1) := by decide +kernel
theorem dX10_next_31 : decode cX10_next 31 = .ok (.getfield 37, 3) := by decide +kernel
theorem dX10_next_34 : decode cX10_next 34 = .ok (.iload_n 3, 1) := by decide +kernel
theorem dX10_next_35 : decode cX10_next 35 = .ok (.invokevirtual 143, 3) := by decide +kernel
theorem dX10_next_38 : decode cX10_next 38 = .ok (.iload_n 2, 1) := by decide +kernel
theorem dX10_next_39 : decode cX10_next 39 = .ok (.aload_n 0, 1) := by decide +kernel
theorem dX10_next_40 : decode cX10_next 40 = .ok (.getfield 60, 3) := by decide +kernel
theorem dX10_next_43 : decode cX10_next 43 = .ok (.iload_n 1, 1) := by decide +kernel
theorem dX10_next_44 : decode cX10_next 44 = .ok (.invokevirtual 209, 3) := by decide +kernel
theorem dX10_next_47 : decode cX10_next 47 = .ok (.iconst 1, 1) := by decide +kernel
theorem dX10_next_48 : decode cX10_next 48 = .ok (.iadd, 1) := by decide +kernel
theorem dX10_next_49 : decode cX10_next 49 = .ok (.invokestatic 212, 3) := by decide +kernel
theorem dX10_next_52 : decode cX10_next 52 = .ok (.istore 4, 2) := by decide +kernel
theorem dX10_next_54 : decode cX10_next 54 = .ok (.iload 4, 2) := by decide +kernel
theorem dX10_next_56 : decode cX10_next 56 = .ok (.sipush 512, 3) := by decide +kernel
theorem dX10_next_59 : decode cX10_next 59 = .ok (.if_icmp .ge 35, 3) := by decide +kernel
theorem dX10_next_62 : decode cX10_next 62 = .ok (.aload_n 0, 1) := by decide +kernel
theorem dX10_next_63 : decode cX10_next 63 = .ok (.getfield 46, 3) := by decide +kernel
theorem dX10_next_66 : decode cX10_next 66 = .ok (.iload_n 3, 1) := by decide +kernel
theorem dX10_next_67 : decode cX10_next 67 = .ok (.iload 4, 2) := by decide +kernel
theorem dX10_next_69 : decode cX10_next 69 = .ok (.invokevirtual 168, 3) := by decide +kernel
theorem dX10_next_72 : decode cX10_next 72 = .ok (.ifCond .eq 16, 3) := by decide +kernel
theorem dX10_next_75 : decode cX10_next 75 = .ok (.aload_n 0, 1) := by decide +kernel
theorem dX10_next_76 : decode cX10_next 76 = .ok (.getfield 60, 3) := by decide +kernel
theorem dX10_next_79 : decode cX10_next 79 = .ok (.iload_n 1, 1) := by decide +kernel
theorem dX10_next_80 : decode cX10_next 80 = .ok (.iload 4, 2) := by decide +kernel
theorem dX10_next_82 : decode cX10_next 82 = .ok (.invokevirtual 217, 3) := by decide +kernel
theorem dX10_next_85 : decode cX10_next 85 = .ok (.iload 4, 2) := by decide +kernel
theorem dX10_next_87 : decode cX10_next 87 = .ok (.ireturn, 1) := by decide +kernel
theorem dX10_next_88 : decode cX10_next 88 = .ok (.iinc 4 1, 3) := by decide +kernel
theorem dX10_next_91 : decode cX10_next 91 = .ok (.goto (-37), 3) := by decide +kernel
theorem dX10_next_94 : decode cX10_next 94 = .ok (.aload_n 0, 1) := by decide +kernel
theorem dX10_next_95 : decode cX10_next 95 = .ok (.getfield 60, 3) := by decide +kernel
theorem dX10_next_98 : decode cX10_next 98 = .ok (.iload_n 1, 1) := by decide +kernel
theorem dX10_next_99 : decode cX10_next 99 = .ok (.invokevirtual 220, 3) := by decide +kernel
theorem dX10_next_102 : decode cX10_next 102 = .ok (.iconst (-1), 1) := by decide +kernel
theorem dX10_next_103 : decode cX10_next 103 = .ok (.ireturn, 1) := by decide +kernel
theorem dX10_close_0 : decode cX10_close 0 = .ok (.aload_n 0, 1) := by decide +kernel
theorem dX10_close_1 : decode cX10_close 1 = .ok (.getfield 60, 3) := by decide +kernel
theorem dX10_close_4 : decode cX10_close 4 = .ok (.iload_n 1, 1) := by decide +kernel
theorem dX10_close_5 : decode cX10_close 5 = .ok (.invokevirtual 203, 3) := by decide +kernel
theorem dX10_close_8 : decode cX10_close 8 = .ok (.ifCond .ne 6, 3) := by decide +kernel
theorem dX10_close_11 : decode cX10_close 11 = .ok (.bipush (-2), 2) := by decide +kernel
theorem dX10_close_13 : decode cX10_close 13 = .ok (.ireturn, 1) := by decide +kernel
theorem dX10_close_14 : decode cX10_close 14 = .ok (.aload_n 0, 1) := by decide +kernel
theorem dX10_close_15 : decode cX10_close 15 = .ok (.getfield 60, 3) := by decide +kernel
theorem dX10_close_18 : decode cX10_close 18 = .ok (.iload_n 1, 1) := by decide +kernel
theorem dX10_close_19 : decode cX10_close 19 = .ok (.invokevirtual 223, 3) := by decide +kernel
theorem dX10_close_22 : decode cX10_close 22 = .ok (.ireturn, 1) := by decide +kernel
theorem dX10_rewrite_0 : decode cX10_rewrite 0 = .ok (.aload_n 0, 1) := by decide +kernel
theorem dX10_rewrite_1 : decode cX10_rewrite 1 = .ok (.getfield 19, 3) := by decide +kernel
theorem dX10_rewrite_4 : decode cX10_rewrite 4 = .ok (.iload_n 1, 1) := by decide +kernel
theorem dX10_rewrite_5 : decode cX10_rewrite 5 = .ok (.invokevirtual 118, 3) := by decide +kernel
theorem dX10_rewrite_8 : decode cX10_rewrite 8 = .ok (.ifCond .ne 6, 3) := by decide +kernel
theorem dX10_rewrite_11 : decode cX10_rewrite 11 = .ok (.bipush (-2), 2) := by decide +kernel
theorem dX10_rewrite_13 : decode cX10_rewrite 13 = .ok (.ireturn, 1) := by decide +kernel
theorem dX10_rewrite_14 : decode cX10_rewrite 14 = .ok (.aload_n 0, 1) := by decide +kernel
theorem dX10_rewrite_15 : decode cX10_rewrite 15 = .ok (.getfield 69, 3) := by decide +kernel
theorem dX10_rewrite_18 : decode cX10_rewrite 18 = .ok (.iload_n 1, 1) := by decide +kernel
theorem dX10_rewrite_19 : decode cX10_rewrite 19 = .ok (.invokevirtual 226, 3) := by decide +kernel
theorem dX10_rewrite_22 : decode cX10_rewrite 22 = .ok (.ireturn, 1) := by decide +kernel
theorem dX10_sum_0 : decode cX10_sum 0 = .ok (.iload_n 1, 1) := by decide +kernel
theorem dX10_sum_1 : decode cX10_sum 1 = .ok (.tableswitch 75 0 4 #[35, 43, 51, 59, 67], 35) := by decide +kernel
theorem dX10_sum_36 : decode cX10_sum 36 = .ok (.aload_n 0, 1) := by decide +kernel
theorem dX10_sum_37 : decode cX10_sum 37 = .ok (.getfield 19, 3) := by decide +kernel
theorem dX10_sum_40 : decode cX10_sum 40 = .ok (.invokevirtual 229, 3) := by decide +kernel
theorem dX10_sum_43 : decode cX10_sum 43 = .ok (.ireturn, 1) := by decide +kernel
theorem dX10_sum_44 : decode cX10_sum 44 = .ok (.aload_n 0, 1) := by decide +kernel
theorem dX10_sum_45 : decode cX10_sum 45 = .ok (.getfield 12, 3) := by decide +kernel
theorem dX10_sum_48 : decode cX10_sum 48 = .ok (.invokevirtual 232, 3) := by decide +kernel
theorem dX10_sum_51 : decode cX10_sum 51 = .ok (.ireturn, 1) := by decide +kernel
theorem dX10_sum_52 : decode cX10_sum 52 = .ok (.aload_n 0, 1) := by decide +kernel
theorem dX10_sum_53 : decode cX10_sum 53 = .ok (.getfield 19, 3) := by decide +kernel
theorem dX10_sum_56 : decode cX10_sum 56 = .ok (.invokevirtual 235, 3) := by decide +kernel
theorem dX10_sum_59 : decode cX10_sum 59 = .ok (.ireturn, 1) := by decide +kernel
theorem dX10_sum_60 : decode cX10_sum 60 = .ok (.aload_n 0, 1) := by decide +kernel
theorem dX10_sum_61 : decode cX10_sum 61 = .ok (.getfield 60, 3) := by decide +kernel
theorem dX10_sum_64 : decode cX10_sum 64 = .ok (.invokevirtual 238, 3) := by decide +kernel
theorem dX10_sum_67 : decode cX10_sum 67 = .ok (.ireturn, 1) := by decide +kernel
theorem dX10_sum_68 : decode cX10_sum 68 = .ok (.aload_n 0, 1) := by decide +kernel
theorem dX10_sum_69 : decode cX10_sum 69 = .ok (.getfield 28, 3) := by decide +kernel
theorem dX10_sum_72 : decode cX10_sum 72 = .ok (.invokevirtual 241, 3) := by decide +kernel
theorem dX10_sum_75 : decode cX10_sum 75 = .ok (.ireturn, 1) := by decide +kernel
theorem dX10_sum_76 : decode cX10_sum 76 = .ok (.bipush (-2), 2) := by decide +kernel
theorem dX10_sum_78 : decode cX10_sum 78 = .ok (.ireturn, 1) := by decide +kernel
theorem dX10_listHasChanged_0 : decode cX10_listHasChanged 0 = .ok (.aload_n 0, 1) := by decide +kernel
theorem dX10_listHasChanged_1 : decode cX10_listHasChanged 1 = .ok (.getfield 28, 3) := by decide +kernel
theorem dX10_listHasChanged_4 : decode cX10_listHasChanged 4 = .ok (.iload_n 1, 1) := by decide +kernel
theorem dX10_listHasChanged_5 : decode cX10_listHasChanged 5 = .ok (.invokevirtual 242, 3) := by decide +kernel
theorem dX10_listHasChanged_8 : decode cX10_listHasChanged 8 = .ok (.aload_n 0, 1) := by decide +kernel
theorem dX10_listHasChanged_9 : decode cX10_listHasChanged 9 = .ok (.getfield 37, 3) := by decide +kernel
theorem dX10_listHasChanged_12 : decode cX10_listHasChanged 12 = .ok (.iconst 0, 1) := by decide +kernel
theorem dX10_listHasChanged_13 : decode cX10_listHasChanged 13 = .ok (.invokevirtual 133, 3) := by decide +kernel
theorem dX10_listHasChanged_16 : decode cX10_listHasChanged 16 = .ok (.return_, 1) := by decide +kernel
theorem dX10_areNumbersOf_0 : decode cX10_areNumbersOf 0 = .ok (.iload_n 1, 1) := by decide +kernel
theorem dX10_areNumbersOf_1 : decode cX10_areNumbersOf 1 = .ok (.tableswitch 161 0 7 #[47, 52, 77, 84, 91, 117, 150, 159], 47) := by decide +kernel
theorem dX10_areNumbersOf_48 : decode cX10_areNumbersOf 48 = .ok (.iload_n 2, 1) := by decide +kernel
theorem dX10_areNumbersOf_49 : decode cX10_areNumbersOf 49 = .ok (.invokestatic 73, 3) := by decide +kernel
theorem dX10_areNumbersOf_52 : decode cX10_areNumbersOf 52 = .ok (.ireturn, 1) := by decide +kernel
theorem dX10_areNumbersOf_53 : decode cX10_areNumbersOf 53 = .ok (.iload_n 2, 1) := by decide +kernel
theorem dX10_areNumbersOf_54 : decode cX10_areNumbersOf 54 = .ok (.invokestatic 77, 3) := by decide +kernel
theorem dX10_areNumbersOf_57 : decode cX10_areNumbersOf 57 = .ok (.ifCond .eq 19, 3) := by decide +kernel
theorem dX10_areNumbersOf_60 : decode cX10_areNumbersOf 60 = .ok (.iload_n 3, 1) := by decide +kernel
theorem dX10_areNumbersOf_61 : decode cX10_areNumbersOf 61 = .ok (.invokestatic 77, 3) := by decide +kernel
theorem dX10_areNumbersOf_64 : decode cX10_areNumbersOf 64 = .ok (.ifCond .eq 12, 3) := by decide +kernel
theorem dX10_areNumbersOf_67 : decode cX10_areNumbersOf 67 = .ok (.iload_n 2, 1) := by decide +kernel
theorem dX10_areNumbersOf_68 : decode cX10_areNumbersOf 68 = .ok (.iload_n 3, 1) := by decide +kernel
theorem dX10_areNumbersOf_69 : decode cX10_areNumbersOf 69 = .ok (.if_icmp .gt 7, 3) := by decide +kernel
theorem dX10_areNumbersOf_72 : decode cX10_areNumbersOf 72 = .ok (.iconst 1, 1) := by decide +kernel
theorem dX10_areNumbersOf_73 : decode cX10_areNumbersOf 73 = .ok (.goto 4, 3) := by decide +kernel
theorem dX10_areNumbersOf_76 : decode cX10_areNumbersOf 76 = .ok (.iconst 0, 1) := by decide +kernel
theorem dX10_areNumbersOf_77 : decode cX10_areNumbersOf 77 = .ok (.ireturn, 1) := by decide +kernel
theorem dX10_areNumbersOf_78 : decode cX10_areNumbersOf 78 = .ok (.iload_n 2, 1) := by decide +kernel
theorem dX10_areNumbersOf_79 : decode cX10_areNumbersOf 79 = .ok (.bipush 8, 2) := by decide +kernel
theorem dX10_areNumbersOf_81 : decode cX10_areNumbersOf 81 = .ok (.invokestatic 81, 3) := by decide +kernel
theorem dX10_areNumbersOf_84 : decode cX10_areNumbersOf 84 = .ok (.ireturn, 1) := by decide +kernel
theorem dX10_areNumbersOf_85 : decode cX10_areNumbersOf 85 = .ok (.iload_n 2, 1) := by decide +kernel
theorem dX10_areNumbersOf_86 : decode cX10_areNumbersOf 86 = .ok (.bipush 100, 2) := by decide +kernel
theorem dX10_areNumbersOf_88 : decode cX10_areNumbersOf 88 = .ok (.invokestatic 81, 3) := by decide +kernel
theorem dX10_areNumbersOf_91 : decode cX10_areNumbersOf 91 = .ok (.ireturn, 1) := by decide +kernel
theorem dX10_areNumbersOf_92 : decode cX10_areNumbersOf 92 = .ok (.aload_n 0, 1) := by decide +kernel
theorem dX10_areNumbersOf_93 : decode cX10_areNumbersOf 93 = .ok (.getfield 19, 3) := by decide +kernel
theorem dX10_areNumbersOf_96 : decode cX10_areNumbersOf 96 = .ok (.iload_n 2, 1) := by decide +kernel
theorem dX10_areNumbersOf_97 : decode cX10_areNumbersOf 97 = .ok (.invokevirtual 118, 3) := by decide +kernel
theorem dX10_areNumbersOf_100 : decode cX10_areNumbersOf 100 = .ok (.ifCond .eq 16, 3) := by decide +kernel
theorem dX10_areNumbersOf_103 : decode cX10_areNumbersOf 103 = .ok (.iload_n 3, 1) := by decide +kernel
theorem dX10_areNumbersOf_104 : decode cX10_areNumbersOf 104 = .ok (.ldc 80, 2) := by decide +kernel
theorem dX10_areNumbersOf_106 : decode cX10_areNumbersOf 106 = .ok (.invokestatic 81, 3) := by decide +kernel
theorem dX10_areNumbersOf_109 : decode cX10_areNumbersOf 109 = .ok (.ifCond .eq 7, 3) := by decide +kernel
theorem dX10_areNumbersOf_112 : decode cX10_areNumbersOf 112 = .ok (.iconst 1, 1) := by decide +kernel
theorem dX10_areNumbersOf_113 : decode cX10_areNumbersOf 113 = .ok (.goto 4, 3) := by decide +kernel
theorem dX10_areNumbersOf_116 : decode cX10_areNumbersOf 116 = .ok (.iconst 0, 1) := by decide +kernel
theorem dX10_areNumbersOf_117 : decode cX10_areNumbersOf 117 = .ok (.ireturn, 1) := by decide +kernel
theorem dX10_areNumbersOf_118 : decode cX10_areNumbersOf 118 = .ok (.aload_n 0, 1) := by decide +kernel
theorem dX10_areNumbersOf_119 : decode cX10_areNumbersOf 119 = .ok (.getfield 19, 3) := by decide +kernel
theorem dX10_areNumbersOf_122 : decode cX10_areNumbersOf 122 = .ok (.iload_n 2, 1) := by decide +kernel
theorem dX10_areNumbersOf_123 : decode cX10_areNumbersOf 123 = .ok (.invokevirtual 118, 3) := by decide +kernel
theorem dX10_areNumbersOf_126 : decode cX10_areNumbersOf 126 = .ok (.ifCond .eq 23, 3) := by decide +kernel
theorem dX10_areNumbersOf_129 : decode cX10_areNumbersOf 129 = .ok (.iload_n 3, 1) := by decide +kernel
theorem dX10_areNumbersOf_130 : decode cX10_areNumbersOf 130 = .ok (.ldc 245, 2) := by decide +kernel
theorem dX10_areNumbersOf_132 : decode cX10_areNumbersOf 132 = .ok (.invokestatic 81, 3) := by decide +kernel
theorem dX10_areNumbersOf_135 : decode cX10_areNumbersOf 135 = .ok (.ifCond .eq 14, 3) := by decide +kernel
theorem dX10_areNumbersOf_138 : decode cX10_areNumbersOf 138 = .ok (.iload_n 3, 1) := by decide +kernel
theorem dX10_areNumbersOf_139 : decode cX10_areNumbersOf 139 = .ok (.invokestatic 246, 3) := by decide +kernel
theorem dX10_areNumbersOf_142 : decode cX10_areNumbersOf 142 = .ok (.ifCond .le 7, 3) := by decide +kernel
theorem dX10_areNumbersOf_145 : decode cX10_areNumbersOf 145 = .ok (.iconst 1, 1) := by decide +kernel
theorem dX10_areNumbersOf_146 : decode cX10_areNumbersOf 146 = .ok (.goto 4, 3) := by decide +kernel
theorem dX10_areNumbersOf_149 : decode cX10_areNumbersOf 149 = .ok (.iconst 0, 1) := by decide +kernel
theorem dX10_areNumbersOf_150 : decode cX10_areNumbersOf 150 = .ok (.ireturn, 1) := by decide +kernel
theorem dX10_areNumbersOf_151 : decode cX10_areNumbersOf 151 = .ok (.aload_n 0, 1) := by decide +kernel
theorem dX10_areNumbersOf_152 : decode cX10_areNumbersOf 152 = .ok (.getfield 19, 3) := by decide +kernel
theorem dX10_areNumbersOf_155 : decode cX10_areNumbersOf 155 = .ok (.iload_n 2, 1) := by decide +kernel
theorem dX10_areNumbersOf_156 : decode cX10_areNumbersOf 156 = .ok (.invokevirtual 118, 3) := by decide +kernel
theorem dX10_areNumbersOf_159 : decode cX10_areNumbersOf 159 = .ok (.ireturn, 1) := by decide +kernel
theorem dX10_areNumbersOf_160 : decode cX10_areNumbersOf 160 = .ok (.iconst 1, 1) := by decide +kernel
theorem dX10_areNumbersOf_161 : decode cX10_areNumbersOf 161 = .ok (.ireturn, 1) := by decide +kernel
theorem dX10_areNumbersOf_162 : decode cX10_areNumbersOf 162 = .ok (.iconst 0, 1) := by decide +kernel
theorem dX10_areNumbersOf_163 : decode cX10_areNumbersOf 163 = .ok (.ireturn, 1) := by decide +kernel
theorem dX10_hasSecondNumber_0 : decode cX10_hasSecondNumber 0 = .ok (.iload_n 0, 1) := by decide +kernel
theorem dX10_hasSecondNumber_1 : decode cX10_hasSecondNumber 1 = .ok (.iconst 1, 1) := by decide +kernel
theorem dX10_hasSecondNumber_2 : decode cX10_hasSecondNumber 2 = .ok (.if_icmp .eq 13, 3) := by decide +kernel
theorem dX10_hasSecondNumber_5 : decode cX10_hasSecondNumber 5 = .ok (.iload_n 0, 1) := by decide +kernel
theorem dX10_hasSecondNumber_6 : decode cX10_hasSecondNumber 6 = .ok (.iconst 4, 1) := by decide +kernel
theorem dX10_hasSecondNumber_7 : decode cX10_hasSecondNumber 7 = .ok (.if_icmp .eq 8, 3) := by decide +kernel
theorem dX10_hasSecondNumber_10 : decode cX10_hasSecondNumber 10 = .ok (.iload_n 0, 1) := by decide +kernel
theorem dX10_hasSecondNumber_11 : decode cX10_hasSecondNumber 11 = .ok (.iconst 5, 1) := by decide +kernel
theorem dX10_hasSecondNumber_12 : decode cX10_hasSecondNumber 12 = .ok (.if_icmp .ne 7, 3) := by decide +kernel
theorem dX10_hasSecondNumber_15 : decode cX10_hasSecondNumber 15 = .ok (.iconst 1, 1) := by decide +kernel
theorem dX10_hasSecondNumber_16 : decode cX10_hasSecondNumber 16 = .ok (.goto 4, 3) := by decide +kernel
theorem dX10_hasSecondNumber_19 : decode cX10_hasSecondNumber 19 = .ok (.iconst 0, 1) := by decide +kernel
theorem dX10_hasSecondNumber_20 : decode cX10_hasSecondNumber 20 = .ok (.ireturn, 1) := by decide +kernel
theorem dX10_isRoleOf_0 : decode cX10_isRoleOf 0 = .ok (.iload_n 0, 1) := by decide +kernel
theorem dX10_isRoleOf_1 : decode cX10_isRoleOf 1 = .ok (.iconst 2, 1) := by decide +kernel
theorem dX10_isRoleOf_2 : decode cX10_isRoleOf 2 = .ok (.if_icmp .ne 11, 3) := by decide +kernel
theorem dX10_isRoleOf_5 : decode cX10_isRoleOf 5 = .ok (.iload_n 1, 1) := by decide +kernel
theorem dX10_isRoleOf_6 : decode cX10_isRoleOf 6 = .ok (.iconst 3, 1) := by decide +kernel
theorem dX10_isRoleOf_7 : decode cX10_isRoleOf 7 = .ok (.invokestatic 81, 3) := by decide +kernel
theorem dX10_isRoleOf_10 : decode cX10_isRoleOf 10 = .ok (.ifCond .ne 13, 3) := by decide +kernel
theorem dX10_isRoleOf_13 : decode cX10_isRoleOf 13 = .ok (.iload_n 0, 1) := by decide +kernel
theorem dX10_isRoleOf_14 : decode cX10_isRoleOf 14 = .ok (.iconst 3, 1) := by decide +kernel
theorem dX10_isRoleOf_15 : decode cX10_isRoleOf 15 = .ok (.if_icmp .ne 12, 3) := by decide +kernel
theorem dX10_isRoleOf_18 : decode cX10_isRoleOf 18 = .ok (.iload_n 1, 1) := by decide +kernel
theorem dX10_isRoleOf_19 : decode cX10_isRoleOf 19 = .ok (.iconst 3, 1) := by decide +kernel
theorem dX10_isRoleOf_20 : decode cX10_isRoleOf 20 = .ok (.if_icmp .ne 7, 3) := by decide +kernel
theorem dX10_isRoleOf_23 : decode cX10_isRoleOf 23 = .ok (.iconst 1, 1) := by decide +kernel
theorem dX10_isRoleOf_24 : decode cX10_isRoleOf 24 = .ok (.goto 4, 3) := by decide +kernel
theorem dX10_isRoleOf_27 : decode cX10_isRoleOf 27 = .ok (.iconst 0, 1) := by decide +kernel
theorem dX10_isRoleOf_28 : decode cX10_isRoleOf 28 = .ok (.ireturn, 1) := by decide +kernel
theorem dX10_isNeeded_0 : decode cX10_isNeeded 0 = .ok (.iload_n 0, 1) := by decide +kernel
theorem dX10_isNeeded_1 : decode cX10_isNeeded 1 = .ok (.ifCond .eq 8, 3) := by decide +kernel
theorem dX10_isNeeded_4 : decode cX10_isNeeded 4 = .ok (.iload_n 0, 1) := by decide +kernel
theorem dX10_isNeeded_5 : decode cX10_isNeeded 5 = .ok (.iconst 1, 1) := by decide +kernel
theorem dX10_isNeeded_6 : decode cX10_isNeeded 6 = .ok (.if_icmp .ne 7, 3) := by decide +kernel
theorem dX10_isNeeded_9 : decode cX10_isNeeded 9 = .ok (.iconst 1, 1) := by decide +kernel
theorem dX10_isNeeded_10 : decode cX10_isNeeded 10 = .ok (.goto 4, 3) := by decide +kernel
theorem dX10_isNeeded_13 : decode cX10_isNeeded 13 = .ok (.iconst 0, 1) := by decide +kernel
theorem dX10_isNeeded_14 : decode cX10_isNeeded 14 = .ok (.ireturn, 1) := by decide +kernel
theorem dX10_modulusOf_0 : decode cX10_modulusOf 0 = .ok (.iload_n 0, 1) := by decide +kernel
theorem dX10_modulusOf_1 : decode cX10_modulusOf 1 = .ok (.sipush 1000, 3) := by decide +kernel
theorem dX10_modulusOf_4 : decode cX10_modulusOf 4 = .ok (.idiv, 1) := by decide +kernel
theorem dX10_modulusOf_5 : decode cX10_modulusOf 5 = .ok (.sipush 1000, 3) := by decide +kernel
theorem dX10_modulusOf_8 : decode cX10_modulusOf 8 = .ok (.irem, 1) := by decide +kernel
theorem dX10_modulusOf_9 : decode cX10_modulusOf 9 = .ok (.ireturn, 1) := by decide +kernel
theorem dX10_isList_0 : decode cX10_isList 0 = .ok (.iload_n 0, 1) := by decide +kernel
theorem dX10_isList_1 : decode cX10_isList 1 = .ok (.bipush 15, 2) := by decide +kernel
theorem dX10_isList_3 : decode cX10_isList 3 = .ok (.invokestatic 81, 3) := by decide +kernel
theorem dX10_isList_6 : decode cX10_isList 6 = .ok (.ireturn, 1) := by decide +kernel
theorem dX10_isObject_0 : decode cX10_isObject 0 = .ok (.iload_n 0, 1) := by decide +kernel
theorem dX10_isObject_1 : decode cX10_isObject 1 = .ok (.sipush 511, 3) := by decide +kernel
theorem dX10_isObject_4 : decode cX10_isObject 4 = .ok (.invokestatic 81, 3) := by decide +kernel
theorem dX10_isObject_7 : decode cX10_isObject 7 = .ok (.ireturn, 1) := by decide +kernel
theorem dX10_isWithin_0 : decode cX10_isWithin 0 = .ok (.iload_n 0, 1) := by decide +kernel
theorem dX10_isWithin_1 : decode cX10_isWithin 1 = .ok (.ifCond .lt 12, 3) := by decide +kernel
theorem dX10_isWithin_4 : decode cX10_isWithin 4 = .ok (.iload_n 0, 1) := by decide +kernel
theorem dX10_isWithin_5 : decode cX10_isWithin 5 = .ok (.iload_n 1, 1) := by decide +kernel
theorem dX10_isWithin_6 : decode cX10_isWithin 6 = .ok (.if_icmp .gt 7, 3) := by decide +kernel
theorem dX10_isWithin_9 : decode cX10_isWithin 9 = .ok (.iconst 1, 1) := by decide +kernel
theorem dX10_isWithin_10 : decode cX10_isWithin 10 = .ok (.goto 4, 3) := by decide +kernel
theorem dX10_isWithin_13 : decode cX10_isWithin 13 = .ok (.iconst 0, 1) := by decide +kernel
theorem dX10_isWithin_14 : decode cX10_isWithin 14 = .ok (.ireturn, 1) := by decide +kernel
theorem dX11_init_0 : decode cX11_init 0 = .ok (.aload_n 0, 1) := by decide +kernel
theorem dX11_init_1 : decode cX11_init 1 = .ok (.invokespecial 1, 3) := by decide +kernel
theorem dX11_init_4 : decode cX11_init 4 = .ok (.aload_n 0, 1) := by decide +kernel
theorem dX11_init_5 : decode cX11_init 5 = .ok (.sipush 8192, 3) := by decide +kernel
theorem dX11_init_8 : decode cX11_init 8 = .ok (.newarray .int, 2) := by decide +kernel
theorem dX11_init_10 : decode cX11_init 10 = .ok (.putfield 7, 3) := by decide +kernel
theorem dX11_init_13 : decode cX11_init 13 = .ok (.aload_n 0, 1) := by decide +kernel
theorem dX11_init_14 : decode cX11_init 14 = .ok (.bipush 16, 2) := by decide +kernel
theorem dX11_init_16 : decode cX11_init 16 = .ok (.newarray .int, 2) := by decide +kernel
theorem dX11_init_18 : decode cX11_init 18 = .ok (.putfield 13, 3) := by decide +kernel
theorem dX11_init_21 : decode cX11_init 21 = .ok (.aload_n 0, 1) := by decide +kernel
theorem dX11_init_22 : decode cX11_init 22 = .ok (.bipush 80, 2) := by decide +kernel
theorem dX11_init_24 : decode cX11_init 24 = .ok (.newarray .int, 2) := by decide +kernel
theorem dX11_init_26 : decode cX11_init 26 = .ok (.putfield 16, 3) := by decide +kernel
theorem dX11_init_29 : decode cX11_init 29 = .ok (.aload_n 0, 1) := by decide +kernel
theorem dX11_init_30 : decode cX11_init 30 = .ok (.bipush 80, 2) := by decide +kernel
theorem dX11_init_32 : decode cX11_init 32 = .ok (.newarray .int, 2) := by decide +kernel
theorem dX11_init_34 : decode cX11_init 34 = .ok (.putfield 19, 3) := by decide +kernel
theorem dX11_init_37 : decode cX11_init 37 = .ok (.aload_n 0, 1) := by decide +kernel
theorem dX11_init_38 : decode cX11_init 38 = .ok (.bipush 80, 2) := by decide +kernel
theorem dX11_init_40 : decode cX11_init 40 = .ok (.newarray .int, 2) := by decide +kernel
theorem dX11_init_42 : decode cX11_init 42 = .ok (.putfield 22, 3) := by decide +kernel
theorem dX11_init_45 : decode cX11_init 45 = .ok (.aload_n 0, 1) := by decide +kernel
theorem dX11_init_46 : decode cX11_init 46 = .ok (.bipush 80, 2) := by decide +kernel
theorem dX11_init_48 : decode cX11_init 48 = .ok (.newarray .int, 2) := by decide +kernel
theorem dX11_init_50 : decode cX11_init 50 = .ok (.putfield 25, 3) := by decide +kernel
theorem dX11_init_53 : decode cX11_init 53 = .ok (.aload_n 0, 1) := by decide +kernel
theorem dX11_init_54 : decode cX11_init 54 = .ok (.sipush 640, 3) := by decide +kernel
theorem dX11_init_57 : decode cX11_init 57 = .ok (.newarray .int, 2) := by decide +kernel
theorem dX11_init_59 : decode cX11_init 59 = .ok (.putfield 28, 3) := by decide +kernel
theorem dX11_init_62 : decode cX11_init 62 = .ok (.aload_n 0, 1) := by decide +kernel
theorem dX11_init_63 : decode cX11_init 63 = .ok (.sipush 640, 3) := by decide +kernel
theorem dX11_init_66 : decode cX11_init 66 = .ok (.newarray .int, 2) := by decide +kernel
theorem dX11_init_68 : decode cX11_init 68 = .ok (.putfield 31, 3) := by decide +kernel
theorem dX11_init_71 : decode cX11_init 71 = .ok (.aload_n 0, 1) := by decide +kernel
theorem dX11_init_72 : decode cX11_init 72 = .ok (.bipush 80, 2) := by decide +kernel
theorem dX11_init_74 : decode cX11_init 74 = .ok (.newarray .int, 2) := by decide +kernel
theorem dX11_init_76 : decode cX11_init 76 = .ok (.putfield 34, 3) := by decide +kernel
theorem dX11_init_79 : decode cX11_init 79 = .ok (.aload_n 0, 1) := by decide +kernel
theorem dX11_init_80 : decode cX11_init 80 = .ok (.bipush 80, 2) := by decide +kernel
theorem dX11_init_82 : decode cX11_init 82 = .ok (.newarray .int, 2) := by decide +kernel
theorem dX11_init_84 : decode cX11_init 84 = .ok (.putfield 37, 3) := by decide +kernel
theorem dX11_init_87 : decode cX11_init 87 = .ok (.aload_n 0, 1) := by decide +kernel
theorem dX11_init_88 : decode cX11_init 88 = .ok (.ldc 40, 2) := by decide +kernel
theorem dX11_init_90 : decode cX11_init 90 = .ok (.newarray .boolean, 2) := by decide +kernel
theorem dX11_init_92 : decode cX11_init 92 = .ok (.putfield 41, 3) := by decide +kernel
theorem dX11_init_95 : decode cX11_init 95 = .ok (.aload_n 0, 1) := by decide +kernel
theorem dX11_init_96 : decode cX11_init 96 = .ok (.bipush 8, 2) := by decide +kernel
theorem dX11_init_98 : decode cX11_init 98 = .ok (.newarray .int, 2) := by decide +kernel
theorem dX11_init_100 : decode cX11_init 100 = .ok (.putfield 45, 3) := by decide +kernel
theorem dX11_init_103 : decode cX11_init 103 = .ok (.aload_n 0, 1) := by decide +kernel
theorem dX11_init_104 : decode cX11_init 104 = .ok (.bipush 8, 2) := by decide +kernel
theorem dX11_init_106 : decode cX11_init 106 = .ok (.newarray .int, 2) := by decide +kernel
theorem dX11_init_108 : decode cX11_init 108 = .ok (.putfield 48, 3) := by decide +kernel
theorem dX11_init_111 : decode cX11_init 111 = .ok (.aload_n 0, 1) := by decide +kernel
theorem dX11_init_112 : decode cX11_init 112 = .ok (.bipush 8, 2) := by decide +kernel
theorem dX11_init_114 : decode cX11_init 114 = .ok (.newarray .boolean, 2) := by decide +kernel
theorem dX11_init_116 : decode cX11_init 116 = .ok (.putfield 51, 3) := by decide +kernel
theorem dX11_init_119 : decode cX11_init 119 = .ok (.aload_n 0, 1) := by decide +kernel
theorem dX11_init_120 : decode cX11_init 120 = .ok (.bipush 8, 2) := by decide +kernel
theorem dX11_init_122 : decode cX11_init 122 = .ok (.newarray .int, 2) := by decide +kernel
theorem dX11_init_124 : decode cX11_init 124 = .ok (.putfield 54, 3) := by decide +kernel
theorem dX11_init_127 : decode cX11_init 127 = .ok (.aload_n 0, 1) := by decide +kernel
theorem dX11_init_128 : decode cX11_init 128 = .ok (.bipush 80, 2) := by decide +kernel
theorem dX11_init_130 : decode cX11_init 130 = .ok (.newarray .boolean, 2) := by decide +kernel
theorem dX11_init_132 : decode cX11_init 132 = .ok (.putfield 57, 3) := by decide +kernel
theorem dX11_init_135 : decode cX11_init 135 = .ok (.aload_n 0, 1) := by decide +kernel
theorem dX11_init_136 : decode cX11_init 136 = .ok (.bipush 80, 2) := by decide +kernel
theorem dX11_init_138 : decode cX11_init 138 = .ok (.newarray .int, 2) := by decide +kernel
theorem dX11_init_140 : decode cX11_init 140 = .ok (.putfield 60, 3) := by decide +kernel
theorem dX11_init_143 : decode cX11_init 143 = .ok (.aload_n 0, 1) := by decide +kernel
theorem dX11_init_144 : decode cX11_init 144 = .ok (.bipush 80, 2) := by decide +kernel
theorem dX11_init_146 : decode cX11_init 146 = .ok (.newarray .boolean, 2) := by decide +kernel
theorem dX11_init_148 : decode cX11_init 148 = .ok (.putfield 63, 3) := by decide +kernel
theorem dX11_init_151 : decode cX11_init 151 = .ok (.aload_n 0, 1) := by decide +kernel
theorem dX11_init_152 : decode cX11_init 152 = .ok (.bipush 80, 2) := by decide +kernel
theorem dX11_init_154 : decode cX11_init 154 = .ok (.newarray .boolean, 2) := by decide +kernel
theorem dX11_init_156 : decode cX11_init 156 = .ok (.putfield 66, 3) := by decide +kernel
theorem dX11_init_159 : decode cX11_init 159 = .ok (.aload_n 0, 1) := by decide +kernel
theorem dX11_init_160 : decode cX11_init 160 = .ok (.bipush 80, 2) := by decide +kernel
theorem dX11_init_162 : decode cX11_init 162 = .ok (.newarray .int, 2) := by decide +kernel
theorem dX11_init_164 : decode cX11_init 164 = .ok (.putfield 69, 3) := by decide +kernel
theorem dX11_init_167 : decode cX11_init 167 = .ok (.aload_n 0, 1) := by decide +kernel
theorem dX11_init_168 : decode cX11_init 168 = .ok (.bipush 80, 2) := by decide +kernel
theorem dX11_init_170 : decode cX11_init 170 = .ok (.newarray .long, 2) := by decide +kernel
theorem dX11_init_172 : decode cX11_init 172 = .ok (.putfield 72, 3) := by decide +kernel
theorem dX11_init_175 : decode cX11_init 175 = .ok (.aload_n 0, 1) := by decide +kernel
theorem dX11_init_176 : decode cX11_init 176 = .ok (.sipush 640, 3) := by decide +kernel
theorem dX11_init_179 : decode cX11_init 179 = .ok (.newarray .int, 2) := by decide +kernel
theorem dX11_init_181 : decode cX11_init 181 = .ok (.putfield 76, 3) := by decide +kernel
theorem dX11_init_184 : decode cX11_init 184 = .ok (.aload_n 0, 1) := by decide +kernel
theorem dX11_init_185 : decode cX11_init 185 = .ok (.bipush 80, 2) := by decide +kernel
theorem dX11_init_187 : decode cX11_init 187 = .ok (.newarray .int, 2) := by decide +kernel
theorem dX11_init_189 : decode cX11_init 189 = .ok (.putfield 79, 3) := by decide +kernel
theorem dX11_init_192 : decode cX11_init 192 = .ok (.aload_n 0, 1) := by decide +kernel
theorem dX11_init_193 : decode cX11_init 193 = .ok (.bipush 90, 2) := by decide +kernel
theorem dX11_init_195 : decode cX11_init 195 = .ok (.newarray .int, 2) := by decide +kernel
theorem dX11_init_197 : decode cX11_init 197 = .ok (.putfield 82, 3) := by decide +kernel
theorem dX11_init_200 : decode cX11_init 200 = .ok (.aload_n 0, 1) := by decide +kernel
theorem dX11_init_201 : decode cX11_init 201 = .ok (.sipush 512, 3) := by decide +kernel
theorem dX11_init_204 : decode cX11_init 204 = .ok (.newarray .int, 2) := by decide +kernel
theorem dX11_init_206 : decode cX11_init 206 = .ok (.putfield 85, 3) := by decide +kernel
theorem dX11_init_209 : decode cX11_init 209 = .ok (.aload_n 0, 1) := by decide +kernel
theorem dX11_init_210 : decode cX11_init 210 = .ok (.sipush 512, 3) := by decide +kernel
theorem dX11_init_213 : decode cX11_init 213 = .ok (.newarray .long, 2) := by decide +kernel
theorem dX11_init_215 : decode cX11_init 215 = .ok (.putfield 88, 3) := by decide +kernel
theorem dX11_init_218 : decode cX11_init 218 = .ok (.aload_n 0, 1) := by decide +kernel
theorem dX11_init_219 : decode cX11_init 219 = .ok (.bipush 80, 2) := by decide +kernel
theorem dX11_init_221 : decode cX11_init 221 = .ok (.newarray .int, 2) := by decide +kernel
theorem dX11_init_223 : decode cX11_init 223 = .ok (.putfield 91, 3) := by decide +kernel
theorem dX11_init_226 : decode cX11_init 226 = .ok (.aload_n 0, 1) := by decide +kernel
theorem dX11_init_227 : decode cX11_init 227 = .ok (.bipush 80, 2) := by decide +kernel
theorem dX11_init_229 : decode cX11_init 229 = .ok (.newarray .int, 2) := by decide +kernel
theorem dX11_init_231 : decode cX11_init 231 = .ok (.putfield 94, 3) := by decide +kernel
theorem dX11_init_234 : decode cX11_init 234 = .ok (.aload_n 0, 1) := by decide +kernel
theorem dX11_init_235 : decode cX11_init 235 = .ok (.bipush 80, 2) := by decide +kernel
theorem dX11_init_237 : decode cX11_init 237 = .ok (.newarray .int, 2) := by decide +kernel
theorem dX11_init_239 : decode cX11_init 239 = .ok (.putfield 97, 3) := by decide +kernel
theorem dX11_init_242 : decode cX11_init 242 = .ok (.aload_n 0, 1) := by decide +kernel
theorem dX11_init_243 : decode cX11_init 243 = .ok (.bipush 80, 2) := by decide +kernel
theorem dX11_init_245 : decode cX11_init 245 = .ok (.newarray .boolean, 2) := by decide +kernel
theorem dX11_init_247 : decode cX11_init 247 = .ok (.putfield 100, 3) := by decide +kernel
theorem dX11_init_250 : decode cX11_init 250 = .ok (.iconst 0, 1) := by decide +kernel
theorem dX11_init_251 : decode cX11_init 251 = .ok (.istore_n 1, 1) := by decide +kernel
theorem dX11_init_252 : decode cX11_init 252 = .ok (.iload_n 1, 1) := by decide +kernel
theorem dX11_init_253 : decode cX11_init 253 = .ok (.sipush 8192, 3) := by decide +kernel
theorem dX11_init_256 : decode cX11_init 256 = .ok (.if_icmp .ge 16, 3) := by decide +kernel
theorem dX11_init_259 : decode cX11_init 259 = .ok (.aload_n 0, 1) := by decide +kernel
theorem dX11_init_260 : decode cX11_init 260 = .ok (.getfield 7, 3) := by decide +kernel
theorem dX11_init_263 : decode cX11_init 263 = .ok (.iload_n 1, 1) := by decide +kernel
theorem dX11_init_264 : decode cX11_init 264 = .ok (.iconst (-1), 1) := by decide +kernel
theorem dX11_init_265 : decode cX11_init 265 = .ok (.iastore, 1) := by decide +kernel
theorem dX11_init_266 : decode cX11_init 266 = .ok (.iinc 1 1, 3) := by decide +kernel
theorem dX11_init_269 : decode cX11_init 269 = .ok (.goto (-17), 3) := by decide +kernel
theorem dX11_init_272 : decode cX11_init 272 = .ok (.iconst 0, 1) := by decide +kernel
theorem dX11_init_273 : decode cX11_init 273 = .ok (.istore_n 1, 1) := by decide +kernel
theorem dX11_init_274 : decode cX11_init 274 = .ok (.iload_n 1, 1) := by decide +kernel
theorem dX11_init_275 : decode cX11_init 275 = .ok (.bipush 8, 2) := by decide +kernel
theorem dX11_init_277 : decode cX11_init 277 = .ok (.if_icmp .ge 16, 3) := by decide +kernel
theorem dX11_init_280 : decode cX11_init 280 = .ok (.aload_n 0, 1) := by decide +kernel
theorem dX11_init_281 : decode cX11_init 281 = .ok (.getfield 45, 3) := by decide +kernel
theorem dX11_init_284 : decode cX11_init 284 = .ok (.iload_n 1, 1) := by decide +kernel
theorem dX11_init_285 : decode cX11_init 285 = .ok (.iconst (-1), 1) := by decide +kernel
theorem dX11_init_286 : decode cX11_init 286 = .ok (.iastore, 1) := by decide +kernel
theorem dX11_init_287 : decode cX11_init 287 = .ok (.iinc 1 1, 3) := by decide +kernel
theorem dX11_init_290 : decode cX11_init 290 = .ok (.goto (-16), 3) := by decide +kernel
theorem dX11_init_293 : decode cX11_init 293 = .ok (.return_, 1) := by decide +kernel
theorem dX11_in_0 : decode cX11_in 0 = .ok (.iload_n 0, 1) := by decide +kernel
theorem dX11_in_1 : decode cX11_in 1 = .ok (.iload_n 1, 1) := by decide +kernel
theorem dX11_in_2 : decode cX11_in 2 = .ok (.if_icmp .lt 12, 3) := by decide +kernel
theorem dX11_in_5 : decode cX11_in 5 = .ok (.iload_n 0, 1) := by decide +kernel
theorem dX11_in_6 : decode cX11_in 6 = .ok (.iload_n 2, 1) := by decide +kernel
theorem dX11_in_7 : decode cX11_in 7 = .ok (.if_icmp .gt 7, 3) := by decide +kernel
theorem dX11_in_10 : decode cX11_in 10 = .ok (.iconst 1, 1) := by decide +kernel
end
section
theorem dX11_in_11 : decode cX11_in 11 = .ok (.goto 4, 3) := by decide +kernel
theorem dX11_in_14 : decode cX11_in 14 = .ok (.iconst 0, 1) := by decide +kernel
theorem dX11_in_15 : decode cX11_in 15 = .ok (.ireturn, 1) := by decide +kernel
theorem dX11_isObject_0 : decode cX11_isObject 0 = .ok (.iload_n 0, 1) := by decide +kernel
theorem dX11_isObject_1 : decode cX11_isObject 1 = .ok (.iconst 0, 1) := by decide +kernel
theorem dX11_isObject_2 : decode cX11_isObject 2 = .ok (.sipush 511, 3) := by decide +kernel
theorem dX11_isObject_5 : decode cX11_isObject 5 = .ok (.invokestatic 103, 3) := by decide +kernel
theorem dX11_isObject_8 : decode cX11_isObject 8 = .ok (.ireturn, 1) := by decide +kernel
theorem dX11_isNode_0 : decode cX11_isNode 0 = .ok (.iload_n 1, 1) := by decide +kernel
theorem dX11_isNode_1 : decode cX11_isNode 1 = .ok (.iconst 0, 1) := by decide +kernel
theorem dX11_isNode_2 : decode cX11_isNode 2 = .ok (.aload_n 0, 1) := by decide +kernel
theorem dX11_isNode_3 : decode cX11_isNode 3 = .ok (.getfield 107, 3) := by decide +kernel
theorem dX11_isNode_6 : decode cX11_isNode 6 = .ok (.iconst 1, 1) := by decide +kernel
theorem dX11_isNode_7 : decode cX11_isNode 7 = .ok (.isub, 1) := by decide +kernel
theorem dX11_isNode_8 : decode cX11_isNode 8 = .ok (.invokestatic 103, 3) := by decide +kernel
theorem dX11_isNode_11 : decode cX11_isNode 11 = .ok (.ireturn, 1) := by decide +kernel
theorem dX11_forget_0 : decode cX11_forget 0 = .ok (.iconst 0, 1) := by decide +kernel
theorem dX11_forget_1 : decode cX11_forget 1 = .ok (.istore_n 2, 1) := by decide +kernel
theorem dX11_forget_2 : decode cX11_forget 2 = .ok (.iload_n 2, 1) := by decide +kernel
theorem dX11_forget_3 : decode cX11_forget 3 = .ok (.aload_n 0, 1) := by decide +kernel
theorem dX11_forget_4 : decode cX11_forget 4 = .ok (.getfield 107, 3) := by decide +kernel
theorem dX11_forget_7 : decode cX11_forget 7 = .ok (.if_icmp .ge 84, 3) := by decide +kernel
theorem dX11_forget_10 : decode cX11_forget 10 = .ok (.iconst 0, 1) := by decide +kernel
theorem dX11_forget_11 : decode cX11_forget 11 = .ok (.istore_n 3, 1) := by decide +kernel
theorem dX11_forget_12 : decode cX11_forget 12 = .ok (.iconst 0, 1) := by decide +kernel
theorem dX11_forget_13 : decode cX11_forget 13 = .ok (.istore 4, 2) := by decide +kernel
theorem dX11_forget_15 : decode cX11_forget 15 = .ok (.iload 4, 2) := by decide +kernel
theorem dX11_forget_17 : decode cX11_forget 17 = .ok (.aload_n 0, 1) := by decide +kernel
theorem dX11_forget_18 : decode cX11_forget 18 = .ok (.getfield 25, 3) := by decide +kernel
theorem dX11_forget_21 : decode cX11_forget 21 = .ok (.iload_n 2, 1) := by decide +kernel
theorem dX11_forget_22 : decode cX11_forget 22 = .ok (.iaload, 1) := by decide +kernel
theorem dX11_forget_23 : decode cX11_forget 23 = .ok (.if_icmp .ge 39, 3) := by decide +kernel
theorem dX11_forget_26 : decode cX11_forget 26 = .ok (.iload_n 3, 1) := by decide +kernel
theorem dX11_forget_27 : decode cX11_forget 27 = .ok (.ifCond .ne 23, 3) := by decide +kernel
theorem dX11_forget_30 : decode cX11_forget 30 = .ok (.aload_n 0, 1) := by decide +kernel
theorem dX11_forget_31 : decode cX11_forget 31 = .ok (.getfield 57, 3) := by decide +kernel
theorem dX11_forget_34 : decode cX11_forget 34 = .ok (.aload_n 0, 1) := by decide +kernel
theorem dX11_forget_35 : decode cX11_forget 35 = .ok (.getfield 31, 3) := by decide +kernel
theorem dX11_forget_38 : decode cX11_forget 38 = .ok (.bipush 8, 2) := by decide +kernel
theorem dX11_forget_40 : decode cX11_forget 40 = .ok (.iload_n 2, 1) := by decide +kernel
theorem dX11_forget_41 : decode cX11_forget 41 = .ok (.imul, 1) := by decide +kernel
theorem dX11_forget_42 : decode cX11_forget 42 = .ok (.iload 4, 2) := by decide +kernel
theorem dX11_forget_44 : decode cX11_forget 44 = .ok (.iadd, 1) := by decide +kernel
theorem dX11_forget_45 : decode cX11_forget 45 = .ok (.iaload, 1) := by decide +kernel
theorem dX11_forget_46 : decode cX11_forget 46 = .ok (.baload, 1) := by decide +kernel
theorem dX11_forget_47 : decode cX11_forget 47 = .ok (.ifCond .eq 7, 3) := by decide +kernel
theorem dX11_forget_50 : decode cX11_forget 50 = .ok (.iconst 1, 1) := by decide +kernel
theorem dX11_forget_51 : decode cX11_forget 51 = .ok (.goto 4, 3) := by decide +kernel
theorem dX11_forget_54 : decode cX11_forget 54 = .ok (.iconst 0, 1) := by decide +kernel
theorem dX11_forget_55 : decode cX11_forget 55 = .ok (.istore_n 3, 1) := by decide +kernel
theorem dX11_forget_56 : decode cX11_forget 56 = .ok (.iinc 4 1, 3) := by decide +kernel
theorem dX11_forget_59 : decode cX11_forget 59 = .ok (.goto (-44), 3) := by decide +kernel
theorem dX11_forget_62 : decode cX11_forget 62 = .ok (.iload_n 3, 1) := by decide +kernel
theorem dX11_forget_63 : decode cX11_forget 63 = .ok (.ifCond .eq 22, 3) := by decide +kernel
theorem dX11_forget_66 : decode cX11_forget 66 = .ok (.iload_n 2, 1) := by decide +kernel
theorem dX11_forget_67 : decode cX11_forget 67 = .ok (.iload_n 1, 1) := by decide +kernel
theorem dX11_forget_68 : decode cX11_forget 68 = .ok (.if_icmp .eq 17, 3) := by decide +kernel
theorem dX11_forget_71 : decode cX11_forget 71 = .ok (.aload_n 0, 1) := by decide +kernel
theorem dX11_forget_72 : decode cX11_forget 72 = .ok (.getfield 57, 3) := by decide +kernel
theorem dX11_forget_75 : decode cX11_forget 75 = .ok (.iload_n 2, 1) := by decide +kernel
theorem dX11_forget_76 : decode cX11_forget 76 = .ok (.iconst 1, 1) := by decide +kernel
theorem dX11_forget_77 : decode cX11_forget 77 = .ok (.bastore, 1) := by decide +kernel
theorem dX11_forget_78 : decode cX11_forget 78 = .ok (.aload_n 0, 1) := by decide +kernel
theorem dX11_forget_79 : decode cX11_forget 79 = .ok (.getfield 37, 3) := by decide +kernel
theorem dX11_forget_82 : decode cX11_forget 82 = .ok (.iload_n 2, 1) := by decide +kernel
theorem dX11_forget_83 : decode cX11_forget 83 = .ok (.iconst (-1), 1) := by decide +kernel
theorem dX11_forget_84 : decode cX11_forget 84 = .ok (.iastore, 1) := by decide +kernel
theorem dX11_forget_85 : decode cX11_forget 85 = .ok (.iinc 2 1, 3) := by decide +kernel
theorem dX11_forget_88 : decode cX11_forget 88 = .ok (.goto (-86), 3) := by decide +kernel
theorem dX11_forget_91 : decode cX11_forget 91 = .ok (.return_, 1) := by decide +kernel
theorem dX11_change_0 : decode cX11_change 0 = .ok (.iconst 0, 1) := by decide +kernel
theorem dX11_change_1 : decode cX11_change 1 = .ok (.istore_n 2, 1) := by decide +kernel
theorem dX11_change_2 : decode cX11_change 2 = .ok (.iload_n 2, 1) := by decide +kernel
theorem dX11_change_3 : decode cX11_change 3 = .ok (.aload_n 0, 1) := by decide +kernel
theorem dX11_change_4 : decode cX11_change 4 = .ok (.getfield 107, 3) := by decide +kernel
theorem dX11_change_7 : decode cX11_change 7 = .ok (.if_icmp .ge 39, 3) := by decide +kernel
theorem dX11_change_10 : decode cX11_change 10 = .ok (.aload_n 0, 1) := by decide +kernel
theorem dX11_change_11 : decode cX11_change 11 = .ok (.getfield 57, 3) := by decide +kernel
theorem dX11_change_14 : decode cX11_change 14 = .ok (.iload_n 2, 1) := by decide +kernel
theorem dX11_change_15 : decode cX11_change 15 = .ok (.aload_n 0, 1) := by decide +kernel
theorem dX11_change_16 : decode cX11_change 16 = .ok (.getfield 16, 3) := by decide +kernel
theorem dX11_change_19 : decode cX11_change 19 = .ok (.iload_n 2, 1) := by decide +kernel
theorem dX11_change_20 : decode cX11_change 20 = .ok (.iaload, 1) := by decide +kernel
theorem dX11_change_21 : decode cX11_change 21 = .ok (.ifCond .ne 17, 3) := by decide +kernel
theorem dX11_change_24 : decode cX11_change 24 = .ok (.aload_n 0, 1) := by decide +kernel
theorem dX11_change_25 : decode cX11_change 25 = .ok (.getfield 19, 3) := by decide +kernel
theorem dX11_change_28 : decode cX11_change 28 = .ok (.iload_n 2, 1) := by decide +kernel
theorem dX11_change_29 : decode cX11_change 29 = .ok (.iaload, 1) := by decide +kernel
theorem dX11_change_30 : decode cX11_change 30 = .ok (.iload_n 1, 1) := by decide +kernel
theorem dX11_change_31 : decode cX11_change 31 = .ok (.if_icmp .ne 7, 3) := by decide +kernel
theorem dX11_change_34 : decode cX11_change 34 = .ok (.iconst 1, 1) := by decide +kernel
theorem dX11_change_35 : decode cX11_change 35 = .ok (.goto 4, 3) := by decide +kernel
theorem dX11_change_38 : decode cX11_change 38 = .ok (.iconst 0, 1) := by decide +kernel
theorem dX11_change_39 : decode cX11_change 39 = .ok (.bastore, 1) := by decide +kernel
theorem dX11_change_40 : decode cX11_change 40 = .ok (.iinc 2 1, 3) := by decide +kernel
theorem dX11_change_43 : decode cX11_change 43 = .ok (.goto (-41), 3) := by decide +kernel
theorem dX11_change_46 : decode cX11_change 46 = .ok (.aload_n 0, 1) := by decide +kernel
theorem dX11_change_47 : decode cX11_change 47 = .ok (.iconst (-1), 1) := by decide +kernel
theorem dX11_change_48 : decode cX11_change 48 = .ok (.invokevirtual 111, 3) := by decide +kernel
theorem dX11_change_51 : decode cX11_change 51 = .ok (.return_, 1) := by decide +kernel
theorem dX11_put_0 : decode cX11_put 0 = .ok (.iload_n 1, 1) := by decide +kernel
theorem dX11_put_1 : decode cX11_put 1 = .ok (.iconst 0, 1) := by decide +kernel
theorem dX11_put_2 : decode cX11_put 2 = .ok (.bipush 15, 2) := by decide +kernel
theorem dX11_put_4 : decode cX11_put 4 = .ok (.invokestatic 103, 3) := by decide +kernel
theorem dX11_put_7 : decode cX11_put 7 = .ok (.ifCond .eq 20, 3) := by decide +kernel
theorem dX11_put_10 : decode cX11_put 10 = .ok (.iload_n 2, 1) := by decide +kernel
theorem dX11_put_11 : decode cX11_put 11 = .ok (.invokestatic 115, 3) := by decide +kernel
theorem dX11_put_14 : decode cX11_put 14 = .ok (.ifCond .eq 13, 3) := by decide +kernel
theorem dX11_put_17 : decode cX11_put 17 = .ok (.iload_n 3, 1) := by decide +kernel
theorem dX11_put_18 : decode cX11_put 18 = .ok (.iconst 0, 1) := by decide +kernel
theorem dX11_put_19 : decode cX11_put 19 = .ok (.ldc 119, 2) := by decide +kernel
theorem dX11_put_21 : decode cX11_put 21 = .ok (.invokestatic 103, 3) := by decide +kernel
theorem dX11_put_24 : decode cX11_put 24 = .ok (.ifCond .ne 6, 3) := by decide +kernel
theorem dX11_put_27 : decode cX11_put 27 = .ok (.bipush (-2), 2) := by decide +kernel
theorem dX11_put_29 : decode cX11_put 29 = .ok (.ireturn, 1) := by decide +kernel
theorem dX11_put_30 : decode cX11_put 30 = .ok (.sipush 512, 3) := by decide +kernel
theorem dX11_put_33 : decode cX11_put 33 = .ok (.iload_n 1, 1) := by decide +kernel
theorem dX11_put_34 : decode cX11_put 34 = .ok (.imul, 1) := by decide +kernel
theorem dX11_put_35 : decode cX11_put 35 = .ok (.iload_n 2, 1) := by decide +kernel
theorem dX11_put_36 : decode cX11_put 36 = .ok (.iadd, 1) := by decide +kernel
theorem dX11_put_37 : decode cX11_put 37 = .ok (.istore 4, 2) := by decide +kernel
theorem dX11_put_39 : decode cX11_put 39 = .ok (.aload_n 0, 1) := by decide +kernel
theorem dX11_put_40 : decode cX11_put 40 = .ok (.getfield 7, 3) := by decide +kernel
theorem dX11_put_43 : decode cX11_put 43 = .ok (.iload 4, 2) := by decide +kernel
theorem dX11_put_45 : decode cX11_put 45 = .ok (.iaload, 1) := by decide +kernel
theorem dX11_put_46 : decode cX11_put 46 = .ok (.iconst (-1), 1) := by decide +kernel
theorem dX11_put_47 : decode cX11_put 47 = .ok (.if_icmp .ne 17, 3) := by decide +kernel
theorem dX11_put_50 : decode cX11_put 50 = .ok (.aload_n 0, 1) := by decide +kernel
theorem dX11_put_51 : decode cX11_put 51 = .ok (.getfield 13, 3) := by decide +kernel
theorem dX11_put_54 : decode cX11_put 54 = .ok (.iload_n 1, 1) := by decide +kernel
theorem dX11_put_55 : decode cX11_put 55 = .ok (.iaload, 1) := by decide +kernel
theorem dX11_put_56 : decode cX11_put 56 = .ok (.bipush 60, 2) := by decide +kernel
theorem dX11_put_58 : decode cX11_put 58 = .ok (.if_icmp .ne 6, 3) := by decide +kernel
theorem dX11_put_61 : decode cX11_put 61 = .ok (.bipush (-3), 2) := by decide +kernel
theorem dX11_put_63 : decode cX11_put 63 = .ok (.ireturn, 1) := by decide +kernel
theorem dX11_put_64 : decode cX11_put 64 = .ok (.aload_n 0, 1) := by decide +kernel
theorem dX11_put_65 : decode cX11_put 65 = .ok (.getfield 13, 3) := by decide +kernel
theorem dX11_put_68 : decode cX11_put 68 = .ok (.iload_n 1, 1) := by decide +kernel
theorem dX11_put_69 : decode cX11_put 69 = .ok (.dup2, 1) := by decide +kernel
theorem dX11_put_70 : decode cX11_put 70 = .ok (.iaload, 1) := by decide +kernel
theorem dX11_put_71 : decode cX11_put 71 = .ok (.aload_n 0, 1) := by decide +kernel
theorem dX11_put_72 : decode cX11_put 72 = .ok (.getfield 7, 3) := by decide +kernel
theorem dX11_put_75 : decode cX11_put 75 = .ok (.iload 4, 2) := by decide +kernel
theorem dX11_put_77 : decode cX11_put 77 = .ok (.iaload, 1) := by decide +kernel
theorem dX11_put_78 : decode cX11_put 78 = .ok (.iconst (-1), 1) := by decide +kernel
theorem dX11_put_79 : decode cX11_put 79 = .ok (.if_icmp .ne 7, 3) := by decide +kernel
theorem dX11_put_82 : decode cX11_put 82 = .ok (.iconst 1, 1) := by decide +kernel
theorem dX11_put_83 : decode cX11_put 83 = .ok (.goto 4, 3) := by decide +kernel
theorem dX11_put_86 : decode cX11_put 86 = .ok (.iconst 0, 1) := by decide +kernel
theorem dX11_put_87 : decode cX11_put 87 = .ok (.iadd, 1) := by decide +kernel
theorem dX11_put_88 : decode cX11_put 88 = .ok (.iastore, 1) := by decide +kernel
theorem dX11_put_89 : decode cX11_put 89 = .ok (.aload_n 0, 1) := by decide +kernel
theorem dX11_put_90 : decode cX11_put 90 = .ok (.getfield 7, 3) := by decide +kernel
theorem dX11_put_93 : decode cX11_put 93 = .ok (.iload 4, 2) := by decide +kernel
theorem dX11_put_95 : decode cX11_put 95 = .ok (.iload_n 3, 1) := by decide +kernel
theorem dX11_put_96 : decode cX11_put 96 = .ok (.iastore, 1) := by decide +kernel
theorem dX11_put_97 : decode cX11_put 97 = .ok (.aload_n 0, 1) := by decide +kernel
theorem dX11_put_98 : decode cX11_put 98 = .ok (.iload_n 1, 1) := by decide +kernel
theorem dX11_put_99 : decode cX11_put 99 = .ok (.invokevirtual 120, 3) := by decide +kernel
theorem dX11_put_102 : decode cX11_put 102 = .ok (.aload_n 0, 1) := by decide +kernel
theorem dX11_put_103 : decode cX11_put 103 = .ok (.getfield 13, 3) := by decide +kernel
theorem dX11_put_106 : decode cX11_put 106 = .ok (.iload_n 1, 1) := by decide +kernel
theorem dX11_put_107 : decode cX11_put 107 = .ok (.iaload, 1) := by decide +kernel
theorem dX11_put_108 : decode cX11_put 108 = .ok (.ireturn, 1) := by decide +kernel
theorem dX11_take_0 : decode cX11_take 0 = .ok (.iload_n 1, 1) := by decide +kernel
theorem dX11_take_1 : decode cX11_take 1 = .ok (.iconst 0, 1) := by decide +kernel
theorem dX11_take_2 : decode cX11_take 2 = .ok (.bipush 15, 2) := by decide +kernel
theorem dX11_take_4 : decode cX11_take 4 = .ok (.invokestatic 103, 3) := by decide +kernel
theorem dX11_take_7 : decode cX11_take 7 = .ok (.ifCond .eq 10, 3) := by decide +kernel
theorem dX11_take_10 : decode cX11_take 10 = .ok (.iload_n 2, 1) := by decide +kernel
theorem dX11_take_11 : decode cX11_take 11 = .ok (.invokestatic 115, 3) := by decide +kernel
theorem dX11_take_14 : decode cX11_take 14 = .ok (.ifCond .ne 6, 3) := by decide +kernel
theorem dX11_take_17 : decode cX11_take 17 = .ok (.bipush (-2), 2) := by decide +kernel
theorem dX11_take_19 : decode cX11_take 19 = .ok (.ireturn, 1) := by decide +kernel
theorem dX11_take_20 : decode cX11_take 20 = .ok (.sipush 512, 3) := by decide +kernel
theorem dX11_take_23 : decode cX11_take 23 = .ok (.iload_n 1, 1) := by decide +kernel
theorem dX11_take_24 : decode cX11_take 24 = .ok (.imul, 1) := by decide +kernel
theorem dX11_take_25 : decode cX11_take 25 = .ok (.iload_n 2, 1) := by decide +kernel
theorem dX11_take_26 : decode cX11_take 26 = .ok (.iadd, 1) := by decide +kernel
theorem dX11_take_27 : decode cX11_take 27 = .ok (.istore_n 3, 1) := by decide +kernel
theorem dX11_take_28 : decode cX11_take 28 = .ok (.aload_n 0, 1) := by decide +kernel
theorem dX11_take_29 : decode cX11_take 29 = .ok (.getfield 7, 3) := by decide +kernel
theorem dX11_take_32 : decode cX11_take 32 = .ok (.iload_n 3, 1) := by decide +kernel
theorem dX11_take_33 : decode cX11_take 33 = .ok (.iaload, 1) := by decide +kernel
theorem dX11_take_34 : decode cX11_take 34 = .ok (.istore 4, 2) := by decide +kernel
theorem dX11_take_36 : decode cX11_take 36 = .ok (.iload 4, 2) := by decide +kernel
theorem dX11_take_38 : decode cX11_take 38 = .ok (.iconst (-1), 1) := by decide +kernel
theorem dX11_take_39 : decode cX11_take 39 = .ok (.if_icmp .ne 6, 3) := by decide +kernel
theorem dX11_take_42 : decode cX11_take 42 = .ok (.bipush (-4), 2) := by decide +kernel
theorem dX11_take_44 : decode cX11_take 44 = .ok (.ireturn, 1) := by decide +kernel
theorem dX11_take_45 : decode cX11_take 45 = .ok (.aload_n 0, 1) := by decide +kernel
theorem dX11_take_46 : decode cX11_take 46 = .ok (.getfield 7, 3) := by decide +kernel
theorem dX11_take_49 : decode cX11_take 49 = .ok (.iload_n 3, 1) := by decide +kernel
theorem dX11_take_50 : decode cX11_take 50 = .ok (.iconst (-1), 1) := by decide +kernel
theorem dX11_take_51 : decode cX11_take 51 = .ok (.iastore, 1) := by decide +kernel
theorem dX11_take_52 : decode cX11_take 52 = .ok (.aload_n 0, 1) := by decide +kernel
theorem dX11_take_53 : decode cX11_take 53 = .ok (.getfield 13, 3) := by decide +kernel
theorem dX11_take_56 : decode cX11_take 56 = .ok (.iload_n 1, 1) := by decide +kernel
theorem dX11_take_57 : decode cX11_take 57 = .ok (.dup2, 1) := by decide +kernel
theorem dX11_take_58 : decode cX11_take 58 = .ok (.iaload, 1) := by decide +kernel
theorem dX11_take_59 : decode cX11_take 59 = .ok (.iconst 1, 1) := by decide +kernel
theorem dX11_take_60 : decode cX11_take 60 = .ok (.isub, 1) := by decide +kernel
theorem dX11_take_61 : decode cX11_take 61 = .ok (.iastore, 1) := by decide +kernel
theorem dX11_take_62 : decode cX11_take 62 = .ok (.aload_n 0, 1) := by decide +kernel
theorem dX11_take_63 : decode cX11_take 63 = .ok (.iload_n 1, 1) := by decide +kernel
theorem dX11_take_64 : decode cX11_take 64 = .ok (.invokevirtual 120, 3) := by decide +kernel
theorem dX11_take_67 : decode cX11_take 67 = .ok (.iload 4, 2) := by decide +kernel
theorem dX11_take_69 : decode cX11_take 69 = .ok (.ireturn, 1) := by decide +kernel
theorem dX11_isToldSo_0 : decode cX11_isToldSo 0 = .ok (.iload_n 1, 1) := by decide +kernel
theorem dX11_isToldSo_1 : decode cX11_isToldSo 1 = .ok (.tableswitch 164 0 7 #[47, 55, 80, 88, 96, 120, 156, 162], 47) := by decide +kernel
theorem dX11_isToldSo_48 : decode cX11_isToldSo 48 = .ok (.iload_n 2, 1) := by decide +kernel
theorem dX11_isToldSo_49 : decode cX11_isToldSo 49 = .ok (.iconst 0, 1) := by decide +kernel
theorem dX11_isToldSo_50 : decode cX11_isToldSo 50 = .ok (.bipush 15, 2) := by decide +kernel
theorem dX11_isToldSo_52 : decode cX11_isToldSo 52 = .ok (.invokestatic 103, 3) := by decide +kernel
theorem dX11_isToldSo_55 : decode cX11_isToldSo 55 = .ok (.ireturn, 1) := by decide +kernel
theorem dX11_isToldSo_56 : decode cX11_isToldSo 56 = .ok (.iload_n 2, 1) := by decide +kernel
theorem dX11_isToldSo_57 : decode cX11_isToldSo 57 = .ok (.invokestatic 115, 3) := by decide +kernel
theorem dX11_isToldSo_60 : decode cX11_isToldSo 60 = .ok (.ifCond .eq 19, 3) := by decide +kernel
theorem dX11_isToldSo_63 : decode cX11_isToldSo 63 = .ok (.iload_n 3, 1) := by decide +kernel
theorem dX11_isToldSo_64 : decode cX11_isToldSo 64 = .ok (.invokestatic 115, 3) := by decide +kernel
theorem dX11_isToldSo_67 : decode cX11_isToldSo 67 = .ok (.ifCond .eq 12, 3) := by decide +kernel
theorem dX11_isToldSo_70 : decode cX11_isToldSo 70 = .ok (.iload_n 2, 1) := by decide +kernel
theorem dX11_isToldSo_71 : decode cX11_isToldSo 71 = .ok (.iload_n 3, 1) := by decide +kernel
theorem dX11_isToldSo_72 : decode cX11_isToldSo 72 = .ok (.if_icmp .gt 7, 3) := by decide +kernel
theorem dX11_isToldSo_75 : decode cX11_isToldSo 75 = .ok (.iconst 1, 1) := by decide +kernel
theorem dX11_isToldSo_76 : decode cX11_isToldSo 76 = .ok (.goto 4, 3) := by decide +kernel
theorem dX11_isToldSo_79 : decode cX11_isToldSo 79 = .ok (.iconst 0, 1) := by decide +kernel
theorem dX11_isToldSo_80 : decode cX11_isToldSo 80 = .ok (.ireturn, 1) := by decide +kernel
theorem dX11_isToldSo_81 : decode cX11_isToldSo 81 = .ok (.iload_n 2, 1) := by decide +kernel
theorem dX11_isToldSo_82 : decode cX11_isToldSo 82 = .ok (.iconst 0, 1) := by decide +kernel
theorem dX11_isToldSo_83 : decode cX11_isToldSo 83 = .ok (.bipush 8, 2) := by decide +kernel
theorem dX11_isToldSo_85 : decode cX11_isToldSo 85 = .ok (.invokestatic 103, 3) := by decide +kernel
theorem dX11_isToldSo_88 : decode cX11_isToldSo 88 = .ok (.ireturn, 1) := by decide +kernel
theorem dX11_isToldSo_89 : decode cX11_isToldSo 89 = .ok (.iload_n 2, 1) := by decide +kernel
theorem dX11_isToldSo_90 : decode cX11_isToldSo 90 = .ok (.iconst 0, 1) := by decide +kernel
theorem dX11_isToldSo_91 : decode cX11_isToldSo 91 = .ok (.bipush 100, 2) := by decide +kernel
theorem dX11_isToldSo_93 : decode cX11_isToldSo 93 = .ok (.invokestatic 103, 3) := by decide +kernel
theorem dX11_isToldSo_96 : decode cX11_isToldSo 96 = .ok (.ireturn, 1) := by decide +kernel
theorem dX11_isToldSo_97 : decode cX11_isToldSo 97 = .ok (.aload_n 0, 1) := by decide +kernel
theorem dX11_isToldSo_98 : decode cX11_isToldSo 98 = .ok (.iload_n 2, 1) := by decide +kernel
theorem dX11_isToldSo_99 : decode cX11_isToldSo 99 = .ok (.invokevirtual 123, 3) := by decide +kernel
theorem dX11_isToldSo_102 : decode cX11_isToldSo 102 = .ok (.ifCond .eq 17, 3) := by decide +kernel
theorem dX11_isToldSo_105 : decode cX11_isToldSo 105 = .ok (.iload_n 3, 1) := by decide +kernel
theorem dX11_isToldSo_106 : decode cX11_isToldSo 106 = .ok (.iconst 0, 1) := by decide +kernel
theorem dX11_isToldSo_107 : decode cX11_isToldSo 107 = .ok (.ldc 119, 2) := by decide +kernel
theorem dX11_isToldSo_109 : decode cX11_isToldSo 109 = .ok (.invokestatic 103, 3) := by decide +kernel
theorem dX11_isToldSo_112 : decode cX11_isToldSo 112 = .ok (.ifCond .eq 7, 3) := by decide +kernel
theorem dX11_isToldSo_115 : decode cX11_isToldSo 115 = .ok (.iconst 1, 1) := by decide +kernel
theorem dX11_isToldSo_116 : decode cX11_isToldSo 116 = .ok (.goto 4, 3) := by decide +kernel
theorem dX11_isToldSo_119 : decode cX11_isToldSo 119 = .ok (.iconst 0, 1) := by decide +kernel
theorem dX11_isToldSo_120 : decode cX11_isToldSo 120 = .ok (.ireturn, 1) := by decide +kernel
theorem dX11_isToldSo_121 : decode cX11_isToldSo 121 = .ok (.aload_n 0, 1) := by decide +kernel
theorem dX11_isToldSo_122 : decode cX11_isToldSo 122 = .ok (.iload_n 2, 1) := by decide +kernel
theorem dX11_isToldSo_123 : decode cX11_isToldSo 123 = .ok (.invokevirtual 123, 3) := by decide +kernel
theorem dX11_isToldSo_126 : decode cX11_isToldSo 126 = .ok (.ifCond .eq 29, 3) := by decide +kernel
theorem dX11_isToldSo_129 : decode cX11_isToldSo 129 = .ok (.iload_n 3, 1) := by decide +kernel
theorem dX11_isToldSo_130 : decode cX11_isToldSo 130 = .ok (.iconst 0, 1) := by decide +kernel
theorem dX11_isToldSo_131 : decode cX11_isToldSo 131 = .ok (.ldc 126, 2) := by decide +kernel
theorem dX11_isToldSo_133 : decode cX11_isToldSo 133 = .ok (.invokestatic 103, 3) := by decide +kernel
theorem dX11_isToldSo_136 : decode cX11_isToldSo 136 = .ok (.ifCond .eq 19, 3) := by decide +kernel
theorem dX11_isToldSo_139 : decode cX11_isToldSo 139 = .ok (.iload_n 3, 1) := by decide +kernel
theorem dX11_isToldSo_140 : decode cX11_isToldSo 140 = .ok (.sipush 1000, 3) := by decide +kernel
theorem dX11_isToldSo_143 : decode cX11_isToldSo 143 = .ok (.idiv, 1) := by decide +kernel
theorem dX11_isToldSo_144 : decode cX11_isToldSo 144 = .ok (.sipush 1000, 3) := by decide +kernel
theorem dX11_isToldSo_147 : decode cX11_isToldSo 147 = .ok (.irem, 1) := by decide +kernel
theorem dX11_isToldSo_148 : decode cX11_isToldSo 148 = .ok (.ifCond .le 7, 3) := by decide +kernel
theorem dX11_isToldSo_151 : decode cX11_isToldSo 151 = .ok (.iconst 1, 1) := by decide +kernel
theorem dX11_isToldSo_152 : decode cX11_isToldSo 152 = .ok (.goto 4, 3) := by decide +kernel
theorem dX11_isToldSo_155 : decode cX11_isToldSo 155 = .ok (.iconst 0, 1) := by decide +kernel
theorem dX11_isToldSo_156 : decode cX11_isToldSo 156 = .ok (.ireturn, 1) := by decide +kernel
theorem dX11_isToldSo_157 : decode cX11_isToldSo 157 = .ok (.aload_n 0, 1) := by decide +kernel
theorem dX11_isToldSo_158 : decode cX11_isToldSo 158 = .ok (.iload_n 2, 1) := by decide +kernel
theorem dX11_isToldSo_159 : decode cX11_isToldSo 159 = .ok (.invokevirtual 123, 3) := by decide +kernel
theorem dX11_isToldSo_162 : decode cX11_isToldSo 162 = .ok (.ireturn, 1) := by decide +kernel
theorem dX11_isToldSo_163 : decode cX11_isToldSo 163 = .ok (.iconst 1, 1) := by decide +kernel
theorem dX11_isToldSo_164 : decode cX11_isToldSo 164 = .ok (.ireturn, 1) := by decide +kernel
theorem dX11_isToldSo_165 : decode cX11_isToldSo 165 = .ok (.iconst 0, 1) := by decide +kernel
theorem dX11_isToldSo_166 : decode cX11_isToldSo 166 = .ok (.ireturn, 1) := by decide +kernel
theorem dX11_make_0 : decode cX11_make 0 = .ok (.aload_n 0, 1) := by decide +kernel
theorem dX11_make_1 : decode cX11_make 1 = .ok (.getfield 16, 3) := by decide +kernel
theorem dX11_make_4 : decode cX11_make 4 = .ok (.aload_n 0, 1) := by decide +kernel
theorem dX11_make_5 : decode cX11_make 5 = .ok (.getfield 107, 3) := by decide +kernel
theorem dX11_make_8 : decode cX11_make 8 = .ok (.iload_n 1, 1) := by decide +kernel
theorem dX11_make_9 : decode cX11_make 9 = .ok (.iastore, 1) := by decide +kernel
theorem dX11_make_10 : decode cX11_make 10 = .ok (.aload_n 0, 1) := by decide +kernel
theorem dX11_make_11 : decode cX11_make 11 = .ok (.getfield 19, 3) := by decide +kernel
theorem dX11_make_14 : decode cX11_make 14 = .ok (.aload_n 0, 1) := by decide +kernel
theorem dX11_make_15 : decode cX11_make 15 = .ok (.getfield 107, 3) := by decide +kernel
theorem dX11_make_18 : decode cX11_make 18 = .ok (.iload_n 2, 1) := by decide +kernel
theorem dX11_make_19 : decode cX11_make 19 = .ok (.iastore, 1) := by decide +kernel
theorem dX11_make_20 : decode cX11_make 20 = .ok (.aload_n 0, 1) := by decide +kernel
theorem dX11_make_21 : decode cX11_make 21 = .ok (.getfield 22, 3) := by decide +kernel
theorem dX11_make_24 : decode cX11_make 24 = .ok (.aload_n 0, 1) := by decide +kernel
theorem dX11_make_25 : decode cX11_make 25 = .ok (.getfield 107, 3) := by decide +kernel
theorem dX11_make_28 : decode cX11_make 28 = .ok (.iload_n 3, 1) := by decide +kernel
theorem dX11_make_29 : decode cX11_make 29 = .ok (.iastore, 1) := by decide +kernel
theorem dX11_make_30 : decode cX11_make 30 = .ok (.aload_n 0, 1) := by decide +kernel
theorem dX11_make_31 : decode cX11_make 31 = .ok (.getfield 25, 3) := by decide +kernel
theorem dX11_make_34 : decode cX11_make 34 = .ok (.aload_n 0, 1) := by decide +kernel
theorem dX11_make_35 : decode cX11_make 35 = .ok (.getfield 107, 3) := by decide +kernel
theorem dX11_make_38 : decode cX11_make 38 = .ok (.iload_n 1, 1) := by decide +kernel
theorem dX11_make_39 : decode cX11_make 39 = .ok (.iconst 4, 1) := by decide +kernel
theorem dX11_make_40 : decode cX11_make 40 = .ok (.if_icmp .eq 14, 3) := by decide +kernel
theorem dX11_make_43 : decode cX11_make 43 = .ok (.iload_n 1, 1) := by decide +kernel
theorem dX11_make_44 : decode cX11_make 44 = .ok (.iconst 5, 1) := by decide +kernel
theorem dX11_make_45 : decode cX11_make 45 = .ok (.if_icmp .eq 9, 3) := by decide +kernel
theorem dX11_make_48 : decode cX11_make 48 = .ok (.iload_n 1, 1) := by decide +kernel
theorem dX11_make_49 : decode cX11_make 49 = .ok (.bipush 6, 2) := by decide +kernel
theorem dX11_make_51 : decode cX11_make 51 = .ok (.if_icmp .ne 7, 3) := by decide +kernel
theorem dX11_make_54 : decode cX11_make 54 = .ok (.iconst 1, 1) := by decide +kernel
theorem dX11_make_55 : decode cX11_make 55 = .ok (.goto 4, 3) := by decide +kernel
theorem dX11_make_58 : decode cX11_make 58 = .ok (.iconst 0, 1) := by decide +kernel
theorem dX11_make_59 : decode cX11_make 59 = .ok (.iastore, 1) := by decide +kernel
theorem dX11_make_60 : decode cX11_make 60 = .ok (.aload_n 0, 1) := by decide +kernel
theorem dX11_make_61 : decode cX11_make 61 = .ok (.getfield 28, 3) := by decide +kernel
theorem dX11_make_64 : decode cX11_make 64 = .ok (.bipush 8, 2) := by decide +kernel
theorem dX11_make_66 : decode cX11_make 66 = .ok (.aload_n 0, 1) := by decide +kernel
theorem dX11_make_67 : decode cX11_make 67 = .ok (.getfield 107, 3) := by decide +kernel
theorem dX11_make_70 : decode cX11_make 70 = .ok (.imul, 1) := by decide +kernel
theorem dX11_make_71 : decode cX11_make 71 = .ok (.iconst 0, 1) := by decide +kernel
theorem dX11_make_72 : decode cX11_make 72 = .ok (.iastore, 1) := by decide +kernel
theorem dX11_make_73 : decode cX11_make 73 = .ok (.aload_n 0, 1) := by decide +kernel
theorem dX11_make_74 : decode cX11_make 74 = .ok (.getfield 31, 3) := by decide +kernel
theorem dX11_make_77 : decode cX11_make 77 = .ok (.bipush 8, 2) := by decide +kernel
theorem dX11_make_79 : decode cX11_make 79 = .ok (.aload_n 0, 1) := by decide +kernel
theorem dX11_make_80 : decode cX11_make 80 = .ok (.getfield 107, 3) := by decide +kernel
theorem dX11_make_83 : decode cX11_make 83 = .ok (.imul, 1) := by decide +kernel
theorem dX11_make_84 : decode cX11_make 84 = .ok (.iload_n 2, 1) := by decide +kernel
theorem dX11_make_85 : decode cX11_make 85 = .ok (.iastore, 1) := by decide +kernel
theorem dX11_make_86 : decode cX11_make 86 = .ok (.aload_n 0, 1) := by decide +kernel
theorem dX11_make_87 : decode cX11_make 87 = .ok (.getfield 34, 3) := by decide +kernel
theorem dX11_make_90 : decode cX11_make 90 = .ok (.aload_n 0, 1) := by decide +kernel
theorem dX11_make_91 : decode cX11_make 91 = .ok (.getfield 107, 3) := by decide +kernel
theorem dX11_make_94 : decode cX11_make 94 = .ok (.iconst 0, 1) := by decide +kernel
theorem dX11_make_95 : decode cX11_make 95 = .ok (.iastore, 1) := by decide +kernel
theorem dX11_make_96 : decode cX11_make 96 = .ok (.aload_n 0, 1) := by decide +kernel
theorem dX11_make_97 : decode cX11_make 97 = .ok (.getfield 37, 3) := by decide +kernel
theorem dX11_make_100 : decode cX11_make 100 = .ok (.aload_n 0, 1) := by decide +kernel
theorem dX11_make_101 : decode cX11_make 101 = .ok (.getfield 107, 3) := by decide +kernel
theorem dX11_make_104 : decode cX11_make 104 = .ok (.iconst (-1), 1) := by decide +kernel
theorem dX11_make_105 : decode cX11_make 105 = .ok (.iastore, 1) := by decide +kernel
theorem dX11_make_106 : decode cX11_make 106 = .ok (.aload_n 0, 1) := by decide +kernel
theorem dX11_make_107 : decode cX11_make 107 = .ok (.dup, 1) := by decide +kernel
theorem dX11_make_108 : decode cX11_make 108 = .ok (.getfield 107, 3) := by decide +kernel
theorem dX11_make_111 : decode cX11_make 111 = .ok (.iconst 1, 1) := by decide +kernel
theorem dX11_make_112 : decode cX11_make 112 = .ok (.iadd, 1) := by decide +kernel
theorem dX11_make_113 : decode cX11_make 113 = .ok (.putfield 107, 3) := by decide +kernel
theorem dX11_make_116 : decode cX11_make 116 = .ok (.return_, 1) := by decide +kernel
theorem dX11_node_0 : decode cX11_node 0 = .ok (.aload_n 0, 1) := by decide +kernel
theorem dX11_node_1 : decode cX11_node 1 = .ok (.iload_n 1, 1) := by decide +kernel
theorem dX11_node_2 : decode cX11_node 2 = .ok (.iload_n 2, 1) := by decide +kernel
theorem dX11_node_3 : decode cX11_node 3 = .ok (.iload_n 3, 1) := by decide +kernel
theorem dX11_node_4 : decode cX11_node 4 = .ok (.invokevirtual 127, 3) := by decide +kernel
theorem dX11_node_7 : decode cX11_node 7 = .ok (.ifCond .ne 6, 3) := by decide +kernel
theorem dX11_node_10 : decode cX11_node 10 = .ok (.bipush (-2), 2) := by decide +kernel
theorem dX11_node_12 : decode cX11_node 12 = .ok (.ireturn, 1) := by decide +kernel
theorem dX11_node_13 : decode cX11_node 13 = .ok (.aload_n 0, 1) := by decide +kernel
theorem dX11_node_14 : decode cX11_node 14 = .ok (.getfield 107, 3) := by decide +kernel
theorem dX11_node_17 : decode cX11_node 17 = .ok (.bipush 80, 2) := by decide +kernel
theorem dX11_node_19 : decode cX11_node 19 = .ok (.if_icmp .ne 6, 3) := by decide +kernel
theorem dX11_node_22 : decode cX11_node 22 = .ok (.bipush (-3), 2) := by decide +kernel
theorem dX11_node_24 : decode cX11_node 24 = .ok (.ireturn, 1) := by decide +kernel
theorem dX11_node_25 : decode cX11_node 25 = .ok (.iload_n 1, 1) := by decide +kernel
theorem dX11_node_26 : decode cX11_node 26 = .ok (.iconst 1, 1) := by decide +kernel
theorem dX11_node_27 : decode cX11_node 27 = .ok (.if_icmp .eq 13, 3) := by decide +kernel
theorem dX11_node_30 : decode cX11_node 30 = .ok (.iload_n 1, 1) := by decide +kernel
theorem dX11_node_31 : decode cX11_node 31 = .ok (.iconst 4, 1) := by decide +kernel
theorem dX11_node_32 : decode cX11_node 32 = .ok (.if_icmp .eq 8, 3) := by decide +kernel
theorem dX11_node_35 : decode cX11_node 35 = .ok (.iload_n 1, 1) := by decide +kernel
theorem dX11_node_36 : decode cX11_node 36 = .ok (.iconst 5, 1) := by decide +kernel
theorem dX11_node_37 : decode cX11_node 37 = .ok (.if_icmp .ne 7, 3) := by decide +kernel
theorem dX11_node_40 : decode cX11_node 40 = .ok (.iconst 1, 1) := by decide +kernel
theorem dX11_node_41 : decode cX11_node 41 = .ok (.goto 4, 3) := by decide +kernel
theorem dX11_node_44 : decode cX11_node 44 = .ok (.iconst 0, 1) := by decide +kernel
theorem dX11_node_45 : decode cX11_node 45 = .ok (.istore 4, 2) := by decide +kernel
theorem dX11_node_47 : decode cX11_node 47 = .ok (.aload_n 0, 1) := by decide +kernel
theorem dX11_node_48 : decode cX11_node 48 = .ok (.iload_n 1, 1) := by decide +kernel
theorem dX11_node_49 : decode cX11_node 49 = .ok (.iload_n 1, 1) := by decide +kernel
theorem dX11_node_50 : decode cX11_node 50 = .ok (.bipush 7, 2) := by decide +kernel
theorem dX11_node_52 : decode cX11_node 52 = .ok (.if_icmp .ne 7, 3) := by decide +kernel
theorem dX11_node_55 : decode cX11_node 55 = .ok (.iconst 0, 1) := by decide +kernel
theorem dX11_node_56 : decode cX11_node 56 = .ok (.goto 4, 3) := by decide +kernel
theorem dX11_node_59 : decode cX11_node 59 = .ok (.iload_n 2, 1) := by decide +kernel
theorem dX11_node_60 : decode cX11_node 60 = .ok (.iload 4, 2) := by decide +kernel
theorem dX11_node_62 : decode cX11_node 62 = .ok (.ifCond .eq 7, 3) := by decide +kernel
theorem dX11_node_65 : decode cX11_node 65 = .ok (.iload_n 3, 1) := by decide +kernel
theorem dX11_node_66 : decode cX11_node 66 = .ok (.goto 4, 3) := by decide +kernel
theorem dX11_node_69 : decode cX11_node 69 = .ok (.iconst 0, 1) := by decide +kernel
theorem dX11_node_70 : decode cX11_node 70 = .ok (.invokevirtual 130, 3) := by decide +kernel
theorem dX11_node_73 : decode cX11_node 73 = .ok (.aload_n 0, 1) := by decide +kernel
theorem dX11_node_74 : decode cX11_node 74 = .ok (.getfield 107, 3) := by decide +kernel
theorem dX11_node_77 : decode cX11_node 77 = .ok (.iconst 1, 1) := by decide +kernel
theorem dX11_node_78 : decode cX11_node 78 = .ok (.isub, 1) := by decide +kernel
theorem dX11_node_79 : decode cX11_node 79 = .ok (.ireturn, 1) := by decide +kernel
theorem dX11_part_0 : decode cX11_part 0 = .ok (.aload_n 0, 1) := by decide +kernel
theorem dX11_part_1 : decode cX11_part 1 = .ok (.iload_n 1, 1) := by decide +kernel
theorem dX11_part_2 : decode cX11_part 2 = .ok (.invokevirtual 123, 3) := by decide +kernel
theorem dX11_part_5 : decode cX11_part 5 = .ok (.ifCond .eq 57, 3) := by decide +kernel
theorem dX11_part_8 : decode cX11_part 8 = .ok (.aload_n 0, 1) := by decide +kernel
theorem dX11_part_9 : decode cX11_part 9 = .ok (.getfield 16, 3) := by decide +kernel
theorem dX11_part_12 : decode cX11_part 12 = .ok (.iload_n 1, 1) := by decide +kernel
theorem dX11_part_13 : decode cX11_part 13 = .ok (.iaload, 1) := by decide +kernel
theorem dX11_part_14 : decode cX11_part 14 = .ok (.iconst 2, 1) := by decide +kernel
theorem dX11_part_15 : decode cX11_part 15 = .ok (.if_icmp .eq 13, 3) := by decide +kernel
theorem dX11_part_18 : decode cX11_part 18 = .ok (.aload_n 0, 1) := by decide +kernel
theorem dX11_part_19 : decode cX11_part 19 = .ok (.getfield 16, 3) := by decide +kernel
theorem dX11_part_22 : decode cX11_part 22 = .ok (.iload_n 1, 1) := by decide +kernel
theorem dX11_part_23 : decode cX11_part 23 = .ok (.iaload, 1) := by decide +kernel
theorem dX11_part_24 : decode cX11_part 24 = .ok (.iconst 3, 1) := by decide +kernel
theorem dX11_part_25 : decode cX11_part 25 = .ok (.if_icmp .ne 37, 3) := by decide +kernel
theorem dX11_part_28 : decode cX11_part 28 = .ok (.iload_n 2, 1) := by decide +kernel
theorem dX11_part_29 : decode cX11_part 29 = .ok (.aload_n 0, 1) := by decide +kernel
theorem dX11_part_30 : decode cX11_part 30 = .ok (.getfield 16, 3) := by decide +kernel
theorem dX11_part_33 : decode cX11_part 33 = .ok (.iload_n 1, 1) := by decide +kernel
theorem dX11_part_34 : decode cX11_part 34 = .ok (.iaload, 1) := by decide +kernel
theorem dX11_part_35 : decode cX11_part 35 = .ok (.iconst 3, 1) := by decide +kernel
theorem dX11_part_36 : decode cX11_part 36 = .ok (.if_icmp .ne 7, 3) := by decide +kernel
theorem dX11_part_39 : decode cX11_part 39 = .ok (.iconst 3, 1) := by decide +kernel
theorem dX11_part_40 : decode cX11_part 40 = .ok (.goto 4, 3) := by decide +kernel
theorem dX11_part_43 : decode cX11_part 43 = .ok (.iconst 0, 1) := by decide +kernel
theorem dX11_part_44 : decode cX11_part 44 = .ok (.iconst 3, 1) := by decide +kernel
theorem dX11_part_45 : decode cX11_part 45 = .ok (.invokestatic 103, 3) := by decide +kernel
theorem dX11_part_48 : decode cX11_part 48 = .ok (.ifCond .eq 14, 3) := by decide +kernel
theorem dX11_part_51 : decode cX11_part 51 = .ok (.iload_n 3, 1) := by decide +kernel
theorem dX11_part_52 : decode cX11_part 52 = .ok (.iconst 0, 1) := by decide +kernel
theorem dX11_part_53 : decode cX11_part 53 = .ok (.iload_n 1, 1) := by decide +kernel
theorem dX11_part_54 : decode cX11_part 54 = .ok (.iconst 1, 1) := by decide +kernel
theorem dX11_part_55 : decode cX11_part 55 = .ok (.isub, 1) := by decide +kernel
theorem dX11_part_56 : decode cX11_part 56 = .ok (.invokestatic 103, 3) := by decide +kernel
theorem dX11_part_59 : decode cX11_part 59 = .ok (.ifCond .ne 6, 3) := by decide +kernel
theorem dX11_part_62 : decode cX11_part 62 = .ok (.bipush (-2), 2) := by decide +kernel
theorem dX11_part_64 : decode cX11_part 64 = .ok (.ireturn, 1) := by decide +kernel
theorem dX11_part_65 : decode cX11_part 65 = .ok (.aload_n 0, 1) := by decide +kernel
theorem dX11_part_66 : decode cX11_part 66 = .ok (.getfield 25, 3) := by decide +kernel
theorem dX11_part_69 : decode cX11_part 69 = .ok (.iload_n 1, 1) := by decide +kernel
theorem dX11_part_70 : decode cX11_part 70 = .ok (.iaload, 1) := by decide +kernel
theorem dX11_part_71 : decode cX11_part 71 = .ok (.bipush 8, 2) := by decide +kernel
theorem dX11_part_73 : decode cX11_part 73 = .ok (.if_icmp .ne 6, 3) := by decide +kernel
theorem dX11_part_76 : decode cX11_part 76 = .ok (.bipush (-3), 2) := by decide +kernel
theorem dX11_part_78 : decode cX11_part 78 = .ok (.ireturn, 1) := by decide +kernel
theorem dX11_part_79 : decode cX11_part 79 = .ok (.aload_n 0, 1) := by decide +kernel
theorem dX11_part_80 : decode cX11_part 80 = .ok (.getfield 28, 3) := by decide +kernel
theorem dX11_part_83 : decode cX11_part 83 = .ok (.bipush 8, 2) := by decide +kernel
theorem dX11_part_85 : decode cX11_part 85 = .ok (.iload_n 1, 1) := by decide +kernel
theorem dX11_part_86 : decode cX11_part 86 = .ok (.imul, 1) := by decide +kernel
theorem dX11_part_87 : decode cX11_part 87 = .ok (.aload_n 0, 1) := by decide +kernel
theorem dX11_part_88 : decode cX11_part 88 = .ok (.getfield 25, 3) := by decide +kernel
theorem dX11_part_91 : decode cX11_part 91 = .ok (.iload_n 1, 1) := by decide +kernel
theorem dX11_part_92 : decode cX11_part 92 = .ok (.iaload, 1) := by decide +kernel
theorem dX11_part_93 : decode cX11_part 93 = .ok (.iadd, 1) := by decide +kernel
theorem dX11_part_94 : decode cX11_part 94 = .ok (.iload_n 2, 1) := by decide +kernel
theorem dX11_part_95 : decode cX11_part 95 = .ok (.iastore, 1) := by decide +kernel
theorem dX11_part_96 : decode cX11_part 96 = .ok (.aload_n 0, 1) := by decide +kernel
theorem dX11_part_97 : decode cX11_part 97 = .ok (.getfield 31, 3) := by decide +kernel
theorem dX11_part_100 : decode cX11_part 100 = .ok (.bipush 8, 2) := by decide +kernel
theorem dX11_part_102 : decode cX11_part 102 = .ok (.iload_n 1, 1) := by decide +kernel
theorem dX11_part_103 : decode cX11_part 103 = .ok (.imul, 1) := by decide +kernel
theorem dX11_part_104 : decode cX11_part 104 = .ok (.aload_n 0, 1) := by decide +kernel
theorem dX11_part_105 : decode cX11_part 105 = .ok (.getfield 25, 3) := by decide +kernel
theorem dX11_part_108 : decode cX11_part 108 = .ok (.iload_n 1, 1) := by decide +kernel
theorem dX11_part_109 : decode cX11_part 109 = .ok (.iaload, 1) := by decide +kernel
theorem dX11_part_110 : decode cX11_part 110 = .ok (.iadd, 1) := by decide +kernel
theorem dX11_part_111 : decode cX11_part 111 = .ok (.iload_n 3, 1) := by decide +kernel
theorem dX11_part_112 : decode cX11_part 112 = .ok (.iastore, 1) := by decide +kernel
theorem dX11_part_113 : decode cX11_part 113 = .ok (.aload_n 0, 1) := by decide +kernel
theorem dX11_part_114 : decode cX11_part 114 = .ok (.getfield 25, 3) := by decide +kernel
theorem dX11_part_117 : decode cX11_part 117 = .ok (.iload_n 1, 1) := by decide +kernel
theorem dX11_part_118 : decode cX11_part 118 = .ok (.dup2, 1) := by decide +kernel
theorem dX11_part_119 : decode cX11_part 119 = .ok (.iaload, 1) := by decide +kernel
theorem dX11_part_120 : decode cX11_part 120 = .ok (.iconst 1, 1) := by decide +kernel
theorem dX11_part_121 : decode cX11_part 121 = .ok (.iadd, 1) := by decide +kernel
theorem dX11_part_122 : decode cX11_part 122 = .ok (.iastore, 1) := by decide +kernel
theorem dX11_part_123 : decode cX11_part 123 = .ok (.iconst 0, 1) := by decide +kernel
theorem dX11_part_124 : decode cX11_part 124 = .ok (.istore 4, 2) := by decide +kernel
theorem dX11_part_126 : decode cX11_part 126 = .ok (.iload 4, 2) := by decide +kernel
theorem dX11_part_128 : decode cX11_part 128 = .ok (.aload_n 0, 1) := by decide +kernel
theorem dX11_part_129 : decode cX11_part 129 = .ok (.getfield 107, 3) := by decide +kernel
theorem dX11_part_132 : decode cX11_part 132 = .ok (.if_icmp .ge 27, 3) := by decide +kernel
theorem dX11_part_135 : decode cX11_part 135 = .ok (.aload_n 0, 1) := by decide +kernel
theorem dX11_part_136 : decode cX11_part 136 = .ok (.getfield 57, 3) := by decide +kernel
theorem dX11_part_139 : decode cX11_part 139 = .ok (.iload 4, 2) := by decide +kernel
theorem dX11_part_141 : decode cX11_part 141 = .ok (.iload 4, 2) := by decide +kernel
theorem dX11_part_143 : decode cX11_part 143 = .ok (.iload_n 1, 1) := by decide +kernel
theorem dX11_part_144 : decode cX11_part 144 = .ok (.if_icmp .ne 7, 3) := by decide +kernel
theorem dX11_part_147 : decode cX11_part 147 = .ok (.iconst 1, 1) := by decide +kernel
theorem dX11_part_148 : decode cX11_part 148 = .ok (.goto 4, 3) := by decide +kernel
theorem dX11_part_151 : decode cX11_part 151 = .ok (.iconst 0, 1) := by decide +kernel
theorem dX11_part_152 : decode cX11_part 152 = .ok (.bastore, 1) := by decide +kernel
theorem dX11_part_153 : decode cX11_part 153 = .ok (.iinc 4 1, 3) := by decide +kernel
theorem dX11_part_156 : decode cX11_part 156 = .ok (.goto (-30), 3) := by decide +kernel
theorem dX11_part_159 : decode cX11_part 159 = .ok (.aload_n 0, 1) := by decide +kernel
theorem dX11_part_160 : decode cX11_part 160 = .ok (.iload_n 1, 1) := by decide +kernel
theorem dX11_part_161 : decode cX11_part 161 = .ok (.invokevirtual 111, 3) := by decide +kernel
theorem dX11_part_164 : decode cX11_part 164 = .ok (.aload_n 0, 1) := by decide +kernel
theorem dX11_part_165 : decode cX11_part 165 = .ok (.getfield 25, 3) := by decide +kernel
theorem dX11_part_168 : decode cX11_part 168 = .ok (.iload_n 1, 1) := by decide +kernel
theorem dX11_part_169 : decode cX11_part 169 = .ok (.iaload, 1) := by decide +kernel
theorem dX11_part_170 : decode cX11_part 170 = .ok (.ireturn, 1) := by decide +kernel
theorem dX11_told_0 : decode cX11_told 0 = .ok (.aload_n 0, 1) := by decide +kernel
theorem dX11_told_1 : decode cX11_told 1 = .ok (.iload_n 1, 1) := by decide +kernel
theorem dX11_told_2 : decode cX11_told 2 = .ok (.invokevirtual 123, 3) := by decide +kernel
theorem dX11_told_5 : decode cX11_told 5 = .ok (.ifCond .eq 13, 3) := by decide +kernel
theorem dX11_told_8 : decode cX11_told 8 = .ok (.iload_n 2, 1) := by decide +kernel
theorem dX11_told_9 : decode cX11_told 9 = .ok (.iconst 0, 1) := by decide +kernel
theorem dX11_told_10 : decode cX11_told 10 = .ok (.bipush 6, 2) := by decide +kernel
theorem dX11_told_12 : decode cX11_told 12 = .ok (.invokestatic 103, 3) := by decide +kernel
theorem dX11_told_15 : decode cX11_told 15 = .ok (.ifCond .ne 6, 3) := by decide +kernel
theorem dX11_told_18 : decode cX11_told 18 = .ok (.bipush (-2), 2) := by decide +kernel
theorem dX11_told_20 : decode cX11_told 20 = .ok (.ireturn, 1) := by decide +kernel
theorem dX11_told_21 : decode cX11_told 21 = .ok (.iload_n 2, 1) := by decide +kernel
theorem dX11_told_22 : decode cX11_told 22 = .ok (.iconst 4, 1) := by decide +kernel
theorem dX11_told_23 : decode cX11_told 23 = .ok (.if_icmp .ne 7, 3) := by decide +kernel
theorem dX11_told_26 : decode cX11_told 26 = .ok (.aload_n 0, 1) := by decide +kernel
theorem dX11_told_27 : decode cX11_told 27 = .ok (.invokevirtual 134, 3) := by decide +kernel
theorem dX11_told_30 : decode cX11_told 30 = .ok (.iload_n 2, 1) := by decide +kernel
theorem dX11_told_31 : decode cX11_told 31 = .ok (.ifCond .ne 12, 3) := by decide +kernel
theorem dX11_told_34 : decode cX11_told 34 = .ok (.aload_n 0, 1) := by decide +kernel
theorem dX11_told_35 : decode cX11_told 35 = .ok (.getfield 16, 3) := by decide +kernel
theorem dX11_told_38 : decode cX11_told 38 = .ok (.iload_n 1, 1) := by decide +kernel
theorem dX11_told_39 : decode cX11_told 39 = .ok (.iaload, 1) := by decide +kernel
theorem dX11_told_40 : decode cX11_told 40 = .ok (.goto 79, 3) := by decide +kernel
theorem dX11_told_43 : decode cX11_told 43 = .ok (.iload_n 2, 1) := by decide +kernel
theorem dX11_told_44 : decode cX11_told 44 = .ok (.iconst 1, 1) := by decide +kernel
theorem dX11_told_45 : decode cX11_told 45 = .ok (.if_icmp .ne 12, 3) := by decide +kernel
theorem dX11_told_48 : decode cX11_told 48 = .ok (.aload_n 0, 1) := by decide +kernel
theorem dX11_told_49 : decode cX11_told 49 = .ok (.getfield 19, 3) := by decide +kernel
theorem dX11_told_52 : decode cX11_told 52 = .ok (.iload_n 1, 1) := by decide +kernel
theorem dX11_told_53 : decode cX11_told 53 = .ok (.iaload, 1) := by decide +kernel
theorem dX11_told_54 : decode cX11_told 54 = .ok (.goto 65, 3) := by decide +kernel
theorem dX11_told_57 : decode cX11_told 57 = .ok (.iload_n 2, 1) := by decide +kernel
theorem dX11_told_58 : decode cX11_told 58 = .ok (.iconst 2, 1) := by decide +kernel
theorem dX11_told_59 : decode cX11_told 59 = .ok (.if_icmp .ne 12, 3) := by decide +kernel
theorem dX11_told_62 : decode cX11_told 62 = .ok (.aload_n 0, 1) := by decide +kernel
theorem dX11_told_63 : decode cX11_told 63 = .ok (.getfield 22, 3) := by decide +kernel
theorem dX11_told_66 : decode cX11_told 66 = .ok (.iload_n 1, 1) := by decide +kernel
theorem dX11_told_67 : decode cX11_told 67 = .ok (.iaload, 1) := by decide +kernel
theorem dX11_told_68 : decode cX11_told 68 = .ok (.goto 51, 3) := by decide +kernel
theorem dX11_told_71 : decode cX11_told 71 = .ok (.iload_n 2, 1) := by decide +kernel
theorem dX11_told_72 : decode cX11_told 72 = .ok (.iconst 3, 1) := by decide +kernel
theorem dX11_told_73 : decode cX11_told 73 = .ok (.if_icmp .ne 12, 3) := by decide +kernel
theorem dX11_told_76 : decode cX11_told 76 = .ok (.aload_n 0, 1) := by decide +kernel
theorem dX11_told_77 : decode cX11_told 77 = .ok (.getfield 25, 3) := by decide +kernel
theorem dX11_told_80 : decode cX11_told 80 = .ok (.iload_n 1, 1) := by decide +kernel
theorem dX11_told_81 : decode cX11_told 81 = .ok (.iaload, 1) := by decide +kernel
theorem dX11_told_82 : decode cX11_told 82 = .ok (.goto 37, 3) := by decide +kernel
theorem dX11_told_85 : decode cX11_told 85 = .ok (.iload_n 2, 1) := by decide +kernel
theorem dX11_told_86 : decode cX11_told 86 = .ok (.iconst 4, 1) := by decide +kernel
theorem dX11_told_87 : decode cX11_told 87 = .ok (.if_icmp .ne 12, 3) := by decide +kernel
theorem dX11_told_90 : decode cX11_told 90 = .ok (.aload_n 0, 1) := by decide +kernel
theorem dX11_told_91 : decode cX11_told 91 = .ok (.getfield 60, 3) := by decide +kernel
theorem dX11_told_94 : decode cX11_told 94 = .ok (.iload_n 1, 1) := by decide +kernel
theorem dX11_told_95 : decode cX11_told 95 = .ok (.iaload, 1) := by decide +kernel
theorem dX11_told_96 : decode cX11_told 96 = .ok (.goto 23, 3) := by decide +kernel
theorem dX11_told_99 : decode cX11_told 99 = .ok (.iload_n 2, 1) := by decide +kernel
theorem dX11_told_100 : decode cX11_told 100 = .ok (.iconst 5, 1) := by decide +kernel
theorem dX11_told_101 : decode cX11_told 101 = .ok (.if_icmp .ne 12, 3) := by decide +kernel
theorem dX11_told_104 : decode cX11_told 104 = .ok (.aload_n 0, 1) := by decide +kernel
theorem dX11_told_105 : decode cX11_told 105 = .ok (.getfield 34, 3) := by decide +kernel
theorem dX11_told_108 : decode cX11_told 108 = .ok (.iload_n 1, 1) := by decide +kernel
theorem dX11_told_109 : decode cX11_told 109 = .ok (.iaload, 1) := by decide +kernel
theorem dX11_told_110 : decode cX11_told 110 = .ok (.goto 9, 3) := by decide +kernel
theorem dX11_told_113 : decode cX11_told 113 = .ok (.aload_n 0, 1) := by decide +kernel
theorem dX11_told_114 : decode cX11_told 114 = .ok (.getfield 37, 3) := by decide +kernel
theorem dX11_told_117 : decode cX11_told 117 = .ok (.iload_n 1, 1) := by decide +kernel
theorem dX11_told_118 : decode cX11_told 118 = .ok (.iaload, 1) := by decide +kernel
theorem dX11_told_119 : decode cX11_told 119 = .ok (.ireturn, 1) := by decide +kernel
theorem dX11_partOf_0 : decode cX11_partOf 0 = .ok (.aload_n 0, 1) := by decide +kernel
theorem dX11_partOf_1 : decode cX11_partOf 1 = .ok (.iload_n 1, 1) := by decide +kernel
theorem dX11_partOf_2 : decode cX11_partOf 2 = .ok (.invokevirtual 123, 3) := by decide +kernel
theorem dX11_partOf_5 : decode cX11_partOf 5 = .ok (.ifCond .eq 28, 3) := by decide +kernel
theorem dX11_partOf_8 : decode cX11_partOf 8 = .ok (.iload_n 2, 1) := by decide +kernel
theorem dX11_partOf_9 : decode cX11_partOf 9 = .ok (.iconst 0, 1) := by decide +kernel
theorem dX11_partOf_10 : decode cX11_partOf 10 = .ok (.aload_n 0, 1) := by decide +kernel
theorem dX11_partOf_11 : decode cX11_partOf 11 = .ok (.getfield 25, 3) := by decide +kernel
theorem dX11_partOf_14 : decode cX11_partOf 14 = .ok (.iload_n 1, 1) := by decide +kernel
theorem dX11_partOf_15 : decode cX11_partOf 15 = .ok (.iaload, 1) := by decide +kernel
theorem dX11_partOf_16 : decode cX11_partOf 16 = .ok (.iconst 1, 1) := by decide +kernel
theorem dX11_partOf_17 : decode cX11_partOf 17 = .ok (.isub, 1) := by decide +kernel
theorem dX11_partOf_18 : decode cX11_partOf 18 = .ok (.invokestatic 103, 3) := by decide +kernel
theorem dX11_partOf_21 : decode cX11_partOf 21 = .ok (.ifCond .eq 12, 3) := by decide +kernel
theorem dX11_partOf_24 : decode cX11_partOf 24 = .ok (.iload_n 3, 1) := by decide +kernel
theorem dX11_partOf_25 : decode cX11_partOf 25 = .ok (.iconst 0, 1) := by decide +kernel
theorem dX11_partOf_26 : decode cX11_partOf 26 = .ok (.iconst 1, 1) := by decide +kernel
theorem dX11_partOf_27 : decode cX11_partOf 27 = .ok (.invokestatic 103, 3) := by decide +kernel
theorem dX11_partOf_30 : decode cX11_partOf 30 = .ok (.ifCond .ne 6, 3) := by decide +kernel
theorem dX11_partOf_33 : decode cX11_partOf 33 = .ok (.bipush (-2), 2) := by decide +kernel
theorem dX11_partOf_35 : decode cX11_partOf 35 = .ok (.ireturn, 1) := by decide +kernel
theorem dX11_partOf_36 : decode cX11_partOf 36 = .ok (.iload_n 3, 1) := by decide +kernel
theorem dX11_partOf_37 : decode cX11_partOf 37 = .ok (.ifCond .ne 17, 3) := by decide +kernel
theorem dX11_partOf_40 : decode cX11_partOf 40 = .ok (.aload_n 0, 1) := by decide +kernel
theorem dX11_partOf_41 : decode cX11_partOf 41 = .ok (.getfield 28, 3) := by decide +kernel
theorem dX11_partOf_44 : decode cX11_partOf 44 = .ok (.bipush 8, 2) := by decide +kernel
theorem dX11_partOf_46 : decode cX11_partOf 46 = .ok (.iload_n 1, 1) := by decide +kernel
theorem dX11_partOf_47 : decode cX11_partOf 47 = .ok (.imul, 1) := by decide +kernel
theorem dX11_partOf_48 : decode cX11_partOf 48 = .ok (.iload_n 2, 1) := by decide +kernel
theorem dX11_partOf_49 : decode cX11_partOf 49 = .ok (.iadd, 1) := by decide +kernel
theorem dX11_partOf_50 : decode cX11_partOf 50 = .ok (.iaload, 1) := by decide +kernel
theorem dX11_partOf_51 : decode cX11_partOf 51 = .ok (.goto 14, 3) := by decide +kernel
theorem dX11_partOf_54 : decode cX11_partOf 54 = .ok (.aload_n 0, 1) := by decide +kernel
theorem dX11_partOf_55 : decode cX11_partOf 55 = .ok (.getfield 31, 3) := by decide +kernel
theorem dX11_partOf_58 : decode cX11_partOf 58 = .ok (.bipush 8, 2) := by decide +kernel
theorem dX11_partOf_60 : decode cX11_partOf 60 = .ok (.iload_n 1, 1) := by decide +kernel
theorem dX11_partOf_61 : decode cX11_partOf 61 = .ok (.imul, 1) := by decide +kernel
theorem dX11_partOf_62 : decode cX11_partOf 62 = .ok (.iload_n 2, 1) := by decide +kernel
theorem dX11_partOf_63 : decode cX11_partOf 63 = .ok (.iadd, 1) := by decide +kernel
theorem dX11_partOf_64 : decode cX11_partOf 64 = .ok (.iaload, 1) := by decide +kernel
theorem dX11_partOf_65 : decode cX11_partOf 65 = .ok (.ireturn, 1) := by decide +kernel
theorem dX11_costs_0 : decode cX11_costs 0 = .ok (.iconst 0, 1) := by decide +kernel
theorem dX11_costs_1 : decode cX11_costs 1 = .ok (.istore_n 1, 1) := by decide +kernel
theorem dX11_costs_2 : decode cX11_costs 2 = .ok (.iload_n 1, 1) := by decide +kernel
theorem dX11_costs_3 : decode cX11_costs 3 = .ok (.aload_n 0, 1) := by decide +kernel
theorem dX11_costs_4 : decode cX11_costs 4 = .ok (.getfield 107, 3) := by decide +kernel
theorem dX11_costs_7 : decode cX11_costs 7 = .ok (.if_icmp .ge 160, 3) := by decide +kernel
theorem dX11_costs_10 : decode cX11_costs 10 = .ok (.aload_n 0, 1) := by decide +kernel
theorem dX11_costs_11 : decode cX11_costs 11 = .ok (.getfield 16, 3) := by decide +kernel
theorem dX11_costs_14 : decode cX11_costs 14 = .ok (.iload_n 1, 1) := by decide +kernel
theorem dX11_costs_15 : decode cX11_costs 15 = .ok (.iaload, 1) := by decide +kernel
theorem dX11_costs_16 : decode cX11_costs 16 = .ok (.ifCond .ne 17, 3) := by decide +kernel
theorem dX11_costs_19 : decode cX11_costs 19 = .ok (.aload_n 0, 1) := by decide +kernel
theorem dX11_costs_20 : decode cX11_costs 20 = .ok (.getfield 13, 3) := by decide +kernel
theorem dX11_costs_23 : decode cX11_costs 23 = .ok (.aload_n 0, 1) := by decide +kernel
theorem dX11_costs_24 : decode cX11_costs 24 = .ok (.getfield 19, 3) := by decide +kernel
theorem dX11_costs_27 : decode cX11_costs 27 = .ok (.iload_n 1, 1) := by decide +kernel
theorem dX11_costs_28 : decode cX11_costs 28 = .ok (.iaload, 1) := by decide +kernel
theorem dX11_costs_29 : decode cX11_costs 29 = .ok (.iaload, 1) := by decide +kernel
theorem dX11_costs_30 : decode cX11_costs 30 = .ok (.goto 32, 3) := by decide +kernel
theorem dX11_costs_33 : decode cX11_costs 33 = .ok (.aload_n 0, 1) := by decide +kernel
theorem dX11_costs_34 : decode cX11_costs 34 = .ok (.getfield 16, 3) := by decide +kernel
theorem dX11_costs_37 : decode cX11_costs 37 = .ok (.iload_n 1, 1) := by decide +kernel
theorem dX11_costs_38 : decode cX11_costs 38 = .ok (.iaload, 1) := by decide +kernel
theorem dX11_costs_39 : decode cX11_costs 39 = .ok (.iconst 1, 1) := by decide +kernel
theorem dX11_costs_40 : decode cX11_costs 40 = .ok (.if_icmp .ne 21, 3) := by decide +kernel
theorem dX11_costs_43 : decode cX11_costs 43 = .ok (.aload_n 0, 1) := by decide +kernel
theorem dX11_costs_44 : decode cX11_costs 44 = .ok (.getfield 22, 3) := by decide +kernel
theorem dX11_costs_47 : decode cX11_costs 47 = .ok (.iload_n 1, 1) := by decide +kernel
theorem dX11_costs_48 : decode cX11_costs 48 = .ok (.iaload, 1) := by decide +kernel
theorem dX11_costs_49 : decode cX11_costs 49 = .ok (.aload_n 0, 1) := by decide +kernel
theorem dX11_costs_50 : decode cX11_costs 50 = .ok (.getfield 19, 3) := by decide +kernel
theorem dX11_costs_53 : decode cX11_costs 53 = .ok (.iload_n 1, 1) := by decide +kernel
theorem dX11_costs_54 : decode cX11_costs 54 = .ok (.iaload, 1) := by decide +kernel
theorem dX11_costs_55 : decode cX11_costs 55 = .ok (.isub, 1) := by decide +kernel
theorem dX11_costs_56 : decode cX11_costs 56 = .ok (.iconst 1, 1) := by decide +kernel
theorem dX11_costs_57 : decode cX11_costs 57 = .ok (.iadd, 1) := by decide +kernel
theorem dX11_costs_58 : decode cX11_costs 58 = .ok (.goto 4, 3) := by decide +kernel
theorem dX11_costs_61 : decode cX11_costs 61 = .ok (.iconst 0, 1) := by decide +kernel
theorem dX11_costs_62 : decode cX11_costs 62 = .ok (.istore_n 2, 1) := by decide +kernel
theorem dX11_costs_63 : decode cX11_costs 63 = .ok (.aload_n 0, 1) := by decide +kernel
theorem dX11_costs_64 : decode cX11_costs 64 = .ok (.getfield 16, 3) := by decide +kernel
theorem dX11_costs_67 : decode cX11_costs 67 = .ok (.iload_n 1, 1) := by decide +kernel
theorem dX11_costs_68 : decode cX11_costs 68 = .ok (.iaload, 1) := by decide +kernel
theorem dX11_costs_69 : decode cX11_costs 69 = .ok (.bipush 6, 2) := by decide +kernel
theorem dX11_costs_71 : decode cX11_costs 71 = .ok (.if_icmp .ne 23, 3) := by decide +kernel
theorem dX11_costs_74 : decode cX11_costs 74 = .ok (.aload_n 0, 1) := by decide +kernel
theorem dX11_costs_75 : decode cX11_costs 75 = .ok (.getfield 37, 3) := by decide +kernel
theorem dX11_costs_78 : decode cX11_costs 78 = .ok (.iload_n 1, 1) := by decide +kernel
theorem dX11_costs_79 : decode cX11_costs 79 = .ok (.iaload, 1) := by decide +kernel
theorem dX11_costs_80 : decode cX11_costs 80 = .ok (.iconst (-1), 1) := by decide +kernel
theorem dX11_costs_81 : decode cX11_costs 81 = .ok (.if_icmp .eq 13, 3) := by decide +kernel
theorem dX11_costs_84 : decode cX11_costs 84 = .ok (.aload_n 0, 1) := by decide +kernel
theorem dX11_costs_85 : decode cX11_costs 85 = .ok (.getfield 37, 3) := by decide +kernel
theorem dX11_costs_88 : decode cX11_costs 88 = .ok (.iload_n 1, 1) := by decide +kernel
theorem dX11_costs_89 : decode cX11_costs 89 = .ok (.iaload, 1) := by decide +kernel
theorem dX11_costs_90 : decode cX11_costs 90 = .ok (.istore_n 2, 1) := by decide +kernel
theorem dX11_costs_91 : decode cX11_costs 91 = .ok (.goto 63, 3) := by decide +kernel
theorem dX11_costs_94 : decode cX11_costs 94 = .ok (.aload_n 0, 1) := by decide +kernel
theorem dX11_costs_95 : decode cX11_costs 95 = .ok (.getfield 25, 3) := by decide +kernel
theorem dX11_costs_98 : decode cX11_costs 98 = .ok (.iload_n 1, 1) := by decide +kernel
theorem dX11_costs_99 : decode cX11_costs 99 = .ok (.iaload, 1) := by decide +kernel
theorem dX11_costs_100 : decode cX11_costs 100 = .ok (.ifCond .le 28, 3) := by decide +kernel
theorem dX11_costs_103 : decode cX11_costs 103 = .ok (.aload_n 0, 1) := by decide +kernel
theorem dX11_costs_104 : decode cX11_costs 104 = .ok (.getfield 16, 3) := by decide +kernel
theorem dX11_costs_107 : decode cX11_costs 107 = .ok (.iload_n 1, 1) := by decide +kernel
theorem dX11_costs_108 : decode cX11_costs 108 = .ok (.iaload, 1) := by decide +kernel
theorem dX11_costs_109 : decode cX11_costs 109 = .ok (.iconst 3, 1) := by decide +kernel
theorem dX11_costs_110 : decode cX11_costs 110 = .ok (.if_icmp .le 18, 3) := by decide +kernel
theorem dX11_costs_113 : decode cX11_costs 113 = .ok (.aload_n 0, 1) := by decide +kernel
theorem dX11_costs_114 : decode cX11_costs 114 = .ok (.getfield 60, 3) := by decide +kernel
theorem dX11_costs_117 : decode cX11_costs 117 = .ok (.aload_n 0, 1) := by decide +kernel
theorem dX11_costs_118 : decode cX11_costs 118 = .ok (.getfield 19, 3) := by decide +kernel
theorem dX11_costs_121 : decode cX11_costs 121 = .ok (.iload_n 1, 1) := by decide +kernel
theorem dX11_costs_122 : decode cX11_costs 122 = .ok (.iaload, 1) := by decide +kernel
theorem dX11_costs_123 : decode cX11_costs 123 = .ok (.iaload, 1) := by decide +kernel
theorem dX11_costs_124 : decode cX11_costs 124 = .ok (.istore_n 2, 1) := by decide +kernel
theorem dX11_costs_125 : decode cX11_costs 125 = .ok (.goto 29, 3) := by decide +kernel
theorem dX11_costs_128 : decode cX11_costs 128 = .ok (.aload_n 0, 1) := by decide +kernel
theorem dX11_costs_129 : decode cX11_costs 129 = .ok (.getfield 16, 3) := by decide +kernel
theorem dX11_costs_132 : decode cX11_costs 132 = .ok (.iload_n 1, 1) := by decide +kernel
theorem dX11_costs_133 : decode cX11_costs 133 = .ok (.iaload, 1) := by decide +kernel
theorem dX11_costs_134 : decode cX11_costs 134 = .ok (.iconst 3, 1) := by decide +kernel
theorem dX11_costs_135 : decode cX11_costs 135 = .ok (.if_icmp .eq 13, 3) := by decide +kernel
theorem dX11_costs_138 : decode cX11_costs 138 = .ok (.aload_n 0, 1) := by decide +kernel
theorem dX11_costs_139 : decode cX11_costs 139 = .ok (.getfield 16, 3) := by decide +kernel
theorem dX11_costs_142 : decode cX11_costs 142 = .ok (.iload_n 1, 1) := by decide +kernel
theorem dX11_costs_143 : decode cX11_costs 143 = .ok (.iaload, 1) := by decide +kernel
theorem dX11_costs_144 : decode cX11_costs 144 = .ok (.iconst 2, 1) := by decide +kernel
theorem dX11_costs_145 : decode cX11_costs 145 = .ok (.if_icmp .ne 9, 3) := by decide +kernel
theorem dX11_costs_148 : decode cX11_costs 148 = .ok (.aload_n 0, 1) := by decide +kernel
theorem dX11_costs_149 : decode cX11_costs 149 = .ok (.iload_n 1, 1) := by decide +kernel
theorem dX11_costs_150 : decode cX11_costs 150 = .ok (.invokevirtual 137, 3) := by decide +kernel
theorem dX11_costs_153 : decode cX11_costs 153 = .ok (.istore_n 2, 1) := by decide +kernel
theorem dX11_costs_154 : decode cX11_costs 154 = .ok (.aload_n 0, 1) := by decide +kernel
theorem dX11_costs_155 : decode cX11_costs 155 = .ok (.getfield 60, 3) := by decide +kernel
theorem dX11_costs_158 : decode cX11_costs 158 = .ok (.iload_n 1, 1) := by decide +kernel
theorem dX11_costs_159 : decode cX11_costs 159 = .ok (.iload_n 2, 1) := by decide +kernel
theorem dX11_costs_160 : decode cX11_costs 160 = .ok (.iastore, 1) := by decide +kernel
theorem dX11_costs_161 : decode cX11_costs 161 = .ok (.iinc 1 1, 3) := by decide +kernel
theorem dX11_costs_164 : decode cX11_costs 164 = .ok (.goto (-162), 3) := by decide +kernel
theorem dX11_costs_167 : decode cX11_costs 167 = .ok (.return_, 1) := by decide +kernel
theorem dX11_together_0 : decode cX11_together 0 = .ok (.ldc 119, 2) := by decide +kernel
theorem dX11_together_2 : decode cX11_together 2 = .ok (.istore_n 2, 1) := by decide +kernel
theorem dX11_together_3 : decode cX11_together 3 = .ok (.iconst 0, 1) := by decide +kernel
theorem dX11_together_4 : decode cX11_together 4 = .ok (.istore_n 3, 1) := by decide +kernel
theorem dX11_together_5 : decode cX11_together 5 = .ok (.iconst 0, 1) := by decide +kernel
theorem dX11_together_6 : decode cX11_together 6 = .ok (.istore 4, 2) := by decide +kernel
theorem dX11_together_8 : decode cX11_together 8 = .ok (.iload 4, 2) := by decide +kernel
theorem dX11_together_10 : decode cX11_together 10 = .ok (.aload_n 0, 1) := by decide +kernel
theorem dX11_together_11 : decode cX11_together 11 = .ok (.getfield 25, 3) := by decide +kernel
theorem dX11_together_14 : decode cX11_together 14 = .ok (.iload_n 1, 1) := by decide +kernel
theorem dX11_together_15 : decode cX11_together 15 = .ok (.iaload, 1) := by decide +kernel
theorem dX11_together_16 : decode cX11_together 16 = .ok (.if_icmp .ge 76, 3) := by decide +kernel
theorem dX11_together_19 : decode cX11_together 19 = .ok (.aload_n 0, 1) := by decide +kernel
theorem dX11_together_20 : decode cX11_together 20 = .ok (.getfield 28, 3) := by decide +kernel
theorem dX11_together_23 : decode cX11_together 23 = .ok (.bipush 8, 2) := by decide +kernel
theorem dX11_together_25 : decode cX11_together 25 = .ok (.iload_n 1, 1) := by decide +kernel
theorem dX11_together_26 : decode cX11_together 26 = .ok (.imul, 1) := by decide +kernel
theorem dX11_together_27 : decode cX11_together 27 = .ok (.iload 4, 2) := by decide +kernel
theorem dX11_together_29 : decode cX11_together 29 = .ok (.iadd, 1) := by decide +kernel
theorem dX11_together_30 : decode cX11_together 30 = .ok (.iaload, 1) := by decide +kernel
theorem dX11_together_31 : decode cX11_together 31 = .ok (.istore 5, 2) := by decide +kernel
theorem dX11_together_33 : decode cX11_together 33 = .ok (.aload_n 0, 1) := by decide +kernel
theorem dX11_together_34 : decode cX11_together 34 = .ok (.getfield 60, 3) := by decide +kernel
theorem dX11_together_37 : decode cX11_together 37 = .ok (.aload_n 0, 1) := by decide +kernel
theorem dX11_together_38 : decode cX11_together 38 = .ok (.getfield 31, 3) := by decide +kernel
theorem dX11_together_41 : decode cX11_together 41 = .ok (.bipush 8, 2) := by decide +kernel
theorem dX11_together_43 : decode cX11_together 43 = .ok (.iload_n 1, 1) := by decide +kernel
theorem dX11_together_44 : decode cX11_together 44 = .ok (.imul, 1) := by decide +kernel
theorem dX11_together_45 : decode cX11_together 45 = .ok (.iload 4, 2) := by decide +kernel
theorem dX11_together_47 : decode cX11_together 47 = .ok (.iadd, 1) := by decide +kernel
theorem dX11_together_48 : decode cX11_together 48 = .ok (.iaload, 1) := by decide +kernel
theorem dX11_together_49 : decode cX11_together 49 = .ok (.iaload, 1) := by decide +kernel
theorem dX11_together_50 : decode cX11_together 50 = .ok (.istore 6, 2) := by decide +kernel
theorem dX11_together_52 : decode cX11_together 52 = .ok (.iload 5, 2) := by decide +kernel
theorem dX11_together_54 : decode cX11_together 54 = .ok (.iconst 2, 1) := by decide +kernel
theorem dX11_together_55 : decode cX11_together 55 = .ok (.if_icmp .ge 14, 3) := by decide +kernel
theorem dX11_together_58 : decode cX11_together 58 = .ok (.iload 6, 2) := by decide +kernel
theorem dX11_together_60 : decode cX11_together 60 = .ok (.iload_n 2, 1) := by decide +kernel
theorem dX11_together_61 : decode cX11_together 61 = .ok (.if_icmp .ge 8, 3) := by decide +kernel
theorem dX11_together_64 : decode cX11_together 64 = .ok (.iload 6, 2) := by decide +kernel
theorem dX11_together_66 : decode cX11_together 66 = .ok (.goto 4, 3) := by decide +kernel
theorem dX11_together_69 : decode cX11_together 69 = .ok (.iload_n 2, 1) := by decide +kernel
theorem dX11_together_70 : decode cX11_together 70 = .ok (.istore_n 2, 1) := by decide +kernel
theorem dX11_together_71 : decode cX11_together 71 = .ok (.iload_n 3, 1) := by decide +kernel
theorem dX11_together_72 : decode cX11_together 72 = .ok (.iload 5, 2) := by decide +kernel
theorem dX11_together_74 : decode cX11_together 74 = .ok (.iconst 3, 1) := by decide +kernel
theorem dX11_together_75 : decode cX11_together 75 = .ok (.if_icmp .ne 8, 3) := by decide +kernel
theorem dX11_together_78 : decode cX11_together 78 = .ok (.iload 6, 2) := by decide +kernel
theorem dX11_together_80 : decode cX11_together 80 = .ok (.goto 4, 3) := by decide +kernel
theorem dX11_together_83 : decode cX11_together 83 = .ok (.iconst 0, 1) := by decide +kernel
theorem dX11_together_84 : decode cX11_together 84 = .ok (.iadd, 1) := by decide +kernel
theorem dX11_together_85 : decode cX11_together 85 = .ok (.istore_n 3, 1) := by decide +kernel
theorem dX11_together_86 : decode cX11_together 86 = .ok (.iinc 4 1, 3) := by decide +kernel
theorem dX11_together_89 : decode cX11_together 89 = .ok (.goto (-81), 3) := by decide +kernel
theorem dX11_together_92 : decode cX11_together 92 = .ok (.iload_n 2, 1) := by decide +kernel
theorem dX11_together_93 : decode cX11_together 93 = .ok (.ldc 119, 2) := by decide +kernel
theorem dX11_together_95 : decode cX11_together 95 = .ok (.if_icmp .ge 7, 3) := by decide +kernel
theorem dX11_together_98 : decode cX11_together 98 = .ok (.iload_n 2, 1) := by decide +kernel
theorem dX11_together_99 : decode cX11_together 99 = .ok (.goto 17, 3) := by decide +kernel
theorem dX11_together_102 : decode cX11_together 102 = .ok (.iload_n 3, 1) := by decide +kernel
theorem dX11_together_103 : decode cX11_together 103 = .ok (.sipush 512, 3) := by decide +kernel
theorem dX11_together_106 : decode cX11_together 106 = .ok (.if_icmp .ge 7, 3) := by decide +kernel
theorem dX11_together_109 : decode cX11_together 109 = .ok (.iload_n 3, 1) := by decide +kernel
theorem dX11_together_110 : decode cX11_together 110 = .ok (.goto 6, 3) := by decide +kernel
theorem dX11_together_113 : decode cX11_together 113 = .ok (.sipush 512, 3) := by decide +kernel
theorem dX11_together_116 : decode cX11_together 116 = .ok (.ireturn, 1) := by decide +kernel
theorem dX11_mayAll_0 : decode cX11_mayAll 0 = .ok (.iconst 0, 1) := by decide +kernel
theorem dX11_mayAll_1 : decode cX11_mayAll 1 = .ok (.istore_n 3, 1) := by decide +kernel
theorem dX11_mayAll_2 : decode cX11_mayAll 2 = .ok (.iload_n 3, 1) := by decide +kernel
theorem dX11_mayAll_3 : decode cX11_mayAll 3 = .ok (.iload_n 2, 1) := by decide +kernel
theorem dX11_mayAll_4 : decode cX11_mayAll 4 = .ok (.if_icmp .gt 366, 3) := by decide +kernel
theorem dX11_mayAll_7 : decode cX11_mayAll 7 = .ok (.aload_n 0, 1) := by decide +kernel
theorem dX11_mayAll_8 : decode cX11_mayAll 8 = .ok (.getfield 16, 3) := by decide +kernel
theorem dX11_mayAll_11 : decode cX11_mayAll 11 = .ok (.iload_n 3, 1) := by decide +kernel
theorem dX11_mayAll_12 : decode cX11_mayAll 12 = .ok (.iaload, 1) := by decide +kernel
theorem dX11_mayAll_13 : decode cX11_mayAll 13 = .ok (.ifCond .ne 32, 3) := by decide +kernel
theorem dX11_mayAll_16 : decode cX11_mayAll 16 = .ok (.aload_n 0, 1) := by decide +kernel
theorem dX11_mayAll_17 : decode cX11_mayAll 17 = .ok (.getfield 7, 3) := by decide +kernel
theorem dX11_mayAll_20 : decode cX11_mayAll 20 = .ok (.sipush 512, 3) := by decide +kernel
theorem dX11_mayAll_23 : decode cX11_mayAll 23 = .ok (.aload_n 0, 1) := by decide +kernel
theorem dX11_mayAll_24 : decode cX11_mayAll 24 = .ok (.getfield 19, 3) := by decide +kernel
theorem dX11_mayAll_27 : decode cX11_mayAll 27 = .ok (.iload_n 3, 1) := by decide +kernel
theorem dX11_mayAll_28 : decode cX11_mayAll 28 = .ok (.iaload, 1) := by decide +kernel
theorem dX11_mayAll_29 : decode cX11_mayAll 29 = .ok (.imul, 1) := by decide +kernel
theorem dX11_mayAll_30 : decode cX11_mayAll 30 = .ok (.iload_n 1, 1) := by decide +kernel
theorem dX11_mayAll_31 : decode cX11_mayAll 31 = .ok (.iadd, 1) := by decide +kernel
theorem dX11_mayAll_32 : decode cX11_mayAll 32 = .ok (.iaload, 1) := by decide +kernel
theorem dX11_mayAll_33 : decode cX11_mayAll 33 = .ok (.iconst (-1), 1) := by decide +kernel
theorem dX11_mayAll_34 : decode cX11_mayAll 34 = .ok (.if_icmp .eq 7, 3) := by decide +kernel
theorem dX11_mayAll_37 : decode cX11_mayAll 37 = .ok (.iconst 1, 1) := by decide +kernel
theorem dX11_mayAll_38 : decode cX11_mayAll 38 = .ok (.goto 41, 3) := by decide +kernel
theorem dX11_mayAll_41 : decode cX11_mayAll 41 = .ok (.iconst 0, 1) := by decide +kernel
theorem dX11_mayAll_42 : decode cX11_mayAll 42 = .ok (.goto 37, 3) := by decide +kernel
theorem dX11_mayAll_45 : decode cX11_mayAll 45 = .ok (.aload_n 0, 1) := by decide +kernel
theorem dX11_mayAll_46 : decode cX11_mayAll 46 = .ok (.getfield 16, 3) := by decide +kernel
theorem dX11_mayAll_49 : decode cX11_mayAll 49 = .ok (.iload_n 3, 1) := by decide +kernel
theorem dX11_mayAll_50 : decode cX11_mayAll 50 = .ok (.iaload, 1) := by decide +kernel
theorem dX11_mayAll_51 : decode cX11_mayAll 51 = .ok (.iconst 1, 1) := by decide +kernel
theorem dX11_mayAll_52 : decode cX11_mayAll 52 = .ok (.if_icmp .ne 26, 3) := by decide +kernel
theorem dX11_mayAll_55 : decode cX11_mayAll 55 = .ok (.iload_n 1, 1) := by decide +kernel
theorem dX11_mayAll_56 : decode cX11_mayAll 56 = .ok (.aload_n 0, 1) := by decide +kernel
theorem dX11_mayAll_57 : decode cX11_mayAll 57 = .ok (.getfield 19, 3) := by decide +kernel
theorem dX11_mayAll_60 : decode cX11_mayAll 60 = .ok (.iload_n 3, 1) := by decide +kernel
theorem dX11_mayAll_61 : decode cX11_mayAll 61 = .ok (.iaload, 1) := by decide +kernel
theorem dX11_mayAll_62 : decode cX11_mayAll 62 = .ok (.aload_n 0, 1) := by decide +kernel
theorem dX11_mayAll_63 : decode cX11_mayAll 63 = .ok (.getfield 22, 3) := by decide +kernel
theorem dX11_mayAll_66 : decode cX11_mayAll 66 = .ok (.iload_n 3, 1) := by decide +kernel
theorem dX11_mayAll_67 : decode cX11_mayAll 67 = .ok (.iaload, 1) := by decide +kernel
theorem dX11_mayAll_68 : decode cX11_mayAll 68 = .ok (.invokestatic 103, 3) := by decide +kernel
theorem dX11_mayAll_71 : decode cX11_mayAll 71 = .ok (.ifCond .eq 7, 3) := by decide +kernel
theorem dX11_mayAll_74 : decode cX11_mayAll 74 = .ok (.iconst 1, 1) := by decide +kernel
theorem dX11_mayAll_75 : decode cX11_mayAll 75 = .ok (.goto 4, 3) := by decide +kernel
theorem dX11_mayAll_78 : decode cX11_mayAll 78 = .ok (.iconst 0, 1) := by decide +kernel
theorem dX11_mayAll_79 : decode cX11_mayAll 79 = .ok (.istore 4, 2) := by decide +kernel
theorem dX11_mayAll_81 : decode cX11_mayAll 81 = .ok (.aload_n 0, 1) := by decide +kernel
theorem dX11_mayAll_82 : decode cX11_mayAll 82 = .ok (.getfield 16, 3) := by decide +kernel
theorem dX11_mayAll_85 : decode cX11_mayAll 85 = .ok (.iload_n 3, 1) := by decide +kernel
theorem dX11_mayAll_86 : decode cX11_mayAll 86 = .ok (.iaload, 1) := by decide +kernel
theorem dX11_mayAll_87 : decode cX11_mayAll 87 = .ok (.bipush 6, 2) := by decide +kernel
theorem dX11_mayAll_89 : decode cX11_mayAll 89 = .ok (.if_icmp .ne 27, 3) := by decide +kernel
theorem dX11_mayAll_92 : decode cX11_mayAll 92 = .ok (.aload_n 0, 1) := by decide +kernel
theorem dX11_mayAll_93 : decode cX11_mayAll 93 = .ok (.getfield 37, 3) := by decide +kernel
theorem dX11_mayAll_96 : decode cX11_mayAll 96 = .ok (.iload_n 3, 1) := by decide +kernel
theorem dX11_mayAll_97 : decode cX11_mayAll 97 = .ok (.iaload, 1) := by decide +kernel
theorem dX11_mayAll_98 : decode cX11_mayAll 98 = .ok (.iconst (-1), 1) := by decide +kernel
theorem dX11_mayAll_99 : decode cX11_mayAll 99 = .ok (.if_icmp .eq 17, 3) := by decide +kernel
theorem dX11_mayAll_102 : decode cX11_mayAll 102 = .ok (.aload_n 0, 1) := by decide +kernel
theorem dX11_mayAll_103 : decode cX11_mayAll 103 = .ok (.getfield 41, 3) := by decide +kernel
theorem dX11_mayAll_106 : decode cX11_mayAll 106 = .ok (.sipush 512, 3) := by decide +kernel
theorem dX11_mayAll_109 : decode cX11_mayAll 109 = .ok (.iload_n 3, 1) := by decide +kernel
theorem dX11_mayAll_110 : decode cX11_mayAll 110 = .ok (.imul, 1) := by decide +kernel
theorem dX11_mayAll_111 : decode cX11_mayAll 111 = .ok (.iload_n 1, 1) := by decide +kernel
theorem dX11_mayAll_112 : decode cX11_mayAll 112 = .ok (.iadd, 1) := by decide +kernel
theorem dX11_mayAll_113 : decode cX11_mayAll 113 = .ok (.baload, 1) := by decide +kernel
theorem dX11_mayAll_114 : decode cX11_mayAll 114 = .ok (.istore 4, 2) := by decide +kernel
theorem dX11_mayAll_116 : decode cX11_mayAll 116 = .ok (.aload_n 0, 1) := by decide +kernel
theorem dX11_mayAll_117 : decode cX11_mayAll 117 = .ok (.getfield 63, 3) := by decide +kernel
theorem dX11_mayAll_120 : decode cX11_mayAll 120 = .ok (.iload_n 3, 1) := by decide +kernel
theorem dX11_mayAll_121 : decode cX11_mayAll 121 = .ok (.iload 4, 2) := by decide +kernel
theorem dX11_mayAll_123 : decode cX11_mayAll 123 = .ok (.bastore, 1) := by decide +kernel
theorem dX11_mayAll_124 : decode cX11_mayAll 124 = .ok (.aload_n 0, 1) := by decide +kernel
theorem dX11_mayAll_125 : decode cX11_mayAll 125 = .ok (.getfield 66, 3) := by decide +kernel
theorem dX11_mayAll_128 : decode cX11_mayAll 128 = .ok (.iload_n 3, 1) := by decide +kernel
theorem dX11_mayAll_129 : decode cX11_mayAll 129 = .ok (.iload 4, 2) := by decide +kernel
theorem dX11_mayAll_131 : decode cX11_mayAll 131 = .ok (.bastore, 1) := by decide +kernel
theorem dX11_mayAll_132 : decode cX11_mayAll 132 = .ok (.aload_n 0, 1) := by decide +kernel
theorem dX11_mayAll_133 : decode cX11_mayAll 133 = .ok (.getfield 16, 3) := by decide +kernel
theorem dX11_mayAll_136 : decode cX11_mayAll 136 = .ok (.iload_n 3, 1) := by decide +kernel
theorem dX11_mayAll_137 : decode cX11_mayAll 137 = .ok (.iaload, 1) := by decide +kernel
theorem dX11_mayAll_138 : decode cX11_mayAll 138 = .ok (.iconst 2, 1) := by decide +kernel
theorem dX11_mayAll_139 : decode cX11_mayAll 139 = .ok (.if_icmp .ne 30, 3) := by decide +kernel
theorem dX11_mayAll_142 : decode cX11_mayAll 142 = .ok (.aload_n 0, 1) := by decide +kernel
theorem dX11_mayAll_143 : decode cX11_mayAll 143 = .ok (.getfield 63, 3) := by decide +kernel
theorem dX11_mayAll_146 : decode cX11_mayAll 146 = .ok (.iload_n 3, 1) := by decide +kernel
theorem dX11_mayAll_147 : decode cX11_mayAll 147 = .ok (.aload_n 0, 1) := by decide +kernel
theorem dX11_mayAll_148 : decode cX11_mayAll 148 = .ok (.iload_n 3, 1) := by decide +kernel
theorem dX11_mayAll_149 : decode cX11_mayAll 149 = .ok (.iconst 0, 1) := by decide +kernel
theorem dX11_mayAll_150 : decode cX11_mayAll 150 = .ok (.invokevirtual 141, 3) := by decide +kernel
theorem dX11_mayAll_153 : decode cX11_mayAll 153 = .ok (.bastore, 1) := by decide +kernel
theorem dX11_mayAll_154 : decode cX11_mayAll 154 = .ok (.aload_n 0, 1) := by decide +kernel
theorem dX11_mayAll_155 : decode cX11_mayAll 155 = .ok (.getfield 66, 3) := by decide +kernel
theorem dX11_mayAll_158 : decode cX11_mayAll 158 = .ok (.iload_n 3, 1) := by decide +kernel
theorem dX11_mayAll_159 : decode cX11_mayAll 159 = .ok (.aload_n 0, 1) := by decide +kernel
theorem dX11_mayAll_160 : decode cX11_mayAll 160 = .ok (.iload_n 3, 1) := by decide +kernel
theorem dX11_mayAll_161 : decode cX11_mayAll 161 = .ok (.iconst 1, 1) := by decide +kernel
theorem dX11_mayAll_162 : decode cX11_mayAll 162 = .ok (.invokevirtual 141, 3) := by decide +kernel
theorem dX11_mayAll_165 : decode cX11_mayAll 165 = .ok (.bastore, 1) := by decide +kernel
theorem dX11_mayAll_166 : decode cX11_mayAll 166 = .ok (.goto 198, 3) := by decide +kernel
theorem dX11_mayAll_169 : decode cX11_mayAll 169 = .ok (.aload_n 0, 1) := by decide +kernel
theorem dX11_mayAll_170 : decode cX11_mayAll 170 = .ok (.getfield 16, 3) := by decide +kernel
theorem dX11_mayAll_173 : decode cX11_mayAll 173 = .ok (.iload_n 3, 1) := by decide +kernel
theorem dX11_mayAll_174 : decode cX11_mayAll 174 = .ok (.iaload, 1) := by decide +kernel
theorem dX11_mayAll_175 : decode cX11_mayAll 175 = .ok (.iconst 3, 1) := by decide +kernel
theorem dX11_mayAll_176 : decode cX11_mayAll 176 = .ok (.if_icmp .ne 106, 3) := by decide +kernel
theorem dX11_mayAll_179 : decode cX11_mayAll 179 = .ok (.iconst 0, 1) := by decide +kernel
theorem dX11_mayAll_180 : decode cX11_mayAll 180 = .ok (.istore 5, 2) := by decide +kernel
theorem dX11_mayAll_182 : decode cX11_mayAll 182 = .ok (.iload 5, 2) := by decide +kernel
theorem dX11_mayAll_184 : decode cX11_mayAll 184 = .ok (.aload_n 0, 1) := by decide +kernel
theorem dX11_mayAll_185 : decode cX11_mayAll 185 = .ok (.getfield 25, 3) := by decide +kernel
theorem dX11_mayAll_188 : decode cX11_mayAll 188 = .ok (.iload_n 3, 1) := by decide +kernel
theorem dX11_mayAll_189 : decode cX11_mayAll 189 = .ok (.iaload, 1) := by decide +kernel
theorem dX11_mayAll_190 : decode cX11_mayAll 190 = .ok (.if_icmp .ge 89, 3) := by decide +kernel
theorem dX11_mayAll_193 : decode cX11_mayAll 193 = .ok (.aload_n 0, 1) := by decide +kernel
theorem dX11_mayAll_194 : decode cX11_mayAll 194 = .ok (.getfield 63, 3) := by decide +kernel
theorem dX11_mayAll_197 : decode cX11_mayAll 197 = .ok (.iload_n 3, 1) := by decide +kernel
theorem dX11_mayAll_198 : decode cX11_mayAll 198 = .ok (.aload_n 0, 1) := by decide +kernel
theorem dX11_mayAll_199 : decode cX11_mayAll 199 = .ok (.getfield 63, 3) := by decide +kernel
theorem dX11_mayAll_202 : decode cX11_mayAll 202 = .ok (.iload_n 3, 1) := by decide +kernel
theorem dX11_mayAll_203 : decode cX11_mayAll 203 = .ok (.baload, 1) := by decide +kernel
theorem dX11_mayAll_204 : decode cX11_mayAll 204 = .ok (.ifCond .ne 23, 3) := by decide +kernel
theorem dX11_mayAll_207 : decode cX11_mayAll 207 = .ok (.aload_n 0, 1) := by decide +kernel
theorem dX11_mayAll_208 : decode cX11_mayAll 208 = .ok (.getfield 63, 3) := by decide +kernel
theorem dX11_mayAll_211 : decode cX11_mayAll 211 = .ok (.aload_n 0, 1) := by decide +kernel
theorem dX11_mayAll_212 : decode cX11_mayAll 212 = .ok (.getfield 31, 3) := by decide +kernel
theorem dX11_mayAll_215 : decode cX11_mayAll 215 = .ok (.bipush 8, 2) := by decide +kernel
theorem dX11_mayAll_217 : decode cX11_mayAll 217 = .ok (.iload_n 3, 1) := by decide +kernel
theorem dX11_mayAll_218 : decode cX11_mayAll 218 = .ok (.imul, 1) := by decide +kernel
theorem dX11_mayAll_219 : decode cX11_mayAll 219 = .ok (.iload 5, 2) := by decide +kernel
theorem dX11_mayAll_221 : decode cX11_mayAll 221 = .ok (.iadd, 1) := by decide +kernel
theorem dX11_mayAll_222 : decode cX11_mayAll 222 = .ok (.iaload, 1) := by decide +kernel
theorem dX11_mayAll_223 : decode cX11_mayAll 223 = .ok (.baload, 1) := by decide +kernel
theorem dX11_mayAll_224 : decode cX11_mayAll 224 = .ok (.ifCond .eq 7, 3) := by decide +kernel
theorem dX11_mayAll_227 : decode cX11_mayAll 227 = .ok (.iconst 1, 1) := by decide +kernel
theorem dX11_mayAll_228 : decode cX11_mayAll 228 = .ok (.goto 4, 3) := by decide +kernel
theorem dX11_mayAll_231 : decode cX11_mayAll 231 = .ok (.iconst 0, 1) := by decide +kernel
theorem dX11_mayAll_232 : decode cX11_mayAll 232 = .ok (.bastore, 1) := by decide +kernel
theorem dX11_mayAll_233 : decode cX11_mayAll 233 = .ok (.aload_n 0, 1) := by decide +kernel
theorem dX11_mayAll_234 : decode cX11_mayAll 234 = .ok (.getfield 66, 3) := by decide +kernel
theorem dX11_mayAll_237 : decode cX11_mayAll 237 = .ok (.iload_n 3, 1) := by decide +kernel
theorem dX11_mayAll_238 : decode cX11_mayAll 238 = .ok (.aload_n 0, 1) := by decide +kernel
theorem dX11_mayAll_239 : decode cX11_mayAll 239 = .ok (.getfield 66, 3) := by decide +kernel
theorem dX11_mayAll_242 : decode cX11_mayAll 242 = .ok (.iload_n 3, 1) := by decide +kernel
theorem dX11_mayAll_243 : decode cX11_mayAll 243 = .ok (.baload, 1) := by decide +kernel
theorem dX11_mayAll_244 : decode cX11_mayAll 244 = .ok (.ifCond .ne 23, 3) := by decide +kernel
theorem dX11_mayAll_247 : decode cX11_mayAll 247 = .ok (.aload_n 0, 1) := by decide +kernel
theorem dX11_mayAll_248 : decode cX11_mayAll 248 = .ok (.getfield 66, 3) := by decide +kernel
theorem dX11_mayAll_251 : decode cX11_mayAll 251 = .ok (.aload_n 0, 1) := by decide +kernel
theorem dX11_mayAll_252 : decode cX11_mayAll 252 = .ok (.getfield 31, 3) := by decide +kernel
theorem dX11_mayAll_255 : decode cX11_mayAll 255 = .ok (.bipush 8, 2) := by decide +kernel
theorem dX11_mayAll_257 : decode cX11_mayAll 257 = .ok (.iload_n 3, 1) := by decide +kernel
theorem dX11_mayAll_258 : decode cX11_mayAll 258 = .ok (.imul, 1) := by decide +kernel
theorem dX11_mayAll_259 : decode cX11_mayAll 259 = .ok (.iload 5, 2) := by decide +kernel
theorem dX11_mayAll_261 : decode cX11_mayAll 261 = .ok (.iadd, 1) := by decide +kernel
theorem dX11_mayAll_262 : decode cX11_mayAll 262 = .ok (.iaload, 1) := by decide +kernel
theorem dX11_mayAll_263 : decode cX11_mayAll 263 = .ok (.baload, 1) := by decide +kernel
theorem dX11_mayAll_264 : decode cX11_mayAll 264 = .ok (.ifCond .eq 7, 3) := by decide +kernel
theorem dX11_mayAll_267 : decode cX11_mayAll 267 = .ok (.iconst 1, 1) := by decide +kernel
theorem dX11_mayAll_268 : decode cX11_mayAll 268 = .ok (.goto 4, 3) := by decide +kernel
theorem dX11_mayAll_271 : decode cX11_mayAll 271 = .ok (.iconst 0, 1) := by decide +kernel
theorem dX11_mayAll_272 : decode cX11_mayAll 272 = .ok (.bastore, 1) := by decide +kernel
theorem dX11_mayAll_273 : decode cX11_mayAll 273 = .ok (.iinc 5 1, 3) := by decide +kernel
theorem dX11_mayAll_276 : decode cX11_mayAll 276 = .ok (.goto (-94), 3) := by decide +kernel
theorem dX11_mayAll_279 : decode cX11_mayAll 279 = .ok (.goto 85, 3) := by decide +kernel
theorem dX11_mayAll_282 : decode cX11_mayAll 282 = .ok (.aload_n 0, 1) := by decide +kernel
theorem dX11_mayAll_283 : decode cX11_mayAll 283 = .ok (.getfield 25, 3) := by decide +kernel
theorem dX11_mayAll_286 : decode cX11_mayAll 286 = .ok (.iload_n 3, 1) := by decide +kernel
theorem dX11_mayAll_287 : decode cX11_mayAll 287 = .ok (.iaload, 1) := by decide +kernel
theorem dX11_mayAll_288 : decode cX11_mayAll 288 = .ok (.ifCond .le 76, 3) := by decide +kernel
theorem dX11_mayAll_291 : decode cX11_mayAll 291 = .ok (.aload_n 0, 1) := by decide +kernel
theorem dX11_mayAll_292 : decode cX11_mayAll 292 = .ok (.getfield 16, 3) := by decide +kernel
theorem dX11_mayAll_295 : decode cX11_mayAll 295 = .ok (.iload_n 3, 1) := by decide +kernel
theorem dX11_mayAll_296 : decode cX11_mayAll 296 = .ok (.iaload, 1) := by decide +kernel
theorem dX11_mayAll_297 : decode cX11_mayAll 297 = .ok (.bipush 6, 2) := by decide +kernel
theorem dX11_mayAll_299 : decode cX11_mayAll 299 = .ok (.if_icmp .ne 13, 3) := by decide +kernel
theorem dX11_mayAll_302 : decode cX11_mayAll 302 = .ok (.aload_n 0, 1) := by decide +kernel
theorem dX11_mayAll_303 : decode cX11_mayAll 303 = .ok (.getfield 37, 3) := by decide +kernel
theorem dX11_mayAll_306 : decode cX11_mayAll 306 = .ok (.iload_n 3, 1) := by decide +kernel
theorem dX11_mayAll_307 : decode cX11_mayAll 307 = .ok (.iaload, 1) := by decide +kernel
theorem dX11_mayAll_308 : decode cX11_mayAll 308 = .ok (.iconst (-1), 1) := by decide +kernel
theorem dX11_mayAll_309 : decode cX11_mayAll 309 = .ok (.if_icmp .ne 55, 3) := by decide +kernel
theorem dX11_mayAll_312 : decode cX11_mayAll 312 = .ok (.aload_n 0, 1) := by decide +kernel
theorem dX11_mayAll_313 : decode cX11_mayAll 313 = .ok (.getfield 63, 3) := by decide +kernel
theorem dX11_mayAll_316 : decode cX11_mayAll 316 = .ok (.iload_n 3, 1) := by decide +kernel
theorem dX11_mayAll_317 : decode cX11_mayAll 317 = .ok (.aload_n 0, 1) := by decide +kernel
theorem dX11_mayAll_318 : decode cX11_mayAll 318 = .ok (.getfield 63, 3) := by decide +kernel
theorem dX11_mayAll_321 : decode cX11_mayAll 321 = .ok (.aload_n 0, 1) := by decide +kernel
theorem dX11_mayAll_322 : decode cX11_mayAll 322 = .ok (.getfield 19, 3) := by decide +kernel
theorem dX11_mayAll_325 : decode cX11_mayAll 325 = .ok (.iload_n 3, 1) := by decide +kernel
theorem dX11_mayAll_326 : decode cX11_mayAll 326 = .ok (.iaload, 1) := by decide +kernel
theorem dX11_mayAll_327 : decode cX11_mayAll 327 = .ok (.baload, 1) := by decide +kernel
theorem dX11_mayAll_328 : decode cX11_mayAll 328 = .ok (.bastore, 1) := by decide +kernel
theorem dX11_mayAll_329 : decode cX11_mayAll 329 = .ok (.aload_n 0, 1) := by decide +kernel
theorem dX11_mayAll_330 : decode cX11_mayAll 330 = .ok (.getfield 66, 3) := by decide +kernel
theorem dX11_mayAll_333 : decode cX11_mayAll 333 = .ok (.iload_n 3, 1) := by decide +kernel
theorem dX11_mayAll_334 : decode cX11_mayAll 334 = .ok (.aload_n 0, 1) := by decide +kernel
theorem dX11_mayAll_335 : decode cX11_mayAll 335 = .ok (.getfield 16, 3) := by decide +kernel
theorem dX11_mayAll_338 : decode cX11_mayAll 338 = .ok (.iload_n 3, 1) := by decide +kernel
theorem dX11_mayAll_339 : decode cX11_mayAll 339 = .ok (.iaload, 1) := by decide +kernel
theorem dX11_mayAll_340 : decode cX11_mayAll 340 = .ok (.iconst 5, 1) := by decide +kernel
theorem dX11_mayAll_341 : decode cX11_mayAll 341 = .ok (.if_icmp .eq 21, 3) := by decide +kernel
theorem dX11_mayAll_344 : decode cX11_mayAll 344 = .ok (.aload_n 0, 1) := by decide +kernel
theorem dX11_mayAll_345 : decode cX11_mayAll 345 = .ok (.getfield 66, 3) := by decide +kernel
theorem dX11_mayAll_348 : decode cX11_mayAll 348 = .ok (.aload_n 0, 1) := by decide +kernel
theorem dX11_mayAll_349 : decode cX11_mayAll 349 = .ok (.getfield 19, 3) := by decide +kernel
theorem dX11_mayAll_352 : decode cX11_mayAll 352 = .ok (.iload_n 3, 1) := by decide +kernel
theorem dX11_mayAll_353 : decode cX11_mayAll 353 = .ok (.iaload, 1) := by decide +kernel
theorem dX11_mayAll_354 : decode cX11_mayAll 354 = .ok (.baload, 1) := by decide +kernel
theorem dX11_mayAll_355 : decode cX11_mayAll 355 = .ok (.ifCond .eq 7, 3) := by decide +kernel
theorem dX11_mayAll_358 : decode cX11_mayAll 358 = .ok (.iconst 1, 1) := by decide +kernel
theorem dX11_mayAll_359 : decode cX11_mayAll 359 = .ok (.goto 4, 3) := by decide +kernel
theorem dX11_mayAll_362 : decode cX11_mayAll 362 = .ok (.iconst 0, 1) := by decide +kernel
theorem dX11_mayAll_363 : decode cX11_mayAll 363 = .ok (.bastore, 1) := by decide +kernel
theorem dX11_mayAll_364 : decode cX11_mayAll 364 = .ok (.iinc 3 1, 3) := by decide +kernel
theorem dX11_mayAll_367 : decode cX11_mayAll 367 = .ok (.goto (-365), 3) := by decide +kernel
theorem dX11_mayAll_370 : decode cX11_mayAll 370 = .ok (.return_, 1) := by decide +kernel
theorem dX11_fits_0 : decode cX11_fits 0 = .ok (.iconst 1, 1) := by decide +kernel
theorem dX11_fits_1 : decode cX11_fits 1 = .ok (.istore_n 3, 1) := by decide +kernel
theorem dX11_fits_2 : decode cX11_fits 2 = .ok (.iconst 0, 1) := by decide +kernel
theorem dX11_fits_3 : decode cX11_fits 3 = .ok (.istore 4, 2) := by decide +kernel
theorem dX11_fits_5 : decode cX11_fits 5 = .ok (.iconst 0, 1) := by decide +kernel
theorem dX11_fits_6 : decode cX11_fits 6 = .ok (.istore 5, 2) := by decide +kernel
theorem dX11_fits_8 : decode cX11_fits 8 = .ok (.iconst 0, 1) := by decide +kernel
theorem dX11_fits_9 : decode cX11_fits 9 = .ok (.istore 6, 2) := by decide +kernel
theorem dX11_fits_11 : decode cX11_fits 11 = .ok (.iload 6, 2) := by decide +kernel
theorem dX11_fits_13 : decode cX11_fits 13 = .ok (.aload_n 0, 1) := by decide +kernel
theorem dX11_fits_14 : decode cX11_fits 14 = .ok (.getfield 25, 3) := by decide +kernel
theorem dX11_fits_17 : decode cX11_fits 17 = .ok (.iload_n 1, 1) := by decide +kernel
theorem dX11_fits_18 : decode cX11_fits 18 = .ok (.iaload, 1) := by decide +kernel
theorem dX11_fits_19 : decode cX11_fits 19 = .ok (.if_icmp .ge 147, 3) := by decide +kernel
theorem dX11_fits_22 : decode cX11_fits 22 = .ok (.aload_n 0, 1) := by decide +kernel
theorem dX11_fits_23 : decode cX11_fits 23 = .ok (.getfield 31, 3) := by decide +kernel
theorem dX11_fits_26 : decode cX11_fits 26 = .ok (.bipush 8, 2) := by decide +kernel
theorem dX11_fits_28 : decode cX11_fits 28 = .ok (.iload_n 1, 1) := by decide +kernel
theorem dX11_fits_29 : decode cX11_fits 29 = .ok (.imul, 1) := by decide +kernel
theorem dX11_fits_30 : decode cX11_fits 30 = .ok (.iload 6, 2) := by decide +kernel
theorem dX11_fits_32 : decode cX11_fits 32 = .ok (.iadd, 1) := by decide +kernel
theorem dX11_fits_33 : decode cX11_fits 33 = .ok (.iaload, 1) := by decide +kernel
theorem dX11_fits_34 : decode cX11_fits 34 = .ok (.istore 7, 2) := by decide +kernel
theorem dX11_fits_36 : decode cX11_fits 36 = .ok (.aload_n 0, 1) := by decide +kernel
theorem dX11_fits_37 : decode cX11_fits 37 = .ok (.getfield 28, 3) := by decide +kernel
theorem dX11_fits_40 : decode cX11_fits 40 = .ok (.bipush 8, 2) := by decide +kernel
theorem dX11_fits_42 : decode cX11_fits 42 = .ok (.iload_n 1, 1) := by decide +kernel
theorem dX11_fits_43 : decode cX11_fits 43 = .ok (.imul, 1) := by decide +kernel
theorem dX11_fits_44 : decode cX11_fits 44 = .ok (.iload 6, 2) := by decide +kernel
theorem dX11_fits_46 : decode cX11_fits 46 = .ok (.iadd, 1) := by decide +kernel
theorem dX11_fits_47 : decode cX11_fits 47 = .ok (.iaload, 1) := by decide +kernel
theorem dX11_fits_48 : decode cX11_fits 48 = .ok (.istore 8, 2) := by decide +kernel
theorem dX11_fits_50 : decode cX11_fits 50 = .ok (.iload_n 2, 1) := by decide +kernel
theorem dX11_fits_51 : decode cX11_fits 51 = .ok (.iload 8, 2) := by decide +kernel
theorem dX11_fits_53 : decode cX11_fits 53 = .ok (.iconst 2, 1) := by decide +kernel
theorem dX11_fits_54 : decode cX11_fits 54 = .ok (.if_icmp .eq 7, 3) := by decide +kernel
theorem dX11_fits_57 : decode cX11_fits 57 = .ok (.iconst 1, 1) := by decide +kernel
theorem dX11_fits_58 : decode cX11_fits 58 = .ok (.goto 4, 3) := by decide +kernel
theorem dX11_fits_61 : decode cX11_fits 61 = .ok (.iconst 0, 1) := by decide +kernel
theorem dX11_fits_62 : decode cX11_fits 62 = .ok (.if_icmp .ne 13, 3) := by decide +kernel
theorem dX11_fits_65 : decode cX11_fits 65 = .ok (.aload_n 0, 1) := by decide +kernel
theorem dX11_fits_66 : decode cX11_fits 66 = .ok (.getfield 66, 3) := by decide +kernel
theorem dX11_fits_69 : decode cX11_fits 69 = .ok (.iload 7, 2) := by decide +kernel
theorem dX11_fits_71 : decode cX11_fits 71 = .ok (.baload, 1) := by decide +kernel
theorem dX11_fits_72 : decode cX11_fits 72 = .ok (.goto 10, 3) := by decide +kernel
theorem dX11_fits_75 : decode cX11_fits 75 = .ok (.aload_n 0, 1) := by decide +kernel
theorem dX11_fits_76 : decode cX11_fits 76 = .ok (.getfield 63, 3) := by decide +kernel
theorem dX11_fits_79 : decode cX11_fits 79 = .ok (.iload 7, 2) := by decide +kernel
theorem dX11_fits_81 : decode cX11_fits 81 = .ok (.baload, 1) := by decide +kernel
theorem dX11_fits_82 : decode cX11_fits 82 = .ok (.istore 9, 2) := by decide +kernel
theorem dX11_fits_84 : decode cX11_fits 84 = .ok (.iload_n 3, 1) := by decide +kernel
theorem dX11_fits_85 : decode cX11_fits 85 = .ok (.ifCond .eq 29, 3) := by decide +kernel
theorem dX11_fits_88 : decode cX11_fits 88 = .ok (.iload 8, 2) := by decide +kernel
theorem dX11_fits_90 : decode cX11_fits 90 = .ok (.iconst 3, 1) := by decide +kernel
theorem dX11_fits_91 : decode cX11_fits 91 = .ok (.if_icmp .eq 19, 3) := by decide +kernel
theorem dX11_fits_94 : decode cX11_fits 94 = .ok (.iload 9, 2) := by decide +kernel
theorem dX11_fits_96 : decode cX11_fits 96 = .ok (.iload 8, 2) := by decide +kernel
theorem dX11_fits_98 : decode cX11_fits 98 = .ok (.iconst 2, 1) := by decide +kernel
theorem dX11_fits_99 : decode cX11_fits 99 = .ok (.if_icmp .eq 7, 3) := by decide +kernel
theorem dX11_fits_102 : decode cX11_fits 102 = .ok (.iconst 1, 1) := by decide +kernel
theorem dX11_fits_103 : decode cX11_fits 103 = .ok (.goto 4, 3) := by decide +kernel
theorem dX11_fits_106 : decode cX11_fits 106 = .ok (.iconst 0, 1) := by decide +kernel
theorem dX11_fits_107 : decode cX11_fits 107 = .ok (.if_icmp .ne 7, 3) := by decide +kernel
theorem dX11_fits_110 : decode cX11_fits 110 = .ok (.iconst 1, 1) := by decide +kernel
theorem dX11_fits_111 : decode cX11_fits 111 = .ok (.goto 4, 3) := by decide +kernel
theorem dX11_fits_114 : decode cX11_fits 114 = .ok (.iconst 0, 1) := by decide +kernel
theorem dX11_fits_115 : decode cX11_fits 115 = .ok (.istore_n 3, 1) := by decide +kernel
theorem dX11_fits_116 : decode cX11_fits 116 = .ok (.iload 4, 2) := by decide +kernel
theorem dX11_fits_118 : decode cX11_fits 118 = .ok (.ifCond .ne 14, 3) := by decide +kernel
theorem dX11_fits_121 : decode cX11_fits 121 = .ok (.iload 8, 2) := by decide +kernel
theorem dX11_fits_123 : decode cX11_fits 123 = .ok (.iconst 2, 1) := by decide +kernel
theorem dX11_fits_124 : decode cX11_fits 124 = .ok (.if_icmp .eq 12, 3) := by decide +kernel
theorem dX11_fits_127 : decode cX11_fits 127 = .ok (.iload 9, 2) := by decide +kernel
theorem dX11_fits_129 : decode cX11_fits 129 = .ok (.ifCond .eq 7, 3) := by decide +kernel
theorem dX11_fits_132 : decode cX11_fits 132 = .ok (.iconst 1, 1) := by decide +kernel
theorem dX11_fits_133 : decode cX11_fits 133 = .ok (.goto 4, 3) := by decide +kernel
theorem dX11_fits_136 : decode cX11_fits 136 = .ok (.iconst 0, 1) := by decide +kernel
theorem dX11_fits_137 : decode cX11_fits 137 = .ok (.istore 4, 2) := by decide +kernel
theorem dX11_fits_139 : decode cX11_fits 139 = .ok (.iload 5, 2) := by decide +kernel
theorem dX11_fits_141 : decode cX11_fits 141 = .ok (.iload 8, 2) := by decide +kernel
theorem dX11_fits_143 : decode cX11_fits 143 = .ok (.iconst 3, 1) := by decide +kernel
theorem dX11_fits_144 : decode cX11_fits 144 = .ok (.if_icmp .ne 12, 3) := by decide +kernel
theorem dX11_fits_147 : decode cX11_fits 147 = .ok (.iload 9, 2) := by decide +kernel
theorem dX11_fits_149 : decode cX11_fits 149 = .ok (.ifCond .eq 7, 3) := by decide +kernel
theorem dX11_fits_152 : decode cX11_fits 152 = .ok (.iconst 1, 1) := by decide +kernel
theorem dX11_fits_153 : decode cX11_fits 153 = .ok (.goto 4, 3) := by decide +kernel
theorem dX11_fits_156 : decode cX11_fits 156 = .ok (.iconst 0, 1) := by decide +kernel
theorem dX11_fits_157 : decode cX11_fits 157 = .ok (.iadd, 1) := by decide +kernel
theorem dX11_fits_158 : decode cX11_fits 158 = .ok (.istore 5, 2) := by decide +kernel
theorem dX11_fits_160 : decode cX11_fits 160 = .ok (.iinc 6 1, 3) := by decide +kernel
theorem dX11_fits_163 : decode cX11_fits 163 = .ok (.goto (-152), 3) := by decide +kernel
theorem dX11_fits_166 : decode cX11_fits 166 = .ok (.iload_n 3, 1) := by decide +kernel
theorem dX11_fits_167 : decode cX11_fits 167 = .ok (.ifCond .eq 23, 3) := by decide +kernel
theorem dX11_fits_170 : decode cX11_fits 170 = .ok (.iload 4, 2) := by decide +kernel
theorem dX11_fits_172 : decode cX11_fits 172 = .ok (.ifCond .eq 18, 3) := by decide +kernel
theorem dX11_fits_175 : decode cX11_fits 175 = .ok (.iload 5, 2) := by decide +kernel
theorem dX11_fits_177 : decode cX11_fits 177 = .ok (.aload_n 0, 1) := by decide +kernel
theorem dX11_fits_178 : decode cX11_fits 178 = .ok (.getfield 19, 3) := by decide +kernel
theorem dX11_fits_181 : decode cX11_fits 181 = .ok (.iload_n 1, 1) := by decide +kernel
theorem dX11_fits_182 : decode cX11_fits 182 = .ok (.iaload, 1) := by decide +kernel
theorem dX11_fits_183 : decode cX11_fits 183 = .ok (.if_icmp .lt 7, 3) := by decide +kernel
theorem dX11_fits_186 : decode cX11_fits 186 = .ok (.iconst 1, 1) := by decide +kernel
theorem dX11_fits_187 : decode cX11_fits 187 = .ok (.goto 4, 3) := by decide +kernel
theorem dX11_fits_190 : decode cX11_fits 190 = .ok (.iconst 0, 1) := by decide +kernel
theorem dX11_fits_191 : decode cX11_fits 191 = .ok (.ireturn, 1) := by decide +kernel
theorem dX11_may_0 : decode cX11_may 0 = .ok (.aload_n 0, 1) := by decide +kernel
theorem dX11_may_1 : decode cX11_may 1 = .ok (.iload_n 1, 1) := by decide +kernel
theorem dX11_may_2 : decode cX11_may 2 = .ok (.invokevirtual 123, 3) := by decide +kernel
theorem dX11_may_5 : decode cX11_may 5 = .ok (.ifCond .eq 10, 3) := by decide +kernel
theorem dX11_may_8 : decode cX11_may 8 = .ok (.iload_n 2, 1) := by decide +kernel
theorem dX11_may_9 : decode cX11_may 9 = .ok (.invokestatic 115, 3) := by decide +kernel
theorem dX11_may_12 : decode cX11_may 12 = .ok (.ifCond .ne 5, 3) := by decide +kernel
theorem dX11_may_15 : decode cX11_may 15 = .ok (.iconst 0, 1) := by decide +kernel
theorem dX11_may_16 : decode cX11_may 16 = .ok (.ireturn, 1) := by decide +kernel
theorem dX11_may_17 : decode cX11_may 17 = .ok (.aload_n 0, 1) := by decide +kernel
theorem dX11_may_18 : decode cX11_may 18 = .ok (.iload_n 2, 1) := by decide +kernel
theorem dX11_may_19 : decode cX11_may 19 = .ok (.iload_n 1, 1) := by decide +kernel
theorem dX11_may_20 : decode cX11_may 20 = .ok (.invokevirtual 145, 3) := by decide +kernel
theorem dX11_may_23 : decode cX11_may 23 = .ok (.aload_n 0, 1) := by decide +kernel
theorem dX11_may_24 : decode cX11_may 24 = .ok (.getfield 63, 3) := by decide +kernel
theorem dX11_may_27 : decode cX11_may 27 = .ok (.iload_n 1, 1) := by decide +kernel
theorem dX11_may_28 : decode cX11_may 28 = .ok (.baload, 1) := by decide +kernel
theorem dX11_may_29 : decode cX11_may 29 = .ok (.ireturn, 1) := by decide +kernel
theorem dX11_sure_0 : decode cX11_sure 0 = .ok (.aload_n 0, 1) := by decide +kernel
theorem dX11_sure_1 : decode cX11_sure 1 = .ok (.iload_n 1, 1) := by decide +kernel
theorem dX11_sure_2 : decode cX11_sure 2 = .ok (.invokevirtual 123, 3) := by decide +kernel
theorem dX11_sure_5 : decode cX11_sure 5 = .ok (.ifCond .eq 10, 3) := by decide +kernel
theorem dX11_sure_8 : decode cX11_sure 8 = .ok (.iload_n 2, 1) := by decide +kernel
theorem dX11_sure_9 : decode cX11_sure 9 = .ok (.invokestatic 115, 3) := by decide +kernel
theorem dX11_sure_12 : decode cX11_sure 12 = .ok (.ifCond .ne 5, 3) := by decide +kernel
theorem dX11_sure_15 : decode cX11_sure 15 = .ok (.iconst 0, 1) := by decide +kernel
theorem dX11_sure_16 : decode cX11_sure 16 = .ok (.ireturn, 1) := by decide +kernel
theorem dX11_sure_17 : decode cX11_sure 17 = .ok (.aload_n 0, 1) := by decide +kernel
theorem dX11_sure_18 : decode cX11_sure 18 = .ok (.iload_n 2, 1) := by decide +kernel
theorem dX11_sure_19 : decode cX11_sure 19 = .ok (.iload_n 1, 1) := by decide +kernel
theorem dX11_sure_20 : decode cX11_sure 20 = .ok (.invokevirtual 145, 3) := by decide +kernel
theorem dX11_sure_23 : decode cX11_sure 23 = .ok (.aload_n 0, 1) := by decide +kernel
theorem dX11_sure_24 : decode cX11_sure 24 = .ok (.getfield 66, 3) := by decide +kernel
theorem dX11_sure_27 : decode cX11_sure 27 = .ok (.iload_n 1, 1) := by decide +kernel
theorem dX11_sure_28 : decode cX11_sure 28 = .ok (.baload, 1) := by decide +kernel
theorem dX11_sure_29 : decode cX11_sure 29 = .ok (.ireturn, 1) := by decide +kernel
theorem dX11_come_0 : decode cX11_come 0 = .ok (.aload_n 0, 1) := by decide +kernel
theorem dX11_come_1 : decode cX11_come 1 = .ok (.getfield 69, 3) := by decide +kernel
theorem dX11_come_4 : decode cX11_come 4 = .ok (.iload_n 1, 1) := by decide +kernel
theorem dX11_come_5 : decode cX11_come 5 = .ok (.iaload, 1) := by decide +kernel
theorem dX11_come_6 : decode cX11_come 6 = .ok (.iconst (-1), 1) := by decide +kernel
theorem dX11_come_7 : decode cX11_come 7 = .ok (.if_icmp .eq 4, 3) := by decide +kernel
theorem dX11_come_10 : decode cX11_come 10 = .ok (.return_, 1) := by decide +kernel
theorem dX11_come_11 : decode cX11_come 11 = .ok (.aload_n 0, 1) := by decide +kernel
theorem dX11_come_12 : decode cX11_come 12 = .ok (.getfield 63, 3) := by decide +kernel
theorem dX11_come_15 : decode cX11_come 15 = .ok (.iload_n 1, 1) := by decide +kernel
theorem dX11_come_16 : decode cX11_come 16 = .ok (.baload, 1) := by decide +kernel
theorem dX11_come_17 : decode cX11_come 17 = .ok (.ifCond .ne 11, 3) := by decide +kernel
theorem dX11_come_20 : decode cX11_come 20 = .ok (.aload_n 0, 1) := by decide +kernel
theorem dX11_come_21 : decode cX11_come 21 = .ok (.getfield 69, 3) := by decide +kernel
theorem dX11_come_24 : decode cX11_come 24 = .ok (.iload_n 1, 1) := by decide +kernel
theorem dX11_come_25 : decode cX11_come 25 = .ok (.iconst 0, 1) := by decide +kernel
theorem dX11_come_26 : decode cX11_come 26 = .ok (.iastore, 1) := by decide +kernel
theorem dX11_come_27 : decode cX11_come 27 = .ok (.return_, 1) := by decide +kernel
theorem dX11_come_28 : decode cX11_come 28 = .ok (.aload_n 0, 1) := by decide +kernel
theorem dX11_come_29 : decode cX11_come 29 = .ok (.getfield 79, 3) := by decide +kernel
theorem dX11_come_32 : decode cX11_come 32 = .ok (.iload_n 1, 1) := by decide +kernel
theorem dX11_come_33 : decode cX11_come 33 = .ok (.iconst 0, 1) := by decide +kernel
theorem dX11_come_34 : decode cX11_come 34 = .ok (.iastore, 1) := by decide +kernel
theorem dX11_come_35 : decode cX11_come 35 = .ok (.aload_n 0, 1) := by decide +kernel
theorem dX11_come_36 : decode cX11_come 36 = .ok (.getfield 16, 3) := by decide +kernel
theorem dX11_come_39 : decode cX11_come 39 = .ok (.iload_n 1, 1) := by decide +kernel
theorem dX11_come_40 : decode cX11_come 40 = .ok (.iaload, 1) := by decide +kernel
theorem dX11_come_41 : decode cX11_come 41 = .ok (.iconst 2, 1) := by decide +kernel
theorem dX11_come_42 : decode cX11_come 42 = .ok (.if_icmp .ne 8, 3) := by decide +kernel
theorem dX11_come_45 : decode cX11_come 45 = .ok (.aload_n 0, 1) := by decide +kernel
theorem dX11_come_46 : decode cX11_come 46 = .ok (.iload_n 1, 1) := by decide +kernel
theorem dX11_come_47 : decode cX11_come 47 = .ok (.invokevirtual 149, 3) := by decide +kernel
theorem dX11_come_50 : decode cX11_come 50 = .ok (.aload_n 0, 1) := by decide +kernel
theorem dX11_come_51 : decode cX11_come 51 = .ok (.getfield 82, 3) := by decide +kernel
theorem dX11_come_54 : decode cX11_come 54 = .ok (.aload_n 0, 1) := by decide +kernel
theorem dX11_come_55 : decode cX11_come 55 = .ok (.getfield 152, 3) := by decide +kernel
theorem dX11_come_58 : decode cX11_come 58 = .ok (.iload_n 1, 1) := by decide +kernel
theorem dX11_come_59 : decode cX11_come 59 = .ok (.iastore, 1) := by decide +kernel
theorem dX11_come_60 : decode cX11_come 60 = .ok (.aload_n 0, 1) := by decide +kernel
theorem dX11_come_61 : decode cX11_come 61 = .ok (.dup, 1) := by decide +kernel
theorem dX11_come_62 : decode cX11_come 62 = .ok (.getfield 152, 3) := by decide +kernel
theorem dX11_come_65 : decode cX11_come 65 = .ok (.iconst 1, 1) := by decide +kernel
theorem dX11_come_66 : decode cX11_come 66 = .ok (.iadd, 1) := by decide +kernel
theorem dX11_come_67 : decode cX11_come 67 = .ok (.putfield 152, 3) := by decide +kernel
theorem dX11_come_70 : decode cX11_come 70 = .ok (.return_, 1) := by decide +kernel
theorem dX11_sort_0 : decode cX11_sort 0 = .ok (.iconst 0, 1) := by decide +kernel
theorem dX11_sort_1 : decode cX11_sort 1 = .ok (.istore_n 2, 1) := by decide +kernel
theorem dX11_sort_2 : decode cX11_sort 2 = .ok (.iconst 0, 1) := by decide +kernel
theorem dX11_sort_3 : decode cX11_sort 3 = .ok (.istore_n 3, 1) := by decide +kernel
theorem dX11_sort_4 : decode cX11_sort 4 = .ok (.iload_n 3, 1) := by decide +kernel
theorem dX11_sort_5 : decode cX11_sort 5 = .ok (.aload_n 0, 1) := by decide +kernel
theorem dX11_sort_6 : decode cX11_sort 6 = .ok (.getfield 25, 3) := by decide +kernel
theorem dX11_sort_9 : decode cX11_sort 9 = .ok (.iload_n 1, 1) := by decide +kernel
theorem dX11_sort_10 : decode cX11_sort 10 = .ok (.iaload, 1) := by decide +kernel
theorem dX11_sort_11 : decode cX11_sort 11 = .ok (.if_icmp .ge 132, 3) := by decide +kernel
theorem dX11_sort_14 : decode cX11_sort 14 = .ok (.aload_n 0, 1) := by decide +kernel
theorem dX11_sort_15 : decode cX11_sort 15 = .ok (.getfield 28, 3) := by decide +kernel
theorem dX11_sort_18 : decode cX11_sort 18 = .ok (.bipush 8, 2) := by decide +kernel
theorem dX11_sort_20 : decode cX11_sort 20 = .ok (.iload_n 1, 1) := by decide +kernel
theorem dX11_sort_21 : decode cX11_sort 21 = .ok (.imul, 1) := by decide +kernel
theorem dX11_sort_22 : decode cX11_sort 22 = .ok (.iload_n 3, 1) := by decide +kernel
theorem dX11_sort_23 : decode cX11_sort 23 = .ok (.iadd, 1) := by decide +kernel
theorem dX11_sort_24 : decode cX11_sort 24 = .ok (.iaload, 1) := by decide +kernel
theorem dX11_sort_25 : decode cX11_sort 25 = .ok (.iconst 2, 1) := by decide +kernel
theorem dX11_sort_26 : decode cX11_sort 26 = .ok (.if_icmp .ge 111, 3) := by decide +kernel
theorem dX11_sort_29 : decode cX11_sort 29 = .ok (.aload_n 0, 1) := by decide +kernel
theorem dX11_sort_30 : decode cX11_sort 30 = .ok (.getfield 60, 3) := by decide +kernel
theorem dX11_sort_33 : decode cX11_sort 33 = .ok (.aload_n 0, 1) := by decide +kernel
theorem dX11_sort_34 : decode cX11_sort 34 = .ok (.getfield 31, 3) := by decide +kernel
theorem dX11_sort_37 : decode cX11_sort 37 = .ok (.bipush 8, 2) := by decide +kernel
theorem dX11_sort_39 : decode cX11_sort 39 = .ok (.iload_n 1, 1) := by decide +kernel
theorem dX11_sort_40 : decode cX11_sort 40 = .ok (.imul, 1) := by decide +kernel
theorem dX11_sort_41 : decode cX11_sort 41 = .ok (.iload_n 3, 1) := by decide +kernel
theorem dX11_sort_42 : decode cX11_sort 42 = .ok (.iadd, 1) := by decide +kernel
theorem dX11_sort_43 : decode cX11_sort 43 = .ok (.iaload, 1) := by decide +kernel
theorem dX11_sort_44 : decode cX11_sort 44 = .ok (.iaload, 1) := by decide +kernel
theorem dX11_sort_45 : decode cX11_sort 45 = .ok (.istore 4, 2) := by decide +kernel
theorem dX11_sort_47 : decode cX11_sort 47 = .ok (.iload_n 2, 1) := by decide +kernel
theorem dX11_sort_48 : decode cX11_sort 48 = .ok (.istore 5, 2) := by decide +kernel
theorem dX11_sort_50 : decode cX11_sort 50 = .ok (.iload 5, 2) := by decide +kernel
theorem dX11_sort_52 : decode cX11_sort 52 = .ok (.ifCond .le 69, 3) := by decide +kernel
theorem dX11_sort_55 : decode cX11_sort 55 = .ok (.aload_n 0, 1) := by decide +kernel
theorem dX11_sort_56 : decode cX11_sort 56 = .ok (.getfield 60, 3) := by decide +kernel
theorem dX11_sort_59 : decode cX11_sort 59 = .ok (.aload_n 0, 1) := by decide +kernel
theorem dX11_sort_60 : decode cX11_sort 60 = .ok (.getfield 31, 3) := by decide +kernel
theorem dX11_sort_63 : decode cX11_sort 63 = .ok (.bipush 8, 2) := by decide +kernel
theorem dX11_sort_65 : decode cX11_sort 65 = .ok (.iload_n 1, 1) := by decide +kernel
theorem dX11_sort_66 : decode cX11_sort 66 = .ok (.imul, 1) := by decide +kernel
theorem dX11_sort_67 : decode cX11_sort 67 = .ok (.aload_n 0, 1) := by decide +kernel
theorem dX11_sort_68 : decode cX11_sort 68 = .ok (.getfield 76, 3) := by decide +kernel
theorem dX11_sort_71 : decode cX11_sort 71 = .ok (.bipush 8, 2) := by decide +kernel
theorem dX11_sort_73 : decode cX11_sort 73 = .ok (.iload_n 1, 1) := by decide +kernel
theorem dX11_sort_74 : decode cX11_sort 74 = .ok (.imul, 1) := by decide +kernel
theorem dX11_sort_75 : decode cX11_sort 75 = .ok (.iload 5, 2) := by decide +kernel
theorem dX11_sort_77 : decode cX11_sort 77 = .ok (.iadd, 1) := by decide +kernel
theorem dX11_sort_78 : decode cX11_sort 78 = .ok (.iconst 1, 1) := by decide +kernel
theorem dX11_sort_79 : decode cX11_sort 79 = .ok (.isub, 1) := by decide +kernel
theorem dX11_sort_80 : decode cX11_sort 80 = .ok (.iaload, 1) := by decide +kernel
theorem dX11_sort_81 : decode cX11_sort 81 = .ok (.iadd, 1) := by decide +kernel
theorem dX11_sort_82 : decode cX11_sort 82 = .ok (.iaload, 1) := by decide +kernel
theorem dX11_sort_83 : decode cX11_sort 83 = .ok (.iaload, 1) := by decide +kernel
theorem dX11_sort_84 : decode cX11_sort 84 = .ok (.iload 4, 2) := by decide +kernel
theorem dX11_sort_86 : decode cX11_sort 86 = .ok (.if_icmp .le 35, 3) := by decide +kernel
theorem dX11_sort_89 : decode cX11_sort 89 = .ok (.aload_n 0, 1) := by decide +kernel
theorem dX11_sort_90 : decode cX11_sort 90 = .ok (.getfield 76, 3) := by decide +kernel
theorem dX11_sort_93 : decode cX11_sort 93 = .ok (.bipush 8, 2) := by decide +kernel
theorem dX11_sort_95 : decode cX11_sort 95 = .ok (.iload_n 1, 1) := by decide +kernel
theorem dX11_sort_96 : decode cX11_sort 96 = .ok (.imul, 1) := by decide +kernel
theorem dX11_sort_97 : decode cX11_sort 97 = .ok (.iload 5, 2) := by decide +kernel
theorem dX11_sort_99 : decode cX11_sort 99 = .ok (.iadd, 1) := by decide +kernel
theorem dX11_sort_100 : decode cX11_sort 100 = .ok (.aload_n 0, 1) := by decide +kernel
theorem dX11_sort_101 : decode cX11_sort 101 = .ok (.getfield 76, 3) := by decide +kernel
theorem dX11_sort_104 : decode cX11_sort 104 = .ok (.bipush 8, 2) := by decide +kernel
theorem dX11_sort_106 : decode cX11_sort 106 = .ok (.iload_n 1, 1) := by decide +kernel
theorem dX11_sort_107 : decode cX11_sort 107 = .ok (.imul, 1) := by decide +kernel
theorem dX11_sort_108 : decode cX11_sort 108 = .ok (.iload 5, 2) := by decide +kernel
theorem dX11_sort_110 : decode cX11_sort 110 = .ok (.iadd, 1) := by decide +kernel
theorem dX11_sort_111 : decode cX11_sort 111 = .ok (.iconst 1, 1) := by decide +kernel
theorem dX11_sort_112 : decode cX11_sort 112 = .ok (.isub, 1) := by decide +kernel
theorem dX11_sort_113 : decode cX11_sort 113 = .ok (.iaload, 1) := by decide +kernel
theorem dX11_sort_114 : decode cX11_sort 114 = .ok (.iastore, 1) := by decide +kernel
theorem dX11_sort_115 : decode cX11_sort 115 = .ok (.iinc 5 (-1), 3) := by decide +kernel
theorem dX11_sort_118 : decode cX11_sort 118 = .ok (.goto (-68), 3) := by decide +kernel
theorem dX11_sort_121 : decode cX11_sort 121 = .ok (.aload_n 0, 1) := by decide +kernel
theorem dX11_sort_122 : decode cX11_sort 122 = .ok (.getfield 76, 3) := by decide +kernel
theorem dX11_sort_125 : decode cX11_sort 125 = .ok (.bipush 8, 2) := by decide +kernel
theorem dX11_sort_127 : decode cX11_sort 127 = .ok (.iload_n 1, 1) := by decide +kernel
theorem dX11_sort_128 : decode cX11_sort 128 = .ok (.imul, 1) := by decide +kernel
theorem dX11_sort_129 : decode cX11_sort 129 = .ok (.iload 5, 2) := by decide +kernel
theorem dX11_sort_131 : decode cX11_sort 131 = .ok (.iadd, 1) := by decide +kernel
theorem dX11_sort_132 : decode cX11_sort 132 = .ok (.iload_n 3, 1) := by decide +kernel
theorem dX11_sort_133 : decode cX11_sort 133 = .ok (.iastore, 1) := by decide +kernel
theorem dX11_sort_134 : decode cX11_sort 134 = .ok (.iinc 2 1, 3) := by decide +kernel
theorem dX11_sort_137 : decode cX11_sort 137 = .ok (.iinc 3 1, 3) := by decide +kernel
theorem dX11_sort_140 : decode cX11_sort 140 = .ok (.goto (-136), 3) := by decide +kernel
theorem dX11_sort_143 : decode cX11_sort 143 = .ok (.iconst 2, 1) := by decide +kernel
theorem dX11_sort_144 : decode cX11_sort 144 = .ok (.istore_n 3, 1) := by decide +kernel
theorem dX11_sort_145 : decode cX11_sort 145 = .ok (.iload_n 3, 1) := by decide +kernel
theorem dX11_sort_146 : decode cX11_sort 146 = .ok (.iconst 3, 1) := by decide +kernel
theorem dX11_sort_147 : decode cX11_sort 147 = .ok (.if_icmp .gt 61, 3) := by decide +kernel
theorem dX11_sort_150 : decode cX11_sort 150 = .ok (.iconst 0, 1) := by decide +kernel
theorem dX11_sort_151 : decode cX11_sort 151 = .ok (.istore 4, 2) := by decide +kernel
theorem dX11_sort_153 : decode cX11_sort 153 = .ok (.iload 4, 2) := by decide +kernel
theorem dX11_sort_155 : decode cX11_sort 155 = .ok (.aload_n 0, 1) := by decide +kernel
theorem dX11_sort_156 : decode cX11_sort 156 = .ok (.getfield 25, 3) := by decide +kernel
theorem dX11_sort_159 : decode cX11_sort 159 = .ok (.iload_n 1, 1) := by decide +kernel
theorem dX11_sort_160 : decode cX11_sort 160 = .ok (.iaload, 1) := by decide +kernel
theorem dX11_sort_161 : decode cX11_sort 161 = .ok (.if_icmp .ge 41, 3) := by decide +kernel
theorem dX11_sort_164 : decode cX11_sort 164 = .ok (.aload_n 0, 1) := by decide +kernel
theorem dX11_sort_165 : decode cX11_sort 165 = .ok (.getfield 28, 3) := by decide +kernel
theorem dX11_sort_168 : decode cX11_sort 168 = .ok (.bipush 8, 2) := by decide +kernel
theorem dX11_sort_170 : decode cX11_sort 170 = .ok (.iload_n 1, 1) := by decide +kernel
theorem dX11_sort_171 : decode cX11_sort 171 = .ok (.imul, 1) := by decide +kernel
theorem dX11_sort_172 : decode cX11_sort 172 = .ok (.iload 4, 2) := by decide +kernel
theorem dX11_sort_174 : decode cX11_sort 174 = .ok (.iadd, 1) := by decide +kernel
theorem dX11_sort_175 : decode cX11_sort 175 = .ok (.iaload, 1) := by decide +kernel
theorem dX11_sort_176 : decode cX11_sort 176 = .ok (.iload_n 3, 1) := by decide +kernel
theorem dX11_sort_177 : decode cX11_sort 177 = .ok (.if_icmp .ne 19, 3) := by decide +kernel
theorem dX11_sort_180 : decode cX11_sort 180 = .ok (.aload_n 0, 1) := by decide +kernel
theorem dX11_sort_181 : decode cX11_sort 181 = .ok (.getfield 76, 3) := by decide +kernel
theorem dX11_sort_184 : decode cX11_sort 184 = .ok (.bipush 8, 2) := by decide +kernel
theorem dX11_sort_186 : decode cX11_sort 186 = .ok (.iload_n 1, 1) := by decide +kernel
theorem dX11_sort_187 : decode cX11_sort 187 = .ok (.imul, 1) := by decide +kernel
theorem dX11_sort_188 : decode cX11_sort 188 = .ok (.iload_n 2, 1) := by decide +kernel
theorem dX11_sort_189 : decode cX11_sort 189 = .ok (.iadd, 1) := by decide +kernel
theorem dX11_sort_190 : decode cX11_sort 190 = .ok (.iload 4, 2) := by decide +kernel
end
section
theorem dX11_sort_192 : decode cX11_sort 192 = .ok (.iastore, 1) := by decide +kernel
theorem dX11_sort_193 : decode cX11_sort 193 = .ok (.iinc 2 1, 3) := by decide +kernel
theorem dX11_sort_196 : decode cX11_sort 196 = .ok (.iinc 4 1, 3) := by decide +kernel
theorem dX11_sort_199 : decode cX11_sort 199 = .ok (.goto (-46), 3) := by decide +kernel
theorem dX11_sort_202 : decode cX11_sort 202 = .ok (.iinc 3 1, 3) := by decide +kernel
theorem dX11_sort_205 : decode cX11_sort 205 = .ok (.goto (-60), 3) := by decide +kernel
theorem dX11_sort_208 : decode cX11_sort 208 = .ok (.return_, 1) := by decide +kernel
theorem dX11_go_0 : decode cX11_go 0 = .ok (.aload_n 0, 1) := by decide +kernel
theorem dX11_go_1 : decode cX11_go 1 = .ok (.invokevirtual 134, 3) := by decide +kernel
theorem dX11_go_4 : decode cX11_go 4 = .ok (.aload_n 0, 1) := by decide +kernel
theorem dX11_go_5 : decode cX11_go 5 = .ok (.iload_n 2, 1) := by decide +kernel
theorem dX11_go_6 : decode cX11_go 6 = .ok (.iload_n 1, 1) := by decide +kernel
theorem dX11_go_7 : decode cX11_go 7 = .ok (.invokevirtual 145, 3) := by decide +kernel
theorem dX11_go_10 : decode cX11_go 10 = .ok (.iconst 0, 1) := by decide +kernel
theorem dX11_go_11 : decode cX11_go 11 = .ok (.istore_n 3, 1) := by decide +kernel
theorem dX11_go_12 : decode cX11_go 12 = .ok (.iload_n 3, 1) := by decide +kernel
theorem dX11_go_13 : decode cX11_go 13 = .ok (.iload_n 1, 1) := by decide +kernel
theorem dX11_go_14 : decode cX11_go 14 = .ok (.if_icmp .gt 23, 3) := by decide +kernel
theorem dX11_go_17 : decode cX11_go 17 = .ok (.aload_n 0, 1) := by decide +kernel
theorem dX11_go_18 : decode cX11_go 18 = .ok (.getfield 69, 3) := by decide +kernel
theorem dX11_go_21 : decode cX11_go 21 = .ok (.iload_n 3, 1) := by decide +kernel
theorem dX11_go_22 : decode cX11_go 22 = .ok (.iconst (-1), 1) := by decide +kernel
theorem dX11_go_23 : decode cX11_go 23 = .ok (.iastore, 1) := by decide +kernel
theorem dX11_go_24 : decode cX11_go 24 = .ok (.aload_n 0, 1) := by decide +kernel
theorem dX11_go_25 : decode cX11_go 25 = .ok (.getfield 72, 3) := by decide +kernel
theorem dX11_go_28 : decode cX11_go 28 = .ok (.iload_n 3, 1) := by decide +kernel
theorem dX11_go_29 : decode cX11_go 29 = .ok (.lconst 0, 1) := by decide +kernel
theorem dX11_go_30 : decode cX11_go 30 = .ok (.lastore, 1) := by decide +kernel
theorem dX11_go_31 : decode cX11_go 31 = .ok (.iinc 3 1, 3) := by decide +kernel
theorem dX11_go_34 : decode cX11_go 34 = .ok (.goto (-22), 3) := by decide +kernel
theorem dX11_go_37 : decode cX11_go 37 = .ok (.aload_n 0, 1) := by decide +kernel
theorem dX11_go_38 : decode cX11_go 38 = .ok (.iconst 0, 1) := by decide +kernel
theorem dX11_go_39 : decode cX11_go 39 = .ok (.putfield 152, 3) := by decide +kernel
theorem dX11_go_42 : decode cX11_go 42 = .ok (.aload_n 0, 1) := by decide +kernel
theorem dX11_go_43 : decode cX11_go 43 = .ok (.iload_n 1, 1) := by decide +kernel
theorem dX11_go_44 : decode cX11_go 44 = .ok (.invokevirtual 155, 3) := by decide +kernel
theorem dX11_go_47 : decode cX11_go 47 = .ok (.aload_n 0, 1) := by decide +kernel
theorem dX11_go_48 : decode cX11_go 48 = .ok (.getfield 152, 3) := by decide +kernel
theorem dX11_go_51 : decode cX11_go 51 = .ok (.ifCond .le 160, 3) := by decide +kernel
theorem dX11_go_54 : decode cX11_go 54 = .ok (.aload_n 0, 1) := by decide +kernel
theorem dX11_go_55 : decode cX11_go 55 = .ok (.getfield 82, 3) := by decide +kernel
theorem dX11_go_58 : decode cX11_go 58 = .ok (.aload_n 0, 1) := by decide +kernel
theorem dX11_go_59 : decode cX11_go 59 = .ok (.getfield 152, 3) := by decide +kernel
theorem dX11_go_62 : decode cX11_go 62 = .ok (.iconst 1, 1) := by decide +kernel
theorem dX11_go_63 : decode cX11_go 63 = .ok (.isub, 1) := by decide +kernel
theorem dX11_go_64 : decode cX11_go 64 = .ok (.iaload, 1) := by decide +kernel
theorem dX11_go_65 : decode cX11_go 65 = .ok (.istore_n 3, 1) := by decide +kernel
theorem dX11_go_66 : decode cX11_go 66 = .ok (.aload_n 0, 1) := by decide +kernel
theorem dX11_go_67 : decode cX11_go 67 = .ok (.getfield 69, 3) := by decide +kernel
theorem dX11_go_70 : decode cX11_go 70 = .ok (.iload_n 3, 1) := by decide +kernel
theorem dX11_go_71 : decode cX11_go 71 = .ok (.iaload, 1) := by decide +kernel
theorem dX11_go_72 : decode cX11_go 72 = .ok (.iconst (-1), 1) := by decide +kernel
theorem dX11_go_73 : decode cX11_go 73 = .ok (.if_icmp .eq 16, 3) := by decide +kernel
theorem dX11_go_76 : decode cX11_go 76 = .ok (.aload_n 0, 1) := by decide +kernel
theorem dX11_go_77 : decode cX11_go 77 = .ok (.dup, 1) := by decide +kernel
theorem dX11_go_78 : decode cX11_go 78 = .ok (.getfield 152, 3) := by decide +kernel
theorem dX11_go_81 : decode cX11_go 81 = .ok (.iconst 1, 1) := by decide +kernel
theorem dX11_go_82 : decode cX11_go 82 = .ok (.isub, 1) := by decide +kernel
theorem dX11_go_83 : decode cX11_go 83 = .ok (.putfield 152, 3) := by decide +kernel
theorem dX11_go_86 : decode cX11_go 86 = .ok (.goto 122, 3) := by decide +kernel
theorem dX11_go_89 : decode cX11_go 89 = .ok (.aload_n 0, 1) := by decide +kernel
theorem dX11_go_90 : decode cX11_go 90 = .ok (.getfield 16, 3) := by decide +kernel
theorem dX11_go_93 : decode cX11_go 93 = .ok (.iload_n 3, 1) := by decide +kernel
theorem dX11_go_94 : decode cX11_go 94 = .ok (.iaload, 1) := by decide +kernel
theorem dX11_go_95 : decode cX11_go 95 = .ok (.iconst 2, 1) := by decide +kernel
theorem dX11_go_96 : decode cX11_go 96 = .ok (.if_icmp .ne 11, 3) := by decide +kernel
theorem dX11_go_99 : decode cX11_go 99 = .ok (.aload_n 0, 1) := by decide +kernel
theorem dX11_go_100 : decode cX11_go 100 = .ok (.iload_n 3, 1) := by decide +kernel
theorem dX11_go_101 : decode cX11_go 101 = .ok (.invokevirtual 158, 3) := by decide +kernel
theorem dX11_go_104 : decode cX11_go 104 = .ok (.goto 104, 3) := by decide +kernel
theorem dX11_go_107 : decode cX11_go 107 = .ok (.aload_n 0, 1) := by decide +kernel
theorem dX11_go_108 : decode cX11_go 108 = .ok (.getfield 16, 3) := by decide +kernel
theorem dX11_go_111 : decode cX11_go 111 = .ok (.iload_n 3, 1) := by decide +kernel
theorem dX11_go_112 : decode cX11_go 112 = .ok (.iaload, 1) := by decide +kernel
theorem dX11_go_113 : decode cX11_go 113 = .ok (.iconst 3, 1) := by decide +kernel
theorem dX11_go_114 : decode cX11_go 114 = .ok (.if_icmp .ne 11, 3) := by decide +kernel
theorem dX11_go_117 : decode cX11_go 117 = .ok (.aload_n 0, 1) := by decide +kernel
theorem dX11_go_118 : decode cX11_go 118 = .ok (.iload_n 3, 1) := by decide +kernel
theorem dX11_go_119 : decode cX11_go 119 = .ok (.invokevirtual 161, 3) := by decide +kernel
theorem dX11_go_122 : decode cX11_go 122 = .ok (.goto 86, 3) := by decide +kernel
theorem dX11_go_125 : decode cX11_go 125 = .ok (.aload_n 0, 1) := by decide +kernel
theorem dX11_go_126 : decode cX11_go 126 = .ok (.getfield 25, 3) := by decide +kernel
theorem dX11_go_129 : decode cX11_go 129 = .ok (.iload_n 3, 1) := by decide +kernel
theorem dX11_go_130 : decode cX11_go 130 = .ok (.iaload, 1) := by decide +kernel
theorem dX11_go_131 : decode cX11_go 131 = .ok (.ifCond .le 33, 3) := by decide +kernel
theorem dX11_go_134 : decode cX11_go 134 = .ok (.aload_n 0, 1) := by decide +kernel
theorem dX11_go_135 : decode cX11_go 135 = .ok (.getfield 16, 3) := by decide +kernel
theorem dX11_go_138 : decode cX11_go 138 = .ok (.iload_n 3, 1) := by decide +kernel
theorem dX11_go_139 : decode cX11_go 139 = .ok (.iaload, 1) := by decide +kernel
theorem dX11_go_140 : decode cX11_go 140 = .ok (.bipush 6, 2) := by decide +kernel
theorem dX11_go_142 : decode cX11_go 142 = .ok (.if_icmp .ne 13, 3) := by decide +kernel
theorem dX11_go_145 : decode cX11_go 145 = .ok (.aload_n 0, 1) := by decide +kernel
theorem dX11_go_146 : decode cX11_go 146 = .ok (.getfield 37, 3) := by decide +kernel
theorem dX11_go_149 : decode cX11_go 149 = .ok (.iload_n 3, 1) := by decide +kernel
theorem dX11_go_150 : decode cX11_go 150 = .ok (.iaload, 1) := by decide +kernel
theorem dX11_go_151 : decode cX11_go 151 = .ok (.iconst (-1), 1) := by decide +kernel
theorem dX11_go_152 : decode cX11_go 152 = .ok (.if_icmp .ne 12, 3) := by decide +kernel
theorem dX11_go_155 : decode cX11_go 155 = .ok (.aload_n 0, 1) := by decide +kernel
theorem dX11_go_156 : decode cX11_go 156 = .ok (.iload_n 3, 1) := by decide +kernel
theorem dX11_go_157 : decode cX11_go 157 = .ok (.iload_n 2, 1) := by decide +kernel
theorem dX11_go_158 : decode cX11_go 158 = .ok (.invokevirtual 164, 3) := by decide +kernel
theorem dX11_go_161 : decode cX11_go 161 = .ok (.goto 47, 3) := by decide +kernel
theorem dX11_go_164 : decode cX11_go 164 = .ok (.aload_n 0, 1) := by decide +kernel
theorem dX11_go_165 : decode cX11_go 165 = .ok (.getfield 69, 3) := by decide +kernel
theorem dX11_go_168 : decode cX11_go 168 = .ok (.iload_n 3, 1) := by decide +kernel
theorem dX11_go_169 : decode cX11_go 169 = .ok (.iconst 1, 1) := by decide +kernel
theorem dX11_go_170 : decode cX11_go 170 = .ok (.iastore, 1) := by decide +kernel
theorem dX11_go_171 : decode cX11_go 171 = .ok (.aload_n 0, 1) := by decide +kernel
theorem dX11_go_172 : decode cX11_go 172 = .ok (.getfield 72, 3) := by decide +kernel
theorem dX11_go_175 : decode cX11_go 175 = .ok (.iload_n 3, 1) := by decide +kernel
theorem dX11_go_176 : decode cX11_go 176 = .ok (.aload_n 0, 1) := by decide +kernel
theorem dX11_go_177 : decode cX11_go 177 = .ok (.getfield 16, 3) := by decide +kernel
theorem dX11_go_180 : decode cX11_go 180 = .ok (.iload_n 3, 1) := by decide +kernel
theorem dX11_go_181 : decode cX11_go 181 = .ok (.iaload, 1) := by decide +kernel
theorem dX11_go_182 : decode cX11_go 182 = .ok (.ifCond .ne 24, 3) := by decide +kernel
theorem dX11_go_185 : decode cX11_go 185 = .ok (.aload_n 0, 1) := by decide +kernel
theorem dX11_go_186 : decode cX11_go 186 = .ok (.getfield 7, 3) := by decide +kernel
theorem dX11_go_189 : decode cX11_go 189 = .ok (.sipush 512, 3) := by decide +kernel
theorem dX11_go_192 : decode cX11_go 192 = .ok (.aload_n 0, 1) := by decide +kernel
theorem dX11_go_193 : decode cX11_go 193 = .ok (.getfield 19, 3) := by decide +kernel
theorem dX11_go_196 : decode cX11_go 196 = .ok (.iload_n 3, 1) := by decide +kernel
theorem dX11_go_197 : decode cX11_go 197 = .ok (.iaload, 1) := by decide +kernel
theorem dX11_go_198 : decode cX11_go 198 = .ok (.imul, 1) := by decide +kernel
theorem dX11_go_199 : decode cX11_go 199 = .ok (.iload_n 2, 1) := by decide +kernel
theorem dX11_go_200 : decode cX11_go 200 = .ok (.iadd, 1) := by decide +kernel
theorem dX11_go_201 : decode cX11_go 201 = .ok (.iaload, 1) := by decide +kernel
theorem dX11_go_202 : decode cX11_go 202 = .ok (.i2l, 1) := by decide +kernel
theorem dX11_go_203 : decode cX11_go 203 = .ok (.goto 4, 3) := by decide +kernel
theorem dX11_go_206 : decode cX11_go 206 = .ok (.lconst 0, 1) := by decide +kernel
theorem dX11_go_207 : decode cX11_go 207 = .ok (.lastore, 1) := by decide +kernel
theorem dX11_go_208 : decode cX11_go 208 = .ok (.goto (-161), 3) := by decide +kernel
theorem dX11_go_211 : decode cX11_go 211 = .ok (.aload_n 0, 1) := by decide +kernel
theorem dX11_go_212 : decode cX11_go 212 = .ok (.getfield 69, 3) := by decide +kernel
theorem dX11_go_215 : decode cX11_go 215 = .ok (.iload_n 1, 1) := by decide +kernel
theorem dX11_go_216 : decode cX11_go 216 = .ok (.iaload, 1) := by decide +kernel
theorem dX11_go_217 : decode cX11_go 217 = .ok (.iconst 1, 1) := by decide +kernel
theorem dX11_go_218 : decode cX11_go 218 = .ok (.if_icmp .ne 7, 3) := by decide +kernel
theorem dX11_go_221 : decode cX11_go 221 = .ok (.iconst 1, 1) := by decide +kernel
theorem dX11_go_222 : decode cX11_go 222 = .ok (.goto 4, 3) := by decide +kernel
theorem dX11_go_225 : decode cX11_go 225 = .ok (.iconst 0, 1) := by decide +kernel
theorem dX11_go_226 : decode cX11_go 226 = .ok (.ireturn, 1) := by decide +kernel
theorem dX11_goOne_0 : decode cX11_goOne 0 = .ok (.aload_n 0, 1) := by decide +kernel
theorem dX11_goOne_1 : decode cX11_goOne 1 = .ok (.getfield 19, 3) := by decide +kernel
theorem dX11_goOne_4 : decode cX11_goOne 4 = .ok (.iload_n 1, 1) := by decide +kernel
theorem dX11_goOne_5 : decode cX11_goOne 5 = .ok (.iaload, 1) := by decide +kernel
theorem dX11_goOne_6 : decode cX11_goOne 6 = .ok (.istore_n 3, 1) := by decide +kernel
theorem dX11_goOne_7 : decode cX11_goOne 7 = .ok (.aload_n 0, 1) := by decide +kernel
theorem dX11_goOne_8 : decode cX11_goOne 8 = .ok (.iload_n 3, 1) := by decide +kernel
theorem dX11_goOne_9 : decode cX11_goOne 9 = .ok (.invokevirtual 155, 3) := by decide +kernel
theorem dX11_goOne_12 : decode cX11_goOne 12 = .ok (.aload_n 0, 1) := by decide +kernel
theorem dX11_goOne_13 : decode cX11_goOne 13 = .ok (.getfield 69, 3) := by decide +kernel
theorem dX11_goOne_16 : decode cX11_goOne 16 = .ok (.iload_n 3, 1) := by decide +kernel
theorem dX11_goOne_17 : decode cX11_goOne 17 = .ok (.iaload, 1) := by decide +kernel
theorem dX11_goOne_18 : decode cX11_goOne 18 = .ok (.iconst (-1), 1) := by decide +kernel
theorem dX11_goOne_19 : decode cX11_goOne 19 = .ok (.if_icmp .ne 4, 3) := by decide +kernel
theorem dX11_goOne_22 : decode cX11_goOne 22 = .ok (.return_, 1) := by decide +kernel
theorem dX11_goOne_23 : decode cX11_goOne 23 = .ok (.aload_n 0, 1) := by decide +kernel
theorem dX11_goOne_24 : decode cX11_goOne 24 = .ok (.getfield 69, 3) := by decide +kernel
theorem dX11_goOne_27 : decode cX11_goOne 27 = .ok (.iload_n 3, 1) := by decide +kernel
theorem dX11_goOne_28 : decode cX11_goOne 28 = .ok (.iaload, 1) := by decide +kernel
theorem dX11_goOne_29 : decode cX11_goOne 29 = .ok (.istore 4, 2) := by decide +kernel
theorem dX11_goOne_31 : decode cX11_goOne 31 = .ok (.aload_n 0, 1) := by decide +kernel
theorem dX11_goOne_32 : decode cX11_goOne 32 = .ok (.getfield 16, 3) := by decide +kernel
theorem dX11_goOne_35 : decode cX11_goOne 35 = .ok (.iload_n 1, 1) := by decide +kernel
theorem dX11_goOne_36 : decode cX11_goOne 36 = .ok (.iaload, 1) := by decide +kernel
theorem dX11_goOne_37 : decode cX11_goOne 37 = .ok (.iconst 5, 1) := by decide +kernel
theorem dX11_goOne_38 : decode cX11_goOne 38 = .ok (.if_icmp .ne 75, 3) := by decide +kernel
theorem dX11_goOne_41 : decode cX11_goOne 41 = .ok (.iload 4, 2) := by decide +kernel
theorem dX11_goOne_43 : decode cX11_goOne 43 = .ok (.iconst 1, 1) := by decide +kernel
theorem dX11_goOne_44 : decode cX11_goOne 44 = .ok (.if_icmp .ne 69, 3) := by decide +kernel
theorem dX11_goOne_47 : decode cX11_goOne 47 = .ok (.aload_n 0, 1) := by decide +kernel
theorem dX11_goOne_48 : decode cX11_goOne 48 = .ok (.getfield 34, 3) := by decide +kernel
theorem dX11_goOne_51 : decode cX11_goOne 51 = .ok (.iload_n 1, 1) := by decide +kernel
theorem dX11_goOne_52 : decode cX11_goOne 52 = .ok (.dup2, 1) := by decide +kernel
theorem dX11_goOne_53 : decode cX11_goOne 53 = .ok (.iaload, 1) := by decide +kernel
theorem dX11_goOne_54 : decode cX11_goOne 54 = .ok (.iconst 1, 1) := by decide +kernel
theorem dX11_goOne_55 : decode cX11_goOne 55 = .ok (.iadd, 1) := by decide +kernel
theorem dX11_goOne_56 : decode cX11_goOne 56 = .ok (.iastore, 1) := by decide +kernel
theorem dX11_goOne_57 : decode cX11_goOne 57 = .ok (.aload_n 0, 1) := by decide +kernel
theorem dX11_goOne_58 : decode cX11_goOne 58 = .ok (.dup, 1) := by decide +kernel
theorem dX11_goOne_59 : decode cX11_goOne 59 = .ok (.getfield 167, 3) := by decide +kernel
theorem dX11_goOne_62 : decode cX11_goOne 62 = .ok (.iconst 1, 1) := by decide +kernel
theorem dX11_goOne_63 : decode cX11_goOne 63 = .ok (.iadd, 1) := by decide +kernel
theorem dX11_goOne_64 : decode cX11_goOne 64 = .ok (.putfield 167, 3) := by decide +kernel
theorem dX11_goOne_67 : decode cX11_goOne 67 = .ok (.aload_n 0, 1) := by decide +kernel
theorem dX11_goOne_68 : decode cX11_goOne 68 = .ok (.getfield 22, 3) := by decide +kernel
theorem dX11_goOne_71 : decode cX11_goOne 71 = .ok (.iload_n 1, 1) := by decide +kernel
theorem dX11_goOne_72 : decode cX11_goOne 72 = .ok (.iaload, 1) := by decide +kernel
theorem dX11_goOne_73 : decode cX11_goOne 73 = .ok (.ldc 119, 2) := by decide +kernel
theorem dX11_goOne_75 : decode cX11_goOne 75 = .ok (.idiv, 1) := by decide +kernel
theorem dX11_goOne_76 : decode cX11_goOne 76 = .ok (.iload_n 2, 1) := by decide +kernel
theorem dX11_goOne_77 : decode cX11_goOne 77 = .ok (.imul, 1) := by decide +kernel
theorem dX11_goOne_78 : decode cX11_goOne 78 = .ok (.aload_n 0, 1) := by decide +kernel
theorem dX11_goOne_79 : decode cX11_goOne 79 = .ok (.getfield 22, 3) := by decide +kernel
theorem dX11_goOne_82 : decode cX11_goOne 82 = .ok (.iload_n 1, 1) := by decide +kernel
theorem dX11_goOne_83 : decode cX11_goOne 83 = .ok (.iaload, 1) := by decide +kernel
theorem dX11_goOne_84 : decode cX11_goOne 84 = .ok (.sipush 1000, 3) := by decide +kernel
theorem dX11_goOne_87 : decode cX11_goOne 87 = .ok (.idiv, 1) := by decide +kernel
theorem dX11_goOne_88 : decode cX11_goOne 88 = .ok (.sipush 1000, 3) := by decide +kernel
theorem dX11_goOne_91 : decode cX11_goOne 91 = .ok (.irem, 1) := by decide +kernel
theorem dX11_goOne_92 : decode cX11_goOne 92 = .ok (.irem, 1) := by decide +kernel
theorem dX11_goOne_93 : decode cX11_goOne 93 = .ok (.aload_n 0, 1) := by decide +kernel
theorem dX11_goOne_94 : decode cX11_goOne 94 = .ok (.getfield 22, 3) := by decide +kernel
theorem dX11_goOne_97 : decode cX11_goOne 97 = .ok (.iload_n 1, 1) := by decide +kernel
theorem dX11_goOne_98 : decode cX11_goOne 98 = .ok (.iaload, 1) := by decide +kernel
theorem dX11_goOne_99 : decode cX11_goOne 99 = .ok (.sipush 1000, 3) := by decide +kernel
theorem dX11_goOne_102 : decode cX11_goOne 102 = .ok (.irem, 1) := by decide +kernel
theorem dX11_goOne_103 : decode cX11_goOne 103 = .ok (.if_icmp .ge 7, 3) := by decide +kernel
theorem dX11_goOne_106 : decode cX11_goOne 106 = .ok (.iconst 1, 1) := by decide +kernel
theorem dX11_goOne_107 : decode cX11_goOne 107 = .ok (.goto 4, 3) := by decide +kernel
theorem dX11_goOne_110 : decode cX11_goOne 110 = .ok (.iconst 0, 1) := by decide +kernel
theorem dX11_goOne_111 : decode cX11_goOne 111 = .ok (.istore 4, 2) := by decide +kernel
theorem dX11_goOne_113 : decode cX11_goOne 113 = .ok (.aload_n 0, 1) := by decide +kernel
theorem dX11_goOne_114 : decode cX11_goOne 114 = .ok (.getfield 69, 3) := by decide +kernel
theorem dX11_goOne_117 : decode cX11_goOne 117 = .ok (.iload_n 1, 1) := by decide +kernel
theorem dX11_goOne_118 : decode cX11_goOne 118 = .ok (.iload 4, 2) := by decide +kernel
theorem dX11_goOne_120 : decode cX11_goOne 120 = .ok (.iastore, 1) := by decide +kernel
theorem dX11_goOne_121 : decode cX11_goOne 121 = .ok (.aload_n 0, 1) := by decide +kernel
theorem dX11_goOne_122 : decode cX11_goOne 122 = .ok (.getfield 72, 3) := by decide +kernel
theorem dX11_goOne_125 : decode cX11_goOne 125 = .ok (.iload_n 1, 1) := by decide +kernel
theorem dX11_goOne_126 : decode cX11_goOne 126 = .ok (.aload_n 0, 1) := by decide +kernel
theorem dX11_goOne_127 : decode cX11_goOne 127 = .ok (.getfield 16, 3) := by decide +kernel
theorem dX11_goOne_130 : decode cX11_goOne 130 = .ok (.iload_n 1, 1) := by decide +kernel
theorem dX11_goOne_131 : decode cX11_goOne 131 = .ok (.iaload, 1) := by decide +kernel
theorem dX11_goOne_132 : decode cX11_goOne 132 = .ok (.iconst 4, 1) := by decide +kernel
theorem dX11_goOne_133 : decode cX11_goOne 133 = .ok (.if_icmp .ne 13, 3) := by decide +kernel
theorem dX11_goOne_136 : decode cX11_goOne 136 = .ok (.aload_n 0, 1) := by decide +kernel
theorem dX11_goOne_137 : decode cX11_goOne 137 = .ok (.getfield 22, 3) := by decide +kernel
theorem dX11_goOne_140 : decode cX11_goOne 140 = .ok (.iload_n 1, 1) := by decide +kernel
theorem dX11_goOne_141 : decode cX11_goOne 141 = .ok (.iaload, 1) := by decide +kernel
theorem dX11_goOne_142 : decode cX11_goOne 142 = .ok (.i2l, 1) := by decide +kernel
theorem dX11_goOne_143 : decode cX11_goOne 143 = .ok (.goto 23, 3) := by decide +kernel
theorem dX11_goOne_146 : decode cX11_goOne 146 = .ok (.aload_n 0, 1) := by decide +kernel
theorem dX11_goOne_147 : decode cX11_goOne 147 = .ok (.getfield 16, 3) := by decide +kernel
theorem dX11_goOne_150 : decode cX11_goOne 150 = .ok (.iload_n 1, 1) := by decide +kernel
theorem dX11_goOne_151 : decode cX11_goOne 151 = .ok (.iaload, 1) := by decide +kernel
theorem dX11_goOne_152 : decode cX11_goOne 152 = .ok (.iconst 5, 1) := by decide +kernel
theorem dX11_goOne_153 : decode cX11_goOne 153 = .ok (.if_icmp .ne 12, 3) := by decide +kernel
theorem dX11_goOne_156 : decode cX11_goOne 156 = .ok (.aload_n 0, 1) := by decide +kernel
theorem dX11_goOne_157 : decode cX11_goOne 157 = .ok (.getfield 72, 3) := by decide +kernel
theorem dX11_goOne_160 : decode cX11_goOne 160 = .ok (.iload_n 3, 1) := by decide +kernel
theorem dX11_goOne_161 : decode cX11_goOne 161 = .ok (.laload, 1) := by decide +kernel
theorem dX11_goOne_162 : decode cX11_goOne 162 = .ok (.goto 4, 3) := by decide +kernel
theorem dX11_goOne_165 : decode cX11_goOne 165 = .ok (.lconst 0, 1) := by decide +kernel
theorem dX11_goOne_166 : decode cX11_goOne 166 = .ok (.lastore, 1) := by decide +kernel
theorem dX11_goOne_167 : decode cX11_goOne 167 = .ok (.return_, 1) := by decide +kernel
theorem dX11_goBest_0 : decode cX11_goBest 0 = .ok (.aload_n 0, 1) := by decide +kernel
theorem dX11_goBest_1 : decode cX11_goBest 1 = .ok (.getfield 79, 3) := by decide +kernel
theorem dX11_goBest_4 : decode cX11_goBest 4 = .ok (.iload_n 1, 1) := by decide +kernel
theorem dX11_goBest_5 : decode cX11_goBest 5 = .ok (.iaload, 1) := by decide +kernel
theorem dX11_goBest_6 : decode cX11_goBest 6 = .ok (.aload_n 0, 1) := by decide +kernel
theorem dX11_goBest_7 : decode cX11_goBest 7 = .ok (.getfield 25, 3) := by decide +kernel
theorem dX11_goBest_10 : decode cX11_goBest 10 = .ok (.iload_n 1, 1) := by decide +kernel
theorem dX11_goBest_11 : decode cX11_goBest 11 = .ok (.iaload, 1) := by decide +kernel
theorem dX11_goBest_12 : decode cX11_goBest 12 = .ok (.if_icmp .ge 49, 3) := by decide +kernel
theorem dX11_goBest_15 : decode cX11_goBest 15 = .ok (.aload_n 0, 1) := by decide +kernel
theorem dX11_goBest_16 : decode cX11_goBest 16 = .ok (.getfield 31, 3) := by decide +kernel
theorem dX11_goBest_19 : decode cX11_goBest 19 = .ok (.bipush 8, 2) := by decide +kernel
theorem dX11_goBest_21 : decode cX11_goBest 21 = .ok (.iload_n 1, 1) := by decide +kernel
theorem dX11_goBest_22 : decode cX11_goBest 22 = .ok (.imul, 1) := by decide +kernel
theorem dX11_goBest_23 : decode cX11_goBest 23 = .ok (.aload_n 0, 1) := by decide +kernel
theorem dX11_goBest_24 : decode cX11_goBest 24 = .ok (.getfield 79, 3) := by decide +kernel
theorem dX11_goBest_27 : decode cX11_goBest 27 = .ok (.iload_n 1, 1) := by decide +kernel
theorem dX11_goBest_28 : decode cX11_goBest 28 = .ok (.iaload, 1) := by decide +kernel
theorem dX11_goBest_29 : decode cX11_goBest 29 = .ok (.iadd, 1) := by decide +kernel
theorem dX11_goBest_30 : decode cX11_goBest 30 = .ok (.iaload, 1) := by decide +kernel
theorem dX11_goBest_31 : decode cX11_goBest 31 = .ok (.istore_n 2, 1) := by decide +kernel
theorem dX11_goBest_32 : decode cX11_goBest 32 = .ok (.aload_n 0, 1) := by decide +kernel
theorem dX11_goBest_33 : decode cX11_goBest 33 = .ok (.iload_n 2, 1) := by decide +kernel
theorem dX11_goBest_34 : decode cX11_goBest 34 = .ok (.invokevirtual 155, 3) := by decide +kernel
theorem dX11_goBest_37 : decode cX11_goBest 37 = .ok (.aload_n 0, 1) := by decide +kernel
theorem dX11_goBest_38 : decode cX11_goBest 38 = .ok (.getfield 69, 3) := by decide +kernel
theorem dX11_goBest_41 : decode cX11_goBest 41 = .ok (.iload_n 2, 1) := by decide +kernel
theorem dX11_goBest_42 : decode cX11_goBest 42 = .ok (.iaload, 1) := by decide +kernel
theorem dX11_goBest_43 : decode cX11_goBest 43 = .ok (.iconst (-1), 1) := by decide +kernel
theorem dX11_goBest_44 : decode cX11_goBest 44 = .ok (.if_icmp .ne 4, 3) := by decide +kernel
theorem dX11_goBest_47 : decode cX11_goBest 47 = .ok (.return_, 1) := by decide +kernel
theorem dX11_goBest_48 : decode cX11_goBest 48 = .ok (.aload_n 0, 1) := by decide +kernel
theorem dX11_goBest_49 : decode cX11_goBest 49 = .ok (.getfield 79, 3) := by decide +kernel
theorem dX11_goBest_52 : decode cX11_goBest 52 = .ok (.iload_n 1, 1) := by decide +kernel
theorem dX11_goBest_53 : decode cX11_goBest 53 = .ok (.dup2, 1) := by decide +kernel
theorem dX11_goBest_54 : decode cX11_goBest 54 = .ok (.iaload, 1) := by decide +kernel
theorem dX11_goBest_55 : decode cX11_goBest 55 = .ok (.iconst 1, 1) := by decide +kernel
theorem dX11_goBest_56 : decode cX11_goBest 56 = .ok (.iadd, 1) := by decide +kernel
theorem dX11_goBest_57 : decode cX11_goBest 57 = .ok (.iastore, 1) := by decide +kernel
theorem dX11_goBest_58 : decode cX11_goBest 58 = .ok (.goto (-58), 3) := by decide +kernel
theorem dX11_goBest_61 : decode cX11_goBest 61 = .ok (.iconst 0, 1) := by decide +kernel
theorem dX11_goBest_62 : decode cX11_goBest 62 = .ok (.istore_n 2, 1) := by decide +kernel
theorem dX11_goBest_63 : decode cX11_goBest 63 = .ok (.lconst 0, 1) := by decide +kernel
theorem dX11_goBest_64 : decode cX11_goBest 64 = .ok (.lstore_n 3, 1) := by decide +kernel
theorem dX11_goBest_65 : decode cX11_goBest 65 = .ok (.lconst 0, 1) := by decide +kernel
theorem dX11_goBest_66 : decode cX11_goBest 66 = .ok (.lstore 5, 2) := by decide +kernel
theorem dX11_goBest_68 : decode cX11_goBest 68 = .ok (.iconst 0, 1) := by decide +kernel
theorem dX11_goBest_69 : decode cX11_goBest 69 = .ok (.istore 7, 2) := by decide +kernel
theorem dX11_goBest_71 : decode cX11_goBest 71 = .ok (.iload 7, 2) := by decide +kernel
theorem dX11_goBest_73 : decode cX11_goBest 73 = .ok (.aload_n 0, 1) := by decide +kernel
theorem dX11_goBest_74 : decode cX11_goBest 74 = .ok (.getfield 25, 3) := by decide +kernel
theorem dX11_goBest_77 : decode cX11_goBest 77 = .ok (.iload_n 1, 1) := by decide +kernel
theorem dX11_goBest_78 : decode cX11_goBest 78 = .ok (.iaload, 1) := by decide +kernel
theorem dX11_goBest_79 : decode cX11_goBest 79 = .ok (.if_icmp .ge 76, 3) := by decide +kernel
theorem dX11_goBest_82 : decode cX11_goBest 82 = .ok (.aload_n 0, 1) := by decide +kernel
theorem dX11_goBest_83 : decode cX11_goBest 83 = .ok (.getfield 31, 3) := by decide +kernel
theorem dX11_goBest_86 : decode cX11_goBest 86 = .ok (.bipush 8, 2) := by decide +kernel
theorem dX11_goBest_88 : decode cX11_goBest 88 = .ok (.iload_n 1, 1) := by decide +kernel
theorem dX11_goBest_89 : decode cX11_goBest 89 = .ok (.imul, 1) := by decide +kernel
theorem dX11_goBest_90 : decode cX11_goBest 90 = .ok (.iload 7, 2) := by decide +kernel
theorem dX11_goBest_92 : decode cX11_goBest 92 = .ok (.iadd, 1) := by decide +kernel
theorem dX11_goBest_93 : decode cX11_goBest 93 = .ok (.iaload, 1) := by decide +kernel
theorem dX11_goBest_94 : decode cX11_goBest 94 = .ok (.istore 8, 2) := by decide +kernel
theorem dX11_goBest_96 : decode cX11_goBest 96 = .ok (.aload_n 0, 1) := by decide +kernel
theorem dX11_goBest_97 : decode cX11_goBest 97 = .ok (.getfield 69, 3) := by decide +kernel
theorem dX11_goBest_100 : decode cX11_goBest 100 = .ok (.iload 8, 2) := by decide +kernel
theorem dX11_goBest_102 : decode cX11_goBest 102 = .ok (.iaload, 1) := by decide +kernel
theorem dX11_goBest_103 : decode cX11_goBest 103 = .ok (.iconst 1, 1) := by decide +kernel
theorem dX11_goBest_104 : decode cX11_goBest 104 = .ok (.if_icmp .ne 45, 3) := by decide +kernel
theorem dX11_goBest_107 : decode cX11_goBest 107 = .ok (.iload_n 2, 1) := by decide +kernel
theorem dX11_goBest_108 : decode cX11_goBest 108 = .ok (.ifCond .eq 15, 3) := by decide +kernel
theorem dX11_goBest_111 : decode cX11_goBest 111 = .ok (.aload_n 0, 1) := by decide +kernel
theorem dX11_goBest_112 : decode cX11_goBest 112 = .ok (.getfield 72, 3) := by decide +kernel
theorem dX11_goBest_115 : decode cX11_goBest 115 = .ok (.iload 8, 2) := by decide +kernel
theorem dX11_goBest_117 : decode cX11_goBest 117 = .ok (.laload, 1) := by decide +kernel
theorem dX11_goBest_118 : decode cX11_goBest 118 = .ok (.lload_n 3, 1) := by decide +kernel
theorem dX11_goBest_119 : decode cX11_goBest 119 = .ok (.lcmp, 1) := by decide +kernel
theorem dX11_goBest_120 : decode cX11_goBest 120 = .ok (.ifCond .le 13, 3) := by decide +kernel
theorem dX11_goBest_123 : decode cX11_goBest 123 = .ok (.aload_n 0, 1) := by decide +kernel
theorem dX11_goBest_124 : decode cX11_goBest 124 = .ok (.getfield 72, 3) := by decide +kernel
theorem dX11_goBest_127 : decode cX11_goBest 127 = .ok (.iload 8, 2) := by decide +kernel
theorem dX11_goBest_129 : decode cX11_goBest 129 = .ok (.laload, 1) := by decide +kernel
theorem dX11_goBest_130 : decode cX11_goBest 130 = .ok (.goto 4, 3) := by decide +kernel
theorem dX11_goBest_133 : decode cX11_goBest 133 = .ok (.lload_n 3, 1) := by decide +kernel
theorem dX11_goBest_134 : decode cX11_goBest 134 = .ok (.lstore_n 3, 1) := by decide +kernel
theorem dX11_goBest_135 : decode cX11_goBest 135 = .ok (.lload 5, 2) := by decide +kernel
theorem dX11_goBest_137 : decode cX11_goBest 137 = .ok (.aload_n 0, 1) := by decide +kernel
theorem dX11_goBest_138 : decode cX11_goBest 138 = .ok (.getfield 72, 3) := by decide +kernel
theorem dX11_goBest_141 : decode cX11_goBest 141 = .ok (.iload 8, 2) := by decide +kernel
theorem dX11_goBest_143 : decode cX11_goBest 143 = .ok (.laload, 1) := by decide +kernel
theorem dX11_goBest_144 : decode cX11_goBest 144 = .ok (.ladd, 1) := by decide +kernel
theorem dX11_goBest_145 : decode cX11_goBest 145 = .ok (.lstore 5, 2) := by decide +kernel
theorem dX11_goBest_147 : decode cX11_goBest 147 = .ok (.iconst 1, 1) := by decide +kernel
theorem dX11_goBest_148 : decode cX11_goBest 148 = .ok (.istore_n 2, 1) := by decide +kernel
theorem dX11_goBest_149 : decode cX11_goBest 149 = .ok (.iinc 7 1, 3) := by decide +kernel
theorem dX11_goBest_152 : decode cX11_goBest 152 = .ok (.goto (-81), 3) := by decide +kernel
theorem dX11_goBest_155 : decode cX11_goBest 155 = .ok (.aload_n 0, 1) := by decide +kernel
theorem dX11_goBest_156 : decode cX11_goBest 156 = .ok (.getfield 69, 3) := by decide +kernel
theorem dX11_goBest_159 : decode cX11_goBest 159 = .ok (.iload_n 1, 1) := by decide +kernel
theorem dX11_goBest_160 : decode cX11_goBest 160 = .ok (.iload_n 2, 1) := by decide +kernel
theorem dX11_goBest_161 : decode cX11_goBest 161 = .ok (.ifCond .eq 7, 3) := by decide +kernel
theorem dX11_goBest_164 : decode cX11_goBest 164 = .ok (.iconst 1, 1) := by decide +kernel
theorem dX11_goBest_165 : decode cX11_goBest 165 = .ok (.goto 4, 3) := by decide +kernel
theorem dX11_goBest_168 : decode cX11_goBest 168 = .ok (.iconst 0, 1) := by decide +kernel
theorem dX11_goBest_169 : decode cX11_goBest 169 = .ok (.iastore, 1) := by decide +kernel
theorem dX11_goBest_170 : decode cX11_goBest 170 = .ok (.aload_n 0, 1) := by decide +kernel
theorem dX11_goBest_171 : decode cX11_goBest 171 = .ok (.getfield 72, 3) := by decide +kernel
theorem dX11_goBest_174 : decode cX11_goBest 174 = .ok (.iload_n 1, 1) := by decide +kernel
theorem dX11_goBest_175 : decode cX11_goBest 175 = .ok (.lload_n 3, 1) := by decide +kernel
theorem dX11_goBest_176 : decode cX11_goBest 176 = .ok (.lload 5, 2) := by decide +kernel
theorem dX11_goBest_178 : decode cX11_goBest 178 = .ok (.lload_n 3, 1) := by decide +kernel
theorem dX11_goBest_179 : decode cX11_goBest 179 = .ok (.lsub, 1) := by decide +kernel
theorem dX11_goBest_180 : decode cX11_goBest 180 = .ok (.aload_n 0, 1) := by decide +kernel
theorem dX11_goBest_181 : decode cX11_goBest 181 = .ok (.getfield 19, 3) := by decide +kernel
theorem dX11_goBest_184 : decode cX11_goBest 184 = .ok (.iload_n 1, 1) := by decide +kernel
theorem dX11_goBest_185 : decode cX11_goBest 185 = .ok (.iaload, 1) := by decide +kernel
theorem dX11_goBest_186 : decode cX11_goBest 186 = .ok (.i2l, 1) := by decide +kernel
theorem dX11_goBest_187 : decode cX11_goBest 187 = .ok (.lmul, 1) := by decide +kernel
theorem dX11_goBest_188 : decode cX11_goBest 188 = .ok (.ldc2_w 170, 3) := by decide +kernel
theorem dX11_goBest_191 : decode cX11_goBest 191 = .ok (.ldiv, 1) := by decide +kernel
theorem dX11_goBest_192 : decode cX11_goBest 192 = .ok (.ladd, 1) := by decide +kernel
theorem dX11_goBest_193 : decode cX11_goBest 193 = .ok (.lastore, 1) := by decide +kernel
theorem dX11_goBest_194 : decode cX11_goBest 194 = .ok (.return_, 1) := by decide +kernel
theorem dX11_goBool_0 : decode cX11_goBool 0 = .ok (.aload_n 0, 1) := by decide +kernel
theorem dX11_goBool_1 : decode cX11_goBool 1 = .ok (.getfield 79, 3) := by decide +kernel
theorem dX11_goBool_4 : decode cX11_goBool 4 = .ok (.iload_n 1, 1) := by decide +kernel
theorem dX11_goBool_5 : decode cX11_goBool 5 = .ok (.iaload, 1) := by decide +kernel
theorem dX11_goBool_6 : decode cX11_goBool 6 = .ok (.aload_n 0, 1) := by decide +kernel
theorem dX11_goBool_7 : decode cX11_goBool 7 = .ok (.getfield 25, 3) := by decide +kernel
theorem dX11_goBool_10 : decode cX11_goBool 10 = .ok (.iload_n 1, 1) := by decide +kernel
theorem dX11_goBool_11 : decode cX11_goBool 11 = .ok (.iaload, 1) := by decide +kernel
theorem dX11_goBool_12 : decode cX11_goBool 12 = .ok (.if_icmp .ge 154, 3) := by decide +kernel
theorem dX11_goBool_15 : decode cX11_goBool 15 = .ok (.bipush 8, 2) := by decide +kernel
theorem dX11_goBool_17 : decode cX11_goBool 17 = .ok (.iload_n 1, 1) := by decide +kernel
theorem dX11_goBool_18 : decode cX11_goBool 18 = .ok (.imul, 1) := by decide +kernel
theorem dX11_goBool_19 : decode cX11_goBool 19 = .ok (.aload_n 0, 1) := by decide +kernel
theorem dX11_goBool_20 : decode cX11_goBool 20 = .ok (.getfield 76, 3) := by decide +kernel
theorem dX11_goBool_23 : decode cX11_goBool 23 = .ok (.bipush 8, 2) := by decide +kernel
theorem dX11_goBool_25 : decode cX11_goBool 25 = .ok (.iload_n 1, 1) := by decide +kernel
theorem dX11_goBool_26 : decode cX11_goBool 26 = .ok (.imul, 1) := by decide +kernel
theorem dX11_goBool_27 : decode cX11_goBool 27 = .ok (.aload_n 0, 1) := by decide +kernel
theorem dX11_goBool_28 : decode cX11_goBool 28 = .ok (.getfield 79, 3) := by decide +kernel
theorem dX11_goBool_31 : decode cX11_goBool 31 = .ok (.iload_n 1, 1) := by decide +kernel
theorem dX11_goBool_32 : decode cX11_goBool 32 = .ok (.iaload, 1) := by decide +kernel
theorem dX11_goBool_33 : decode cX11_goBool 33 = .ok (.iadd, 1) := by decide +kernel
theorem dX11_goBool_34 : decode cX11_goBool 34 = .ok (.iaload, 1) := by decide +kernel
theorem dX11_goBool_35 : decode cX11_goBool 35 = .ok (.iadd, 1) := by decide +kernel
theorem dX11_goBool_36 : decode cX11_goBool 36 = .ok (.istore_n 2, 1) := by decide +kernel
theorem dX11_goBool_37 : decode cX11_goBool 37 = .ok (.aload_n 0, 1) := by decide +kernel
theorem dX11_goBool_38 : decode cX11_goBool 38 = .ok (.getfield 31, 3) := by decide +kernel
theorem dX11_goBool_41 : decode cX11_goBool 41 = .ok (.iload_n 2, 1) := by decide +kernel
theorem dX11_goBool_42 : decode cX11_goBool 42 = .ok (.iaload, 1) := by decide +kernel
theorem dX11_goBool_43 : decode cX11_goBool 43 = .ok (.istore_n 3, 1) := by decide +kernel
theorem dX11_goBool_44 : decode cX11_goBool 44 = .ok (.aload_n 0, 1) := by decide +kernel
theorem dX11_goBool_45 : decode cX11_goBool 45 = .ok (.getfield 28, 3) := by decide +kernel
theorem dX11_goBool_48 : decode cX11_goBool 48 = .ok (.iload_n 2, 1) := by decide +kernel
theorem dX11_goBool_49 : decode cX11_goBool 49 = .ok (.iaload, 1) := by decide +kernel
theorem dX11_goBool_50 : decode cX11_goBool 50 = .ok (.istore 4, 2) := by decide +kernel
theorem dX11_goBool_52 : decode cX11_goBool 52 = .ok (.iload 4, 2) := by decide +kernel
theorem dX11_goBool_54 : decode cX11_goBool 54 = .ok (.iconst 1, 1) := by decide +kernel
theorem dX11_goBool_55 : decode cX11_goBool 55 = .ok (.if_icmp .eq 9, 3) := by decide +kernel
theorem dX11_goBool_58 : decode cX11_goBool 58 = .ok (.iload 4, 2) := by decide +kernel
theorem dX11_goBool_60 : decode cX11_goBool 60 = .ok (.iconst 2, 1) := by decide +kernel
theorem dX11_goBool_61 : decode cX11_goBool 61 = .ok (.if_icmp .ne 16, 3) := by decide +kernel
theorem dX11_goBool_64 : decode cX11_goBool 64 = .ok (.aload_n 0, 1) := by decide +kernel
theorem dX11_goBool_65 : decode cX11_goBool 65 = .ok (.getfield 66, 3) := by decide +kernel
theorem dX11_goBool_68 : decode cX11_goBool 68 = .ok (.iload_n 3, 1) := by decide +kernel
theorem dX11_goBool_69 : decode cX11_goBool 69 = .ok (.baload, 1) := by decide +kernel
theorem dX11_goBool_70 : decode cX11_goBool 70 = .ok (.ifCond .eq 7, 3) := by decide +kernel
theorem dX11_goBool_73 : decode cX11_goBool 73 = .ok (.iconst 1, 1) := by decide +kernel
theorem dX11_goBool_74 : decode cX11_goBool 74 = .ok (.goto 4, 3) := by decide +kernel
theorem dX11_goBool_77 : decode cX11_goBool 77 = .ok (.iconst 0, 1) := by decide +kernel
theorem dX11_goBool_78 : decode cX11_goBool 78 = .ok (.istore 5, 2) := by decide +kernel
theorem dX11_goBool_80 : decode cX11_goBool 80 = .ok (.iload 5, 2) := by decide +kernel
theorem dX11_goBool_82 : decode cX11_goBool 82 = .ok (.ifCond .ne 19, 3) := by decide +kernel
theorem dX11_goBool_85 : decode cX11_goBool 85 = .ok (.aload_n 0, 1) := by decide +kernel
theorem dX11_goBool_86 : decode cX11_goBool 86 = .ok (.iload_n 3, 1) := by decide +kernel
theorem dX11_goBool_87 : decode cX11_goBool 87 = .ok (.invokevirtual 155, 3) := by decide +kernel
theorem dX11_goBool_90 : decode cX11_goBool 90 = .ok (.aload_n 0, 1) := by decide +kernel
theorem dX11_goBool_91 : decode cX11_goBool 91 = .ok (.getfield 69, 3) := by decide +kernel
theorem dX11_goBool_94 : decode cX11_goBool 94 = .ok (.iload_n 3, 1) := by decide +kernel
theorem dX11_goBool_95 : decode cX11_goBool 95 = .ok (.iaload, 1) := by decide +kernel
theorem dX11_goBool_96 : decode cX11_goBool 96 = .ok (.iconst (-1), 1) := by decide +kernel
theorem dX11_goBool_97 : decode cX11_goBool 97 = .ok (.if_icmp .ne 4, 3) := by decide +kernel
theorem dX11_goBool_100 : decode cX11_goBool 100 = .ok (.return_, 1) := by decide +kernel
theorem dX11_goBool_101 : decode cX11_goBool 101 = .ok (.iload 5, 2) := by decide +kernel
theorem dX11_goBool_103 : decode cX11_goBool 103 = .ok (.ifCond .ne 13, 3) := by decide +kernel
theorem dX11_goBool_106 : decode cX11_goBool 106 = .ok (.aload_n 0, 1) := by decide +kernel
theorem dX11_goBool_107 : decode cX11_goBool 107 = .ok (.getfield 69, 3) := by decide +kernel
theorem dX11_goBool_110 : decode cX11_goBool 110 = .ok (.iload_n 3, 1) := by decide +kernel
theorem dX11_goBool_111 : decode cX11_goBool 111 = .ok (.iaload, 1) := by decide +kernel
theorem dX11_goBool_112 : decode cX11_goBool 112 = .ok (.iconst 1, 1) := by decide +kernel
theorem dX11_goBool_113 : decode cX11_goBool 113 = .ok (.if_icmp .ne 7, 3) := by decide +kernel
theorem dX11_goBool_116 : decode cX11_goBool 116 = .ok (.iconst 1, 1) := by decide +kernel
theorem dX11_goBool_117 : decode cX11_goBool 117 = .ok (.goto 4, 3) := by decide +kernel
theorem dX11_goBool_120 : decode cX11_goBool 120 = .ok (.iconst 0, 1) := by decide +kernel
theorem dX11_goBool_121 : decode cX11_goBool 121 = .ok (.istore 6, 2) := by decide +kernel
theorem dX11_goBool_123 : decode cX11_goBool 123 = .ok (.iload 4, 2) := by decide +kernel
theorem dX11_goBool_125 : decode cX11_goBool 125 = .ok (.iconst 2, 1) := by decide +kernel
theorem dX11_goBool_126 : decode cX11_goBool 126 = .ok (.if_icmp .ge 8, 3) := by decide +kernel
theorem dX11_goBool_129 : decode cX11_goBool 129 = .ok (.iload 6, 2) := by decide +kernel
theorem dX11_goBool_131 : decode cX11_goBool 131 = .ok (.ifCond .eq 14, 3) := by decide +kernel
theorem dX11_goBool_134 : decode cX11_goBool 134 = .ok (.iload 4, 2) := by decide +kernel
theorem dX11_goBool_136 : decode cX11_goBool 136 = .ok (.iconst 2, 1) := by decide +kernel
theorem dX11_goBool_137 : decode cX11_goBool 137 = .ok (.if_icmp .ne 16, 3) := by decide +kernel
theorem dX11_goBool_140 : decode cX11_goBool 140 = .ok (.iload 6, 2) := by decide +kernel
theorem dX11_goBool_142 : decode cX11_goBool 142 = .ok (.ifCond .eq 11, 3) := by decide +kernel
theorem dX11_goBool_145 : decode cX11_goBool 145 = .ok (.aload_n 0, 1) := by decide +kernel
theorem dX11_goBool_146 : decode cX11_goBool 146 = .ok (.getfield 69, 3) := by decide +kernel
theorem dX11_goBool_149 : decode cX11_goBool 149 = .ok (.iload_n 1, 1) := by decide +kernel
theorem dX11_goBool_150 : decode cX11_goBool 150 = .ok (.iconst 0, 1) := by decide +kernel
theorem dX11_goBool_151 : decode cX11_goBool 151 = .ok (.iastore, 1) := by decide +kernel
theorem dX11_goBool_152 : decode cX11_goBool 152 = .ok (.return_, 1) := by decide +kernel
theorem dX11_goBool_153 : decode cX11_goBool 153 = .ok (.aload_n 0, 1) := by decide +kernel
theorem dX11_goBool_154 : decode cX11_goBool 154 = .ok (.getfield 79, 3) := by decide +kernel
theorem dX11_goBool_157 : decode cX11_goBool 157 = .ok (.iload_n 1, 1) := by decide +kernel
theorem dX11_goBool_158 : decode cX11_goBool 158 = .ok (.dup2, 1) := by decide +kernel
theorem dX11_goBool_159 : decode cX11_goBool 159 = .ok (.iaload, 1) := by decide +kernel
theorem dX11_goBool_160 : decode cX11_goBool 160 = .ok (.iconst 1, 1) := by decide +kernel
theorem dX11_goBool_161 : decode cX11_goBool 161 = .ok (.iadd, 1) := by decide +kernel
theorem dX11_goBool_162 : decode cX11_goBool 162 = .ok (.iastore, 1) := by decide +kernel
theorem dX11_goBool_163 : decode cX11_goBool 163 = .ok (.goto (-163), 3) := by decide +kernel
theorem dX11_goBool_166 : decode cX11_goBool 166 = .ok (.iconst 0, 1) := by decide +kernel
theorem dX11_goBool_167 : decode cX11_goBool 167 = .ok (.istore_n 2, 1) := by decide +kernel
theorem dX11_goBool_168 : decode cX11_goBool 168 = .ok (.iconst 0, 1) := by decide +kernel
theorem dX11_goBool_169 : decode cX11_goBool 169 = .ok (.istore_n 3, 1) := by decide +kernel
theorem dX11_goBool_170 : decode cX11_goBool 170 = .ok (.lconst 0, 1) := by decide +kernel
theorem dX11_goBool_171 : decode cX11_goBool 171 = .ok (.lstore 4, 2) := by decide +kernel
theorem dX11_goBool_173 : decode cX11_goBool 173 = .ok (.bipush 8, 2) := by decide +kernel
theorem dX11_goBool_175 : decode cX11_goBool 175 = .ok (.iload_n 1, 1) := by decide +kernel
theorem dX11_goBool_176 : decode cX11_goBool 176 = .ok (.imul, 1) := by decide +kernel
theorem dX11_goBool_177 : decode cX11_goBool 177 = .ok (.istore 6, 2) := by decide +kernel
theorem dX11_goBool_179 : decode cX11_goBool 179 = .ok (.iload 6, 2) := by decide +kernel
theorem dX11_goBool_181 : decode cX11_goBool 181 = .ok (.bipush 8, 2) := by decide +kernel
theorem dX11_goBool_183 : decode cX11_goBool 183 = .ok (.iload_n 1, 1) := by decide +kernel
theorem dX11_goBool_184 : decode cX11_goBool 184 = .ok (.imul, 1) := by decide +kernel
theorem dX11_goBool_185 : decode cX11_goBool 185 = .ok (.aload_n 0, 1) := by decide +kernel
theorem dX11_goBool_186 : decode cX11_goBool 186 = .ok (.getfield 25, 3) := by decide +kernel
theorem dX11_goBool_189 : decode cX11_goBool 189 = .ok (.iload_n 1, 1) := by decide +kernel
theorem dX11_goBool_190 : decode cX11_goBool 190 = .ok (.iaload, 1) := by decide +kernel
theorem dX11_goBool_191 : decode cX11_goBool 191 = .ok (.iadd, 1) := by decide +kernel
theorem dX11_goBool_192 : decode cX11_goBool 192 = .ok (.if_icmp .ge 118, 3) := by decide +kernel
theorem dX11_goBool_195 : decode cX11_goBool 195 = .ok (.aload_n 0, 1) := by decide +kernel
theorem dX11_goBool_196 : decode cX11_goBool 196 = .ok (.getfield 28, 3) := by decide +kernel
theorem dX11_goBool_199 : decode cX11_goBool 199 = .ok (.iload 6, 2) := by decide +kernel
theorem dX11_goBool_201 : decode cX11_goBool 201 = .ok (.iaload, 1) := by decide +kernel
theorem dX11_goBool_202 : decode cX11_goBool 202 = .ok (.iconst 3, 1) := by decide +kernel
theorem dX11_goBool_203 : decode cX11_goBool 203 = .ok (.if_icmp .ne 23, 3) := by decide +kernel
theorem dX11_goBool_206 : decode cX11_goBool 206 = .ok (.aload_n 0, 1) := by decide +kernel
theorem dX11_goBool_207 : decode cX11_goBool 207 = .ok (.getfield 69, 3) := by decide +kernel
theorem dX11_goBool_210 : decode cX11_goBool 210 = .ok (.aload_n 0, 1) := by decide +kernel
theorem dX11_goBool_211 : decode cX11_goBool 211 = .ok (.getfield 31, 3) := by decide +kernel
theorem dX11_goBool_214 : decode cX11_goBool 214 = .ok (.iload 6, 2) := by decide +kernel
theorem dX11_goBool_216 : decode cX11_goBool 216 = .ok (.iaload, 1) := by decide +kernel
theorem dX11_goBool_217 : decode cX11_goBool 217 = .ok (.iaload, 1) := by decide +kernel
theorem dX11_goBool_218 : decode cX11_goBool 218 = .ok (.iconst 1, 1) := by decide +kernel
theorem dX11_goBool_219 : decode cX11_goBool 219 = .ok (.if_icmp .ne 7, 3) := by decide +kernel
theorem dX11_goBool_222 : decode cX11_goBool 222 = .ok (.iconst 1, 1) := by decide +kernel
theorem dX11_goBool_223 : decode cX11_goBool 223 = .ok (.goto 4, 3) := by decide +kernel
theorem dX11_goBool_226 : decode cX11_goBool 226 = .ok (.iconst 0, 1) := by decide +kernel
theorem dX11_goBool_227 : decode cX11_goBool 227 = .ok (.istore 7, 2) := by decide +kernel
theorem dX11_goBool_229 : decode cX11_goBool 229 = .ok (.iload_n 2, 1) := by decide +kernel
theorem dX11_goBool_230 : decode cX11_goBool 230 = .ok (.iload 7, 2) := by decide +kernel
theorem dX11_goBool_232 : decode cX11_goBool 232 = .ok (.ifCond .eq 7, 3) := by decide +kernel
theorem dX11_goBool_235 : decode cX11_goBool 235 = .ok (.iconst 1, 1) := by decide +kernel
theorem dX11_goBool_236 : decode cX11_goBool 236 = .ok (.goto 4, 3) := by decide +kernel
theorem dX11_goBool_239 : decode cX11_goBool 239 = .ok (.iconst 0, 1) := by decide +kernel
theorem dX11_goBool_240 : decode cX11_goBool 240 = .ok (.iadd, 1) := by decide +kernel
theorem dX11_goBool_241 : decode cX11_goBool 241 = .ok (.istore_n 2, 1) := by decide +kernel
theorem dX11_goBool_242 : decode cX11_goBool 242 = .ok (.iload_n 3, 1) := by decide +kernel
theorem dX11_goBool_243 : decode cX11_goBool 243 = .ok (.ifCond .ne 19, 3) := by decide +kernel
theorem dX11_goBool_246 : decode cX11_goBool 246 = .ok (.iload 7, 2) := by decide +kernel
theorem dX11_goBool_248 : decode cX11_goBool 248 = .ok (.ifCond .ne 14, 3) := by decide +kernel
theorem dX11_goBool_251 : decode cX11_goBool 251 = .ok (.aload_n 0, 1) := by decide +kernel
theorem dX11_goBool_252 : decode cX11_goBool 252 = .ok (.getfield 28, 3) := by decide +kernel
theorem dX11_goBool_255 : decode cX11_goBool 255 = .ok (.iload 6, 2) := by decide +kernel
theorem dX11_goBool_257 : decode cX11_goBool 257 = .ok (.iaload, 1) := by decide +kernel
theorem dX11_goBool_258 : decode cX11_goBool 258 = .ok (.iconst 2, 1) := by decide +kernel
theorem dX11_goBool_259 : decode cX11_goBool 259 = .ok (.if_icmp .ge 7, 3) := by decide +kernel
theorem dX11_goBool_262 : decode cX11_goBool 262 = .ok (.iconst 1, 1) := by decide +kernel
theorem dX11_goBool_263 : decode cX11_goBool 263 = .ok (.goto 4, 3) := by decide +kernel
theorem dX11_goBool_266 : decode cX11_goBool 266 = .ok (.iconst 0, 1) := by decide +kernel
theorem dX11_goBool_267 : decode cX11_goBool 267 = .ok (.istore_n 3, 1) := by decide +kernel
theorem dX11_goBool_268 : decode cX11_goBool 268 = .ok (.lload 4, 2) := by decide +kernel
theorem dX11_goBool_270 : decode cX11_goBool 270 = .ok (.iload 7, 2) := by decide +kernel
theorem dX11_goBool_272 : decode cX11_goBool 272 = .ok (.ifCond .ne 13, 3) := by decide +kernel
theorem dX11_goBool_275 : decode cX11_goBool 275 = .ok (.aload_n 0, 1) := by decide +kernel
theorem dX11_goBool_276 : decode cX11_goBool 276 = .ok (.getfield 28, 3) := by decide +kernel
theorem dX11_goBool_279 : decode cX11_goBool 279 = .ok (.iload 6, 2) := by decide +kernel
theorem dX11_goBool_281 : decode cX11_goBool 281 = .ok (.iaload, 1) := by decide +kernel
theorem dX11_goBool_282 : decode cX11_goBool 282 = .ok (.ifCond .ne 18, 3) := by decide +kernel
theorem dX11_goBool_285 : decode cX11_goBool 285 = .ok (.aload_n 0, 1) := by decide +kernel
theorem dX11_goBool_286 : decode cX11_goBool 286 = .ok (.getfield 72, 3) := by decide +kernel
theorem dX11_goBool_289 : decode cX11_goBool 289 = .ok (.aload_n 0, 1) := by decide +kernel
theorem dX11_goBool_290 : decode cX11_goBool 290 = .ok (.getfield 31, 3) := by decide +kernel
theorem dX11_goBool_293 : decode cX11_goBool 293 = .ok (.iload 6, 2) := by decide +kernel
theorem dX11_goBool_295 : decode cX11_goBool 295 = .ok (.iaload, 1) := by decide +kernel
theorem dX11_goBool_296 : decode cX11_goBool 296 = .ok (.laload, 1) := by decide +kernel
theorem dX11_goBool_297 : decode cX11_goBool 297 = .ok (.goto 4, 3) := by decide +kernel
theorem dX11_goBool_300 : decode cX11_goBool 300 = .ok (.lconst 0, 1) := by decide +kernel
theorem dX11_goBool_301 : decode cX11_goBool 301 = .ok (.ladd, 1) := by decide +kernel
theorem dX11_goBool_302 : decode cX11_goBool 302 = .ok (.lstore 4, 2) := by decide +kernel
theorem dX11_goBool_304 : decode cX11_goBool 304 = .ok (.iinc 6 1, 3) := by decide +kernel
theorem dX11_goBool_307 : decode cX11_goBool 307 = .ok (.goto (-128), 3) := by decide +kernel
theorem dX11_goBool_310 : decode cX11_goBool 310 = .ok (.aload_n 0, 1) := by decide +kernel
theorem dX11_goBool_311 : decode cX11_goBool 311 = .ok (.getfield 69, 3) := by decide +kernel
theorem dX11_goBool_314 : decode cX11_goBool 314 = .ok (.iload_n 1, 1) := by decide +kernel
theorem dX11_goBool_315 : decode cX11_goBool 315 = .ok (.iload_n 3, 1) := by decide +kernel
theorem dX11_goBool_316 : decode cX11_goBool 316 = .ok (.ifCond .eq 17, 3) := by decide +kernel
theorem dX11_goBool_319 : decode cX11_goBool 319 = .ok (.iload_n 2, 1) := by decide +kernel
theorem dX11_goBool_320 : decode cX11_goBool 320 = .ok (.aload_n 0, 1) := by decide +kernel
theorem dX11_goBool_321 : decode cX11_goBool 321 = .ok (.getfield 19, 3) := by decide +kernel
theorem dX11_goBool_324 : decode cX11_goBool 324 = .ok (.iload_n 1, 1) := by decide +kernel
theorem dX11_goBool_325 : decode cX11_goBool 325 = .ok (.iaload, 1) := by decide +kernel
theorem dX11_goBool_326 : decode cX11_goBool 326 = .ok (.if_icmp .lt 7, 3) := by decide +kernel
theorem dX11_goBool_329 : decode cX11_goBool 329 = .ok (.iconst 1, 1) := by decide +kernel
theorem dX11_goBool_330 : decode cX11_goBool 330 = .ok (.goto 4, 3) := by decide +kernel
theorem dX11_goBool_333 : decode cX11_goBool 333 = .ok (.iconst 0, 1) := by decide +kernel
theorem dX11_goBool_334 : decode cX11_goBool 334 = .ok (.iastore, 1) := by decide +kernel
theorem dX11_goBool_335 : decode cX11_goBool 335 = .ok (.aload_n 0, 1) := by decide +kernel
theorem dX11_goBool_336 : decode cX11_goBool 336 = .ok (.getfield 72, 3) := by decide +kernel
theorem dX11_goBool_339 : decode cX11_goBool 339 = .ok (.iload_n 1, 1) := by decide +kernel
theorem dX11_goBool_340 : decode cX11_goBool 340 = .ok (.lload 4, 2) := by decide +kernel
theorem dX11_goBool_342 : decode cX11_goBool 342 = .ok (.lastore, 1) := by decide +kernel
theorem dX11_goBool_343 : decode cX11_goBool 343 = .ok (.return_, 1) := by decide +kernel
theorem dX11_look_0 : decode cX11_look 0 = .ok (.aload_n 0, 1) := by decide +kernel
theorem dX11_look_1 : decode cX11_look 1 = .ok (.iload_n 1, 1) := by decide +kernel
theorem dX11_look_2 : decode cX11_look 2 = .ok (.invokevirtual 123, 3) := by decide +kernel
theorem dX11_look_5 : decode cX11_look 5 = .ok (.ifCond .eq 10, 3) := by decide +kernel
theorem dX11_look_8 : decode cX11_look 8 = .ok (.iload_n 2, 1) := by decide +kernel
theorem dX11_look_9 : decode cX11_look 9 = .ok (.invokestatic 115, 3) := by decide +kernel
theorem dX11_look_12 : decode cX11_look 12 = .ok (.ifCond .ne 6, 3) := by decide +kernel
theorem dX11_look_15 : decode cX11_look 15 = .ok (.bipush (-2), 2) := by decide +kernel
theorem dX11_look_17 : decode cX11_look 17 = .ok (.ireturn, 1) := by decide +kernel
theorem dX11_look_18 : decode cX11_look 18 = .ok (.aload_n 0, 1) := by decide +kernel
theorem dX11_look_19 : decode cX11_look 19 = .ok (.iload_n 1, 1) := by decide +kernel
theorem dX11_look_20 : decode cX11_look 20 = .ok (.iload_n 2, 1) := by decide +kernel
theorem dX11_look_21 : decode cX11_look 21 = .ok (.invokevirtual 172, 3) := by decide +kernel
theorem dX11_look_24 : decode cX11_look 24 = .ok (.istore_n 3, 1) := by decide +kernel
theorem dX11_look_25 : decode cX11_look 25 = .ok (.aload_n 0, 1) := by decide +kernel
theorem dX11_look_26 : decode cX11_look 26 = .ok (.iload_n 3, 1) := by decide +kernel
theorem dX11_look_27 : decode cX11_look 27 = .ok (.ifCond .eq 12, 3) := by decide +kernel
theorem dX11_look_30 : decode cX11_look 30 = .ok (.aload_n 0, 1) := by decide +kernel
theorem dX11_look_31 : decode cX11_look 31 = .ok (.getfield 72, 3) := by decide +kernel
theorem dX11_look_34 : decode cX11_look 34 = .ok (.iload_n 1, 1) := by decide +kernel
theorem dX11_look_35 : decode cX11_look 35 = .ok (.laload, 1) := by decide +kernel
theorem dX11_look_36 : decode cX11_look 36 = .ok (.goto 7, 3) := by decide +kernel
theorem dX11_look_39 : decode cX11_look 39 = .ok (.aload_n 0, 1) := by decide +kernel
theorem dX11_look_40 : decode cX11_look 40 = .ok (.getfield 176, 3) := by decide +kernel
theorem dX11_look_43 : decode cX11_look 43 = .ok (.putfield 176, 3) := by decide +kernel
theorem dX11_look_46 : decode cX11_look 46 = .ok (.iload_n 3, 1) := by decide +kernel
theorem dX11_look_47 : decode cX11_look 47 = .ok (.ifCond .eq 7, 3) := by decide +kernel
theorem dX11_look_50 : decode cX11_look 50 = .ok (.iconst 1, 1) := by decide +kernel
theorem dX11_look_51 : decode cX11_look 51 = .ok (.goto 4, 3) := by decide +kernel
theorem dX11_look_54 : decode cX11_look 54 = .ok (.iconst 0, 1) := by decide +kernel
theorem dX11_look_55 : decode cX11_look 55 = .ok (.ireturn, 1) := by decide +kernel
theorem dX11_scored_0 : decode cX11_scored 0 = .ok (.aload_n 0, 1) := by decide +kernel
theorem dX11_scored_1 : decode cX11_scored 1 = .ok (.getfield 176, 3) := by decide +kernel
theorem dX11_scored_4 : decode cX11_scored 4 = .ok (.lreturn, 1) := by decide +kernel
theorem dX11_run_0 : decode cX11_run 0 = .ok (.aload_n 0, 1) := by decide +kernel
theorem dX11_run_1 : decode cX11_run 1 = .ok (.iload_n 1, 1) := by decide +kernel
theorem dX11_run_2 : decode cX11_run 2 = .ok (.invokevirtual 123, 3) := by decide +kernel
theorem dX11_run_5 : decode cX11_run 5 = .ok (.ifCond .ne 6, 3) := by decide +kernel
theorem dX11_run_8 : decode cX11_run 8 = .ok (.bipush (-2), 2) := by decide +kernel
theorem dX11_run_10 : decode cX11_run 10 = .ok (.ireturn, 1) := by decide +kernel
theorem dX11_run_11 : decode cX11_run 11 = .ok (.aload_n 0, 1) := by decide +kernel
theorem dX11_run_12 : decode cX11_run 12 = .ok (.iconst 0, 1) := by decide +kernel
theorem dX11_run_13 : decode cX11_run 13 = .ok (.putfield 180, 3) := by decide +kernel
theorem dX11_run_16 : decode cX11_run 16 = .ok (.iconst 0, 1) := by decide +kernel
theorem dX11_run_17 : decode cX11_run 17 = .ok (.istore_n 2, 1) := by decide +kernel
theorem dX11_run_18 : decode cX11_run 18 = .ok (.iload_n 2, 1) := by decide +kernel
theorem dX11_run_19 : decode cX11_run 19 = .ok (.sipush 512, 3) := by decide +kernel
theorem dX11_run_22 : decode cX11_run 22 = .ok (.if_icmp .ge 53, 3) := by decide +kernel
theorem dX11_run_25 : decode cX11_run 25 = .ok (.aload_n 0, 1) := by decide +kernel
theorem dX11_run_26 : decode cX11_run 26 = .ok (.iload_n 1, 1) := by decide +kernel
theorem dX11_run_27 : decode cX11_run 27 = .ok (.iload_n 2, 1) := by decide +kernel
theorem dX11_run_28 : decode cX11_run 28 = .ok (.invokevirtual 172, 3) := by decide +kernel
theorem dX11_run_31 : decode cX11_run 31 = .ok (.ifCond .eq 38, 3) := by decide +kernel
theorem dX11_run_34 : decode cX11_run 34 = .ok (.aload_n 0, 1) := by decide +kernel
theorem dX11_run_35 : decode cX11_run 35 = .ok (.getfield 85, 3) := by decide +kernel
theorem dX11_run_38 : decode cX11_run 38 = .ok (.aload_n 0, 1) := by decide +kernel
theorem dX11_run_39 : decode cX11_run 39 = .ok (.getfield 180, 3) := by decide +kernel
theorem dX11_run_42 : decode cX11_run 42 = .ok (.iload_n 2, 1) := by decide +kernel
theorem dX11_run_43 : decode cX11_run 43 = .ok (.iastore, 1) := by decide +kernel
theorem dX11_run_44 : decode cX11_run 44 = .ok (.aload_n 0, 1) := by decide +kernel
theorem dX11_run_45 : decode cX11_run 45 = .ok (.getfield 88, 3) := by decide +kernel
theorem dX11_run_48 : decode cX11_run 48 = .ok (.aload_n 0, 1) := by decide +kernel
theorem dX11_run_49 : decode cX11_run 49 = .ok (.getfield 180, 3) := by decide +kernel
theorem dX11_run_52 : decode cX11_run 52 = .ok (.aload_n 0, 1) := by decide +kernel
theorem dX11_run_53 : decode cX11_run 53 = .ok (.getfield 72, 3) := by decide +kernel
theorem dX11_run_56 : decode cX11_run 56 = .ok (.iload_n 1, 1) := by decide +kernel
theorem dX11_run_57 : decode cX11_run 57 = .ok (.laload, 1) := by decide +kernel
theorem dX11_run_58 : decode cX11_run 58 = .ok (.lastore, 1) := by decide +kernel
theorem dX11_run_59 : decode cX11_run 59 = .ok (.aload_n 0, 1) := by decide +kernel
theorem dX11_run_60 : decode cX11_run 60 = .ok (.dup, 1) := by decide +kernel
theorem dX11_run_61 : decode cX11_run 61 = .ok (.getfield 180, 3) := by decide +kernel
theorem dX11_run_64 : decode cX11_run 64 = .ok (.iconst 1, 1) := by decide +kernel
theorem dX11_run_65 : decode cX11_run 65 = .ok (.iadd, 1) := by decide +kernel
theorem dX11_run_66 : decode cX11_run 66 = .ok (.putfield 180, 3) := by decide +kernel
theorem dX11_run_69 : decode cX11_run 69 = .ok (.iinc 2 1, 3) := by decide +kernel
theorem dX11_run_72 : decode cX11_run 72 = .ok (.goto (-54), 3) := by decide +kernel
theorem dX11_run_75 : decode cX11_run 75 = .ok (.aload_n 0, 1) := by decide +kernel
theorem dX11_run_76 : decode cX11_run 76 = .ok (.getfield 180, 3) := by decide +kernel
theorem dX11_run_79 : decode cX11_run 79 = .ok (.ireturn, 1) := by decide +kernel
theorem dX11_found_0 : decode cX11_found 0 = .ok (.iload_n 1, 1) := by decide +kernel
theorem dX11_found_1 : decode cX11_found 1 = .ok (.iconst 0, 1) := by decide +kernel
theorem dX11_found_2 : decode cX11_found 2 = .ok (.aload_n 0, 1) := by decide +kernel
theorem dX11_found_3 : decode cX11_found 3 = .ok (.getfield 180, 3) := by decide +kernel
theorem dX11_found_6 : decode cX11_found 6 = .ok (.iconst 1, 1) := by decide +kernel
theorem dX11_found_7 : decode cX11_found 7 = .ok (.isub, 1) := by decide +kernel
theorem dX11_found_8 : decode cX11_found 8 = .ok (.invokestatic 103, 3) := by decide +kernel
theorem dX11_found_11 : decode cX11_found 11 = .ok (.ifCond .eq 12, 3) := by decide +kernel
theorem dX11_found_14 : decode cX11_found 14 = .ok (.aload_n 0, 1) := by decide +kernel
theorem dX11_found_15 : decode cX11_found 15 = .ok (.getfield 85, 3) := by decide +kernel
theorem dX11_found_18 : decode cX11_found 18 = .ok (.iload_n 1, 1) := by decide +kernel
theorem dX11_found_19 : decode cX11_found 19 = .ok (.iaload, 1) := by decide +kernel
theorem dX11_found_20 : decode cX11_found 20 = .ok (.goto 4, 3) := by decide +kernel
theorem dX11_found_23 : decode cX11_found 23 = .ok (.iconst (-1), 1) := by decide +kernel
theorem dX11_found_24 : decode cX11_found 24 = .ok (.ireturn, 1) := by decide +kernel
theorem dX11_score_0 : decode cX11_score 0 = .ok (.iload_n 1, 1) := by decide +kernel
theorem dX11_score_1 : decode cX11_score 1 = .ok (.iconst 0, 1) := by decide +kernel
theorem dX11_score_2 : decode cX11_score 2 = .ok (.aload_n 0, 1) := by decide +kernel
theorem dX11_score_3 : decode cX11_score 3 = .ok (.getfield 180, 3) := by decide +kernel
theorem dX11_score_6 : decode cX11_score 6 = .ok (.iconst 1, 1) := by decide +kernel
theorem dX11_score_7 : decode cX11_score 7 = .ok (.isub, 1) := by decide +kernel
theorem dX11_score_8 : decode cX11_score 8 = .ok (.invokestatic 103, 3) := by decide +kernel
theorem dX11_score_11 : decode cX11_score 11 = .ok (.ifCond .eq 12, 3) := by decide +kernel
theorem dX11_score_14 : decode cX11_score 14 = .ok (.aload_n 0, 1) := by decide +kernel
theorem dX11_score_15 : decode cX11_score 15 = .ok (.getfield 88, 3) := by decide +kernel
theorem dX11_score_18 : decode cX11_score 18 = .ok (.iload_n 1, 1) := by decide +kernel
theorem dX11_score_19 : decode cX11_score 19 = .ok (.laload, 1) := by decide +kernel
theorem dX11_score_20 : decode cX11_score 20 = .ok (.goto 4, 3) := by decide +kernel
theorem dX11_score_23 : decode cX11_score 23 = .ok (.lconst 0, 1) := by decide +kernel
theorem dX11_score_24 : decode cX11_score 24 = .ok (.lreturn, 1) := by decide +kernel
theorem dX11_keep_0 : decode cX11_keep 0 = .ok (.aload_n 0, 1) := by decide +kernel
theorem dX11_keep_1 : decode cX11_keep 1 = .ok (.iload_n 1, 1) := by decide +kernel
theorem dX11_keep_2 : decode cX11_keep 2 = .ok (.invokevirtual 123, 3) := by decide +kernel
theorem dX11_keep_5 : decode cX11_keep 5 = .ok (.ifCond .eq 14, 3) := by decide +kernel
theorem dX11_keep_8 : decode cX11_keep 8 = .ok (.aload_n 0, 1) := by decide +kernel
theorem dX11_keep_9 : decode cX11_keep 9 = .ok (.getfield 16, 3) := by decide +kernel
theorem dX11_keep_12 : decode cX11_keep 12 = .ok (.iload_n 1, 1) := by decide +kernel
theorem dX11_keep_13 : decode cX11_keep 13 = .ok (.iaload, 1) := by decide +kernel
theorem dX11_keep_14 : decode cX11_keep 14 = .ok (.bipush 6, 2) := by decide +kernel
theorem dX11_keep_16 : decode cX11_keep 16 = .ok (.if_icmp .eq 6, 3) := by decide +kernel
theorem dX11_keep_19 : decode cX11_keep 19 = .ok (.bipush (-2), 2) := by decide +kernel
theorem dX11_keep_21 : decode cX11_keep 21 = .ok (.ireturn, 1) := by decide +kernel
theorem dX11_keep_22 : decode cX11_keep 22 = .ok (.aload_n 0, 1) := by decide +kernel
theorem dX11_keep_23 : decode cX11_keep 23 = .ok (.getfield 37, 3) := by decide +kernel
theorem dX11_keep_26 : decode cX11_keep 26 = .ok (.iload_n 1, 1) := by decide +kernel
theorem dX11_keep_27 : decode cX11_keep 27 = .ok (.iaload, 1) := by decide +kernel
theorem dX11_keep_28 : decode cX11_keep 28 = .ok (.iconst (-1), 1) := by decide +kernel
theorem dX11_keep_29 : decode cX11_keep 29 = .ok (.if_icmp .eq 6, 3) := by decide +kernel
theorem dX11_keep_32 : decode cX11_keep 32 = .ok (.bipush (-4), 2) := by decide +kernel
theorem dX11_keep_34 : decode cX11_keep 34 = .ok (.ireturn, 1) := by decide +kernel
theorem dX11_keep_35 : decode cX11_keep 35 = .ok (.iconst 0, 1) := by decide +kernel
theorem dX11_keep_36 : decode cX11_keep 36 = .ok (.istore_n 2, 1) := by decide +kernel
theorem dX11_keep_37 : decode cX11_keep 37 = .ok (.iconst 0, 1) := by decide +kernel
theorem dX11_keep_38 : decode cX11_keep 38 = .ok (.istore_n 3, 1) := by decide +kernel
theorem dX11_keep_39 : decode cX11_keep 39 = .ok (.iload_n 3, 1) := by decide +kernel
theorem dX11_keep_40 : decode cX11_keep 40 = .ok (.sipush 512, 3) := by decide +kernel
theorem dX11_keep_43 : decode cX11_keep 43 = .ok (.if_icmp .ge 49, 3) := by decide +kernel
theorem dX11_keep_46 : decode cX11_keep 46 = .ok (.aload_n 0, 1) := by decide +kernel
theorem dX11_keep_47 : decode cX11_keep 47 = .ok (.aload_n 0, 1) := by decide +kernel
theorem dX11_keep_48 : decode cX11_keep 48 = .ok (.getfield 19, 3) := by decide +kernel
theorem dX11_keep_51 : decode cX11_keep 51 = .ok (.iload_n 1, 1) := by decide +kernel
theorem dX11_keep_52 : decode cX11_keep 52 = .ok (.iaload, 1) := by decide +kernel
theorem dX11_keep_53 : decode cX11_keep 53 = .ok (.iload_n 3, 1) := by decide +kernel
theorem dX11_keep_54 : decode cX11_keep 54 = .ok (.invokevirtual 172, 3) := by decide +kernel
theorem dX11_keep_57 : decode cX11_keep 57 = .ok (.istore 4, 2) := by decide +kernel
theorem dX11_keep_59 : decode cX11_keep 59 = .ok (.aload_n 0, 1) := by decide +kernel
theorem dX11_keep_60 : decode cX11_keep 60 = .ok (.getfield 41, 3) := by decide +kernel
theorem dX11_keep_63 : decode cX11_keep 63 = .ok (.sipush 512, 3) := by decide +kernel
theorem dX11_keep_66 : decode cX11_keep 66 = .ok (.iload_n 1, 1) := by decide +kernel
theorem dX11_keep_67 : decode cX11_keep 67 = .ok (.imul, 1) := by decide +kernel
theorem dX11_keep_68 : decode cX11_keep 68 = .ok (.iload_n 3, 1) := by decide +kernel
theorem dX11_keep_69 : decode cX11_keep 69 = .ok (.iadd, 1) := by decide +kernel
theorem dX11_keep_70 : decode cX11_keep 70 = .ok (.iload 4, 2) := by decide +kernel
theorem dX11_keep_72 : decode cX11_keep 72 = .ok (.bastore, 1) := by decide +kernel
theorem dX11_keep_73 : decode cX11_keep 73 = .ok (.iload_n 2, 1) := by decide +kernel
theorem dX11_keep_74 : decode cX11_keep 74 = .ok (.iload 4, 2) := by decide +kernel
theorem dX11_keep_76 : decode cX11_keep 76 = .ok (.ifCond .eq 7, 3) := by decide +kernel
theorem dX11_keep_79 : decode cX11_keep 79 = .ok (.iconst 1, 1) := by decide +kernel
theorem dX11_keep_80 : decode cX11_keep 80 = .ok (.goto 4, 3) := by decide +kernel
theorem dX11_keep_83 : decode cX11_keep 83 = .ok (.iconst 0, 1) := by decide +kernel
theorem dX11_keep_84 : decode cX11_keep 84 = .ok (.iadd, 1) := by decide +kernel
theorem dX11_keep_85 : decode cX11_keep 85 = .ok (.istore_n 2, 1) := by decide +kernel
theorem dX11_keep_86 : decode cX11_keep 86 = .ok (.iinc 3 1, 3) := by decide +kernel
theorem dX11_keep_89 : decode cX11_keep 89 = .ok (.goto (-50), 3) := by decide +kernel
theorem dX11_keep_92 : decode cX11_keep 92 = .ok (.aload_n 0, 1) := by decide +kernel
theorem dX11_keep_93 : decode cX11_keep 93 = .ok (.getfield 37, 3) := by decide +kernel
theorem dX11_keep_96 : decode cX11_keep 96 = .ok (.iload_n 1, 1) := by decide +kernel
theorem dX11_keep_97 : decode cX11_keep 97 = .ok (.iload_n 2, 1) := by decide +kernel
theorem dX11_keep_98 : decode cX11_keep 98 = .ok (.iastore, 1) := by decide +kernel
theorem dX11_keep_99 : decode cX11_keep 99 = .ok (.iload_n 2, 1) := by decide +kernel
theorem dX11_keep_100 : decode cX11_keep 100 = .ok (.ireturn, 1) := by decide +kernel
theorem dX11_open_0 : decode cX11_open 0 = .ok (.aload_n 0, 1) := by decide +kernel
theorem dX11_open_1 : decode cX11_open 1 = .ok (.iload_n 1, 1) := by decide +kernel
theorem dX11_open_2 : decode cX11_open 2 = .ok (.invokevirtual 123, 3) := by decide +kernel
theorem dX11_open_5 : decode cX11_open 5 = .ok (.ifCond .ne 6, 3) := by decide +kernel
theorem dX11_open_8 : decode cX11_open 8 = .ok (.bipush (-2), 2) := by decide +kernel
theorem dX11_open_10 : decode cX11_open 10 = .ok (.ireturn, 1) := by decide +kernel
theorem dX11_open_11 : decode cX11_open 11 = .ok (.iconst 0, 1) := by decide +kernel
theorem dX11_open_12 : decode cX11_open 12 = .ok (.istore_n 2, 1) := by decide +kernel
theorem dX11_open_13 : decode cX11_open 13 = .ok (.iload_n 2, 1) := by decide +kernel
theorem dX11_open_14 : decode cX11_open 14 = .ok (.bipush 8, 2) := by decide +kernel
theorem dX11_open_16 : decode cX11_open 16 = .ok (.if_icmp .ge 19, 3) := by decide +kernel
theorem dX11_open_19 : decode cX11_open 19 = .ok (.aload_n 0, 1) := by decide +kernel
theorem dX11_open_20 : decode cX11_open 20 = .ok (.getfield 45, 3) := by decide +kernel
theorem dX11_open_23 : decode cX11_open 23 = .ok (.iload_n 2, 1) := by decide +kernel
theorem dX11_open_24 : decode cX11_open 24 = .ok (.iaload, 1) := by decide +kernel
theorem dX11_open_25 : decode cX11_open 25 = .ok (.iconst (-1), 1) := by decide +kernel
theorem dX11_open_26 : decode cX11_open 26 = .ok (.if_icmp .eq 9, 3) := by decide +kernel
theorem dX11_open_29 : decode cX11_open 29 = .ok (.iinc 2 1, 3) := by decide +kernel
theorem dX11_open_32 : decode cX11_open 32 = .ok (.goto (-19), 3) := by decide +kernel
theorem dX11_open_35 : decode cX11_open 35 = .ok (.iload_n 2, 1) := by decide +kernel
theorem dX11_open_36 : decode cX11_open 36 = .ok (.bipush 8, 2) := by decide +kernel
theorem dX11_open_38 : decode cX11_open 38 = .ok (.if_icmp .ne 6, 3) := by decide +kernel
theorem dX11_open_41 : decode cX11_open 41 = .ok (.bipush (-3), 2) := by decide +kernel
theorem dX11_open_43 : decode cX11_open 43 = .ok (.ireturn, 1) := by decide +kernel
theorem dX11_open_44 : decode cX11_open 44 = .ok (.aload_n 0, 1) := by decide +kernel
theorem dX11_open_45 : decode cX11_open 45 = .ok (.getfield 45, 3) := by decide +kernel
theorem dX11_open_48 : decode cX11_open 48 = .ok (.iload_n 2, 1) := by decide +kernel
theorem dX11_open_49 : decode cX11_open 49 = .ok (.iload_n 1, 1) := by decide +kernel
theorem dX11_open_50 : decode cX11_open 50 = .ok (.iastore, 1) := by decide +kernel
theorem dX11_open_51 : decode cX11_open 51 = .ok (.aload_n 0, 1) := by decide +kernel
theorem dX11_open_52 : decode cX11_open 52 = .ok (.getfield 48, 3) := by decide +kernel
theorem dX11_open_55 : decode cX11_open 55 = .ok (.iload_n 2, 1) := by decide +kernel
theorem dX11_open_56 : decode cX11_open 56 = .ok (.iconst (-1), 1) := by decide +kernel
theorem dX11_open_57 : decode cX11_open 57 = .ok (.iastore, 1) := by decide +kernel
theorem dX11_open_58 : decode cX11_open 58 = .ok (.aload_n 0, 1) := by decide +kernel
theorem dX11_open_59 : decode cX11_open 59 = .ok (.getfield 51, 3) := by decide +kernel
theorem dX11_open_62 : decode cX11_open 62 = .ok (.iload_n 2, 1) := by decide +kernel
theorem dX11_open_63 : decode cX11_open 63 = .ok (.iconst 0, 1) := by decide +kernel
theorem dX11_open_64 : decode cX11_open 64 = .ok (.bastore, 1) := by decide +kernel
theorem dX11_open_65 : decode cX11_open 65 = .ok (.aload_n 0, 1) := by decide +kernel
theorem dX11_open_66 : decode cX11_open 66 = .ok (.getfield 54, 3) := by decide +kernel
theorem dX11_open_69 : decode cX11_open 69 = .ok (.iload_n 2, 1) := by decide +kernel
theorem dX11_open_70 : decode cX11_open 70 = .ok (.iconst 0, 1) := by decide +kernel
theorem dX11_open_71 : decode cX11_open 71 = .ok (.iastore, 1) := by decide +kernel
theorem dX11_open_72 : decode cX11_open 72 = .ok (.iload_n 2, 1) := by decide +kernel
theorem dX11_open_73 : decode cX11_open 73 = .ok (.ireturn, 1) := by decide +kernel
theorem dX11_isOpen_0 : decode cX11_isOpen 0 = .ok (.iload_n 1, 1) := by decide +kernel
theorem dX11_isOpen_1 : decode cX11_isOpen 1 = .ok (.iconst 0, 1) := by decide +kernel
theorem dX11_isOpen_2 : decode cX11_isOpen 2 = .ok (.bipush 7, 2) := by decide +kernel
theorem dX11_isOpen_4 : decode cX11_isOpen 4 = .ok (.invokestatic 103, 3) := by decide +kernel
theorem dX11_isOpen_7 : decode cX11_isOpen 7 = .ok (.ifCond .eq 17, 3) := by decide +kernel
theorem dX11_isOpen_10 : decode cX11_isOpen 10 = .ok (.aload_n 0, 1) := by decide +kernel
theorem dX11_isOpen_11 : decode cX11_isOpen 11 = .ok (.getfield 45, 3) := by decide +kernel
theorem dX11_isOpen_14 : decode cX11_isOpen 14 = .ok (.iload_n 1, 1) := by decide +kernel
theorem dX11_isOpen_15 : decode cX11_isOpen 15 = .ok (.iaload, 1) := by decide +kernel
theorem dX11_isOpen_16 : decode cX11_isOpen 16 = .ok (.iconst (-1), 1) := by decide +kernel
theorem dX11_isOpen_17 : decode cX11_isOpen 17 = .ok (.if_icmp .eq 7, 3) := by decide +kernel
theorem dX11_isOpen_20 : decode cX11_isOpen 20 = .ok (.iconst 1, 1) := by decide +kernel
theorem dX11_isOpen_21 : decode cX11_isOpen 21 = .ok (.goto 4, 3) := by decide +kernel
theorem dX11_isOpen_24 : decode cX11_isOpen 24 = .ok (.iconst 0, 1) := by decide +kernel
theorem dX11_isOpen_25 : decode cX11_isOpen 25 = .ok (.ireturn, 1) := by decide +kernel
theorem dX11_next_0 : decode cX11_next 0 = .ok (.aload_n 0, 1) := by decide +kernel
theorem dX11_next_1 : decode cX11_next 1 = .ok (.iload_n 1, 1) := by decide +kernel
theorem dX11_next_2 : decode cX11_next 2 = .ok (.invokevirtual 183, 3) := by decide +kernel
theorem dX11_next_5 : decode cX11_next 5 = .ok (.ifCond .eq 10, 3) := by decide +kernel
theorem dX11_next_8 : decode cX11_next 8 = .ok (.iload_n 2, 1) := by decide +kernel
theorem dX11_next_9 : decode cX11_next 9 = .ok (.invokestatic 115, 3) := by decide +kernel
theorem dX11_next_12 : decode cX11_next 12 = .ok (.ifCond .ne 6, 3) := by decide +kernel
theorem dX11_next_15 : decode cX11_next 15 = .ok (.bipush (-2), 2) := by decide +kernel
theorem dX11_next_17 : decode cX11_next 17 = .ok (.ireturn, 1) := by decide +kernel
theorem dX11_next_18 : decode cX11_next 18 = .ok (.iload_n 2, 1) := by decide +kernel
theorem dX11_next_19 : decode cX11_next 19 = .ok (.aload_n 0, 1) := by decide +kernel
theorem dX11_next_20 : decode cX11_next 20 = .ok (.getfield 48, 3) := by decide +kernel
theorem dX11_next_23 : decode cX11_next 23 = .ok (.iload_n 1, 1) := by decide +kernel
theorem dX11_next_24 : decode cX11_next 24 = .ok (.iaload, 1) := by decide +kernel
theorem dX11_next_25 : decode cX11_next 25 = .ok (.if_icmp .le 7, 3) := by decide +kernel
theorem dX11_next_28 : decode cX11_next 28 = .ok (.iload_n 2, 1) := by decide +kernel
theorem dX11_next_29 : decode cX11_next 29 = .ok (.goto 11, 3) := by decide +kernel
theorem dX11_next_32 : decode cX11_next 32 = .ok (.aload_n 0, 1) := by decide +kernel
theorem dX11_next_33 : decode cX11_next 33 = .ok (.getfield 48, 3) := by decide +kernel
theorem dX11_next_36 : decode cX11_next 36 = .ok (.iload_n 1, 1) := by decide +kernel
theorem dX11_next_37 : decode cX11_next 37 = .ok (.iaload, 1) := by decide +kernel
theorem dX11_next_38 : decode cX11_next 38 = .ok (.iconst 1, 1) := by decide +kernel
theorem dX11_next_39 : decode cX11_next 39 = .ok (.iadd, 1) := by decide +kernel
theorem dX11_next_40 : decode cX11_next 40 = .ok (.istore_n 3, 1) := by decide +kernel
theorem dX11_next_41 : decode cX11_next 41 = .ok (.aload_n 0, 1) := by decide +kernel
theorem dX11_next_42 : decode cX11_next 42 = .ok (.getfield 51, 3) := by decide +kernel
theorem dX11_next_45 : decode cX11_next 45 = .ok (.iload_n 1, 1) := by decide +kernel
theorem dX11_next_46 : decode cX11_next 46 = .ok (.baload, 1) := by decide +kernel
theorem dX11_next_47 : decode cX11_next 47 = .ok (.ifCond .ne 30, 3) := by decide +kernel
theorem dX11_next_50 : decode cX11_next 50 = .ok (.iload_n 3, 1) := by decide +kernel
theorem dX11_next_51 : decode cX11_next 51 = .ok (.sipush 512, 3) := by decide +kernel
theorem dX11_next_54 : decode cX11_next 54 = .ok (.if_icmp .ge 23, 3) := by decide +kernel
theorem dX11_next_57 : decode cX11_next 57 = .ok (.aload_n 0, 1) := by decide +kernel
theorem dX11_next_58 : decode cX11_next 58 = .ok (.aload_n 0, 1) := by decide +kernel
theorem dX11_next_59 : decode cX11_next 59 = .ok (.getfield 45, 3) := by decide +kernel
theorem dX11_next_62 : decode cX11_next 62 = .ok (.iload_n 1, 1) := by decide +kernel
theorem dX11_next_63 : decode cX11_next 63 = .ok (.iaload, 1) := by decide +kernel
theorem dX11_next_64 : decode cX11_next 64 = .ok (.iload_n 3, 1) := by decide +kernel
theorem dX11_next_65 : decode cX11_next 65 = .ok (.invokevirtual 172, 3) := by decide +kernel
theorem dX11_next_68 : decode cX11_next 68 = .ok (.ifCond .ne 9, 3) := by decide +kernel
theorem dX11_next_71 : decode cX11_next 71 = .ok (.iinc 3 1, 3) := by decide +kernel
theorem dX11_next_74 : decode cX11_next 74 = .ok (.goto (-33), 3) := by decide +kernel
theorem dX11_next_77 : decode cX11_next 77 = .ok (.aload_n 0, 1) := by decide +kernel
theorem dX11_next_78 : decode cX11_next 78 = .ok (.getfield 51, 3) := by decide +kernel
theorem dX11_next_81 : decode cX11_next 81 = .ok (.iload_n 1, 1) := by decide +kernel
theorem dX11_next_82 : decode cX11_next 82 = .ok (.baload, 1) := by decide +kernel
theorem dX11_next_83 : decode cX11_next 83 = .ok (.ifCond .ne 10, 3) := by decide +kernel
theorem dX11_next_86 : decode cX11_next 86 = .ok (.iload_n 3, 1) := by decide +kernel
theorem dX11_next_87 : decode cX11_next 87 = .ok (.sipush 512, 3) := by decide +kernel
theorem dX11_next_90 : decode cX11_next 90 = .ok (.if_icmp .lt 12, 3) := by decide +kernel
theorem dX11_next_93 : decode cX11_next 93 = .ok (.aload_n 0, 1) := by decide +kernel
theorem dX11_next_94 : decode cX11_next 94 = .ok (.getfield 51, 3) := by decide +kernel
theorem dX11_next_97 : decode cX11_next 97 = .ok (.iload_n 1, 1) := by decide +kernel
theorem dX11_next_98 : decode cX11_next 98 = .ok (.iconst 1, 1) := by decide +kernel
theorem dX11_next_99 : decode cX11_next 99 = .ok (.bastore, 1) := by decide +kernel
theorem dX11_next_100 : decode cX11_next 100 = .ok (.iconst (-1), 1) := by decide +kernel
theorem dX11_next_101 : decode cX11_next 101 = .ok (.ireturn, 1) := by decide +kernel
theorem dX11_next_102 : decode cX11_next 102 = .ok (.aload_n 0, 1) := by decide +kernel
theorem dX11_next_103 : decode cX11_next 103 = .ok (.getfield 48, 3) := by decide +kernel
theorem dX11_next_106 : decode cX11_next 106 = .ok (.iload_n 1, 1) := by decide +kernel
theorem dX11_next_107 : decode cX11_next 107 = .ok (.iload_n 3, 1) := by decide +kernel
theorem dX11_next_108 : decode cX11_next 108 = .ok (.iastore, 1) := by decide +kernel
theorem dX11_next_109 : decode cX11_next 109 = .ok (.aload_n 0, 1) := by decide +kernel
theorem dX11_next_110 : decode cX11_next 110 = .ok (.getfield 54, 3) := by decide +kernel
theorem dX11_next_113 : decode cX11_next 113 = .ok (.iload_n 1, 1) := by decide +kernel
theorem dX11_next_114 : decode cX11_next 114 = .ok (.dup2, 1) := by decide +kernel
theorem dX11_next_115 : decode cX11_next 115 = .ok (.iaload, 1) := by decide +kernel
theorem dX11_next_116 : decode cX11_next 116 = .ok (.iconst 1, 1) := by decide +kernel
theorem dX11_next_117 : decode cX11_next 117 = .ok (.iadd, 1) := by decide +kernel
theorem dX11_next_118 : decode cX11_next 118 = .ok (.iastore, 1) := by decide +kernel
theorem dX11_next_119 : decode cX11_next 119 = .ok (.iload_n 3, 1) := by decide +kernel
theorem dX11_next_120 : decode cX11_next 120 = .ok (.ireturn, 1) := by decide +kernel
theorem dX11_close_0 : decode cX11_close 0 = .ok (.aload_n 0, 1) := by decide +kernel
theorem dX11_close_1 : decode cX11_close 1 = .ok (.iload_n 1, 1) := by decide +kernel
theorem dX11_close_2 : decode cX11_close 2 = .ok (.invokevirtual 183, 3) := by decide +kernel
theorem dX11_close_5 : decode cX11_close 5 = .ok (.ifCond .ne 6, 3) := by decide +kernel
theorem dX11_close_8 : decode cX11_close 8 = .ok (.bipush (-2), 2) := by decide +kernel
theorem dX11_close_10 : decode cX11_close 10 = .ok (.ireturn, 1) := by decide +kernel
theorem dX11_close_11 : decode cX11_close 11 = .ok (.aload_n 0, 1) := by decide +kernel
theorem dX11_close_12 : decode cX11_close 12 = .ok (.getfield 45, 3) := by decide +kernel
theorem dX11_close_15 : decode cX11_close 15 = .ok (.iload_n 1, 1) := by decide +kernel
theorem dX11_close_16 : decode cX11_close 16 = .ok (.iconst (-1), 1) := by decide +kernel
theorem dX11_close_17 : decode cX11_close 17 = .ok (.iastore, 1) := by decide +kernel
theorem dX11_close_18 : decode cX11_close 18 = .ok (.aload_n 0, 1) := by decide +kernel
theorem dX11_close_19 : decode cX11_close 19 = .ok (.getfield 54, 3) := by decide +kernel
theorem dX11_close_22 : decode cX11_close 22 = .ok (.iload_n 1, 1) := by decide +kernel
theorem dX11_close_23 : decode cX11_close 23 = .ok (.iaload, 1) := by decide +kernel
theorem dX11_close_24 : decode cX11_close 24 = .ok (.ireturn, 1) := by decide +kernel
theorem dX11_rewrite_0 : decode cX11_rewrite 0 = .ok (.aload_n 0, 1) := by decide +kernel
theorem dX11_rewrite_1 : decode cX11_rewrite 1 = .ok (.iload_n 1, 1) := by decide +kernel
theorem dX11_rewrite_2 : decode cX11_rewrite 2 = .ok (.invokevirtual 123, 3) := by decide +kernel
theorem dX11_rewrite_5 : decode cX11_rewrite 5 = .ok (.ifCond .ne 6, 3) := by decide +kernel
theorem dX11_rewrite_8 : decode cX11_rewrite 8 = .ok (.bipush (-2), 2) := by decide +kernel
theorem dX11_rewrite_10 : decode cX11_rewrite 10 = .ok (.ireturn, 1) := by decide +kernel
theorem dX11_rewrite_11 : decode cX11_rewrite 11 = .ok (.aload_n 0, 1) := by decide +kernel
theorem dX11_rewrite_12 : decode cX11_rewrite 12 = .ok (.getfield 107, 3) := by decide +kernel
theorem dX11_rewrite_15 : decode cX11_rewrite 15 = .ok (.istore_n 2, 1) := by decide +kernel
theorem dX11_rewrite_16 : decode cX11_rewrite 16 = .ok (.aload_n 0, 1) := by decide +kernel
theorem dX11_rewrite_17 : decode cX11_rewrite 17 = .ok (.iconst 0, 1) := by decide +kernel
theorem dX11_rewrite_18 : decode cX11_rewrite 18 = .ok (.putfield 186, 3) := by decide +kernel
theorem dX11_rewrite_21 : decode cX11_rewrite 21 = .ok (.iconst 0, 1) := by decide +kernel
theorem dX11_rewrite_22 : decode cX11_rewrite 22 = .ok (.istore_n 3, 1) := by decide +kernel
theorem dX11_rewrite_23 : decode cX11_rewrite 23 = .ok (.iload_n 3, 1) := by decide +kernel
theorem dX11_rewrite_24 : decode cX11_rewrite 24 = .ok (.iload_n 1, 1) := by decide +kernel
theorem dX11_rewrite_25 : decode cX11_rewrite 25 = .ok (.if_icmp .gt 25, 3) := by decide +kernel
theorem dX11_rewrite_28 : decode cX11_rewrite 28 = .ok (.aload_n 0, 1) := by decide +kernel
theorem dX11_rewrite_29 : decode cX11_rewrite 29 = .ok (.getfield 57, 3) := by decide +kernel
theorem dX11_rewrite_32 : decode cX11_rewrite 32 = .ok (.iload_n 3, 1) := by decide +kernel
theorem dX11_rewrite_33 : decode cX11_rewrite 33 = .ok (.iload_n 3, 1) := by decide +kernel
theorem dX11_rewrite_34 : decode cX11_rewrite 34 = .ok (.iload_n 1, 1) := by decide +kernel
theorem dX11_rewrite_35 : decode cX11_rewrite 35 = .ok (.if_icmp .ne 7, 3) := by decide +kernel
theorem dX11_rewrite_38 : decode cX11_rewrite 38 = .ok (.iconst 1, 1) := by decide +kernel
theorem dX11_rewrite_39 : decode cX11_rewrite 39 = .ok (.goto 4, 3) := by decide +kernel
theorem dX11_rewrite_42 : decode cX11_rewrite 42 = .ok (.iconst 0, 1) := by decide +kernel
theorem dX11_rewrite_43 : decode cX11_rewrite 43 = .ok (.bastore, 1) := by decide +kernel
theorem dX11_rewrite_44 : decode cX11_rewrite 44 = .ok (.iinc 3 1, 3) := by decide +kernel
theorem dX11_rewrite_47 : decode cX11_rewrite 47 = .ok (.goto (-24), 3) := by decide +kernel
theorem dX11_rewrite_50 : decode cX11_rewrite 50 = .ok (.iload_n 1, 1) := by decide +kernel
theorem dX11_rewrite_51 : decode cX11_rewrite 51 = .ok (.istore_n 3, 1) := by decide +kernel
theorem dX11_rewrite_52 : decode cX11_rewrite 52 = .ok (.iload_n 3, 1) := by decide +kernel
theorem dX11_rewrite_53 : decode cX11_rewrite 53 = .ok (.ifCond .lt 56, 3) := by decide +kernel
theorem dX11_rewrite_56 : decode cX11_rewrite 56 = .ok (.iconst 0, 1) := by decide +kernel
theorem dX11_rewrite_57 : decode cX11_rewrite 57 = .ok (.istore 4, 2) := by decide +kernel
theorem dX11_rewrite_59 : decode cX11_rewrite 59 = .ok (.iload 4, 2) := by decide +kernel
theorem dX11_rewrite_61 : decode cX11_rewrite 61 = .ok (.aload_n 0, 1) := by decide +kernel
theorem dX11_rewrite_62 : decode cX11_rewrite 62 = .ok (.getfield 25, 3) := by decide +kernel
theorem dX11_rewrite_65 : decode cX11_rewrite 65 = .ok (.iload_n 3, 1) := by decide +kernel
theorem dX11_rewrite_66 : decode cX11_rewrite 66 = .ok (.iaload, 1) := by decide +kernel
theorem dX11_rewrite_67 : decode cX11_rewrite 67 = .ok (.if_icmp .ge 36, 3) := by decide +kernel
theorem dX11_rewrite_70 : decode cX11_rewrite 70 = .ok (.aload_n 0, 1) := by decide +kernel
theorem dX11_rewrite_71 : decode cX11_rewrite 71 = .ok (.getfield 57, 3) := by decide +kernel
theorem dX11_rewrite_74 : decode cX11_rewrite 74 = .ok (.iload_n 3, 1) := by decide +kernel
theorem dX11_rewrite_75 : decode cX11_rewrite 75 = .ok (.baload, 1) := by decide +kernel
theorem dX11_rewrite_76 : decode cX11_rewrite 76 = .ok (.ifCond .eq 27, 3) := by decide +kernel
theorem dX11_rewrite_79 : decode cX11_rewrite 79 = .ok (.aload_n 0, 1) := by decide +kernel
theorem dX11_rewrite_80 : decode cX11_rewrite 80 = .ok (.getfield 57, 3) := by decide +kernel
theorem dX11_rewrite_83 : decode cX11_rewrite 83 = .ok (.aload_n 0, 1) := by decide +kernel
theorem dX11_rewrite_84 : decode cX11_rewrite 84 = .ok (.getfield 31, 3) := by decide +kernel
theorem dX11_rewrite_87 : decode cX11_rewrite 87 = .ok (.bipush 8, 2) := by decide +kernel
theorem dX11_rewrite_89 : decode cX11_rewrite 89 = .ok (.iload_n 3, 1) := by decide +kernel
theorem dX11_rewrite_90 : decode cX11_rewrite 90 = .ok (.imul, 1) := by decide +kernel
theorem dX11_rewrite_91 : decode cX11_rewrite 91 = .ok (.iload 4, 2) := by decide +kernel
theorem dX11_rewrite_93 : decode cX11_rewrite 93 = .ok (.iadd, 1) := by decide +kernel
theorem dX11_rewrite_94 : decode cX11_rewrite 94 = .ok (.iaload, 1) := by decide +kernel
theorem dX11_rewrite_95 : decode cX11_rewrite 95 = .ok (.iconst 1, 1) := by decide +kernel
theorem dX11_rewrite_96 : decode cX11_rewrite 96 = .ok (.bastore, 1) := by decide +kernel
theorem dX11_rewrite_97 : decode cX11_rewrite 97 = .ok (.iinc 4 1, 3) := by decide +kernel
theorem dX11_rewrite_100 : decode cX11_rewrite 100 = .ok (.goto (-41), 3) := by decide +kernel
theorem dX11_rewrite_103 : decode cX11_rewrite 103 = .ok (.iinc 3 (-1), 3) := by decide +kernel
theorem dX11_rewrite_106 : decode cX11_rewrite 106 = .ok (.goto (-54), 3) := by decide +kernel
theorem dX11_rewrite_109 : decode cX11_rewrite 109 = .ok (.iconst 0, 1) := by decide +kernel
theorem dX11_rewrite_110 : decode cX11_rewrite 110 = .ok (.istore_n 3, 1) := by decide +kernel
theorem dX11_rewrite_111 : decode cX11_rewrite 111 = .ok (.iload_n 3, 1) := by decide +kernel
theorem dX11_rewrite_112 : decode cX11_rewrite 112 = .ok (.iload_n 1, 1) := by decide +kernel
theorem dX11_rewrite_113 : decode cX11_rewrite 113 = .ok (.if_icmp .gt 72, 3) := by decide +kernel
theorem dX11_rewrite_116 : decode cX11_rewrite 116 = .ok (.aload_n 0, 1) := by decide +kernel
theorem dX11_rewrite_117 : decode cX11_rewrite 117 = .ok (.getfield 186, 3) := by decide +kernel
theorem dX11_rewrite_120 : decode cX11_rewrite 120 = .ok (.ifCond .ne 65, 3) := by decide +kernel
theorem dX11_rewrite_123 : decode cX11_rewrite 123 = .ok (.aload_n 0, 1) := by decide +kernel
theorem dX11_rewrite_124 : decode cX11_rewrite 124 = .ok (.getfield 57, 3) := by decide +kernel
theorem dX11_rewrite_127 : decode cX11_rewrite 127 = .ok (.iload_n 3, 1) := by decide +kernel
theorem dX11_rewrite_128 : decode cX11_rewrite 128 = .ok (.baload, 1) := by decide +kernel
theorem dX11_rewrite_129 : decode cX11_rewrite 129 = .ok (.ifCond .eq 50, 3) := by decide +kernel
theorem dX11_rewrite_132 : decode cX11_rewrite 132 = .ok (.aload_n 0, 1) := by decide +kernel
theorem dX11_rewrite_133 : decode cX11_rewrite 133 = .ok (.getfield 91, 3) := by decide +kernel
theorem dX11_rewrite_136 : decode cX11_rewrite 136 = .ok (.iload_n 3, 1) := by decide +kernel
theorem dX11_rewrite_137 : decode cX11_rewrite 137 = .ok (.aload_n 0, 1) := by decide +kernel
theorem dX11_rewrite_138 : decode cX11_rewrite 138 = .ok (.getfield 16, 3) := by decide +kernel
theorem dX11_rewrite_141 : decode cX11_rewrite 141 = .ok (.iload_n 3, 1) := by decide +kernel
theorem dX11_rewrite_142 : decode cX11_rewrite 142 = .ok (.iaload, 1) := by decide +kernel
theorem dX11_rewrite_143 : decode cX11_rewrite 143 = .ok (.iconst 2, 1) := by decide +kernel
theorem dX11_rewrite_144 : decode cX11_rewrite 144 = .ok (.if_icmp .ne 11, 3) := by decide +kernel
theorem dX11_rewrite_147 : decode cX11_rewrite 147 = .ok (.aload_n 0, 1) := by decide +kernel
theorem dX11_rewrite_148 : decode cX11_rewrite 148 = .ok (.iload_n 3, 1) := by decide +kernel
theorem dX11_rewrite_149 : decode cX11_rewrite 149 = .ok (.invokevirtual 190, 3) := by decide +kernel
theorem dX11_rewrite_152 : decode cX11_rewrite 152 = .ok (.goto 26, 3) := by decide +kernel
theorem dX11_rewrite_155 : decode cX11_rewrite 155 = .ok (.aload_n 0, 1) := by decide +kernel
theorem dX11_rewrite_156 : decode cX11_rewrite 156 = .ok (.getfield 16, 3) := by decide +kernel
theorem dX11_rewrite_159 : decode cX11_rewrite 159 = .ok (.iload_n 3, 1) := by decide +kernel
theorem dX11_rewrite_160 : decode cX11_rewrite 160 = .ok (.iaload, 1) := by decide +kernel
theorem dX11_rewrite_161 : decode cX11_rewrite 161 = .ok (.iconst 3, 1) := by decide +kernel
theorem dX11_rewrite_162 : decode cX11_rewrite 162 = .ok (.if_icmp .ne 11, 3) := by decide +kernel
theorem dX11_rewrite_165 : decode cX11_rewrite 165 = .ok (.aload_n 0, 1) := by decide +kernel
theorem dX11_rewrite_166 : decode cX11_rewrite 166 = .ok (.iload_n 3, 1) := by decide +kernel
theorem dX11_rewrite_167 : decode cX11_rewrite 167 = .ok (.invokevirtual 193, 3) := by decide +kernel
theorem dX11_rewrite_170 : decode cX11_rewrite 170 = .ok (.goto 8, 3) := by decide +kernel
theorem dX11_rewrite_173 : decode cX11_rewrite 173 = .ok (.aload_n 0, 1) := by decide +kernel
theorem dX11_rewrite_174 : decode cX11_rewrite 174 = .ok (.iload_n 3, 1) := by decide +kernel
theorem dX11_rewrite_175 : decode cX11_rewrite 175 = .ok (.invokevirtual 196, 3) := by decide +kernel
theorem dX11_rewrite_178 : decode cX11_rewrite 178 = .ok (.iastore, 1) := by decide +kernel
theorem dX11_rewrite_179 : decode cX11_rewrite 179 = .ok (.iinc 3 1, 3) := by decide +kernel
theorem dX11_rewrite_182 : decode cX11_rewrite 182 = .ok (.goto (-71), 3) := by decide +kernel
theorem dX11_rewrite_185 : decode cX11_rewrite 185 = .ok (.aload_n 0, 1) := by decide +kernel
theorem dX11_rewrite_186 : decode cX11_rewrite 186 = .ok (.getfield 186, 3) := by decide +kernel
theorem dX11_rewrite_189 : decode cX11_rewrite 189 = .ok (.ifCond .eq 11, 3) := by decide +kernel
theorem dX11_rewrite_192 : decode cX11_rewrite 192 = .ok (.aload_n 0, 1) := by decide +kernel
theorem dX11_rewrite_193 : decode cX11_rewrite 193 = .ok (.iload_n 2, 1) := by decide +kernel
theorem dX11_rewrite_194 : decode cX11_rewrite 194 = .ok (.putfield 107, 3) := by decide +kernel
theorem dX11_rewrite_197 : decode cX11_rewrite 197 = .ok (.bipush (-3), 2) := by decide +kernel
theorem dX11_rewrite_199 : decode cX11_rewrite 199 = .ok (.ireturn, 1) := by decide +kernel
theorem dX11_rewrite_200 : decode cX11_rewrite 200 = .ok (.aload_n 0, 1) := by decide +kernel
theorem dX11_rewrite_201 : decode cX11_rewrite 201 = .ok (.getfield 91, 3) := by decide +kernel
theorem dX11_rewrite_204 : decode cX11_rewrite 204 = .ok (.iload_n 1, 1) := by decide +kernel
theorem dX11_rewrite_205 : decode cX11_rewrite 205 = .ok (.iaload, 1) := by decide +kernel
theorem dX11_rewrite_206 : decode cX11_rewrite 206 = .ok (.ireturn, 1) := by decide +kernel
theorem dX11_so_0 : decode cX11_so 0 = .ok (.iconst 0, 1) := by decide +kernel
theorem dX11_so_1 : decode cX11_so 1 = .ok (.istore 4, 2) := by decide +kernel
theorem dX11_so_3 : decode cX11_so 3 = .ok (.iload 4, 2) := by decide +kernel
theorem dX11_so_5 : decode cX11_so 5 = .ok (.aload_n 0, 1) := by decide +kernel
theorem dX11_so_6 : decode cX11_so 6 = .ok (.getfield 107, 3) := by decide +kernel
theorem dX11_so_9 : decode cX11_so 9 = .ok (.if_icmp .ge 167, 3) := by decide +kernel
theorem dX11_so_12 : decode cX11_so 12 = .ok (.aload_n 0, 1) := by decide +kernel
theorem dX11_so_13 : decode cX11_so 13 = .ok (.getfield 16, 3) := by decide +kernel
theorem dX11_so_16 : decode cX11_so 16 = .ok (.iload 4, 2) := by decide +kernel
theorem dX11_so_18 : decode cX11_so 18 = .ok (.iaload, 1) := by decide +kernel
theorem dX11_so_19 : decode cX11_so 19 = .ok (.iload_n 1, 1) := by decide +kernel
theorem dX11_so_20 : decode cX11_so 20 = .ok (.if_icmp .ne 53, 3) := by decide +kernel
theorem dX11_so_23 : decode cX11_so 23 = .ok (.aload_n 0, 1) := by decide +kernel
theorem dX11_so_24 : decode cX11_so 24 = .ok (.getfield 19, 3) := by decide +kernel
theorem dX11_so_27 : decode cX11_so 27 = .ok (.iload 4, 2) := by decide +kernel
theorem dX11_so_29 : decode cX11_so 29 = .ok (.iaload, 1) := by decide +kernel
theorem dX11_so_30 : decode cX11_so 30 = .ok (.iload_n 2, 1) := by decide +kernel
theorem dX11_so_31 : decode cX11_so 31 = .ok (.if_icmp .ne 42, 3) := by decide +kernel
theorem dX11_so_34 : decode cX11_so 34 = .ok (.aload_n 0, 1) := by decide +kernel
theorem dX11_so_35 : decode cX11_so 35 = .ok (.getfield 22, 3) := by decide +kernel
theorem dX11_so_38 : decode cX11_so 38 = .ok (.iload 4, 2) := by decide +kernel
theorem dX11_so_40 : decode cX11_so 40 = .ok (.iaload, 1) := by decide +kernel
theorem dX11_so_41 : decode cX11_so 41 = .ok (.iload_n 3, 1) := by decide +kernel
theorem dX11_so_42 : decode cX11_so 42 = .ok (.if_icmp .ne 31, 3) := by decide +kernel
theorem dX11_so_45 : decode cX11_so 45 = .ok (.iload_n 1, 1) := by decide +kernel
theorem dX11_so_46 : decode cX11_so 46 = .ok (.iconst 2, 1) := by decide +kernel
theorem dX11_so_47 : decode cX11_so 47 = .ok (.if_icmp .eq 8, 3) := by decide +kernel
theorem dX11_so_50 : decode cX11_so 50 = .ok (.iload_n 1, 1) := by decide +kernel
theorem dX11_so_51 : decode cX11_so 51 = .ok (.iconst 3, 1) := by decide +kernel
theorem dX11_so_52 : decode cX11_so 52 = .ok (.if_icmp .ne 17, 3) := by decide +kernel
theorem dX11_so_55 : decode cX11_so 55 = .ok (.aload_n 0, 1) := by decide +kernel
theorem dX11_so_56 : decode cX11_so 56 = .ok (.getfield 25, 3) := by decide +kernel
theorem dX11_so_59 : decode cX11_so 59 = .ok (.iload 4, 2) := by decide +kernel
theorem dX11_so_61 : decode cX11_so 61 = .ok (.iaload, 1) := by decide +kernel
theorem dX11_so_62 : decode cX11_so 62 = .ok (.aload_n 0, 1) := by decide +kernel
theorem dX11_so_63 : decode cX11_so 63 = .ok (.getfield 199, 3) := by decide +kernel
theorem dX11_so_66 : decode cX11_so 66 = .ok (.if_icmp .ne 7, 3) := by decide +kernel
theorem dX11_so_69 : decode cX11_so 69 = .ok (.iconst 1, 1) := by decide +kernel
theorem dX11_so_70 : decode cX11_so 70 = .ok (.goto 4, 3) := by decide +kernel
theorem dX11_so_73 : decode cX11_so 73 = .ok (.iconst 0, 1) := by decide +kernel
theorem dX11_so_74 : decode cX11_so 74 = .ok (.istore 5, 2) := by decide +kernel
theorem dX11_so_76 : decode cX11_so 76 = .ok (.iconst 0, 1) := by decide +kernel
theorem dX11_so_77 : decode cX11_so 77 = .ok (.istore 6, 2) := by decide +kernel
theorem dX11_so_79 : decode cX11_so 79 = .ok (.iload 6, 2) := by decide +kernel
theorem dX11_so_81 : decode cX11_so 81 = .ok (.aload_n 0, 1) := by decide +kernel
theorem dX11_so_82 : decode cX11_so 82 = .ok (.getfield 199, 3) := by decide +kernel
theorem dX11_so_85 : decode cX11_so 85 = .ok (.if_icmp .ge 77, 3) := by decide +kernel
theorem dX11_so_88 : decode cX11_so 88 = .ok (.iload 5, 2) := by decide +kernel
theorem dX11_so_90 : decode cX11_so 90 = .ok (.ifCond .eq 72, 3) := by decide +kernel
theorem dX11_so_93 : decode cX11_so 93 = .ok (.iload_n 1, 1) := by decide +kernel
theorem dX11_so_94 : decode cX11_so 94 = .ok (.iconst 2, 1) := by decide +kernel
theorem dX11_so_95 : decode cX11_so 95 = .ok (.if_icmp .eq 8, 3) := by decide +kernel
theorem dX11_so_98 : decode cX11_so 98 = .ok (.iload_n 1, 1) := by decide +kernel
theorem dX11_so_99 : decode cX11_so 99 = .ok (.iconst 3, 1) := by decide +kernel
theorem dX11_so_100 : decode cX11_so 100 = .ok (.if_icmp .ne 62, 3) := by decide +kernel
theorem dX11_so_103 : decode cX11_so 103 = .ok (.aload_n 0, 1) := by decide +kernel
theorem dX11_so_104 : decode cX11_so 104 = .ok (.getfield 28, 3) := by decide +kernel
theorem dX11_so_107 : decode cX11_so 107 = .ok (.bipush 8, 2) := by decide +kernel
theorem dX11_so_109 : decode cX11_so 109 = .ok (.iload 4, 2) := by decide +kernel
theorem dX11_so_111 : decode cX11_so 111 = .ok (.imul, 1) := by decide +kernel
theorem dX11_so_112 : decode cX11_so 112 = .ok (.iload 6, 2) := by decide +kernel
theorem dX11_so_114 : decode cX11_so 114 = .ok (.iadd, 1) := by decide +kernel
theorem dX11_so_115 : decode cX11_so 115 = .ok (.iaload, 1) := by decide +kernel
theorem dX11_so_116 : decode cX11_so 116 = .ok (.aload_n 0, 1) := by decide +kernel
theorem dX11_so_117 : decode cX11_so 117 = .ok (.getfield 94, 3) := by decide +kernel
theorem dX11_so_120 : decode cX11_so 120 = .ok (.iload 6, 2) := by decide +kernel
theorem dX11_so_122 : decode cX11_so 122 = .ok (.iaload, 1) := by decide +kernel
theorem dX11_so_123 : decode cX11_so 123 = .ok (.if_icmp .ne 30, 3) := by decide +kernel
theorem dX11_so_126 : decode cX11_so 126 = .ok (.aload_n 0, 1) := by decide +kernel
theorem dX11_so_127 : decode cX11_so 127 = .ok (.getfield 31, 3) := by decide +kernel
theorem dX11_so_130 : decode cX11_so 130 = .ok (.bipush 8, 2) := by decide +kernel
theorem dX11_so_132 : decode cX11_so 132 = .ok (.iload 4, 2) := by decide +kernel
theorem dX11_so_134 : decode cX11_so 134 = .ok (.imul, 1) := by decide +kernel
theorem dX11_so_135 : decode cX11_so 135 = .ok (.iload 6, 2) := by decide +kernel
theorem dX11_so_137 : decode cX11_so 137 = .ok (.iadd, 1) := by decide +kernel
theorem dX11_so_138 : decode cX11_so 138 = .ok (.iaload, 1) := by decide +kernel
theorem dX11_so_139 : decode cX11_so 139 = .ok (.aload_n 0, 1) := by decide +kernel
theorem dX11_so_140 : decode cX11_so 140 = .ok (.getfield 97, 3) := by decide +kernel
theorem dX11_so_143 : decode cX11_so 143 = .ok (.iload 6, 2) := by decide +kernel
theorem dX11_so_145 : decode cX11_so 145 = .ok (.iaload, 1) := by decide +kernel
theorem dX11_so_146 : decode cX11_so 146 = .ok (.if_icmp .ne 7, 3) := by decide +kernel
theorem dX11_so_149 : decode cX11_so 149 = .ok (.iconst 1, 1) := by decide +kernel
theorem dX11_so_150 : decode cX11_so 150 = .ok (.goto 4, 3) := by decide +kernel
theorem dX11_so_153 : decode cX11_so 153 = .ok (.iconst 0, 1) := by decide +kernel
theorem dX11_so_154 : decode cX11_so 154 = .ok (.istore 5, 2) := by decide +kernel
theorem dX11_so_156 : decode cX11_so 156 = .ok (.iinc 6 1, 3) := by decide +kernel
theorem dX11_so_159 : decode cX11_so 159 = .ok (.goto (-80), 3) := by decide +kernel
theorem dX11_so_162 : decode cX11_so 162 = .ok (.iload 5, 2) := by decide +kernel
theorem dX11_so_164 : decode cX11_so 164 = .ok (.ifCond .eq 6, 3) := by decide +kernel
theorem dX11_so_167 : decode cX11_so 167 = .ok (.iload 4, 2) := by decide +kernel
theorem dX11_so_169 : decode cX11_so 169 = .ok (.ireturn, 1) := by decide +kernel
theorem dX11_so_170 : decode cX11_so 170 = .ok (.iinc 4 1, 3) := by decide +kernel
theorem dX11_so_173 : decode cX11_so 173 = .ok (.goto (-170), 3) := by decide +kernel
theorem dX11_so_176 : decode cX11_so 176 = .ok (.aload_n 0, 1) := by decide +kernel
theorem dX11_so_177 : decode cX11_so 177 = .ok (.getfield 107, 3) := by decide +kernel
theorem dX11_so_180 : decode cX11_so 180 = .ok (.bipush 80, 2) := by decide +kernel
theorem dX11_so_182 : decode cX11_so 182 = .ok (.if_icmp .ne 10, 3) := by decide +kernel
theorem dX11_so_185 : decode cX11_so 185 = .ok (.aload_n 0, 1) := by decide +kernel
theorem dX11_so_186 : decode cX11_so 186 = .ok (.iconst 1, 1) := by decide +kernel
theorem dX11_so_187 : decode cX11_so 187 = .ok (.putfield 186, 3) := by decide +kernel
theorem dX11_so_190 : decode cX11_so 190 = .ok (.iconst 0, 1) := by decide +kernel
theorem dX11_so_191 : decode cX11_so 191 = .ok (.ireturn, 1) := by decide +kernel
theorem dX11_so_192 : decode cX11_so 192 = .ok (.aload_n 0, 1) := by decide +kernel
theorem dX11_so_193 : decode cX11_so 193 = .ok (.iload_n 1, 1) := by decide +kernel
theorem dX11_so_194 : decode cX11_so 194 = .ok (.iload_n 2, 1) := by decide +kernel
theorem dX11_so_195 : decode cX11_so 195 = .ok (.iload_n 3, 1) := by decide +kernel
theorem dX11_so_196 : decode cX11_so 196 = .ok (.invokevirtual 130, 3) := by decide +kernel
theorem dX11_so_199 : decode cX11_so 199 = .ok (.iconst 0, 1) := by decide +kernel
theorem dX11_so_200 : decode cX11_so 200 = .ok (.istore 4, 2) := by decide +kernel
theorem dX11_so_202 : decode cX11_so 202 = .ok (.iload 4, 2) := by decide +kernel
theorem dX11_so_204 : decode cX11_so 204 = .ok (.aload_n 0, 1) := by decide +kernel
theorem dX11_so_205 : decode cX11_so 205 = .ok (.getfield 199, 3) := by decide +kernel
theorem dX11_so_208 : decode cX11_so 208 = .ok (.if_icmp .ge 82, 3) := by decide +kernel
theorem dX11_so_211 : decode cX11_so 211 = .ok (.iload_n 1, 1) := by decide +kernel
theorem dX11_so_212 : decode cX11_so 212 = .ok (.iconst 2, 1) := by decide +kernel
theorem dX11_so_213 : decode cX11_so 213 = .ok (.if_icmp .eq 8, 3) := by decide +kernel
theorem dX11_so_216 : decode cX11_so 216 = .ok (.iload_n 1, 1) := by decide +kernel
theorem dX11_so_217 : decode cX11_so 217 = .ok (.iconst 3, 1) := by decide +kernel
theorem dX11_so_218 : decode cX11_so 218 = .ok (.if_icmp .ne 72, 3) := by decide +kernel
theorem dX11_so_221 : decode cX11_so 221 = .ok (.aload_n 0, 1) := by decide +kernel
theorem dX11_so_222 : decode cX11_so 222 = .ok (.getfield 28, 3) := by decide +kernel
theorem dX11_so_225 : decode cX11_so 225 = .ok (.bipush 8, 2) := by decide +kernel
theorem dX11_so_227 : decode cX11_so 227 = .ok (.aload_n 0, 1) := by decide +kernel
theorem dX11_so_228 : decode cX11_so 228 = .ok (.getfield 107, 3) := by decide +kernel
theorem dX11_so_231 : decode cX11_so 231 = .ok (.iconst 1, 1) := by decide +kernel
theorem dX11_so_232 : decode cX11_so 232 = .ok (.isub, 1) := by decide +kernel
theorem dX11_so_233 : decode cX11_so 233 = .ok (.imul, 1) := by decide +kernel
theorem dX11_so_234 : decode cX11_so 234 = .ok (.iload 4, 2) := by decide +kernel
theorem dX11_so_236 : decode cX11_so 236 = .ok (.iadd, 1) := by decide +kernel
theorem dX11_so_237 : decode cX11_so 237 = .ok (.aload_n 0, 1) := by decide +kernel
theorem dX11_so_238 : decode cX11_so 238 = .ok (.getfield 94, 3) := by decide +kernel
theorem dX11_so_241 : decode cX11_so 241 = .ok (.iload 4, 2) := by decide +kernel
theorem dX11_so_243 : decode cX11_so 243 = .ok (.iaload, 1) := by decide +kernel
theorem dX11_so_244 : decode cX11_so 244 = .ok (.iastore, 1) := by decide +kernel
theorem dX11_so_245 : decode cX11_so 245 = .ok (.aload_n 0, 1) := by decide +kernel
theorem dX11_so_246 : decode cX11_so 246 = .ok (.getfield 31, 3) := by decide +kernel
theorem dX11_so_249 : decode cX11_so 249 = .ok (.bipush 8, 2) := by decide +kernel
theorem dX11_so_251 : decode cX11_so 251 = .ok (.aload_n 0, 1) := by decide +kernel
theorem dX11_so_252 : decode cX11_so 252 = .ok (.getfield 107, 3) := by decide +kernel
theorem dX11_so_255 : decode cX11_so 255 = .ok (.iconst 1, 1) := by decide +kernel
theorem dX11_so_256 : decode cX11_so 256 = .ok (.isub, 1) := by decide +kernel
theorem dX11_so_257 : decode cX11_so 257 = .ok (.imul, 1) := by decide +kernel
theorem dX11_so_258 : decode cX11_so 258 = .ok (.iload 4, 2) := by decide +kernel
theorem dX11_so_260 : decode cX11_so 260 = .ok (.iadd, 1) := by decide +kernel
theorem dX11_so_261 : decode cX11_so 261 = .ok (.aload_n 0, 1) := by decide +kernel
theorem dX11_so_262 : decode cX11_so 262 = .ok (.getfield 97, 3) := by decide +kernel
theorem dX11_so_265 : decode cX11_so 265 = .ok (.iload 4, 2) := by decide +kernel
theorem dX11_so_267 : decode cX11_so 267 = .ok (.iaload, 1) := by decide +kernel
theorem dX11_so_268 : decode cX11_so 268 = .ok (.iastore, 1) := by decide +kernel
theorem dX11_so_269 : decode cX11_so 269 = .ok (.aload_n 0, 1) := by decide +kernel
theorem dX11_so_270 : decode cX11_so 270 = .ok (.getfield 25, 3) := by decide +kernel
theorem dX11_so_273 : decode cX11_so 273 = .ok (.aload_n 0, 1) := by decide +kernel
theorem dX11_so_274 : decode cX11_so 274 = .ok (.getfield 107, 3) := by decide +kernel
theorem dX11_so_277 : decode cX11_so 277 = .ok (.iconst 1, 1) := by decide +kernel
theorem dX11_so_278 : decode cX11_so 278 = .ok (.isub, 1) := by decide +kernel
theorem dX11_so_279 : decode cX11_so 279 = .ok (.dup2, 1) := by decide +kernel
theorem dX11_so_280 : decode cX11_so 280 = .ok (.iaload, 1) := by decide +kernel
theorem dX11_so_281 : decode cX11_so 281 = .ok (.iconst 1, 1) := by decide +kernel
theorem dX11_so_282 : decode cX11_so 282 = .ok (.iadd, 1) := by decide +kernel
theorem dX11_so_283 : decode cX11_so 283 = .ok (.iastore, 1) := by decide +kernel
theorem dX11_so_284 : decode cX11_so 284 = .ok (.iinc 4 1, 3) := by decide +kernel
theorem dX11_so_287 : decode cX11_so 287 = .ok (.goto (-85), 3) := by decide +kernel
theorem dX11_so_290 : decode cX11_so 290 = .ok (.aload_n 0, 1) := by decide +kernel
theorem dX11_so_291 : decode cX11_so 291 = .ok (.getfield 107, 3) := by decide +kernel
theorem dX11_so_294 : decode cX11_so 294 = .ok (.iconst 1, 1) := by decide +kernel
theorem dX11_so_295 : decode cX11_so 295 = .ok (.isub, 1) := by decide +kernel
theorem dX11_so_296 : decode cX11_so 296 = .ok (.ireturn, 1) := by decide +kernel
theorem dX11_newOther_0 : decode cX11_newOther 0 = .ok (.aload_n 0, 1) := by decide +kernel
theorem dX11_newOther_1 : decode cX11_newOther 1 = .ok (.getfield 16, 3) := by decide +kernel
theorem dX11_newOther_4 : decode cX11_newOther 4 = .ok (.iload_n 1, 1) := by decide +kernel
theorem dX11_newOther_5 : decode cX11_newOther 5 = .ok (.iaload, 1) := by decide +kernel
theorem dX11_newOther_6 : decode cX11_newOther 6 = .ok (.istore_n 2, 1) := by decide +kernel
theorem dX11_newOther_7 : decode cX11_newOther 7 = .ok (.iload_n 2, 1) := by decide +kernel
theorem dX11_newOther_8 : decode cX11_newOther 8 = .ok (.iconst 2, 1) := by decide +kernel
theorem dX11_newOther_9 : decode cX11_newOther 9 = .ok (.if_icmp .lt 9, 3) := by decide +kernel
theorem dX11_newOther_12 : decode cX11_newOther 12 = .ok (.iload_n 2, 1) := by decide +kernel
theorem dX11_newOther_13 : decode cX11_newOther 13 = .ok (.bipush 7, 2) := by decide +kernel
theorem dX11_newOther_15 : decode cX11_newOther 15 = .ok (.if_icmp .ne 50, 3) := by decide +kernel
theorem dX11_newOther_18 : decode cX11_newOther 18 = .ok (.iload_n 2, 1) := by decide +kernel
theorem dX11_newOther_19 : decode cX11_newOther 19 = .ok (.ifCond .ne 28, 3) := by decide +kernel
theorem dX11_newOther_22 : decode cX11_newOther 22 = .ok (.aload_n 0, 1) := by decide +kernel
theorem dX11_newOther_23 : decode cX11_newOther 23 = .ok (.getfield 13, 3) := by decide +kernel
theorem dX11_newOther_26 : decode cX11_newOther 26 = .ok (.aload_n 0, 1) := by decide +kernel
theorem dX11_newOther_27 : decode cX11_newOther 27 = .ok (.getfield 19, 3) := by decide +kernel
theorem dX11_newOther_30 : decode cX11_newOther 30 = .ok (.iload_n 1, 1) := by decide +kernel
theorem dX11_newOther_31 : decode cX11_newOther 31 = .ok (.iaload, 1) := by decide +kernel
theorem dX11_newOther_32 : decode cX11_newOther 32 = .ok (.iaload, 1) := by decide +kernel
theorem dX11_newOther_33 : decode cX11_newOther 33 = .ok (.ifCond .ne 14, 3) := by decide +kernel
theorem dX11_newOther_36 : decode cX11_newOther 36 = .ok (.aload_n 0, 1) := by decide +kernel
theorem dX11_newOther_37 : decode cX11_newOther 37 = .ok (.bipush 7, 2) := by decide +kernel
theorem dX11_newOther_39 : decode cX11_newOther 39 = .ok (.iconst 0, 1) := by decide +kernel
theorem dX11_newOther_40 : decode cX11_newOther 40 = .ok (.iconst 0, 1) := by decide +kernel
theorem dX11_newOther_41 : decode cX11_newOther 41 = .ok (.invokevirtual 202, 3) := by decide +kernel
theorem dX11_newOther_44 : decode cX11_newOther 44 = .ok (.goto 20, 3) := by decide +kernel
theorem dX11_newOther_47 : decode cX11_newOther 47 = .ok (.aload_n 0, 1) := by decide +kernel
theorem dX11_newOther_48 : decode cX11_newOther 48 = .ok (.iload_n 2, 1) := by decide +kernel
theorem dX11_newOther_49 : decode cX11_newOther 49 = .ok (.aload_n 0, 1) := by decide +kernel
theorem dX11_newOther_50 : decode cX11_newOther 50 = .ok (.getfield 19, 3) := by decide +kernel
theorem dX11_newOther_53 : decode cX11_newOther 53 = .ok (.iload_n 1, 1) := by decide +kernel
theorem dX11_newOther_54 : decode cX11_newOther 54 = .ok (.iaload, 1) := by decide +kernel
theorem dX11_newOther_55 : decode cX11_newOther 55 = .ok (.aload_n 0, 1) := by decide +kernel
theorem dX11_newOther_56 : decode cX11_newOther 56 = .ok (.getfield 22, 3) := by decide +kernel
theorem dX11_newOther_59 : decode cX11_newOther 59 = .ok (.iload_n 1, 1) := by decide +kernel
theorem dX11_newOther_60 : decode cX11_newOther 60 = .ok (.iaload, 1) := by decide +kernel
theorem dX11_newOther_61 : decode cX11_newOther 61 = .ok (.invokevirtual 202, 3) := by decide +kernel
theorem dX11_newOther_64 : decode cX11_newOther 64 = .ok (.ireturn, 1) := by decide +kernel
theorem dX11_newOther_65 : decode cX11_newOther 65 = .ok (.aload_n 0, 1) := by decide +kernel
theorem dX11_newOther_66 : decode cX11_newOther 66 = .ok (.getfield 91, 3) := by decide +kernel
theorem dX11_newOther_69 : decode cX11_newOther 69 = .ok (.aload_n 0, 1) := by decide +kernel
theorem dX11_newOther_70 : decode cX11_newOther 70 = .ok (.getfield 19, 3) := by decide +kernel
theorem dX11_newOther_73 : decode cX11_newOther 73 = .ok (.iload_n 1, 1) := by decide +kernel
theorem dX11_newOther_74 : decode cX11_newOther 74 = .ok (.iaload, 1) := by decide +kernel
theorem dX11_newOther_75 : decode cX11_newOther 75 = .ok (.iaload, 1) := by decide +kernel
theorem dX11_newOther_76 : decode cX11_newOther 76 = .ok (.istore_n 3, 1) := by decide +kernel
theorem dX11_newOther_77 : decode cX11_newOther 77 = .ok (.aload_n 0, 1) := by decide +kernel
theorem dX11_newOther_78 : decode cX11_newOther 78 = .ok (.getfield 16, 3) := by decide +kernel
theorem dX11_newOther_81 : decode cX11_newOther 81 = .ok (.iload_n 3, 1) := by decide +kernel
theorem dX11_newOther_82 : decode cX11_newOther 82 = .ok (.iaload, 1) := by decide +kernel
theorem dX11_newOther_83 : decode cX11_newOther 83 = .ok (.bipush 7, 2) := by decide +kernel
theorem dX11_newOther_85 : decode cX11_newOther 85 = .ok (.if_icmp .eq 20, 3) := by decide +kernel
theorem dX11_newOther_88 : decode cX11_newOther 88 = .ok (.iload_n 2, 1) := by decide +kernel
theorem dX11_newOther_89 : decode cX11_newOther 89 = .ok (.bipush 6, 2) := by decide +kernel
theorem dX11_newOther_91 : decode cX11_newOther 91 = .ok (.if_icmp .ne 16, 3) := by decide +kernel
theorem dX11_newOther_94 : decode cX11_newOther 94 = .ok (.aload_n 0, 1) := by decide +kernel
theorem dX11_newOther_95 : decode cX11_newOther 95 = .ok (.getfield 16, 3) := by decide +kernel
theorem dX11_newOther_98 : decode cX11_newOther 98 = .ok (.iload_n 3, 1) := by decide +kernel
theorem dX11_newOther_99 : decode cX11_newOther 99 = .ok (.iaload, 1) := by decide +kernel
theorem dX11_newOther_100 : decode cX11_newOther 100 = .ok (.bipush 6, 2) := by decide +kernel
theorem dX11_newOther_102 : decode cX11_newOther 102 = .ok (.if_icmp .ne 5, 3) := by decide +kernel
theorem dX11_newOther_105 : decode cX11_newOther 105 = .ok (.iload_n 3, 1) := by decide +kernel
theorem dX11_newOther_106 : decode cX11_newOther 106 = .ok (.ireturn, 1) := by decide +kernel
theorem dX11_newOther_107 : decode cX11_newOther 107 = .ok (.aload_n 0, 1) := by decide +kernel
theorem dX11_newOther_108 : decode cX11_newOther 108 = .ok (.getfield 16, 3) := by decide +kernel
theorem dX11_newOther_111 : decode cX11_newOther 111 = .ok (.iload_n 3, 1) := by decide +kernel
theorem dX11_newOther_112 : decode cX11_newOther 112 = .ok (.iaload, 1) := by decide +kernel
theorem dX11_newOther_113 : decode cX11_newOther 113 = .ok (.iconst 4, 1) := by decide +kernel
theorem dX11_newOther_114 : decode cX11_newOther 114 = .ok (.if_icmp .ne 12, 3) := by decide +kernel
theorem dX11_newOther_117 : decode cX11_newOther 117 = .ok (.iload_n 2, 1) := by decide +kernel
theorem dX11_newOther_118 : decode cX11_newOther 118 = .ok (.iconst 5, 1) := by decide +kernel
theorem dX11_newOther_119 : decode cX11_newOther 119 = .ok (.if_icmp .eq 7, 3) := by decide +kernel
theorem dX11_newOther_122 : decode cX11_newOther 122 = .ok (.iconst 1, 1) := by decide +kernel
theorem dX11_newOther_123 : decode cX11_newOther 123 = .ok (.goto 4, 3) := by decide +kernel
theorem dX11_newOther_126 : decode cX11_newOther 126 = .ok (.iconst 0, 1) := by decide +kernel
theorem dX11_newOther_127 : decode cX11_newOther 127 = .ok (.istore 4, 2) := by decide +kernel
theorem dX11_newOther_129 : decode cX11_newOther 129 = .ok (.aload_n 0, 1) := by decide +kernel
theorem dX11_newOther_130 : decode cX11_newOther 130 = .ok (.iload_n 2, 1) := by decide +kernel
theorem dX11_newOther_131 : decode cX11_newOther 131 = .ok (.iload 4, 2) := by decide +kernel
theorem dX11_newOther_133 : decode cX11_newOther 133 = .ok (.ifCond .eq 12, 3) := by decide +kernel
theorem dX11_newOther_136 : decode cX11_newOther 136 = .ok (.aload_n 0, 1) := by decide +kernel
theorem dX11_newOther_137 : decode cX11_newOther 137 = .ok (.getfield 19, 3) := by decide +kernel
theorem dX11_newOther_140 : decode cX11_newOther 140 = .ok (.iload_n 3, 1) := by decide +kernel
theorem dX11_newOther_141 : decode cX11_newOther 141 = .ok (.iaload, 1) := by decide +kernel
theorem dX11_newOther_142 : decode cX11_newOther 142 = .ok (.goto 4, 3) := by decide +kernel
theorem dX11_newOther_145 : decode cX11_newOther 145 = .ok (.iload_n 3, 1) := by decide +kernel
theorem dX11_newOther_146 : decode cX11_newOther 146 = .ok (.aload_n 0, 1) := by decide +kernel
theorem dX11_newOther_147 : decode cX11_newOther 147 = .ok (.getfield 22, 3) := by decide +kernel
theorem dX11_newOther_150 : decode cX11_newOther 150 = .ok (.iload_n 1, 1) := by decide +kernel
theorem dX11_newOther_151 : decode cX11_newOther 151 = .ok (.iaload, 1) := by decide +kernel
theorem dX11_newOther_152 : decode cX11_newOther 152 = .ok (.invokevirtual 202, 3) := by decide +kernel
theorem dX11_newOther_155 : decode cX11_newOther 155 = .ok (.ireturn, 1) := by decide +kernel
theorem dX11_lay_0 : decode cX11_lay 0 = .ok (.aload_n 0, 1) := by decide +kernel
theorem dX11_lay_1 : decode cX11_lay 1 = .ok (.getfield 94, 3) := by decide +kernel
theorem dX11_lay_4 : decode cX11_lay 4 = .ok (.aload_n 0, 1) := by decide +kernel
theorem dX11_lay_5 : decode cX11_lay 5 = .ok (.getfield 199, 3) := by decide +kernel
theorem dX11_lay_8 : decode cX11_lay 8 = .ok (.iload_n 1, 1) := by decide +kernel
theorem dX11_lay_9 : decode cX11_lay 9 = .ok (.iastore, 1) := by decide +kernel
theorem dX11_lay_10 : decode cX11_lay 10 = .ok (.aload_n 0, 1) := by decide +kernel
theorem dX11_lay_11 : decode cX11_lay 11 = .ok (.getfield 97, 3) := by decide +kernel
theorem dX11_lay_14 : decode cX11_lay 14 = .ok (.aload_n 0, 1) := by decide +kernel
theorem dX11_lay_15 : decode cX11_lay 15 = .ok (.getfield 199, 3) := by decide +kernel
theorem dX11_lay_18 : decode cX11_lay 18 = .ok (.iload_n 2, 1) := by decide +kernel
theorem dX11_lay_19 : decode cX11_lay 19 = .ok (.iastore, 1) := by decide +kernel
theorem dX11_lay_20 : decode cX11_lay 20 = .ok (.aload_n 0, 1) := by decide +kernel
theorem dX11_lay_21 : decode cX11_lay 21 = .ok (.dup, 1) := by decide +kernel
theorem dX11_lay_22 : decode cX11_lay 22 = .ok (.getfield 199, 3) := by decide +kernel
theorem dX11_lay_25 : decode cX11_lay 25 = .ok (.iconst 1, 1) := by decide +kernel
theorem dX11_lay_26 : decode cX11_lay 26 = .ok (.iadd, 1) := by decide +kernel
theorem dX11_lay_27 : decode cX11_lay 27 = .ok (.putfield 199, 3) := by decide +kernel
theorem dX11_lay_30 : decode cX11_lay 30 = .ok (.return_, 1) := by decide +kernel
theorem dX11_newBest_0 : decode cX11_newBest 0 = .ok (.aload_n 0, 1) := by decide +kernel
theorem dX11_newBest_1 : decode cX11_newBest 1 = .ok (.iconst 0, 1) := by decide +kernel
theorem dX11_newBest_2 : decode cX11_newBest 2 = .ok (.putfield 199, 3) := by decide +kernel
theorem dX11_newBest_5 : decode cX11_newBest 5 = .ok (.iconst 0, 1) := by decide +kernel
theorem dX11_newBest_6 : decode cX11_newBest 6 = .ok (.istore_n 2, 1) := by decide +kernel
theorem dX11_newBest_7 : decode cX11_newBest 7 = .ok (.iload_n 2, 1) := by decide +kernel
theorem dX11_newBest_8 : decode cX11_newBest 8 = .ok (.aload_n 0, 1) := by decide +kernel
theorem dX11_newBest_9 : decode cX11_newBest 9 = .ok (.getfield 25, 3) := by decide +kernel
theorem dX11_newBest_12 : decode cX11_newBest 12 = .ok (.iload_n 1, 1) := by decide +kernel
theorem dX11_newBest_13 : decode cX11_newBest 13 = .ok (.iaload, 1) := by decide +kernel
theorem dX11_newBest_14 : decode cX11_newBest 14 = .ok (.if_icmp .ge 43, 3) := by decide +kernel
theorem dX11_newBest_17 : decode cX11_newBest 17 = .ok (.aload_n 0, 1) := by decide +kernel
theorem dX11_newBest_18 : decode cX11_newBest 18 = .ok (.getfield 91, 3) := by decide +kernel
theorem dX11_newBest_21 : decode cX11_newBest 21 = .ok (.aload_n 0, 1) := by decide +kernel
end
section
theorem dX11_newBest_22 : decode cX11_newBest 22 = .ok (.getfield 31, 3) := by decide +kernel
theorem dX11_newBest_25 : decode cX11_newBest 25 = .ok (.bipush 8, 2) := by decide +kernel
theorem dX11_newBest_27 : decode cX11_newBest 27 = .ok (.iload_n 1, 1) := by decide +kernel
theorem dX11_newBest_28 : decode cX11_newBest 28 = .ok (.imul, 1) := by decide +kernel
theorem dX11_newBest_29 : decode cX11_newBest 29 = .ok (.iload_n 2, 1) := by decide +kernel
theorem dX11_newBest_30 : decode cX11_newBest 30 = .ok (.iadd, 1) := by decide +kernel
theorem dX11_newBest_31 : decode cX11_newBest 31 = .ok (.iaload, 1) := by decide +kernel
theorem dX11_newBest_32 : decode cX11_newBest 32 = .ok (.iaload, 1) := by decide +kernel
theorem dX11_newBest_33 : decode cX11_newBest 33 = .ok (.istore_n 3, 1) := by decide +kernel
theorem dX11_newBest_34 : decode cX11_newBest 34 = .ok (.aload_n 0, 1) := by decide +kernel
theorem dX11_newBest_35 : decode cX11_newBest 35 = .ok (.getfield 16, 3) := by decide +kernel
theorem dX11_newBest_38 : decode cX11_newBest 38 = .ok (.iload_n 3, 1) := by decide +kernel
theorem dX11_newBest_39 : decode cX11_newBest 39 = .ok (.iaload, 1) := by decide +kernel
theorem dX11_newBest_40 : decode cX11_newBest 40 = .ok (.bipush 7, 2) := by decide +kernel
theorem dX11_newBest_42 : decode cX11_newBest 42 = .ok (.if_icmp .eq 9, 3) := by decide +kernel
theorem dX11_newBest_45 : decode cX11_newBest 45 = .ok (.aload_n 0, 1) := by decide +kernel
theorem dX11_newBest_46 : decode cX11_newBest 46 = .ok (.iconst 3, 1) := by decide +kernel
theorem dX11_newBest_47 : decode cX11_newBest 47 = .ok (.iload_n 3, 1) := by decide +kernel
theorem dX11_newBest_48 : decode cX11_newBest 48 = .ok (.invokevirtual 206, 3) := by decide +kernel
theorem dX11_newBest_51 : decode cX11_newBest 51 = .ok (.iinc 2 1, 3) := by decide +kernel
theorem dX11_newBest_54 : decode cX11_newBest 54 = .ok (.goto (-47), 3) := by decide +kernel
theorem dX11_newBest_57 : decode cX11_newBest 57 = .ok (.aload_n 0, 1) := by decide +kernel
theorem dX11_newBest_58 : decode cX11_newBest 58 = .ok (.getfield 199, 3) := by decide +kernel
theorem dX11_newBest_61 : decode cX11_newBest 61 = .ok (.ifCond .ne 14, 3) := by decide +kernel
theorem dX11_newBest_64 : decode cX11_newBest 64 = .ok (.aload_n 0, 1) := by decide +kernel
theorem dX11_newBest_65 : decode cX11_newBest 65 = .ok (.bipush 7, 2) := by decide +kernel
theorem dX11_newBest_67 : decode cX11_newBest 67 = .ok (.iconst 0, 1) := by decide +kernel
theorem dX11_newBest_68 : decode cX11_newBest 68 = .ok (.iconst 0, 1) := by decide +kernel
theorem dX11_newBest_69 : decode cX11_newBest 69 = .ok (.invokevirtual 202, 3) := by decide +kernel
theorem dX11_newBest_72 : decode cX11_newBest 72 = .ok (.goto 32, 3) := by decide +kernel
theorem dX11_newBest_75 : decode cX11_newBest 75 = .ok (.aload_n 0, 1) := by decide +kernel
theorem dX11_newBest_76 : decode cX11_newBest 76 = .ok (.getfield 199, 3) := by decide +kernel
theorem dX11_newBest_79 : decode cX11_newBest 79 = .ok (.iconst 1, 1) := by decide +kernel
theorem dX11_newBest_80 : decode cX11_newBest 80 = .ok (.if_icmp .ne 12, 3) := by decide +kernel
theorem dX11_newBest_83 : decode cX11_newBest 83 = .ok (.aload_n 0, 1) := by decide +kernel
theorem dX11_newBest_84 : decode cX11_newBest 84 = .ok (.getfield 97, 3) := by decide +kernel
theorem dX11_newBest_87 : decode cX11_newBest 87 = .ok (.iconst 0, 1) := by decide +kernel
theorem dX11_newBest_88 : decode cX11_newBest 88 = .ok (.iaload, 1) := by decide +kernel
theorem dX11_newBest_89 : decode cX11_newBest 89 = .ok (.goto 15, 3) := by decide +kernel
theorem dX11_newBest_92 : decode cX11_newBest 92 = .ok (.aload_n 0, 1) := by decide +kernel
theorem dX11_newBest_93 : decode cX11_newBest 93 = .ok (.iconst 3, 1) := by decide +kernel
theorem dX11_newBest_94 : decode cX11_newBest 94 = .ok (.aload_n 0, 1) := by decide +kernel
theorem dX11_newBest_95 : decode cX11_newBest 95 = .ok (.getfield 19, 3) := by decide +kernel
theorem dX11_newBest_98 : decode cX11_newBest 98 = .ok (.iload_n 1, 1) := by decide +kernel
theorem dX11_newBest_99 : decode cX11_newBest 99 = .ok (.iaload, 1) := by decide +kernel
theorem dX11_newBest_100 : decode cX11_newBest 100 = .ok (.iconst 0, 1) := by decide +kernel
theorem dX11_newBest_101 : decode cX11_newBest 101 = .ok (.invokevirtual 202, 3) := by decide +kernel
theorem dX11_newBest_104 : decode cX11_newBest 104 = .ok (.ireturn, 1) := by decide +kernel
theorem dX11_count_0 : decode cX11_count 0 = .ok (.iconst 0, 1) := by decide +kernel
theorem dX11_count_1 : decode cX11_count 1 = .ok (.istore_n 2, 1) := by decide +kernel
theorem dX11_count_2 : decode cX11_count 2 = .ok (.iconst 0, 1) := by decide +kernel
theorem dX11_count_3 : decode cX11_count 3 = .ok (.istore_n 3, 1) := by decide +kernel
theorem dX11_count_4 : decode cX11_count 4 = .ok (.iload_n 3, 1) := by decide +kernel
theorem dX11_count_5 : decode cX11_count 5 = .ok (.aload_n 0, 1) := by decide +kernel
theorem dX11_count_6 : decode cX11_count 6 = .ok (.getfield 199, 3) := by decide +kernel
theorem dX11_count_9 : decode cX11_count 9 = .ok (.if_icmp .ge 27, 3) := by decide +kernel
theorem dX11_count_12 : decode cX11_count 12 = .ok (.iload_n 2, 1) := by decide +kernel
theorem dX11_count_13 : decode cX11_count 13 = .ok (.aload_n 0, 1) := by decide +kernel
theorem dX11_count_14 : decode cX11_count 14 = .ok (.getfield 94, 3) := by decide +kernel
theorem dX11_count_17 : decode cX11_count 17 = .ok (.iload_n 3, 1) := by decide +kernel
theorem dX11_count_18 : decode cX11_count 18 = .ok (.iaload, 1) := by decide +kernel
theorem dX11_count_19 : decode cX11_count 19 = .ok (.iload_n 1, 1) := by decide +kernel
theorem dX11_count_20 : decode cX11_count 20 = .ok (.if_icmp .ne 7, 3) := by decide +kernel
theorem dX11_count_23 : decode cX11_count 23 = .ok (.iconst 1, 1) := by decide +kernel
theorem dX11_count_24 : decode cX11_count 24 = .ok (.goto 4, 3) := by decide +kernel
theorem dX11_count_27 : decode cX11_count 27 = .ok (.iconst 0, 1) := by decide +kernel
theorem dX11_count_28 : decode cX11_count 28 = .ok (.iadd, 1) := by decide +kernel
theorem dX11_count_29 : decode cX11_count 29 = .ok (.istore_n 2, 1) := by decide +kernel
theorem dX11_count_30 : decode cX11_count 30 = .ok (.iinc 3 1, 3) := by decide +kernel
theorem dX11_count_33 : decode cX11_count 33 = .ok (.goto (-29), 3) := by decide +kernel
theorem dX11_count_36 : decode cX11_count 36 = .ok (.iload_n 2, 1) := by decide +kernel
theorem dX11_count_37 : decode cX11_count 37 = .ok (.ireturn, 1) := by decide +kernel
theorem dX11_opens_0 : decode cX11_opens 0 = .ok (.aload_n 0, 1) := by decide +kernel
theorem dX11_opens_1 : decode cX11_opens 1 = .ok (.getfield 16, 3) := by decide +kernel
theorem dX11_opens_4 : decode cX11_opens 4 = .ok (.iload_n 3, 1) := by decide +kernel
theorem dX11_opens_5 : decode cX11_opens 5 = .ok (.iaload, 1) := by decide +kernel
theorem dX11_opens_6 : decode cX11_opens 6 = .ok (.iconst 2, 1) := by decide +kernel
theorem dX11_opens_7 : decode cX11_opens 7 = .ok (.if_icmp .ne 27, 3) := by decide +kernel
theorem dX11_opens_10 : decode cX11_opens 10 = .ok (.iload_n 2, 1) := by decide +kernel
theorem dX11_opens_11 : decode cX11_opens 11 = .ok (.iconst 2, 1) := by decide +kernel
theorem dX11_opens_12 : decode cX11_opens 12 = .ok (.if_icmp .eq 22, 3) := by decide +kernel
theorem dX11_opens_15 : decode cX11_opens 15 = .ok (.aload_n 0, 1) := by decide +kernel
theorem dX11_opens_16 : decode cX11_opens 16 = .ok (.getfield 199, 3) := by decide +kernel
theorem dX11_opens_19 : decode cX11_opens 19 = .ok (.aload_n 0, 1) := by decide +kernel
theorem dX11_opens_20 : decode cX11_opens 20 = .ok (.getfield 25, 3) := by decide +kernel
theorem dX11_opens_23 : decode cX11_opens 23 = .ok (.iload_n 3, 1) := by decide +kernel
theorem dX11_opens_24 : decode cX11_opens 24 = .ok (.iaload, 1) := by decide +kernel
theorem dX11_opens_25 : decode cX11_opens 25 = .ok (.iadd, 1) := by decide +kernel
theorem dX11_opens_26 : decode cX11_opens 26 = .ok (.iload 4, 2) := by decide +kernel
theorem dX11_opens_28 : decode cX11_opens 28 = .ok (.iadd, 1) := by decide +kernel
theorem dX11_opens_29 : decode cX11_opens 29 = .ok (.bipush 8, 2) := by decide +kernel
theorem dX11_opens_31 : decode cX11_opens 31 = .ok (.if_icmp .le 5, 3) := by decide +kernel
theorem dX11_opens_34 : decode cX11_opens 34 = .ok (.iconst 0, 1) := by decide +kernel
theorem dX11_opens_35 : decode cX11_opens 35 = .ok (.ireturn, 1) := by decide +kernel
theorem dX11_opens_36 : decode cX11_opens 36 = .ok (.iconst 0, 1) := by decide +kernel
theorem dX11_opens_37 : decode cX11_opens 37 = .ok (.istore 5, 2) := by decide +kernel
theorem dX11_opens_39 : decode cX11_opens 39 = .ok (.iconst 0, 1) := by decide +kernel
theorem dX11_opens_40 : decode cX11_opens 40 = .ok (.istore 6, 2) := by decide +kernel
theorem dX11_opens_42 : decode cX11_opens 42 = .ok (.iload 6, 2) := by decide +kernel
theorem dX11_opens_44 : decode cX11_opens 44 = .ok (.aload_n 0, 1) := by decide +kernel
theorem dX11_opens_45 : decode cX11_opens 45 = .ok (.getfield 25, 3) := by decide +kernel
theorem dX11_opens_48 : decode cX11_opens 48 = .ok (.iload_n 3, 1) := by decide +kernel
theorem dX11_opens_49 : decode cX11_opens 49 = .ok (.iaload, 1) := by decide +kernel
theorem dX11_opens_50 : decode cX11_opens 50 = .ok (.if_icmp .ge 35, 3) := by decide +kernel
theorem dX11_opens_53 : decode cX11_opens 53 = .ok (.iload 5, 2) := by decide +kernel
theorem dX11_opens_55 : decode cX11_opens 55 = .ok (.aload_n 0, 1) := by decide +kernel
theorem dX11_opens_56 : decode cX11_opens 56 = .ok (.getfield 28, 3) := by decide +kernel
theorem dX11_opens_59 : decode cX11_opens 59 = .ok (.bipush 8, 2) := by decide +kernel
theorem dX11_opens_61 : decode cX11_opens 61 = .ok (.iload_n 3, 1) := by decide +kernel
theorem dX11_opens_62 : decode cX11_opens 62 = .ok (.imul, 1) := by decide +kernel
theorem dX11_opens_63 : decode cX11_opens 63 = .ok (.iload 6, 2) := by decide +kernel
theorem dX11_opens_65 : decode cX11_opens 65 = .ok (.iadd, 1) := by decide +kernel
theorem dX11_opens_66 : decode cX11_opens 66 = .ok (.iaload, 1) := by decide +kernel
theorem dX11_opens_67 : decode cX11_opens 67 = .ok (.iconst 3, 1) := by decide +kernel
theorem dX11_opens_68 : decode cX11_opens 68 = .ok (.if_icmp .ne 7, 3) := by decide +kernel
theorem dX11_opens_71 : decode cX11_opens 71 = .ok (.iconst 1, 1) := by decide +kernel
theorem dX11_opens_72 : decode cX11_opens 72 = .ok (.goto 4, 3) := by decide +kernel
theorem dX11_opens_75 : decode cX11_opens 75 = .ok (.iconst 0, 1) := by decide +kernel
theorem dX11_opens_76 : decode cX11_opens 76 = .ok (.iadd, 1) := by decide +kernel
theorem dX11_opens_77 : decode cX11_opens 77 = .ok (.istore 5, 2) := by decide +kernel
theorem dX11_opens_79 : decode cX11_opens 79 = .ok (.iinc 6 1, 3) := by decide +kernel
theorem dX11_opens_82 : decode cX11_opens 82 = .ok (.goto (-40), 3) := by decide +kernel
theorem dX11_opens_85 : decode cX11_opens 85 = .ok (.iload_n 2, 1) := by decide +kernel
theorem dX11_opens_86 : decode cX11_opens 86 = .ok (.iconst 3, 1) := by decide +kernel
theorem dX11_opens_87 : decode cX11_opens 87 = .ok (.if_icmp .ne 37, 3) := by decide +kernel
theorem dX11_opens_90 : decode cX11_opens 90 = .ok (.iload_n 1, 1) := by decide +kernel
theorem dX11_opens_91 : decode cX11_opens 91 = .ok (.iconst 2, 1) := by decide +kernel
theorem dX11_opens_92 : decode cX11_opens 92 = .ok (.if_icmp .ge 28, 3) := by decide +kernel
theorem dX11_opens_95 : decode cX11_opens 95 = .ok (.aload_n 0, 1) := by decide +kernel
theorem dX11_opens_96 : decode cX11_opens 96 = .ok (.getfield 19, 3) := by decide +kernel
theorem dX11_opens_99 : decode cX11_opens 99 = .ok (.iload_n 3, 1) := by decide +kernel
theorem dX11_opens_100 : decode cX11_opens 100 = .ok (.iaload, 1) := by decide +kernel
theorem dX11_opens_101 : decode cX11_opens 101 = .ok (.iconst 2, 1) := by decide +kernel
theorem dX11_opens_102 : decode cX11_opens 102 = .ok (.if_icmp .ge 18, 3) := by decide +kernel
theorem dX11_opens_105 : decode cX11_opens 105 = .ok (.iload 5, 2) := by decide +kernel
theorem dX11_opens_107 : decode cX11_opens 107 = .ok (.aload_n 0, 1) := by decide +kernel
theorem dX11_opens_108 : decode cX11_opens 108 = .ok (.getfield 25, 3) := by decide +kernel
theorem dX11_opens_111 : decode cX11_opens 111 = .ok (.iload_n 3, 1) := by decide +kernel
theorem dX11_opens_112 : decode cX11_opens 112 = .ok (.iaload, 1) := by decide +kernel
theorem dX11_opens_113 : decode cX11_opens 113 = .ok (.if_icmp .ne 7, 3) := by decide +kernel
theorem dX11_opens_116 : decode cX11_opens 116 = .ok (.iconst 1, 1) := by decide +kernel
theorem dX11_opens_117 : decode cX11_opens 117 = .ok (.goto 26, 3) := by decide +kernel
theorem dX11_opens_120 : decode cX11_opens 120 = .ok (.iconst 0, 1) := by decide +kernel
theorem dX11_opens_121 : decode cX11_opens 121 = .ok (.goto 22, 3) := by decide +kernel
theorem dX11_opens_124 : decode cX11_opens 124 = .ok (.aload_n 0, 1) := by decide +kernel
theorem dX11_opens_125 : decode cX11_opens 125 = .ok (.getfield 19, 3) := by decide +kernel
theorem dX11_opens_128 : decode cX11_opens 128 = .ok (.iload_n 3, 1) := by decide +kernel
theorem dX11_opens_129 : decode cX11_opens 129 = .ok (.iaload, 1) := by decide +kernel
theorem dX11_opens_130 : decode cX11_opens 130 = .ok (.ifCond .ne 12, 3) := by decide +kernel
theorem dX11_opens_133 : decode cX11_opens 133 = .ok (.iload 5, 2) := by decide +kernel
theorem dX11_opens_135 : decode cX11_opens 135 = .ok (.ifCond .ne 7, 3) := by decide +kernel
theorem dX11_opens_138 : decode cX11_opens 138 = .ok (.iconst 1, 1) := by decide +kernel
theorem dX11_opens_139 : decode cX11_opens 139 = .ok (.goto 4, 3) := by decide +kernel
theorem dX11_opens_142 : decode cX11_opens 142 = .ok (.iconst 0, 1) := by decide +kernel
theorem dX11_opens_143 : decode cX11_opens 143 = .ok (.ireturn, 1) := by decide +kernel
theorem dX11_newBool_0 : decode cX11_newBool 0 = .ok (.aload_n 0, 1) := by decide +kernel
theorem dX11_newBool_1 : decode cX11_newBool 1 = .ok (.getfield 19, 3) := by decide +kernel
theorem dX11_newBool_4 : decode cX11_newBool 4 = .ok (.iload_n 1, 1) := by decide +kernel
theorem dX11_newBool_5 : decode cX11_newBool 5 = .ok (.iaload, 1) := by decide +kernel
theorem dX11_newBool_6 : decode cX11_newBool 6 = .ok (.istore_n 2, 1) := by decide +kernel
theorem dX11_newBool_7 : decode cX11_newBool 7 = .ok (.aload_n 0, 1) := by decide +kernel
theorem dX11_newBool_8 : decode cX11_newBool 8 = .ok (.iconst 0, 1) := by decide +kernel
theorem dX11_newBool_9 : decode cX11_newBool 9 = .ok (.putfield 199, 3) := by decide +kernel
theorem dX11_newBool_12 : decode cX11_newBool 12 = .ok (.iconst 0, 1) := by decide +kernel
theorem dX11_newBool_13 : decode cX11_newBool 13 = .ok (.istore_n 3, 1) := by decide +kernel
theorem dX11_newBool_14 : decode cX11_newBool 14 = .ok (.iload_n 3, 1) := by decide +kernel
theorem dX11_newBool_15 : decode cX11_newBool 15 = .ok (.aload_n 0, 1) := by decide +kernel
theorem dX11_newBool_16 : decode cX11_newBool 16 = .ok (.getfield 25, 3) := by decide +kernel
theorem dX11_newBool_19 : decode cX11_newBool 19 = .ok (.iload_n 1, 1) := by decide +kernel
theorem dX11_newBool_20 : decode cX11_newBool 20 = .ok (.iaload, 1) := by decide +kernel
theorem dX11_newBool_21 : decode cX11_newBool 21 = .ok (.if_icmp .ge 170, 3) := by decide +kernel
theorem dX11_newBool_24 : decode cX11_newBool 24 = .ok (.aload_n 0, 1) := by decide +kernel
theorem dX11_newBool_25 : decode cX11_newBool 25 = .ok (.getfield 28, 3) := by decide +kernel
theorem dX11_newBool_28 : decode cX11_newBool 28 = .ok (.bipush 8, 2) := by decide +kernel
theorem dX11_newBool_30 : decode cX11_newBool 30 = .ok (.iload_n 1, 1) := by decide +kernel
theorem dX11_newBool_31 : decode cX11_newBool 31 = .ok (.imul, 1) := by decide +kernel
theorem dX11_newBool_32 : decode cX11_newBool 32 = .ok (.iload_n 3, 1) := by decide +kernel
theorem dX11_newBool_33 : decode cX11_newBool 33 = .ok (.iadd, 1) := by decide +kernel
theorem dX11_newBool_34 : decode cX11_newBool 34 = .ok (.iaload, 1) := by decide +kernel
theorem dX11_newBool_35 : decode cX11_newBool 35 = .ok (.istore 4, 2) := by decide +kernel
theorem dX11_newBool_37 : decode cX11_newBool 37 = .ok (.aload_n 0, 1) := by decide +kernel
theorem dX11_newBool_38 : decode cX11_newBool 38 = .ok (.getfield 91, 3) := by decide +kernel
theorem dX11_newBool_41 : decode cX11_newBool 41 = .ok (.aload_n 0, 1) := by decide +kernel
theorem dX11_newBool_42 : decode cX11_newBool 42 = .ok (.getfield 31, 3) := by decide +kernel
theorem dX11_newBool_45 : decode cX11_newBool 45 = .ok (.bipush 8, 2) := by decide +kernel
theorem dX11_newBool_47 : decode cX11_newBool 47 = .ok (.iload_n 1, 1) := by decide +kernel
theorem dX11_newBool_48 : decode cX11_newBool 48 = .ok (.imul, 1) := by decide +kernel
theorem dX11_newBool_49 : decode cX11_newBool 49 = .ok (.iload_n 3, 1) := by decide +kernel
theorem dX11_newBool_50 : decode cX11_newBool 50 = .ok (.iadd, 1) := by decide +kernel
theorem dX11_newBool_51 : decode cX11_newBool 51 = .ok (.iaload, 1) := by decide +kernel
theorem dX11_newBool_52 : decode cX11_newBool 52 = .ok (.iaload, 1) := by decide +kernel
theorem dX11_newBool_53 : decode cX11_newBool 53 = .ok (.istore 5, 2) := by decide +kernel
theorem dX11_newBool_55 : decode cX11_newBool 55 = .ok (.aload_n 0, 1) := by decide +kernel
theorem dX11_newBool_56 : decode cX11_newBool 56 = .ok (.getfield 16, 3) := by decide +kernel
theorem dX11_newBool_59 : decode cX11_newBool 59 = .ok (.iload 5, 2) := by decide +kernel
theorem dX11_newBool_61 : decode cX11_newBool 61 = .ok (.iaload, 1) := by decide +kernel
theorem dX11_newBool_62 : decode cX11_newBool 62 = .ok (.bipush 7, 2) := by decide +kernel
theorem dX11_newBool_64 : decode cX11_newBool 64 = .ok (.if_icmp .ne 18, 3) := by decide +kernel
theorem dX11_newBool_67 : decode cX11_newBool 67 = .ok (.iload 4, 2) := by decide +kernel
theorem dX11_newBool_69 : decode cX11_newBool 69 = .ok (.iconst 2, 1) := by decide +kernel
theorem dX11_newBool_70 : decode cX11_newBool 70 = .ok (.if_icmp .ge 115, 3) := by decide +kernel
theorem dX11_newBool_73 : decode cX11_newBool 73 = .ok (.aload_n 0, 1) := by decide +kernel
theorem dX11_newBool_74 : decode cX11_newBool 74 = .ok (.bipush 7, 2) := by decide +kernel
theorem dX11_newBool_76 : decode cX11_newBool 76 = .ok (.iconst 0, 1) := by decide +kernel
theorem dX11_newBool_77 : decode cX11_newBool 77 = .ok (.iconst 0, 1) := by decide +kernel
theorem dX11_newBool_78 : decode cX11_newBool 78 = .ok (.invokevirtual 202, 3) := by decide +kernel
theorem dX11_newBool_81 : decode cX11_newBool 81 = .ok (.ireturn, 1) := by decide +kernel
theorem dX11_newBool_82 : decode cX11_newBool 82 = .ok (.aload_n 0, 1) := by decide +kernel
theorem dX11_newBool_83 : decode cX11_newBool 83 = .ok (.iload_n 2, 1) := by decide +kernel
theorem dX11_newBool_84 : decode cX11_newBool 84 = .ok (.iload 4, 2) := by decide +kernel
theorem dX11_newBool_86 : decode cX11_newBool 86 = .ok (.iload 5, 2) := by decide +kernel
theorem dX11_newBool_88 : decode cX11_newBool 88 = .ok (.aload_n 0, 1) := by decide +kernel
theorem dX11_newBool_89 : decode cX11_newBool 89 = .ok (.getfield 25, 3) := by decide +kernel
theorem dX11_newBool_92 : decode cX11_newBool 92 = .ok (.iload_n 1, 1) := by decide +kernel
theorem dX11_newBool_93 : decode cX11_newBool 93 = .ok (.iaload, 1) := by decide +kernel
theorem dX11_newBool_94 : decode cX11_newBool 94 = .ok (.iload_n 3, 1) := by decide +kernel
theorem dX11_newBool_95 : decode cX11_newBool 95 = .ok (.isub, 1) := by decide +kernel
theorem dX11_newBool_96 : decode cX11_newBool 96 = .ok (.iconst 1, 1) := by decide +kernel
theorem dX11_newBool_97 : decode cX11_newBool 97 = .ok (.isub, 1) := by decide +kernel
theorem dX11_newBool_98 : decode cX11_newBool 98 = .ok (.invokevirtual 209, 3) := by decide +kernel
theorem dX11_newBool_101 : decode cX11_newBool 101 = .ok (.ifCond .eq 76, 3) := by decide +kernel
theorem dX11_newBool_104 : decode cX11_newBool 104 = .ok (.iconst 0, 1) := by decide +kernel
theorem dX11_newBool_105 : decode cX11_newBool 105 = .ok (.istore 6, 2) := by decide +kernel
theorem dX11_newBool_107 : decode cX11_newBool 107 = .ok (.iload 6, 2) := by decide +kernel
theorem dX11_newBool_109 : decode cX11_newBool 109 = .ok (.aload_n 0, 1) := by decide +kernel
theorem dX11_newBool_110 : decode cX11_newBool 110 = .ok (.getfield 25, 3) := by decide +kernel
theorem dX11_newBool_113 : decode cX11_newBool 113 = .ok (.iload 5, 2) := by decide +kernel
theorem dX11_newBool_115 : decode cX11_newBool 115 = .ok (.iaload, 1) := by decide +kernel
theorem dX11_newBool_116 : decode cX11_newBool 116 = .ok (.if_icmp .ge 58, 3) := by decide +kernel
theorem dX11_newBool_119 : decode cX11_newBool 119 = .ok (.aload_n 0, 1) := by decide +kernel
theorem dX11_newBool_120 : decode cX11_newBool 120 = .ok (.getfield 28, 3) := by decide +kernel
theorem dX11_newBool_123 : decode cX11_newBool 123 = .ok (.bipush 8, 2) := by decide +kernel
theorem dX11_newBool_125 : decode cX11_newBool 125 = .ok (.iload 5, 2) := by decide +kernel
theorem dX11_newBool_127 : decode cX11_newBool 127 = .ok (.imul, 1) := by decide +kernel
theorem dX11_newBool_128 : decode cX11_newBool 128 = .ok (.iload 6, 2) := by decide +kernel
theorem dX11_newBool_130 : decode cX11_newBool 130 = .ok (.iadd, 1) := by decide +kernel
theorem dX11_newBool_131 : decode cX11_newBool 131 = .ok (.iaload, 1) := by decide +kernel
theorem dX11_newBool_132 : decode cX11_newBool 132 = .ok (.istore 7, 2) := by decide +kernel
theorem dX11_newBool_134 : decode cX11_newBool 134 = .ok (.aload_n 0, 1) := by decide +kernel
theorem dX11_newBool_135 : decode cX11_newBool 135 = .ok (.iload 4, 2) := by decide +kernel
theorem dX11_newBool_137 : decode cX11_newBool 137 = .ok (.iconst 1, 1) := by decide +kernel
theorem dX11_newBool_138 : decode cX11_newBool 138 = .ok (.if_icmp .ne 12, 3) := by decide +kernel
theorem dX11_newBool_141 : decode cX11_newBool 141 = .ok (.iload 7, 2) := by decide +kernel
theorem dX11_newBool_143 : decode cX11_newBool 143 = .ok (.ifCond .ne 7, 3) := by decide +kernel
theorem dX11_newBool_146 : decode cX11_newBool 146 = .ok (.iconst 1, 1) := by decide +kernel
theorem dX11_newBool_147 : decode cX11_newBool 147 = .ok (.goto 5, 3) := by decide +kernel
theorem dX11_newBool_150 : decode cX11_newBool 150 = .ok (.iload 7, 2) := by decide +kernel
theorem dX11_newBool_152 : decode cX11_newBool 152 = .ok (.aload_n 0, 1) := by decide +kernel
theorem dX11_newBool_153 : decode cX11_newBool 153 = .ok (.getfield 31, 3) := by decide +kernel
theorem dX11_newBool_156 : decode cX11_newBool 156 = .ok (.bipush 8, 2) := by decide +kernel
theorem dX11_newBool_158 : decode cX11_newBool 158 = .ok (.iload 5, 2) := by decide +kernel
theorem dX11_newBool_160 : decode cX11_newBool 160 = .ok (.imul, 1) := by decide +kernel
theorem dX11_newBool_161 : decode cX11_newBool 161 = .ok (.iload 6, 2) := by decide +kernel
theorem dX11_newBool_163 : decode cX11_newBool 163 = .ok (.iadd, 1) := by decide +kernel
theorem dX11_newBool_164 : decode cX11_newBool 164 = .ok (.iaload, 1) := by decide +kernel
theorem dX11_newBool_165 : decode cX11_newBool 165 = .ok (.invokevirtual 206, 3) := by decide +kernel
theorem dX11_newBool_168 : decode cX11_newBool 168 = .ok (.iinc 6 1, 3) := by decide +kernel
theorem dX11_newBool_171 : decode cX11_newBool 171 = .ok (.goto (-64), 3) := by decide +kernel
theorem dX11_newBool_174 : decode cX11_newBool 174 = .ok (.goto 11, 3) := by decide +kernel
theorem dX11_newBool_177 : decode cX11_newBool 177 = .ok (.aload_n 0, 1) := by decide +kernel
theorem dX11_newBool_178 : decode cX11_newBool 178 = .ok (.iload 4, 2) := by decide +kernel
theorem dX11_newBool_180 : decode cX11_newBool 180 = .ok (.iload 5, 2) := by decide +kernel
theorem dX11_newBool_182 : decode cX11_newBool 182 = .ok (.invokevirtual 206, 3) := by decide +kernel
theorem dX11_newBool_185 : decode cX11_newBool 185 = .ok (.iinc 3 1, 3) := by decide +kernel
theorem dX11_newBool_188 : decode cX11_newBool 188 = .ok (.goto (-174), 3) := by decide +kernel
theorem dX11_newBool_191 : decode cX11_newBool 191 = .ok (.aload_n 0, 1) := by decide +kernel
theorem dX11_newBool_192 : decode cX11_newBool 192 = .ok (.iconst 3, 1) := by decide +kernel
theorem dX11_newBool_193 : decode cX11_newBool 193 = .ok (.invokevirtual 213, 3) := by decide +kernel
theorem dX11_newBool_196 : decode cX11_newBool 196 = .ok (.istore_n 3, 1) := by decide +kernel
theorem dX11_newBool_197 : decode cX11_newBool 197 = .ok (.iload_n 2, 1) := by decide +kernel
theorem dX11_newBool_198 : decode cX11_newBool 198 = .ok (.iload_n 3, 1) := by decide +kernel
theorem dX11_newBool_199 : decode cX11_newBool 199 = .ok (.if_icmp .gt 19, 3) := by decide +kernel
theorem dX11_newBool_202 : decode cX11_newBool 202 = .ok (.aload_n 0, 1) := by decide +kernel
theorem dX11_newBool_203 : decode cX11_newBool 203 = .ok (.iconst 0, 1) := by decide +kernel
theorem dX11_newBool_204 : decode cX11_newBool 204 = .ok (.invokevirtual 213, 3) := by decide +kernel
theorem dX11_newBool_207 : decode cX11_newBool 207 = .ok (.aload_n 0, 1) := by decide +kernel
theorem dX11_newBool_208 : decode cX11_newBool 208 = .ok (.iconst 1, 1) := by decide +kernel
theorem dX11_newBool_209 : decode cX11_newBool 209 = .ok (.invokevirtual 213, 3) := by decide +kernel
theorem dX11_newBool_212 : decode cX11_newBool 212 = .ok (.iadd, 1) := by decide +kernel
theorem dX11_newBool_213 : decode cX11_newBool 213 = .ok (.iload_n 3, 1) := by decide +kernel
theorem dX11_newBool_214 : decode cX11_newBool 214 = .ok (.iadd, 1) := by decide +kernel
theorem dX11_newBool_215 : decode cX11_newBool 215 = .ok (.ifCond .ne 12, 3) := by decide +kernel
theorem dX11_newBool_218 : decode cX11_newBool 218 = .ok (.aload_n 0, 1) := by decide +kernel
theorem dX11_newBool_219 : decode cX11_newBool 219 = .ok (.bipush 7, 2) := by decide +kernel
theorem dX11_newBool_221 : decode cX11_newBool 221 = .ok (.iconst 0, 1) := by decide +kernel
theorem dX11_newBool_222 : decode cX11_newBool 222 = .ok (.iconst 0, 1) := by decide +kernel
theorem dX11_newBool_223 : decode cX11_newBool 223 = .ok (.invokevirtual 202, 3) := by decide +kernel
theorem dX11_newBool_226 : decode cX11_newBool 226 = .ok (.ireturn, 1) := by decide +kernel
theorem dX11_newBool_227 : decode cX11_newBool 227 = .ok (.aload_n 0, 1) := by decide +kernel
theorem dX11_newBool_228 : decode cX11_newBool 228 = .ok (.iconst 0, 1) := by decide +kernel
theorem dX11_newBool_229 : decode cX11_newBool 229 = .ok (.invokevirtual 213, 3) := by decide +kernel
theorem dX11_newBool_232 : decode cX11_newBool 232 = .ok (.aload_n 0, 1) := by decide +kernel
theorem dX11_newBool_233 : decode cX11_newBool 233 = .ok (.iconst 1, 1) := by decide +kernel
theorem dX11_newBool_234 : decode cX11_newBool 234 = .ok (.invokevirtual 213, 3) := by decide +kernel
theorem dX11_newBool_237 : decode cX11_newBool 237 = .ok (.iadd, 1) := by decide +kernel
theorem dX11_newBool_238 : decode cX11_newBool 238 = .ok (.ifCond .ne 11, 3) := by decide +kernel
theorem dX11_newBool_241 : decode cX11_newBool 241 = .ok (.iload_n 2, 1) := by decide +kernel
theorem dX11_newBool_242 : decode cX11_newBool 242 = .ok (.ifCond .ne 7, 3) := by decide +kernel
theorem dX11_newBool_245 : decode cX11_newBool 245 = .ok (.iconst 1, 1) := by decide +kernel
theorem dX11_newBool_246 : decode cX11_newBool 246 = .ok (.goto 4, 3) := by decide +kernel
theorem dX11_newBool_249 : decode cX11_newBool 249 = .ok (.iload_n 2, 1) := by decide +kernel
theorem dX11_newBool_250 : decode cX11_newBool 250 = .ok (.istore_n 2, 1) := by decide +kernel
theorem dX11_newBool_251 : decode cX11_newBool 251 = .ok (.iload_n 2, 1) := by decide +kernel
theorem dX11_newBool_252 : decode cX11_newBool 252 = .ok (.ifCond .le 57, 3) := by decide +kernel
theorem dX11_newBool_255 : decode cX11_newBool 255 = .ok (.iload_n 2, 1) := by decide +kernel
theorem dX11_newBool_256 : decode cX11_newBool 256 = .ok (.iload_n 3, 1) := by decide +kernel
theorem dX11_newBool_257 : decode cX11_newBool 257 = .ok (.if_icmp .ne 52, 3) := by decide +kernel
theorem dX11_newBool_260 : decode cX11_newBool 260 = .ok (.iconst 0, 1) := by decide +kernel
theorem dX11_newBool_261 : decode cX11_newBool 261 = .ok (.istore_n 2, 1) := by decide +kernel
theorem dX11_newBool_262 : decode cX11_newBool 262 = .ok (.iconst 0, 1) := by decide +kernel
theorem dX11_newBool_263 : decode cX11_newBool 263 = .ok (.istore 4, 2) := by decide +kernel
theorem dX11_newBool_265 : decode cX11_newBool 265 = .ok (.iload 4, 2) := by decide +kernel
theorem dX11_newBool_267 : decode cX11_newBool 267 = .ok (.aload_n 0, 1) := by decide +kernel
theorem dX11_newBool_268 : decode cX11_newBool 268 = .ok (.getfield 199, 3) := by decide +kernel
theorem dX11_newBool_271 : decode cX11_newBool 271 = .ok (.if_icmp .ge 38, 3) := by decide +kernel
theorem dX11_newBool_274 : decode cX11_newBool 274 = .ok (.aload_n 0, 1) := by decide +kernel
theorem dX11_newBool_275 : decode cX11_newBool 275 = .ok (.getfield 94, 3) := by decide +kernel
theorem dX11_newBool_278 : decode cX11_newBool 278 = .ok (.iload 4, 2) := by decide +kernel
theorem dX11_newBool_280 : decode cX11_newBool 280 = .ok (.aload_n 0, 1) := by decide +kernel
theorem dX11_newBool_281 : decode cX11_newBool 281 = .ok (.getfield 94, 3) := by decide +kernel
theorem dX11_newBool_284 : decode cX11_newBool 284 = .ok (.iload 4, 2) := by decide +kernel
theorem dX11_newBool_286 : decode cX11_newBool 286 = .ok (.iaload, 1) := by decide +kernel
theorem dX11_newBool_287 : decode cX11_newBool 287 = .ok (.iconst 3, 1) := by decide +kernel
theorem dX11_newBool_288 : decode cX11_newBool 288 = .ok (.if_icmp .ne 7, 3) := by decide +kernel
theorem dX11_newBool_291 : decode cX11_newBool 291 = .ok (.iconst 0, 1) := by decide +kernel
theorem dX11_newBool_292 : decode cX11_newBool 292 = .ok (.goto 10, 3) := by decide +kernel
theorem dX11_newBool_295 : decode cX11_newBool 295 = .ok (.aload_n 0, 1) := by decide +kernel
theorem dX11_newBool_296 : decode cX11_newBool 296 = .ok (.getfield 94, 3) := by decide +kernel
theorem dX11_newBool_299 : decode cX11_newBool 299 = .ok (.iload 4, 2) := by decide +kernel
theorem dX11_newBool_301 : decode cX11_newBool 301 = .ok (.iaload, 1) := by decide +kernel
theorem dX11_newBool_302 : decode cX11_newBool 302 = .ok (.iastore, 1) := by decide +kernel
theorem dX11_newBool_303 : decode cX11_newBool 303 = .ok (.iinc 4 1, 3) := by decide +kernel
theorem dX11_newBool_306 : decode cX11_newBool 306 = .ok (.goto (-41), 3) := by decide +kernel
theorem dX11_newBool_309 : decode cX11_newBool 309 = .ok (.aload_n 0, 1) := by decide +kernel
theorem dX11_newBool_310 : decode cX11_newBool 310 = .ok (.invokevirtual 216, 3) := by decide +kernel
theorem dX11_newBool_313 : decode cX11_newBool 313 = .ok (.ifCond .ne 12, 3) := by decide +kernel
theorem dX11_newBool_316 : decode cX11_newBool 316 = .ok (.aload_n 0, 1) := by decide +kernel
theorem dX11_newBool_317 : decode cX11_newBool 317 = .ok (.bipush 7, 2) := by decide +kernel
theorem dX11_newBool_319 : decode cX11_newBool 319 = .ok (.iconst 0, 1) := by decide +kernel
theorem dX11_newBool_320 : decode cX11_newBool 320 = .ok (.iconst 0, 1) := by decide +kernel
theorem dX11_newBool_321 : decode cX11_newBool 321 = .ok (.invokevirtual 202, 3) := by decide +kernel
theorem dX11_newBool_324 : decode cX11_newBool 324 = .ok (.ireturn, 1) := by decide +kernel
theorem dX11_newBool_325 : decode cX11_newBool 325 = .ok (.aload_n 0, 1) := by decide +kernel
theorem dX11_newBool_326 : decode cX11_newBool 326 = .ok (.getfield 199, 3) := by decide +kernel
theorem dX11_newBool_329 : decode cX11_newBool 329 = .ok (.iconst 1, 1) := by decide +kernel
theorem dX11_newBool_330 : decode cX11_newBool 330 = .ok (.if_icmp .ne 21, 3) := by decide +kernel
theorem dX11_newBool_333 : decode cX11_newBool 333 = .ok (.aload_n 0, 1) := by decide +kernel
theorem dX11_newBool_334 : decode cX11_newBool 334 = .ok (.getfield 94, 3) := by decide +kernel
theorem dX11_newBool_337 : decode cX11_newBool 337 = .ok (.iconst 0, 1) := by decide +kernel
theorem dX11_newBool_338 : decode cX11_newBool 338 = .ok (.iaload, 1) := by decide +kernel
theorem dX11_newBool_339 : decode cX11_newBool 339 = .ok (.ifCond .ne 12, 3) := by decide +kernel
theorem dX11_newBool_342 : decode cX11_newBool 342 = .ok (.aload_n 0, 1) := by decide +kernel
theorem dX11_newBool_343 : decode cX11_newBool 343 = .ok (.getfield 97, 3) := by decide +kernel
theorem dX11_newBool_346 : decode cX11_newBool 346 = .ok (.iconst 0, 1) := by decide +kernel
theorem dX11_newBool_347 : decode cX11_newBool 347 = .ok (.iaload, 1) := by decide +kernel
theorem dX11_newBool_348 : decode cX11_newBool 348 = .ok (.goto 10, 3) := by decide +kernel
theorem dX11_newBool_351 : decode cX11_newBool 351 = .ok (.aload_n 0, 1) := by decide +kernel
theorem dX11_newBool_352 : decode cX11_newBool 352 = .ok (.iconst 2, 1) := by decide +kernel
theorem dX11_newBool_353 : decode cX11_newBool 353 = .ok (.iload_n 2, 1) := by decide +kernel
theorem dX11_newBool_354 : decode cX11_newBool 354 = .ok (.iconst 0, 1) := by decide +kernel
theorem dX11_newBool_355 : decode cX11_newBool 355 = .ok (.invokevirtual 202, 3) := by decide +kernel
theorem dX11_newBool_358 : decode cX11_newBool 358 = .ok (.ireturn, 1) := by decide +kernel
theorem dX11_thin_0 : decode cX11_thin 0 = .ok (.iconst 0, 1) := by decide +kernel
theorem dX11_thin_1 : decode cX11_thin 1 = .ok (.istore_n 1, 1) := by decide +kernel
theorem dX11_thin_2 : decode cX11_thin 2 = .ok (.iconst 1, 1) := by decide +kernel
theorem dX11_thin_3 : decode cX11_thin 3 = .ok (.istore_n 2, 1) := by decide +kernel
theorem dX11_thin_4 : decode cX11_thin 4 = .ok (.aload_n 0, 1) := by decide +kernel
theorem dX11_thin_5 : decode cX11_thin 5 = .ok (.getfield 199, 3) := by decide +kernel
theorem dX11_thin_8 : decode cX11_thin 8 = .ok (.istore_n 3, 1) := by decide +kernel
theorem dX11_thin_9 : decode cX11_thin 9 = .ok (.iconst 0, 1) := by decide +kernel
theorem dX11_thin_10 : decode cX11_thin 10 = .ok (.istore 4, 2) := by decide +kernel
theorem dX11_thin_12 : decode cX11_thin 12 = .ok (.iload 4, 2) := by decide +kernel
theorem dX11_thin_14 : decode cX11_thin 14 = .ok (.iload_n 3, 1) := by decide +kernel
theorem dX11_thin_15 : decode cX11_thin 15 = .ok (.if_icmp .ge 209, 3) := by decide +kernel
theorem dX11_thin_18 : decode cX11_thin 18 = .ok (.iconst 0, 1) := by decide +kernel
theorem dX11_thin_19 : decode cX11_thin 19 = .ok (.istore 5, 2) := by decide +kernel
theorem dX11_thin_21 : decode cX11_thin 21 = .ok (.iconst 0, 1) := by decide +kernel
theorem dX11_thin_22 : decode cX11_thin 22 = .ok (.istore 6, 2) := by decide +kernel
theorem dX11_thin_24 : decode cX11_thin 24 = .ok (.iload 6, 2) := by decide +kernel
theorem dX11_thin_26 : decode cX11_thin 26 = .ok (.iload_n 3, 1) := by decide +kernel
theorem dX11_thin_27 : decode cX11_thin 27 = .ok (.if_icmp .ge 182, 3) := by decide +kernel
theorem dX11_thin_30 : decode cX11_thin 30 = .ok (.aload_n 0, 1) := by decide +kernel
theorem dX11_thin_31 : decode cX11_thin 31 = .ok (.getfield 97, 3) := by decide +kernel
theorem dX11_thin_34 : decode cX11_thin 34 = .ok (.iload 6, 2) := by decide +kernel
theorem dX11_thin_36 : decode cX11_thin 36 = .ok (.iaload, 1) := by decide +kernel
theorem dX11_thin_37 : decode cX11_thin 37 = .ok (.aload_n 0, 1) := by decide +kernel
theorem dX11_thin_38 : decode cX11_thin 38 = .ok (.getfield 97, 3) := by decide +kernel
theorem dX11_thin_41 : decode cX11_thin 41 = .ok (.iload 4, 2) := by decide +kernel
theorem dX11_thin_43 : decode cX11_thin 43 = .ok (.iaload, 1) := by decide +kernel
theorem dX11_thin_44 : decode cX11_thin 44 = .ok (.if_icmp .ne 7, 3) := by decide +kernel
theorem dX11_thin_47 : decode cX11_thin 47 = .ok (.iconst 1, 1) := by decide +kernel
theorem dX11_thin_48 : decode cX11_thin 48 = .ok (.goto 4, 3) := by decide +kernel
theorem dX11_thin_51 : decode cX11_thin 51 = .ok (.iconst 0, 1) := by decide +kernel
theorem dX11_thin_52 : decode cX11_thin 52 = .ok (.istore 7, 2) := by decide +kernel
theorem dX11_thin_54 : decode cX11_thin 54 = .ok (.iload 6, 2) := by decide +kernel
theorem dX11_thin_56 : decode cX11_thin 56 = .ok (.iload 4, 2) := by decide +kernel
theorem dX11_thin_58 : decode cX11_thin 58 = .ok (.if_icmp .ge 7, 3) := by decide +kernel
theorem dX11_thin_61 : decode cX11_thin 61 = .ok (.iconst 1, 1) := by decide +kernel
theorem dX11_thin_62 : decode cX11_thin 62 = .ok (.goto 4, 3) := by decide +kernel
theorem dX11_thin_65 : decode cX11_thin 65 = .ok (.iconst 0, 1) := by decide +kernel
theorem dX11_thin_66 : decode cX11_thin 66 = .ok (.istore 8, 2) := by decide +kernel
theorem dX11_thin_68 : decode cX11_thin 68 = .ok (.iload 5, 2) := by decide +kernel
theorem dX11_thin_70 : decode cX11_thin 70 = .ok (.ifCond .ne 45, 3) := by decide +kernel
theorem dX11_thin_73 : decode cX11_thin 73 = .ok (.iload 7, 2) := by decide +kernel
theorem dX11_thin_75 : decode cX11_thin 75 = .ok (.ifCond .eq 44, 3) := by decide +kernel
theorem dX11_thin_78 : decode cX11_thin 78 = .ok (.aload_n 0, 1) := by decide +kernel
theorem dX11_thin_79 : decode cX11_thin 79 = .ok (.getfield 94, 3) := by decide +kernel
theorem dX11_thin_82 : decode cX11_thin 82 = .ok (.iload 4, 2) := by decide +kernel
theorem dX11_thin_84 : decode cX11_thin 84 = .ok (.iaload, 1) := by decide +kernel
theorem dX11_thin_85 : decode cX11_thin 85 = .ok (.iconst 1, 1) := by decide +kernel
theorem dX11_thin_86 : decode cX11_thin 86 = .ok (.if_icmp .ne 33, 3) := by decide +kernel
theorem dX11_thin_89 : decode cX11_thin 89 = .ok (.aload_n 0, 1) := by decide +kernel
theorem dX11_thin_90 : decode cX11_thin 90 = .ok (.getfield 94, 3) := by decide +kernel
theorem dX11_thin_93 : decode cX11_thin 93 = .ok (.iload 6, 2) := by decide +kernel
theorem dX11_thin_95 : decode cX11_thin 95 = .ok (.iaload, 1) := by decide +kernel
theorem dX11_thin_96 : decode cX11_thin 96 = .ok (.ifCond .eq 19, 3) := by decide +kernel
theorem dX11_thin_99 : decode cX11_thin 99 = .ok (.aload_n 0, 1) := by decide +kernel
theorem dX11_thin_100 : decode cX11_thin 100 = .ok (.getfield 94, 3) := by decide +kernel
theorem dX11_thin_103 : decode cX11_thin 103 = .ok (.iload 6, 2) := by decide +kernel
theorem dX11_thin_105 : decode cX11_thin 105 = .ok (.iaload, 1) := by decide +kernel
theorem dX11_thin_106 : decode cX11_thin 106 = .ok (.iconst 1, 1) := by decide +kernel
theorem dX11_thin_107 : decode cX11_thin 107 = .ok (.if_icmp .ne 12, 3) := by decide +kernel
theorem dX11_thin_110 : decode cX11_thin 110 = .ok (.iload 8, 2) := by decide +kernel
theorem dX11_thin_112 : decode cX11_thin 112 = .ok (.ifCond .eq 7, 3) := by decide +kernel
theorem dX11_thin_115 : decode cX11_thin 115 = .ok (.iconst 1, 1) := by decide +kernel
theorem dX11_thin_116 : decode cX11_thin 116 = .ok (.goto 4, 3) := by decide +kernel
theorem dX11_thin_119 : decode cX11_thin 119 = .ok (.iconst 0, 1) := by decide +kernel
theorem dX11_thin_120 : decode cX11_thin 120 = .ok (.istore 5, 2) := by decide +kernel
theorem dX11_thin_122 : decode cX11_thin 122 = .ok (.iload 5, 2) := by decide +kernel
theorem dX11_thin_124 : decode cX11_thin 124 = .ok (.ifCond .ne 35, 3) := by decide +kernel
theorem dX11_thin_127 : decode cX11_thin 127 = .ok (.iload 7, 2) := by decide +kernel
theorem dX11_thin_129 : decode cX11_thin 129 = .ok (.ifCond .eq 34, 3) := by decide +kernel
theorem dX11_thin_132 : decode cX11_thin 132 = .ok (.aload_n 0, 1) := by decide +kernel
theorem dX11_thin_133 : decode cX11_thin 133 = .ok (.getfield 94, 3) := by decide +kernel
theorem dX11_thin_136 : decode cX11_thin 136 = .ok (.iload 4, 2) := by decide +kernel
theorem dX11_thin_138 : decode cX11_thin 138 = .ok (.iaload, 1) := by decide +kernel
theorem dX11_thin_139 : decode cX11_thin 139 = .ok (.iconst 2, 1) := by decide +kernel
theorem dX11_thin_140 : decode cX11_thin 140 = .ok (.if_icmp .ne 23, 3) := by decide +kernel
theorem dX11_thin_143 : decode cX11_thin 143 = .ok (.aload_n 0, 1) := by decide +kernel
theorem dX11_thin_144 : decode cX11_thin 144 = .ok (.getfield 94, 3) := by decide +kernel
theorem dX11_thin_147 : decode cX11_thin 147 = .ok (.iload 6, 2) := by decide +kernel
theorem dX11_thin_149 : decode cX11_thin 149 = .ok (.iaload, 1) := by decide +kernel
theorem dX11_thin_150 : decode cX11_thin 150 = .ok (.iconst 2, 1) := by decide +kernel
theorem dX11_thin_151 : decode cX11_thin 151 = .ok (.if_icmp .ne 12, 3) := by decide +kernel
theorem dX11_thin_154 : decode cX11_thin 154 = .ok (.iload 8, 2) := by decide +kernel
theorem dX11_thin_156 : decode cX11_thin 156 = .ok (.ifCond .eq 7, 3) := by decide +kernel
theorem dX11_thin_159 : decode cX11_thin 159 = .ok (.iconst 1, 1) := by decide +kernel
theorem dX11_thin_160 : decode cX11_thin 160 = .ok (.goto 4, 3) := by decide +kernel
theorem dX11_thin_163 : decode cX11_thin 163 = .ok (.iconst 0, 1) := by decide +kernel
theorem dX11_thin_164 : decode cX11_thin 164 = .ok (.istore 5, 2) := by decide +kernel
theorem dX11_thin_166 : decode cX11_thin 166 = .ok (.iload_n 2, 1) := by decide +kernel
theorem dX11_thin_167 : decode cX11_thin 167 = .ok (.ifCond .eq 34, 3) := by decide +kernel
theorem dX11_thin_170 : decode cX11_thin 170 = .ok (.iload 7, 2) := by decide +kernel
theorem dX11_thin_172 : decode cX11_thin 172 = .ok (.ifCond .eq 25, 3) := by decide +kernel
theorem dX11_thin_175 : decode cX11_thin 175 = .ok (.aload_n 0, 1) := by decide +kernel
theorem dX11_thin_176 : decode cX11_thin 176 = .ok (.getfield 94, 3) := by decide +kernel
theorem dX11_thin_179 : decode cX11_thin 179 = .ok (.iload 4, 2) := by decide +kernel
theorem dX11_thin_181 : decode cX11_thin 181 = .ok (.iaload, 1) := by decide +kernel
theorem dX11_thin_182 : decode cX11_thin 182 = .ok (.iconst 2, 1) := by decide +kernel
theorem dX11_thin_183 : decode cX11_thin 183 = .ok (.if_icmp .ne 14, 3) := by decide +kernel
theorem dX11_thin_186 : decode cX11_thin 186 = .ok (.aload_n 0, 1) := by decide +kernel
theorem dX11_thin_187 : decode cX11_thin 187 = .ok (.getfield 94, 3) := by decide +kernel
theorem dX11_thin_190 : decode cX11_thin 190 = .ok (.iload 6, 2) := by decide +kernel
theorem dX11_thin_192 : decode cX11_thin 192 = .ok (.iaload, 1) := by decide +kernel
theorem dX11_thin_193 : decode cX11_thin 193 = .ok (.iconst 2, 1) := by decide +kernel
theorem dX11_thin_194 : decode cX11_thin 194 = .ok (.if_icmp .lt 7, 3) := by decide +kernel
theorem dX11_thin_197 : decode cX11_thin 197 = .ok (.iconst 1, 1) := by decide +kernel
theorem dX11_thin_198 : decode cX11_thin 198 = .ok (.goto 4, 3) := by decide +kernel
theorem dX11_thin_201 : decode cX11_thin 201 = .ok (.iconst 0, 1) := by decide +kernel
theorem dX11_thin_202 : decode cX11_thin 202 = .ok (.istore_n 2, 1) := by decide +kernel
theorem dX11_thin_203 : decode cX11_thin 203 = .ok (.iinc 6 1, 3) := by decide +kernel
theorem dX11_thin_206 : decode cX11_thin 206 = .ok (.goto (-182), 3) := by decide +kernel
theorem dX11_thin_209 : decode cX11_thin 209 = .ok (.aload_n 0, 1) := by decide +kernel
theorem dX11_thin_210 : decode cX11_thin 210 = .ok (.getfield 100, 3) := by decide +kernel
theorem dX11_thin_213 : decode cX11_thin 213 = .ok (.iload 4, 2) := by decide +kernel
theorem dX11_thin_215 : decode cX11_thin 215 = .ok (.iload 5, 2) := by decide +kernel
theorem dX11_thin_217 : decode cX11_thin 217 = .ok (.bastore, 1) := by decide +kernel
theorem dX11_thin_218 : decode cX11_thin 218 = .ok (.iinc 4 1, 3) := by decide +kernel
theorem dX11_thin_221 : decode cX11_thin 221 = .ok (.goto (-209), 3) := by decide +kernel
theorem dX11_thin_224 : decode cX11_thin 224 = .ok (.iconst 0, 1) := by decide +kernel
theorem dX11_thin_225 : decode cX11_thin 225 = .ok (.istore 4, 2) := by decide +kernel
theorem dX11_thin_227 : decode cX11_thin 227 = .ok (.iload 4, 2) := by decide +kernel
theorem dX11_thin_229 : decode cX11_thin 229 = .ok (.iload_n 3, 1) := by decide +kernel
theorem dX11_thin_230 : decode cX11_thin 230 = .ok (.if_icmp .ge 48, 3) := by decide +kernel
theorem dX11_thin_233 : decode cX11_thin 233 = .ok (.aload_n 0, 1) := by decide +kernel
theorem dX11_thin_234 : decode cX11_thin 234 = .ok (.getfield 100, 3) := by decide +kernel
theorem dX11_thin_237 : decode cX11_thin 237 = .ok (.iload 4, 2) := by decide +kernel
theorem dX11_thin_239 : decode cX11_thin 239 = .ok (.baload, 1) := by decide +kernel
theorem dX11_thin_240 : decode cX11_thin 240 = .ok (.ifCond .ne 32, 3) := by decide +kernel
theorem dX11_thin_243 : decode cX11_thin 243 = .ok (.aload_n 0, 1) := by decide +kernel
theorem dX11_thin_244 : decode cX11_thin 244 = .ok (.getfield 94, 3) := by decide +kernel
theorem dX11_thin_247 : decode cX11_thin 247 = .ok (.iload_n 1, 1) := by decide +kernel
theorem dX11_thin_248 : decode cX11_thin 248 = .ok (.aload_n 0, 1) := by decide +kernel
theorem dX11_thin_249 : decode cX11_thin 249 = .ok (.getfield 94, 3) := by decide +kernel
theorem dX11_thin_252 : decode cX11_thin 252 = .ok (.iload 4, 2) := by decide +kernel
theorem dX11_thin_254 : decode cX11_thin 254 = .ok (.iaload, 1) := by decide +kernel
theorem dX11_thin_255 : decode cX11_thin 255 = .ok (.iastore, 1) := by decide +kernel
theorem dX11_thin_256 : decode cX11_thin 256 = .ok (.aload_n 0, 1) := by decide +kernel
theorem dX11_thin_257 : decode cX11_thin 257 = .ok (.getfield 97, 3) := by decide +kernel
theorem dX11_thin_260 : decode cX11_thin 260 = .ok (.iload_n 1, 1) := by decide +kernel
theorem dX11_thin_261 : decode cX11_thin 261 = .ok (.aload_n 0, 1) := by decide +kernel
theorem dX11_thin_262 : decode cX11_thin 262 = .ok (.getfield 97, 3) := by decide +kernel
theorem dX11_thin_265 : decode cX11_thin 265 = .ok (.iload 4, 2) := by decide +kernel
theorem dX11_thin_267 : decode cX11_thin 267 = .ok (.iaload, 1) := by decide +kernel
theorem dX11_thin_268 : decode cX11_thin 268 = .ok (.iastore, 1) := by decide +kernel
theorem dX11_thin_269 : decode cX11_thin 269 = .ok (.iinc 1 1, 3) := by decide +kernel
theorem dX11_thin_272 : decode cX11_thin 272 = .ok (.iinc 4 1, 3) := by decide +kernel
theorem dX11_thin_275 : decode cX11_thin 275 = .ok (.goto (-48), 3) := by decide +kernel
theorem dX11_thin_278 : decode cX11_thin 278 = .ok (.aload_n 0, 1) := by decide +kernel
theorem dX11_thin_279 : decode cX11_thin 279 = .ok (.iload_n 1, 1) := by decide +kernel
theorem dX11_thin_280 : decode cX11_thin 280 = .ok (.putfield 199, 3) := by decide +kernel
theorem dX11_thin_283 : decode cX11_thin 283 = .ok (.iload_n 2, 1) := by decide +kernel
theorem dX11_thin_284 : decode cX11_thin 284 = .ok (.ireturn, 1) := by decide +kernel
theorem dX11_sum_0 : decode cX11_sum 0 = .ok (.iconst 0, 1) := by decide +kernel
theorem dX11_sum_1 : decode cX11_sum 1 = .ok (.istore_n 2, 1) := by decide +kernel
theorem dX11_sum_2 : decode cX11_sum 2 = .ok (.iload_n 1, 1) := by decide +kernel
theorem dX11_sum_3 : decode cX11_sum 3 = .ok (.tableswitch 138 0 4 #[33, 38, 63, 68, 102], 33) := by decide +kernel
theorem dX11_sum_36 : decode cX11_sum 36 = .ok (.aload_n 0, 1) := by decide +kernel
theorem dX11_sum_37 : decode cX11_sum 37 = .ok (.getfield 107, 3) := by decide +kernel
theorem dX11_sum_40 : decode cX11_sum 40 = .ok (.ireturn, 1) := by decide +kernel
theorem dX11_sum_41 : decode cX11_sum 41 = .ok (.iconst 0, 1) := by decide +kernel
theorem dX11_sum_42 : decode cX11_sum 42 = .ok (.istore_n 3, 1) := by decide +kernel
theorem dX11_sum_43 : decode cX11_sum 43 = .ok (.iload_n 3, 1) := by decide +kernel
theorem dX11_sum_44 : decode cX11_sum 44 = .ok (.bipush 16, 2) := by decide +kernel
theorem dX11_sum_46 : decode cX11_sum 46 = .ok (.if_icmp .ge 18, 3) := by decide +kernel
theorem dX11_sum_49 : decode cX11_sum 49 = .ok (.iload_n 2, 1) := by decide +kernel
theorem dX11_sum_50 : decode cX11_sum 50 = .ok (.aload_n 0, 1) := by decide +kernel
theorem dX11_sum_51 : decode cX11_sum 51 = .ok (.getfield 13, 3) := by decide +kernel
theorem dX11_sum_54 : decode cX11_sum 54 = .ok (.iload_n 3, 1) := by decide +kernel
theorem dX11_sum_55 : decode cX11_sum 55 = .ok (.iaload, 1) := by decide +kernel
theorem dX11_sum_56 : decode cX11_sum 56 = .ok (.iadd, 1) := by decide +kernel
theorem dX11_sum_57 : decode cX11_sum 57 = .ok (.istore_n 2, 1) := by decide +kernel
theorem dX11_sum_58 : decode cX11_sum 58 = .ok (.iinc 3 1, 3) := by decide +kernel
theorem dX11_sum_61 : decode cX11_sum 61 = .ok (.goto (-18), 3) := by decide +kernel
theorem dX11_sum_64 : decode cX11_sum 64 = .ok (.iload_n 2, 1) := by decide +kernel
theorem dX11_sum_65 : decode cX11_sum 65 = .ok (.ireturn, 1) := by decide +kernel
theorem dX11_sum_66 : decode cX11_sum 66 = .ok (.aload_n 0, 1) := by decide +kernel
theorem dX11_sum_67 : decode cX11_sum 67 = .ok (.getfield 167, 3) := by decide +kernel
theorem dX11_sum_70 : decode cX11_sum 70 = .ok (.ireturn, 1) := by decide +kernel
theorem dX11_sum_71 : decode cX11_sum 71 = .ok (.iconst 0, 1) := by decide +kernel
theorem dX11_sum_72 : decode cX11_sum 72 = .ok (.istore_n 3, 1) := by decide +kernel
theorem dX11_sum_73 : decode cX11_sum 73 = .ok (.iload_n 3, 1) := by decide +kernel
theorem dX11_sum_74 : decode cX11_sum 74 = .ok (.bipush 8, 2) := by decide +kernel
theorem dX11_sum_76 : decode cX11_sum 76 = .ok (.if_icmp .ge 27, 3) := by decide +kernel
theorem dX11_sum_79 : decode cX11_sum 79 = .ok (.iload_n 2, 1) := by decide +kernel
theorem dX11_sum_80 : decode cX11_sum 80 = .ok (.aload_n 0, 1) := by decide +kernel
theorem dX11_sum_81 : decode cX11_sum 81 = .ok (.getfield 45, 3) := by decide +kernel
theorem dX11_sum_84 : decode cX11_sum 84 = .ok (.iload_n 3, 1) := by decide +kernel
theorem dX11_sum_85 : decode cX11_sum 85 = .ok (.iaload, 1) := by decide +kernel
theorem dX11_sum_86 : decode cX11_sum 86 = .ok (.iconst (-1), 1) := by decide +kernel
theorem dX11_sum_87 : decode cX11_sum 87 = .ok (.if_icmp .eq 7, 3) := by decide +kernel
theorem dX11_sum_90 : decode cX11_sum 90 = .ok (.iconst 1, 1) := by decide +kernel
theorem dX11_sum_91 : decode cX11_sum 91 = .ok (.goto 4, 3) := by decide +kernel
theorem dX11_sum_94 : decode cX11_sum 94 = .ok (.iconst 0, 1) := by decide +kernel
theorem dX11_sum_95 : decode cX11_sum 95 = .ok (.iadd, 1) := by decide +kernel
theorem dX11_sum_96 : decode cX11_sum 96 = .ok (.istore_n 2, 1) := by decide +kernel
theorem dX11_sum_97 : decode cX11_sum 97 = .ok (.iinc 3 1, 3) := by decide +kernel
theorem dX11_sum_100 : decode cX11_sum 100 = .ok (.goto (-27), 3) := by decide +kernel
theorem dX11_sum_103 : decode cX11_sum 103 = .ok (.iload_n 2, 1) := by decide +kernel
theorem dX11_sum_104 : decode cX11_sum 104 = .ok (.ireturn, 1) := by decide +kernel
theorem dX11_sum_105 : decode cX11_sum 105 = .ok (.iconst 0, 1) := by decide +kernel
theorem dX11_sum_106 : decode cX11_sum 106 = .ok (.istore_n 3, 1) := by decide +kernel
theorem dX11_sum_107 : decode cX11_sum 107 = .ok (.iload_n 3, 1) := by decide +kernel
theorem dX11_sum_108 : decode cX11_sum 108 = .ok (.aload_n 0, 1) := by decide +kernel
theorem dX11_sum_109 : decode cX11_sum 109 = .ok (.getfield 107, 3) := by decide +kernel
theorem dX11_sum_112 : decode cX11_sum 112 = .ok (.if_icmp .ge 27, 3) := by decide +kernel
theorem dX11_sum_115 : decode cX11_sum 115 = .ok (.iload_n 2, 1) := by decide +kernel
theorem dX11_sum_116 : decode cX11_sum 116 = .ok (.aload_n 0, 1) := by decide +kernel
theorem dX11_sum_117 : decode cX11_sum 117 = .ok (.getfield 37, 3) := by decide +kernel
theorem dX11_sum_120 : decode cX11_sum 120 = .ok (.iload_n 3, 1) := by decide +kernel
theorem dX11_sum_121 : decode cX11_sum 121 = .ok (.iaload, 1) := by decide +kernel
theorem dX11_sum_122 : decode cX11_sum 122 = .ok (.iconst (-1), 1) := by decide +kernel
theorem dX11_sum_123 : decode cX11_sum 123 = .ok (.if_icmp .eq 7, 3) := by decide +kernel
theorem dX11_sum_126 : decode cX11_sum 126 = .ok (.iconst 1, 1) := by decide +kernel
theorem dX11_sum_127 : decode cX11_sum 127 = .ok (.goto 4, 3) := by decide +kernel
theorem dX11_sum_130 : decode cX11_sum 130 = .ok (.iconst 0, 1) := by decide +kernel
theorem dX11_sum_131 : decode cX11_sum 131 = .ok (.iadd, 1) := by decide +kernel
theorem dX11_sum_132 : decode cX11_sum 132 = .ok (.istore_n 2, 1) := by decide +kernel
theorem dX11_sum_133 : decode cX11_sum 133 = .ok (.iinc 3 1, 3) := by decide +kernel
theorem dX11_sum_136 : decode cX11_sum 136 = .ok (.goto (-29), 3) := by decide +kernel
theorem dX11_sum_139 : decode cX11_sum 139 = .ok (.iload_n 2, 1) := by decide +kernel
theorem dX11_sum_140 : decode cX11_sum 140 = .ok (.ireturn, 1) := by decide +kernel
theorem dX11_sum_141 : decode cX11_sum 141 = .ok (.bipush (-2), 2) := by decide +kernel
theorem dX11_sum_143 : decode cX11_sum 143 = .ok (.ireturn, 1) := by decide +kernel
theorem dJ9_max_7cf53_0 : decode cJ9_max_7cf53 0 = .ok (.iload_n 0, 1) := by decide +kernel
theorem dJ9_max_7cf53_1 : decode cJ9_max_7cf53 1 = .ok (.iload_n 1, 1) := by decide +kernel
theorem dJ9_max_7cf53_2 : decode cJ9_max_7cf53 2 = .ok (.if_icmp .lt 7, 3) := by decide +kernel
theorem dJ9_max_7cf53_5 : decode cJ9_max_7cf53 5 = .ok (.iload_n 0, 1) := by decide +kernel
theorem dJ9_max_7cf53_6 : decode cJ9_max_7cf53 6 = .ok (.goto 4, 3) := by decide +kernel
theorem dJ9_max_7cf53_9 : decode cJ9_max_7cf53 9 = .ok (.iload_n 1, 1) := by decide +kernel
theorem dJ9_max_7cf53_10 : decode cJ9_max_7cf53 10 = .ok (.ireturn, 1) := by decide +kernel
theorem dJ9_max_f86c9_0 : decode cJ9_max_f86c9 0 = .ok (.lload_n 0, 1) := by decide +kernel
theorem dJ9_max_f86c9_1 : decode cJ9_max_f86c9 1 = .ok (.lload_n 2, 1) := by decide +kernel
theorem dJ9_max_f86c9_2 : decode cJ9_max_f86c9 2 = .ok (.lcmp, 1) := by decide +kernel
theorem dJ9_max_f86c9_3 : decode cJ9_max_f86c9 3 = .ok (.ifCond .lt 7, 3) := by decide +kernel
theorem dJ9_max_f86c9_6 : decode cJ9_max_f86c9 6 = .ok (.lload_n 0, 1) := by decide +kernel
theorem dJ9_max_f86c9_7 : decode cJ9_max_f86c9 7 = .ok (.goto 4, 3) := by decide +kernel
theorem dJ9_max_f86c9_10 : decode cJ9_max_f86c9 10 = .ok (.lload_n 2, 1) := by decide +kernel
theorem dJ9_max_f86c9_11 : decode cJ9_max_f86c9 11 = .ok (.lreturn, 1) := by decide +kernel
theorem dJ9_min_7cf53_0 : decode cJ9_min_7cf53 0 = .ok (.iload_n 0, 1) := by decide +kernel
theorem dJ9_min_7cf53_1 : decode cJ9_min_7cf53 1 = .ok (.iload_n 1, 1) := by decide +kernel
theorem dJ9_min_7cf53_2 : decode cJ9_min_7cf53 2 = .ok (.if_icmp .gt 7, 3) := by decide +kernel
theorem dJ9_min_7cf53_5 : decode cJ9_min_7cf53 5 = .ok (.iload_n 0, 1) := by decide +kernel
theorem dJ9_min_7cf53_6 : decode cJ9_min_7cf53 6 = .ok (.goto 4, 3) := by decide +kernel
theorem dJ9_min_7cf53_9 : decode cJ9_min_7cf53 9 = .ok (.iload_n 1, 1) := by decide +kernel
theorem dJ9_min_7cf53_10 : decode cJ9_min_7cf53 10 = .ok (.ireturn, 1) := by decide +kernel
theorem dJ7_fill_d0a16_0 : decode cJ7_fill_d0a16 0 = .ok (.iconst 0, 1) := by decide +kernel
theorem dJ7_fill_d0a16_1 : decode cJ7_fill_d0a16 1 = .ok (.istore_n 3, 1) := by decide +kernel
theorem dJ7_fill_d0a16_2 : decode cJ7_fill_d0a16 2 = .ok (.aload_n 0, 1) := by decide +kernel
theorem dJ7_fill_d0a16_3 : decode cJ7_fill_d0a16 3 = .ok (.arraylength, 1) := by decide +kernel
theorem dJ7_fill_d0a16_4 : decode cJ7_fill_d0a16 4 = .ok (.istore 4, 2) := by decide +kernel
theorem dJ7_fill_d0a16_6 : decode cJ7_fill_d0a16 6 = .ok (.iload_n 3, 1) := by decide +kernel
theorem dJ7_fill_d0a16_7 : decode cJ7_fill_d0a16 7 = .ok (.iload 4, 2) := by decide +kernel
theorem dJ7_fill_d0a16_9 : decode cJ7_fill_d0a16 9 = .ok (.if_icmp .ge 13, 3) := by decide +kernel
theorem dJ7_fill_d0a16_12 : decode cJ7_fill_d0a16 12 = .ok (.aload_n 0, 1) := by decide +kernel
theorem dJ7_fill_d0a16_13 : decode cJ7_fill_d0a16 13 = .ok (.iload_n 3, 1) := by decide +kernel
theorem dJ7_fill_d0a16_14 : decode cJ7_fill_d0a16 14 = .ok (.lload_n 1, 1) := by decide +kernel
theorem dJ7_fill_d0a16_15 : decode cJ7_fill_d0a16 15 = .ok (.lastore, 1) := by decide +kernel
theorem dJ7_fill_d0a16_16 : decode cJ7_fill_d0a16 16 = .ok (.iinc 3 1, 3) := by decide +kernel
theorem dJ7_fill_d0a16_19 : decode cJ7_fill_d0a16 19 = .ok (.goto (-13), 3) := by decide +kernel
theorem dJ7_fill_d0a16_22 : decode cJ7_fill_d0a16 22 = .ok (.return_, 1) := by decide +kernel
theorem dJ7_fill_53178_0 : decode cJ7_fill_53178 0 = .ok (.iconst 0, 1) := by decide +kernel
theorem dJ7_fill_53178_1 : decode cJ7_fill_53178 1 = .ok (.istore_n 2, 1) := by decide +kernel
theorem dJ7_fill_53178_2 : decode cJ7_fill_53178 2 = .ok (.aload_n 0, 1) := by decide +kernel
theorem dJ7_fill_53178_3 : decode cJ7_fill_53178 3 = .ok (.arraylength, 1) := by decide +kernel
theorem dJ7_fill_53178_4 : decode cJ7_fill_53178 4 = .ok (.istore_n 3, 1) := by decide +kernel
theorem dJ7_fill_53178_5 : decode cJ7_fill_53178 5 = .ok (.iload_n 2, 1) := by decide +kernel
theorem dJ7_fill_53178_6 : decode cJ7_fill_53178 6 = .ok (.iload_n 3, 1) := by decide +kernel
theorem dJ7_fill_53178_7 : decode cJ7_fill_53178 7 = .ok (.if_icmp .ge 13, 3) := by decide +kernel
theorem dJ7_fill_53178_10 : decode cJ7_fill_53178 10 = .ok (.aload_n 0, 1) := by decide +kernel
theorem dJ7_fill_53178_11 : decode cJ7_fill_53178 11 = .ok (.iload_n 2, 1) := by decide +kernel
theorem dJ7_fill_53178_12 : decode cJ7_fill_53178 12 = .ok (.iload_n 1, 1) := by decide +kernel
theorem dJ7_fill_53178_13 : decode cJ7_fill_53178 13 = .ok (.iastore, 1) := by decide +kernel
theorem dJ7_fill_53178_14 : decode cJ7_fill_53178 14 = .ok (.iinc 2 1, 3) := by decide +kernel
theorem dJ7_fill_53178_17 : decode cJ7_fill_53178 17 = .ok (.goto (-12), 3) := by decide +kernel
theorem dJ7_fill_53178_20 : decode cJ7_fill_53178 20 = .ok (.return_, 1) := by decide +kernel
theorem dL_law_0 : decode cL_law 0 = .ok (.new 7, 3) := by decide +kernel
theorem dL_law_3 : decode cL_law 3 = .ok (.dup, 1) := by decide +kernel
theorem dL_law_4 : decode cL_law 4 = .ok (.invokespecial 9, 3) := by decide +kernel
theorem dL_law_7 : decode cL_law 7 = .ok (.astore_n 1, 1) := by decide +kernel
theorem dL_law_8 : decode cL_law 8 = .ok (.new 10, 3) := by decide +kernel
theorem dL_law_11 : decode cL_law 11 = .ok (.dup, 1) := by decide +kernel
theorem dL_law_12 : decode cL_law 12 = .ok (.invokespecial 12, 3) := by decide +kernel
theorem dL_law_15 : decode cL_law 15 = .ok (.astore_n 2, 1) := by decide +kernel
theorem dL_law_16 : decode cL_law 16 = .ok (.iconst 0, 1) := by decide +kernel
theorem dL_law_17 : decode cL_law 17 = .ok (.istore_n 3, 1) := by decide +kernel
theorem dL_law_18 : decode cL_law 18 = .ok (.iload_n 3, 1) := by decide +kernel
theorem dL_law_19 : decode cL_law 19 = .ok (.aload_n 0, 1) := by decide +kernel
theorem dL_law_20 : decode cL_law 20 = .ok (.arraylength, 1) := by decide +kernel
theorem dL_law_21 : decode cL_law 21 = .ok (.iconst 4, 1) := by decide +kernel
theorem dL_law_22 : decode cL_law 22 = .ok (.isub, 1) := by decide +kernel
theorem dL_law_23 : decode cL_law 23 = .ok (.if_icmp .gt 676, 3) := by decide +kernel
theorem dL_law_26 : decode cL_law 26 = .ok (.aload_n 0, 1) := by decide +kernel
theorem dL_law_27 : decode cL_law 27 = .ok (.iload_n 3, 1) := by decide +kernel
theorem dL_law_28 : decode cL_law 28 = .ok (.iaload, 1) := by decide +kernel
theorem dL_law_29 : decode cL_law 29 = .ok (.bipush 31, 2) := by decide +kernel
theorem dL_law_31 : decode cL_law 31 = .ok (.iand, 1) := by decide +kernel
theorem dL_law_32 : decode cL_law 32 = .ok (.tableswitch 661 0 18 #[92, 135, 168, 211, 254, 287, 330, 363, 396, 429, 443, 466, 489, 513, 536, 559, 592, 615, 638], 92) := by decide +kernel
theorem dL_law_124 : decode cL_law 124 = .ok (.aload_n 1, 1) := by decide +kernel
theorem dL_law_125 : decode cL_law 125 = .ok (.aload_n 0, 1) := by decide +kernel
theorem dL_law_126 : decode cL_law 126 = .ok (.iload_n 3, 1) := by decide +kernel
theorem dL_law_127 : decode cL_law 127 = .ok (.iconst 1, 1) := by decide +kernel
theorem dL_law_128 : decode cL_law 128 = .ok (.iadd, 1) := by decide +kernel
theorem dL_law_129 : decode cL_law 129 = .ok (.iaload, 1) := by decide +kernel
theorem dL_law_130 : decode cL_law 130 = .ok (.aload_n 0, 1) := by decide +kernel
theorem dL_law_131 : decode cL_law 131 = .ok (.iload_n 3, 1) := by decide +kernel
theorem dL_law_132 : decode cL_law 132 = .ok (.iconst 2, 1) := by decide +kernel
theorem dL_law_133 : decode cL_law 133 = .ok (.iadd, 1) := by decide +kernel
theorem dL_law_134 : decode cL_law 134 = .ok (.iaload, 1) := by decide +kernel
theorem dL_law_135 : decode cL_law 135 = .ok (.aload_n 0, 1) := by decide +kernel
theorem dL_law_136 : decode cL_law 136 = .ok (.iload_n 3, 1) := by decide +kernel
theorem dL_law_137 : decode cL_law 137 = .ok (.iconst 3, 1) := by decide +kernel
theorem dL_law_138 : decode cL_law 138 = .ok (.iadd, 1) := by decide +kernel
theorem dL_law_139 : decode cL_law 139 = .ok (.iaload, 1) := by decide +kernel
theorem dL_law_140 : decode cL_law 140 = .ok (.invokevirtual 13, 3) := by decide +kernel
theorem dL_law_143 : decode cL_law 143 = .ok (.aload_n 2, 1) := by decide +kernel
theorem dL_law_144 : decode cL_law 144 = .ok (.aload_n 0, 1) := by decide +kernel
theorem dL_law_145 : decode cL_law 145 = .ok (.iload_n 3, 1) := by decide +kernel
theorem dL_law_146 : decode cL_law 146 = .ok (.iconst 1, 1) := by decide +kernel
theorem dL_law_147 : decode cL_law 147 = .ok (.iadd, 1) := by decide +kernel
theorem dL_law_148 : decode cL_law 148 = .ok (.iaload, 1) := by decide +kernel
theorem dL_law_149 : decode cL_law 149 = .ok (.aload_n 0, 1) := by decide +kernel
theorem dL_law_150 : decode cL_law 150 = .ok (.iload_n 3, 1) := by decide +kernel
theorem dL_law_151 : decode cL_law 151 = .ok (.iconst 2, 1) := by decide +kernel
theorem dL_law_152 : decode cL_law 152 = .ok (.iadd, 1) := by decide +kernel
theorem dL_law_153 : decode cL_law 153 = .ok (.iaload, 1) := by decide +kernel
theorem dL_law_154 : decode cL_law 154 = .ok (.aload_n 0, 1) := by decide +kernel
theorem dL_law_155 : decode cL_law 155 = .ok (.iload_n 3, 1) := by decide +kernel
theorem dL_law_156 : decode cL_law 156 = .ok (.iconst 3, 1) := by decide +kernel
theorem dL_law_157 : decode cL_law 157 = .ok (.iadd, 1) := by decide +kernel
theorem dL_law_158 : decode cL_law 158 = .ok (.iaload, 1) := by decide +kernel
theorem dL_law_159 : decode cL_law 159 = .ok (.invokevirtual 17, 3) := by decide +kernel
theorem dL_law_162 : decode cL_law 162 = .ok (.if_icmp .eq 531, 3) := by decide +kernel
theorem dL_law_165 : decode cL_law 165 = .ok (.iconst 0, 1) := by decide +kernel
theorem dL_law_166 : decode cL_law 166 = .ok (.ireturn, 1) := by decide +kernel
theorem dL_law_167 : decode cL_law 167 = .ok (.aload_n 1, 1) := by decide +kernel
theorem dL_law_168 : decode cL_law 168 = .ok (.aload_n 0, 1) := by decide +kernel
theorem dL_law_169 : decode cL_law 169 = .ok (.iload_n 3, 1) := by decide +kernel
theorem dL_law_170 : decode cL_law 170 = .ok (.iconst 1, 1) := by decide +kernel
theorem dL_law_171 : decode cL_law 171 = .ok (.iadd, 1) := by decide +kernel
theorem dL_law_172 : decode cL_law 172 = .ok (.iaload, 1) := by decide +kernel
theorem dL_law_173 : decode cL_law 173 = .ok (.aload_n 0, 1) := by decide +kernel
theorem dL_law_174 : decode cL_law 174 = .ok (.iload_n 3, 1) := by decide +kernel
theorem dL_law_175 : decode cL_law 175 = .ok (.iconst 2, 1) := by decide +kernel
theorem dL_law_176 : decode cL_law 176 = .ok (.iadd, 1) := by decide +kernel
theorem dL_law_177 : decode cL_law 177 = .ok (.iaload, 1) := by decide +kernel
theorem dL_law_178 : decode cL_law 178 = .ok (.invokevirtual 18, 3) := by decide +kernel
theorem dL_law_181 : decode cL_law 181 = .ok (.aload_n 2, 1) := by decide +kernel
theorem dL_law_182 : decode cL_law 182 = .ok (.aload_n 0, 1) := by decide +kernel
theorem dL_law_183 : decode cL_law 183 = .ok (.iload_n 3, 1) := by decide +kernel
theorem dL_law_184 : decode cL_law 184 = .ok (.iconst 1, 1) := by decide +kernel
theorem dL_law_185 : decode cL_law 185 = .ok (.iadd, 1) := by decide +kernel
theorem dL_law_186 : decode cL_law 186 = .ok (.iaload, 1) := by decide +kernel
theorem dL_law_187 : decode cL_law 187 = .ok (.aload_n 0, 1) := by decide +kernel
theorem dL_law_188 : decode cL_law 188 = .ok (.iload_n 3, 1) := by decide +kernel
theorem dL_law_189 : decode cL_law 189 = .ok (.iconst 2, 1) := by decide +kernel
theorem dL_law_190 : decode cL_law 190 = .ok (.iadd, 1) := by decide +kernel
theorem dL_law_191 : decode cL_law 191 = .ok (.iaload, 1) := by decide +kernel
theorem dL_law_192 : decode cL_law 192 = .ok (.invokevirtual 22, 3) := by decide +kernel
theorem dL_law_195 : decode cL_law 195 = .ok (.if_icmp .eq 498, 3) := by decide +kernel
theorem dL_law_198 : decode cL_law 198 = .ok (.iconst 0, 1) := by decide +kernel
theorem dL_law_199 : decode cL_law 199 = .ok (.ireturn, 1) := by decide +kernel
theorem dL_law_200 : decode cL_law 200 = .ok (.aload_n 1, 1) := by decide +kernel
theorem dL_law_201 : decode cL_law 201 = .ok (.aload_n 0, 1) := by decide +kernel
theorem dL_law_202 : decode cL_law 202 = .ok (.iload_n 3, 1) := by decide +kernel
theorem dL_law_203 : decode cL_law 203 = .ok (.iconst 1, 1) := by decide +kernel
theorem dL_law_204 : decode cL_law 204 = .ok (.iadd, 1) := by decide +kernel
theorem dL_law_205 : decode cL_law 205 = .ok (.iaload, 1) := by decide +kernel
theorem dL_law_206 : decode cL_law 206 = .ok (.aload_n 0, 1) := by decide +kernel
theorem dL_law_207 : decode cL_law 207 = .ok (.iload_n 3, 1) := by decide +kernel
theorem dL_law_208 : decode cL_law 208 = .ok (.iconst 2, 1) := by decide +kernel
theorem dL_law_209 : decode cL_law 209 = .ok (.iadd, 1) := by decide +kernel
theorem dL_law_210 : decode cL_law 210 = .ok (.iaload, 1) := by decide +kernel
theorem dL_law_211 : decode cL_law 211 = .ok (.aload_n 0, 1) := by decide +kernel
theorem dL_law_212 : decode cL_law 212 = .ok (.iload_n 3, 1) := by decide +kernel
theorem dL_law_213 : decode cL_law 213 = .ok (.iconst 3, 1) := by decide +kernel
theorem dL_law_214 : decode cL_law 214 = .ok (.iadd, 1) := by decide +kernel
theorem dL_law_215 : decode cL_law 215 = .ok (.iaload, 1) := by decide +kernel
theorem dL_law_216 : decode cL_law 216 = .ok (.invokevirtual 23, 3) := by decide +kernel
theorem dL_law_219 : decode cL_law 219 = .ok (.aload_n 2, 1) := by decide +kernel
theorem dL_law_220 : decode cL_law 220 = .ok (.aload_n 0, 1) := by decide +kernel
theorem dL_law_221 : decode cL_law 221 = .ok (.iload_n 3, 1) := by decide +kernel
theorem dL_law_222 : decode cL_law 222 = .ok (.iconst 1, 1) := by decide +kernel
theorem dL_law_223 : decode cL_law 223 = .ok (.iadd, 1) := by decide +kernel
theorem dL_law_224 : decode cL_law 224 = .ok (.iaload, 1) := by decide +kernel
theorem dL_law_225 : decode cL_law 225 = .ok (.aload_n 0, 1) := by decide +kernel
theorem dL_law_226 : decode cL_law 226 = .ok (.iload_n 3, 1) := by decide +kernel
theorem dL_law_227 : decode cL_law 227 = .ok (.iconst 2, 1) := by decide +kernel
theorem dL_law_228 : decode cL_law 228 = .ok (.iadd, 1) := by decide +kernel
theorem dL_law_229 : decode cL_law 229 = .ok (.iaload, 1) := by decide +kernel
theorem dL_law_230 : decode cL_law 230 = .ok (.aload_n 0, 1) := by decide +kernel
theorem dL_law_231 : decode cL_law 231 = .ok (.iload_n 3, 1) := by decide +kernel
theorem dL_law_232 : decode cL_law 232 = .ok (.iconst 3, 1) := by decide +kernel
theorem dL_law_233 : decode cL_law 233 = .ok (.iadd, 1) := by decide +kernel
theorem dL_law_234 : decode cL_law 234 = .ok (.iaload, 1) := by decide +kernel
theorem dL_law_235 : decode cL_law 235 = .ok (.invokevirtual 26, 3) := by decide +kernel
theorem dL_law_238 : decode cL_law 238 = .ok (.if_icmp .eq 455, 3) := by decide +kernel
theorem dL_law_241 : decode cL_law 241 = .ok (.iconst 0, 1) := by decide +kernel
theorem dL_law_242 : decode cL_law 242 = .ok (.ireturn, 1) := by decide +kernel
theorem dL_law_243 : decode cL_law 243 = .ok (.aload_n 1, 1) := by decide +kernel
theorem dL_law_244 : decode cL_law 244 = .ok (.aload_n 0, 1) := by decide +kernel
theorem dL_law_245 : decode cL_law 245 = .ok (.iload_n 3, 1) := by decide +kernel
theorem dL_law_246 : decode cL_law 246 = .ok (.iconst 1, 1) := by decide +kernel
theorem dL_law_247 : decode cL_law 247 = .ok (.iadd, 1) := by decide +kernel
theorem dL_law_248 : decode cL_law 248 = .ok (.iaload, 1) := by decide +kernel
theorem dL_law_249 : decode cL_law 249 = .ok (.aload_n 0, 1) := by decide +kernel
theorem dL_law_250 : decode cL_law 250 = .ok (.iload_n 3, 1) := by decide +kernel
theorem dL_law_251 : decode cL_law 251 = .ok (.iconst 2, 1) := by decide +kernel
theorem dL_law_252 : decode cL_law 252 = .ok (.iadd, 1) := by decide +kernel
theorem dL_law_253 : decode cL_law 253 = .ok (.iaload, 1) := by decide +kernel
theorem dL_law_254 : decode cL_law 254 = .ok (.aload_n 0, 1) := by decide +kernel
theorem dL_law_255 : decode cL_law 255 = .ok (.iload_n 3, 1) := by decide +kernel
theorem dL_law_256 : decode cL_law 256 = .ok (.iconst 3, 1) := by decide +kernel
theorem dL_law_257 : decode cL_law 257 = .ok (.iadd, 1) := by decide +kernel
theorem dL_law_258 : decode cL_law 258 = .ok (.iaload, 1) := by decide +kernel
theorem dL_law_259 : decode cL_law 259 = .ok (.invokevirtual 27, 3) := by decide +kernel
theorem dL_law_262 : decode cL_law 262 = .ok (.aload_n 2, 1) := by decide +kernel
theorem dL_law_263 : decode cL_law 263 = .ok (.aload_n 0, 1) := by decide +kernel
theorem dL_law_264 : decode cL_law 264 = .ok (.iload_n 3, 1) := by decide +kernel
theorem dL_law_265 : decode cL_law 265 = .ok (.iconst 1, 1) := by decide +kernel
theorem dL_law_266 : decode cL_law 266 = .ok (.iadd, 1) := by decide +kernel
theorem dL_law_267 : decode cL_law 267 = .ok (.iaload, 1) := by decide +kernel
theorem dL_law_268 : decode cL_law 268 = .ok (.aload_n 0, 1) := by decide +kernel
theorem dL_law_269 : decode cL_law 269 = .ok (.iload_n 3, 1) := by decide +kernel
theorem dL_law_270 : decode cL_law 270 = .ok (.iconst 2, 1) := by decide +kernel
theorem dL_law_271 : decode cL_law 271 = .ok (.iadd, 1) := by decide +kernel
theorem dL_law_272 : decode cL_law 272 = .ok (.iaload, 1) := by decide +kernel
theorem dL_law_273 : decode cL_law 273 = .ok (.aload_n 0, 1) := by decide +kernel
theorem dL_law_274 : decode cL_law 274 = .ok (.iload_n 3, 1) := by decide +kernel
theorem dL_law_275 : decode cL_law 275 = .ok (.iconst 3, 1) := by decide +kernel
theorem dL_law_276 : decode cL_law 276 = .ok (.iadd, 1) := by decide +kernel
theorem dL_law_277 : decode cL_law 277 = .ok (.iaload, 1) := by decide +kernel
theorem dL_law_278 : decode cL_law 278 = .ok (.invokevirtual 30, 3) := by decide +kernel
theorem dL_law_281 : decode cL_law 281 = .ok (.if_icmp .eq 412, 3) := by decide +kernel
theorem dL_law_284 : decode cL_law 284 = .ok (.iconst 0, 1) := by decide +kernel
theorem dL_law_285 : decode cL_law 285 = .ok (.ireturn, 1) := by decide +kernel
theorem dL_law_286 : decode cL_law 286 = .ok (.aload_n 1, 1) := by decide +kernel
theorem dL_law_287 : decode cL_law 287 = .ok (.aload_n 0, 1) := by decide +kernel
theorem dL_law_288 : decode cL_law 288 = .ok (.iload_n 3, 1) := by decide +kernel
theorem dL_law_289 : decode cL_law 289 = .ok (.iconst 1, 1) := by decide +kernel
theorem dL_law_290 : decode cL_law 290 = .ok (.iadd, 1) := by decide +kernel
theorem dL_law_291 : decode cL_law 291 = .ok (.iaload, 1) := by decide +kernel
theorem dL_law_292 : decode cL_law 292 = .ok (.aload_n 0, 1) := by decide +kernel
theorem dL_law_293 : decode cL_law 293 = .ok (.iload_n 3, 1) := by decide +kernel
theorem dL_law_294 : decode cL_law 294 = .ok (.iconst 2, 1) := by decide +kernel
theorem dL_law_295 : decode cL_law 295 = .ok (.iadd, 1) := by decide +kernel
theorem dL_law_296 : decode cL_law 296 = .ok (.iaload, 1) := by decide +kernel
theorem dL_law_297 : decode cL_law 297 = .ok (.invokevirtual 31, 3) := by decide +kernel
theorem dL_law_300 : decode cL_law 300 = .ok (.aload_n 2, 1) := by decide +kernel
theorem dL_law_301 : decode cL_law 301 = .ok (.aload_n 0, 1) := by decide +kernel
theorem dL_law_302 : decode cL_law 302 = .ok (.iload_n 3, 1) := by decide +kernel
theorem dL_law_303 : decode cL_law 303 = .ok (.iconst 1, 1) := by decide +kernel
theorem dL_law_304 : decode cL_law 304 = .ok (.iadd, 1) := by decide +kernel
theorem dL_law_305 : decode cL_law 305 = .ok (.iaload, 1) := by decide +kernel
theorem dL_law_306 : decode cL_law 306 = .ok (.aload_n 0, 1) := by decide +kernel
theorem dL_law_307 : decode cL_law 307 = .ok (.iload_n 3, 1) := by decide +kernel
theorem dL_law_308 : decode cL_law 308 = .ok (.iconst 2, 1) := by decide +kernel
theorem dL_law_309 : decode cL_law 309 = .ok (.iadd, 1) := by decide +kernel
theorem dL_law_310 : decode cL_law 310 = .ok (.iaload, 1) := by decide +kernel
theorem dL_law_311 : decode cL_law 311 = .ok (.invokevirtual 34, 3) := by decide +kernel
theorem dL_law_314 : decode cL_law 314 = .ok (.if_icmp .eq 379, 3) := by decide +kernel
theorem dL_law_317 : decode cL_law 317 = .ok (.iconst 0, 1) := by decide +kernel
theorem dL_law_318 : decode cL_law 318 = .ok (.ireturn, 1) := by decide +kernel
theorem dL_law_319 : decode cL_law 319 = .ok (.aload_n 1, 1) := by decide +kernel
theorem dL_law_320 : decode cL_law 320 = .ok (.aload_n 0, 1) := by decide +kernel
theorem dL_law_321 : decode cL_law 321 = .ok (.iload_n 3, 1) := by decide +kernel
theorem dL_law_322 : decode cL_law 322 = .ok (.iconst 1, 1) := by decide +kernel
theorem dL_law_323 : decode cL_law 323 = .ok (.iadd, 1) := by decide +kernel
theorem dL_law_324 : decode cL_law 324 = .ok (.iaload, 1) := by decide +kernel
theorem dL_law_325 : decode cL_law 325 = .ok (.aload_n 0, 1) := by decide +kernel
theorem dL_law_326 : decode cL_law 326 = .ok (.iload_n 3, 1) := by decide +kernel
theorem dL_law_327 : decode cL_law 327 = .ok (.iconst 2, 1) := by decide +kernel
theorem dL_law_328 : decode cL_law 328 = .ok (.iadd, 1) := by decide +kernel
theorem dL_law_329 : decode cL_law 329 = .ok (.iaload, 1) := by decide +kernel
theorem dL_law_330 : decode cL_law 330 = .ok (.aload_n 0, 1) := by decide +kernel
theorem dL_law_331 : decode cL_law 331 = .ok (.iload_n 3, 1) := by decide +kernel
theorem dL_law_332 : decode cL_law 332 = .ok (.iconst 3, 1) := by decide +kernel
theorem dL_law_333 : decode cL_law 333 = .ok (.iadd, 1) := by decide +kernel
theorem dL_law_334 : decode cL_law 334 = .ok (.iaload, 1) := by decide +kernel
theorem dL_law_335 : decode cL_law 335 = .ok (.invokevirtual 35, 3) := by decide +kernel
theorem dL_law_338 : decode cL_law 338 = .ok (.aload_n 2, 1) := by decide +kernel
theorem dL_law_339 : decode cL_law 339 = .ok (.aload_n 0, 1) := by decide +kernel
theorem dL_law_340 : decode cL_law 340 = .ok (.iload_n 3, 1) := by decide +kernel
theorem dL_law_341 : decode cL_law 341 = .ok (.iconst 1, 1) := by decide +kernel
theorem dL_law_342 : decode cL_law 342 = .ok (.iadd, 1) := by decide +kernel
theorem dL_law_343 : decode cL_law 343 = .ok (.iaload, 1) := by decide +kernel
theorem dL_law_344 : decode cL_law 344 = .ok (.aload_n 0, 1) := by decide +kernel
theorem dL_law_345 : decode cL_law 345 = .ok (.iload_n 3, 1) := by decide +kernel
theorem dL_law_346 : decode cL_law 346 = .ok (.iconst 2, 1) := by decide +kernel
theorem dL_law_347 : decode cL_law 347 = .ok (.iadd, 1) := by decide +kernel
theorem dL_law_348 : decode cL_law 348 = .ok (.iaload, 1) := by decide +kernel
theorem dL_law_349 : decode cL_law 349 = .ok (.aload_n 0, 1) := by decide +kernel
theorem dL_law_350 : decode cL_law 350 = .ok (.iload_n 3, 1) := by decide +kernel
theorem dL_law_351 : decode cL_law 351 = .ok (.iconst 3, 1) := by decide +kernel
theorem dL_law_352 : decode cL_law 352 = .ok (.iadd, 1) := by decide +kernel
theorem dL_law_353 : decode cL_law 353 = .ok (.iaload, 1) := by decide +kernel
theorem dL_law_354 : decode cL_law 354 = .ok (.invokevirtual 38, 3) := by decide +kernel
theorem dL_law_357 : decode cL_law 357 = .ok (.if_icmp .eq 336, 3) := by decide +kernel
theorem dL_law_360 : decode cL_law 360 = .ok (.iconst 0, 1) := by decide +kernel
theorem dL_law_361 : decode cL_law 361 = .ok (.ireturn, 1) := by decide +kernel
theorem dL_law_362 : decode cL_law 362 = .ok (.aload_n 1, 1) := by decide +kernel
theorem dL_law_363 : decode cL_law 363 = .ok (.aload_n 0, 1) := by decide +kernel
theorem dL_law_364 : decode cL_law 364 = .ok (.iload_n 3, 1) := by decide +kernel
theorem dL_law_365 : decode cL_law 365 = .ok (.iconst 1, 1) := by decide +kernel
theorem dL_law_366 : decode cL_law 366 = .ok (.iadd, 1) := by decide +kernel
theorem dL_law_367 : decode cL_law 367 = .ok (.iaload, 1) := by decide +kernel
theorem dL_law_368 : decode cL_law 368 = .ok (.aload_n 0, 1) := by decide +kernel
theorem dL_law_369 : decode cL_law 369 = .ok (.iload_n 3, 1) := by decide +kernel
theorem dL_law_370 : decode cL_law 370 = .ok (.iconst 2, 1) := by decide +kernel
theorem dL_law_371 : decode cL_law 371 = .ok (.iadd, 1) := by decide +kernel
theorem dL_law_372 : decode cL_law 372 = .ok (.iaload, 1) := by decide +kernel
theorem dL_law_373 : decode cL_law 373 = .ok (.invokevirtual 39, 3) := by decide +kernel
theorem dL_law_376 : decode cL_law 376 = .ok (.aload_n 2, 1) := by decide +kernel
theorem dL_law_377 : decode cL_law 377 = .ok (.aload_n 0, 1) := by decide +kernel
theorem dL_law_378 : decode cL_law 378 = .ok (.iload_n 3, 1) := by decide +kernel
theorem dL_law_379 : decode cL_law 379 = .ok (.iconst 1, 1) := by decide +kernel
theorem dL_law_380 : decode cL_law 380 = .ok (.iadd, 1) := by decide +kernel
theorem dL_law_381 : decode cL_law 381 = .ok (.iaload, 1) := by decide +kernel
theorem dL_law_382 : decode cL_law 382 = .ok (.aload_n 0, 1) := by decide +kernel
theorem dL_law_383 : decode cL_law 383 = .ok (.iload_n 3, 1) := by decide +kernel
theorem dL_law_384 : decode cL_law 384 = .ok (.iconst 2, 1) := by decide +kernel
theorem dL_law_385 : decode cL_law 385 = .ok (.iadd, 1) := by decide +kernel
theorem dL_law_386 : decode cL_law 386 = .ok (.iaload, 1) := by decide +kernel
theorem dL_law_387 : decode cL_law 387 = .ok (.invokevirtual 43, 3) := by decide +kernel
theorem dL_law_390 : decode cL_law 390 = .ok (.if_icmp .eq 303, 3) := by decide +kernel
theorem dL_law_393 : decode cL_law 393 = .ok (.iconst 0, 1) := by decide +kernel
theorem dL_law_394 : decode cL_law 394 = .ok (.ireturn, 1) := by decide +kernel
theorem dL_law_395 : decode cL_law 395 = .ok (.aload_n 1, 1) := by decide +kernel
theorem dL_law_396 : decode cL_law 396 = .ok (.aload_n 0, 1) := by decide +kernel
theorem dL_law_397 : decode cL_law 397 = .ok (.iload_n 3, 1) := by decide +kernel
theorem dL_law_398 : decode cL_law 398 = .ok (.iconst 1, 1) := by decide +kernel
theorem dL_law_399 : decode cL_law 399 = .ok (.iadd, 1) := by decide +kernel
theorem dL_law_400 : decode cL_law 400 = .ok (.iaload, 1) := by decide +kernel
theorem dL_law_401 : decode cL_law 401 = .ok (.aload_n 0, 1) := by decide +kernel
theorem dL_law_402 : decode cL_law 402 = .ok (.iload_n 3, 1) := by decide +kernel
theorem dL_law_403 : decode cL_law 403 = .ok (.iconst 2, 1) := by decide +kernel
theorem dL_law_404 : decode cL_law 404 = .ok (.iadd, 1) := by decide +kernel
theorem dL_law_405 : decode cL_law 405 = .ok (.iaload, 1) := by decide +kernel
theorem dL_law_406 : decode cL_law 406 = .ok (.invokevirtual 44, 3) := by decide +kernel
theorem dL_law_409 : decode cL_law 409 = .ok (.aload_n 2, 1) := by decide +kernel
theorem dL_law_410 : decode cL_law 410 = .ok (.aload_n 0, 1) := by decide +kernel
theorem dL_law_411 : decode cL_law 411 = .ok (.iload_n 3, 1) := by decide +kernel
theorem dL_law_412 : decode cL_law 412 = .ok (.iconst 1, 1) := by decide +kernel
theorem dL_law_413 : decode cL_law 413 = .ok (.iadd, 1) := by decide +kernel
theorem dL_law_414 : decode cL_law 414 = .ok (.iaload, 1) := by decide +kernel
theorem dL_law_415 : decode cL_law 415 = .ok (.aload_n 0, 1) := by decide +kernel
theorem dL_law_416 : decode cL_law 416 = .ok (.iload_n 3, 1) := by decide +kernel
theorem dL_law_417 : decode cL_law 417 = .ok (.iconst 2, 1) := by decide +kernel
theorem dL_law_418 : decode cL_law 418 = .ok (.iadd, 1) := by decide +kernel
theorem dL_law_419 : decode cL_law 419 = .ok (.iaload, 1) := by decide +kernel
theorem dL_law_420 : decode cL_law 420 = .ok (.invokevirtual 47, 3) := by decide +kernel
theorem dL_law_423 : decode cL_law 423 = .ok (.if_icmp .eq 270, 3) := by decide +kernel
theorem dL_law_426 : decode cL_law 426 = .ok (.iconst 0, 1) := by decide +kernel
theorem dL_law_427 : decode cL_law 427 = .ok (.ireturn, 1) := by decide +kernel
theorem dL_law_428 : decode cL_law 428 = .ok (.aload_n 1, 1) := by decide +kernel
theorem dL_law_429 : decode cL_law 429 = .ok (.aload_n 0, 1) := by decide +kernel
theorem dL_law_430 : decode cL_law 430 = .ok (.iload_n 3, 1) := by decide +kernel
theorem dL_law_431 : decode cL_law 431 = .ok (.iconst 1, 1) := by decide +kernel
theorem dL_law_432 : decode cL_law 432 = .ok (.iadd, 1) := by decide +kernel
theorem dL_law_433 : decode cL_law 433 = .ok (.iaload, 1) := by decide +kernel
theorem dL_law_434 : decode cL_law 434 = .ok (.aload_n 0, 1) := by decide +kernel
theorem dL_law_435 : decode cL_law 435 = .ok (.iload_n 3, 1) := by decide +kernel
theorem dL_law_436 : decode cL_law 436 = .ok (.iconst 2, 1) := by decide +kernel
theorem dL_law_437 : decode cL_law 437 = .ok (.iadd, 1) := by decide +kernel
theorem dL_law_438 : decode cL_law 438 = .ok (.iaload, 1) := by decide +kernel
theorem dL_law_439 : decode cL_law 439 = .ok (.invokevirtual 48, 3) := by decide +kernel
theorem dL_law_442 : decode cL_law 442 = .ok (.aload_n 2, 1) := by decide +kernel
theorem dL_law_443 : decode cL_law 443 = .ok (.aload_n 0, 1) := by decide +kernel
theorem dL_law_444 : decode cL_law 444 = .ok (.iload_n 3, 1) := by decide +kernel
theorem dL_law_445 : decode cL_law 445 = .ok (.iconst 1, 1) := by decide +kernel
theorem dL_law_446 : decode cL_law 446 = .ok (.iadd, 1) := by decide +kernel
theorem dL_law_447 : decode cL_law 447 = .ok (.iaload, 1) := by decide +kernel
theorem dL_law_448 : decode cL_law 448 = .ok (.aload_n 0, 1) := by decide +kernel
theorem dL_law_449 : decode cL_law 449 = .ok (.iload_n 3, 1) := by decide +kernel
theorem dL_law_450 : decode cL_law 450 = .ok (.iconst 2, 1) := by decide +kernel
theorem dL_law_451 : decode cL_law 451 = .ok (.iadd, 1) := by decide +kernel
theorem dL_law_452 : decode cL_law 452 = .ok (.iaload, 1) := by decide +kernel
theorem dL_law_453 : decode cL_law 453 = .ok (.invokevirtual 51, 3) := by decide +kernel
theorem dL_law_456 : decode cL_law 456 = .ok (.if_icmp .eq 237, 3) := by decide +kernel
theorem dL_law_459 : decode cL_law 459 = .ok (.iconst 0, 1) := by decide +kernel
theorem dL_law_460 : decode cL_law 460 = .ok (.ireturn, 1) := by decide +kernel
theorem dL_law_461 : decode cL_law 461 = .ok (.aload_n 1, 1) := by decide +kernel
theorem dL_law_462 : decode cL_law 462 = .ok (.invokevirtual 52, 3) := by decide +kernel
theorem dL_law_465 : decode cL_law 465 = .ok (.aload_n 2, 1) := by decide +kernel
theorem dL_law_466 : decode cL_law 466 = .ok (.invokevirtual 56, 3) := by decide +kernel
theorem dL_law_469 : decode cL_law 469 = .ok (.lcmp, 1) := by decide +kernel
theorem dL_law_470 : decode cL_law 470 = .ok (.ifCond .eq 223, 3) := by decide +kernel
theorem dL_law_473 : decode cL_law 473 = .ok (.iconst 0, 1) := by decide +kernel
theorem dL_law_474 : decode cL_law 474 = .ok (.ireturn, 1) := by decide +kernel
theorem dL_law_475 : decode cL_law 475 = .ok (.aload_n 1, 1) := by decide +kernel
theorem dL_law_476 : decode cL_law 476 = .ok (.aload_n 0, 1) := by decide +kernel
theorem dL_law_477 : decode cL_law 477 = .ok (.iload_n 3, 1) := by decide +kernel
theorem dL_law_478 : decode cL_law 478 = .ok (.iconst 1, 1) := by decide +kernel
theorem dL_law_479 : decode cL_law 479 = .ok (.iadd, 1) := by decide +kernel
theorem dL_law_480 : decode cL_law 480 = .ok (.iaload, 1) := by decide +kernel
theorem dL_law_481 : decode cL_law 481 = .ok (.invokevirtual 57, 3) := by decide +kernel
theorem dL_law_484 : decode cL_law 484 = .ok (.aload_n 2, 1) := by decide +kernel
theorem dL_law_485 : decode cL_law 485 = .ok (.aload_n 0, 1) := by decide +kernel
theorem dL_law_486 : decode cL_law 486 = .ok (.iload_n 3, 1) := by decide +kernel
theorem dL_law_487 : decode cL_law 487 = .ok (.iconst 1, 1) := by decide +kernel
theorem dL_law_488 : decode cL_law 488 = .ok (.iadd, 1) := by decide +kernel
theorem dL_law_489 : decode cL_law 489 = .ok (.iaload, 1) := by decide +kernel
theorem dL_law_490 : decode cL_law 490 = .ok (.invokevirtual 61, 3) := by decide +kernel
theorem dL_law_493 : decode cL_law 493 = .ok (.if_icmp .eq 200, 3) := by decide +kernel
theorem dL_law_496 : decode cL_law 496 = .ok (.iconst 0, 1) := by decide +kernel
theorem dL_law_497 : decode cL_law 497 = .ok (.ireturn, 1) := by decide +kernel
theorem dL_law_498 : decode cL_law 498 = .ok (.aload_n 1, 1) := by decide +kernel
theorem dL_law_499 : decode cL_law 499 = .ok (.aload_n 0, 1) := by decide +kernel
theorem dL_law_500 : decode cL_law 500 = .ok (.iload_n 3, 1) := by decide +kernel
theorem dL_law_501 : decode cL_law 501 = .ok (.iconst 1, 1) := by decide +kernel
theorem dL_law_502 : decode cL_law 502 = .ok (.iadd, 1) := by decide +kernel
theorem dL_law_503 : decode cL_law 503 = .ok (.iaload, 1) := by decide +kernel
theorem dL_law_504 : decode cL_law 504 = .ok (.invokevirtual 62, 3) := by decide +kernel
theorem dL_law_507 : decode cL_law 507 = .ok (.aload_n 2, 1) := by decide +kernel
theorem dL_law_508 : decode cL_law 508 = .ok (.aload_n 0, 1) := by decide +kernel
theorem dL_law_509 : decode cL_law 509 = .ok (.iload_n 3, 1) := by decide +kernel
theorem dL_law_510 : decode cL_law 510 = .ok (.iconst 1, 1) := by decide +kernel
theorem dL_law_511 : decode cL_law 511 = .ok (.iadd, 1) := by decide +kernel
theorem dL_law_512 : decode cL_law 512 = .ok (.iaload, 1) := by decide +kernel
theorem dL_law_513 : decode cL_law 513 = .ok (.invokevirtual 65, 3) := by decide +kernel
theorem dL_law_516 : decode cL_law 516 = .ok (.if_icmp .eq 177, 3) := by decide +kernel
theorem dL_law_519 : decode cL_law 519 = .ok (.iconst 0, 1) := by decide +kernel
theorem dL_law_520 : decode cL_law 520 = .ok (.ireturn, 1) := by decide +kernel
theorem dL_law_521 : decode cL_law 521 = .ok (.aload_n 1, 1) := by decide +kernel
theorem dL_law_522 : decode cL_law 522 = .ok (.aload_n 0, 1) := by decide +kernel
theorem dL_law_523 : decode cL_law 523 = .ok (.iload_n 3, 1) := by decide +kernel
theorem dL_law_524 : decode cL_law 524 = .ok (.iconst 1, 1) := by decide +kernel
theorem dL_law_525 : decode cL_law 525 = .ok (.iadd, 1) := by decide +kernel
theorem dL_law_526 : decode cL_law 526 = .ok (.iaload, 1) := by decide +kernel
theorem dL_law_527 : decode cL_law 527 = .ok (.invokevirtual 66, 3) := by decide +kernel
theorem dL_law_530 : decode cL_law 530 = .ok (.aload_n 2, 1) := by decide +kernel
theorem dL_law_531 : decode cL_law 531 = .ok (.aload_n 0, 1) := by decide +kernel
theorem dL_law_532 : decode cL_law 532 = .ok (.iload_n 3, 1) := by decide +kernel
theorem dL_law_533 : decode cL_law 533 = .ok (.iconst 1, 1) := by decide +kernel
theorem dL_law_534 : decode cL_law 534 = .ok (.iadd, 1) := by decide +kernel
theorem dL_law_535 : decode cL_law 535 = .ok (.iaload, 1) := by decide +kernel
theorem dL_law_536 : decode cL_law 536 = .ok (.invokevirtual 70, 3) := by decide +kernel
theorem dL_law_539 : decode cL_law 539 = .ok (.lcmp, 1) := by decide +kernel
theorem dL_law_540 : decode cL_law 540 = .ok (.ifCond .eq 153, 3) := by decide +kernel
theorem dL_law_543 : decode cL_law 543 = .ok (.iconst 0, 1) := by decide +kernel
theorem dL_law_544 : decode cL_law 544 = .ok (.ireturn, 1) := by decide +kernel
theorem dL_law_545 : decode cL_law 545 = .ok (.aload_n 1, 1) := by decide +kernel
theorem dL_law_546 : decode cL_law 546 = .ok (.aload_n 0, 1) := by decide +kernel
theorem dL_law_547 : decode cL_law 547 = .ok (.iload_n 3, 1) := by decide +kernel
theorem dL_law_548 : decode cL_law 548 = .ok (.iconst 1, 1) := by decide +kernel
theorem dL_law_549 : decode cL_law 549 = .ok (.iadd, 1) := by decide +kernel
theorem dL_law_550 : decode cL_law 550 = .ok (.iaload, 1) := by decide +kernel
theorem dL_law_551 : decode cL_law 551 = .ok (.invokevirtual 71, 3) := by decide +kernel
theorem dL_law_554 : decode cL_law 554 = .ok (.aload_n 2, 1) := by decide +kernel
theorem dL_law_555 : decode cL_law 555 = .ok (.aload_n 0, 1) := by decide +kernel
theorem dL_law_556 : decode cL_law 556 = .ok (.iload_n 3, 1) := by decide +kernel
theorem dL_law_557 : decode cL_law 557 = .ok (.iconst 1, 1) := by decide +kernel
theorem dL_law_558 : decode cL_law 558 = .ok (.iadd, 1) := by decide +kernel
theorem dL_law_559 : decode cL_law 559 = .ok (.iaload, 1) := by decide +kernel
theorem dL_law_560 : decode cL_law 560 = .ok (.invokevirtual 74, 3) := by decide +kernel
theorem dL_law_563 : decode cL_law 563 = .ok (.if_icmp .eq 130, 3) := by decide +kernel
theorem dL_law_566 : decode cL_law 566 = .ok (.iconst 0, 1) := by decide +kernel
theorem dL_law_567 : decode cL_law 567 = .ok (.ireturn, 1) := by decide +kernel
theorem dL_law_568 : decode cL_law 568 = .ok (.aload_n 1, 1) := by decide +kernel
theorem dL_law_569 : decode cL_law 569 = .ok (.aload_n 0, 1) := by decide +kernel
theorem dL_law_570 : decode cL_law 570 = .ok (.iload_n 3, 1) := by decide +kernel
theorem dL_law_571 : decode cL_law 571 = .ok (.iconst 1, 1) := by decide +kernel
theorem dL_law_572 : decode cL_law 572 = .ok (.iadd, 1) := by decide +kernel
theorem dL_law_573 : decode cL_law 573 = .ok (.iaload, 1) := by decide +kernel
theorem dL_law_574 : decode cL_law 574 = .ok (.invokevirtual 75, 3) := by decide +kernel
theorem dL_law_577 : decode cL_law 577 = .ok (.aload_n 2, 1) := by decide +kernel
theorem dL_law_578 : decode cL_law 578 = .ok (.aload_n 0, 1) := by decide +kernel
theorem dL_law_579 : decode cL_law 579 = .ok (.iload_n 3, 1) := by decide +kernel
theorem dL_law_580 : decode cL_law 580 = .ok (.iconst 1, 1) := by decide +kernel
theorem dL_law_581 : decode cL_law 581 = .ok (.iadd, 1) := by decide +kernel
theorem dL_law_582 : decode cL_law 582 = .ok (.iaload, 1) := by decide +kernel
theorem dL_law_583 : decode cL_law 583 = .ok (.invokevirtual 78, 3) := by decide +kernel
theorem dL_law_586 : decode cL_law 586 = .ok (.if_icmp .eq 107, 3) := by decide +kernel
theorem dL_law_589 : decode cL_law 589 = .ok (.iconst 0, 1) := by decide +kernel
theorem dL_law_590 : decode cL_law 590 = .ok (.ireturn, 1) := by decide +kernel
theorem dL_law_591 : decode cL_law 591 = .ok (.aload_n 1, 1) := by decide +kernel
theorem dL_law_592 : decode cL_law 592 = .ok (.aload_n 0, 1) := by decide +kernel
theorem dL_law_593 : decode cL_law 593 = .ok (.iload_n 3, 1) := by decide +kernel
theorem dL_law_594 : decode cL_law 594 = .ok (.iconst 1, 1) := by decide +kernel
theorem dL_law_595 : decode cL_law 595 = .ok (.iadd, 1) := by decide +kernel
theorem dL_law_596 : decode cL_law 596 = .ok (.iaload, 1) := by decide +kernel
theorem dL_law_597 : decode cL_law 597 = .ok (.aload_n 0, 1) := by decide +kernel
theorem dL_law_598 : decode cL_law 598 = .ok (.iload_n 3, 1) := by decide +kernel
theorem dL_law_599 : decode cL_law 599 = .ok (.iconst 2, 1) := by decide +kernel
theorem dL_law_600 : decode cL_law 600 = .ok (.iadd, 1) := by decide +kernel
theorem dL_law_601 : decode cL_law 601 = .ok (.iaload, 1) := by decide +kernel
theorem dL_law_602 : decode cL_law 602 = .ok (.invokevirtual 79, 3) := by decide +kernel
theorem dL_law_605 : decode cL_law 605 = .ok (.aload_n 2, 1) := by decide +kernel
theorem dL_law_606 : decode cL_law 606 = .ok (.aload_n 0, 1) := by decide +kernel
theorem dL_law_607 : decode cL_law 607 = .ok (.iload_n 3, 1) := by decide +kernel
theorem dL_law_608 : decode cL_law 608 = .ok (.iconst 1, 1) := by decide +kernel
theorem dL_law_609 : decode cL_law 609 = .ok (.iadd, 1) := by decide +kernel
theorem dL_law_610 : decode cL_law 610 = .ok (.iaload, 1) := by decide +kernel
theorem dL_law_611 : decode cL_law 611 = .ok (.aload_n 0, 1) := by decide +kernel
theorem dL_law_612 : decode cL_law 612 = .ok (.iload_n 3, 1) := by decide +kernel
theorem dL_law_613 : decode cL_law 613 = .ok (.iconst 2, 1) := by decide +kernel
theorem dL_law_614 : decode cL_law 614 = .ok (.iadd, 1) := by decide +kernel
theorem dL_law_615 : decode cL_law 615 = .ok (.iaload, 1) := by decide +kernel
theorem dL_law_616 : decode cL_law 616 = .ok (.invokevirtual 82, 3) := by decide +kernel
theorem dL_law_619 : decode cL_law 619 = .ok (.if_icmp .eq 74, 3) := by decide +kernel
theorem dL_law_622 : decode cL_law 622 = .ok (.iconst 0, 1) := by decide +kernel
theorem dL_law_623 : decode cL_law 623 = .ok (.ireturn, 1) := by decide +kernel
theorem dL_law_624 : decode cL_law 624 = .ok (.aload_n 1, 1) := by decide +kernel
theorem dL_law_625 : decode cL_law 625 = .ok (.aload_n 0, 1) := by decide +kernel
theorem dL_law_626 : decode cL_law 626 = .ok (.iload_n 3, 1) := by decide +kernel
theorem dL_law_627 : decode cL_law 627 = .ok (.iconst 1, 1) := by decide +kernel
theorem dL_law_628 : decode cL_law 628 = .ok (.iadd, 1) := by decide +kernel
theorem dL_law_629 : decode cL_law 629 = .ok (.iaload, 1) := by decide +kernel
theorem dL_law_630 : decode cL_law 630 = .ok (.invokevirtual 83, 3) := by decide +kernel
theorem dL_law_633 : decode cL_law 633 = .ok (.aload_n 2, 1) := by decide +kernel
theorem dL_law_634 : decode cL_law 634 = .ok (.aload_n 0, 1) := by decide +kernel
theorem dL_law_635 : decode cL_law 635 = .ok (.iload_n 3, 1) := by decide +kernel
theorem dL_law_636 : decode cL_law 636 = .ok (.iconst 1, 1) := by decide +kernel
theorem dL_law_637 : decode cL_law 637 = .ok (.iadd, 1) := by decide +kernel
theorem dL_law_638 : decode cL_law 638 = .ok (.iaload, 1) := by decide +kernel
theorem dL_law_639 : decode cL_law 639 = .ok (.invokevirtual 86, 3) := by decide +kernel
theorem dL_law_642 : decode cL_law 642 = .ok (.if_icmp .eq 51, 3) := by decide +kernel
theorem dL_law_645 : decode cL_law 645 = .ok (.iconst 0, 1) := by decide +kernel
theorem dL_law_646 : decode cL_law 646 = .ok (.ireturn, 1) := by decide +kernel
theorem dL_law_647 : decode cL_law 647 = .ok (.aload_n 1, 1) := by decide +kernel
theorem dL_law_648 : decode cL_law 648 = .ok (.aload_n 0, 1) := by decide +kernel
theorem dL_law_649 : decode cL_law 649 = .ok (.iload_n 3, 1) := by decide +kernel
theorem dL_law_650 : decode cL_law 650 = .ok (.iconst 1, 1) := by decide +kernel
theorem dL_law_651 : decode cL_law 651 = .ok (.iadd, 1) := by decide +kernel
theorem dL_law_652 : decode cL_law 652 = .ok (.iaload, 1) := by decide +kernel
theorem dL_law_653 : decode cL_law 653 = .ok (.invokevirtual 87, 3) := by decide +kernel
theorem dL_law_656 : decode cL_law 656 = .ok (.aload_n 2, 1) := by decide +kernel
theorem dL_law_657 : decode cL_law 657 = .ok (.aload_n 0, 1) := by decide +kernel
theorem dL_law_658 : decode cL_law 658 = .ok (.iload_n 3, 1) := by decide +kernel
theorem dL_law_659 : decode cL_law 659 = .ok (.iconst 1, 1) := by decide +kernel
theorem dL_law_660 : decode cL_law 660 = .ok (.iadd, 1) := by decide +kernel
theorem dL_law_661 : decode cL_law 661 = .ok (.iaload, 1) := by decide +kernel
theorem dL_law_662 : decode cL_law 662 = .ok (.invokevirtual 90, 3) := by decide +kernel
theorem dL_law_665 : decode cL_law 665 = .ok (.if_icmp .eq 28, 3) := by decide +kernel
theorem dL_law_668 : decode cL_law 668 = .ok (.iconst 0, 1) := by decide +kernel
theorem dL_law_669 : decode cL_law 669 = .ok (.ireturn, 1) := by decide +kernel
theorem dL_law_670 : decode cL_law 670 = .ok (.aload_n 1, 1) := by decide +kernel
theorem dL_law_671 : decode cL_law 671 = .ok (.aload_n 0, 1) := by decide +kernel
theorem dL_law_672 : decode cL_law 672 = .ok (.iload_n 3, 1) := by decide +kernel
theorem dL_law_673 : decode cL_law 673 = .ok (.iconst 1, 1) := by decide +kernel
theorem dL_law_674 : decode cL_law 674 = .ok (.iadd, 1) := by decide +kernel
theorem dL_law_675 : decode cL_law 675 = .ok (.iaload, 1) := by decide +kernel
theorem dL_law_676 : decode cL_law 676 = .ok (.invokevirtual 91, 3) := by decide +kernel
theorem dL_law_679 : decode cL_law 679 = .ok (.aload_n 2, 1) := by decide +kernel
theorem dL_law_680 : decode cL_law 680 = .ok (.aload_n 0, 1) := by decide +kernel
theorem dL_law_681 : decode cL_law 681 = .ok (.iload_n 3, 1) := by decide +kernel
theorem dL_law_682 : decode cL_law 682 = .ok (.iconst 1, 1) := by decide +kernel
theorem dL_law_683 : decode cL_law 683 = .ok (.iadd, 1) := by decide +kernel
theorem dL_law_684 : decode cL_law 684 = .ok (.iaload, 1) := by decide +kernel
theorem dL_law_685 : decode cL_law 685 = .ok (.invokevirtual 94, 3) := by decide +kernel
theorem dL_law_688 : decode cL_law 688 = .ok (.if_icmp .eq 5, 3) := by decide +kernel
theorem dL_law_691 : decode cL_law 691 = .ok (.iconst 0, 1) := by decide +kernel
theorem dL_law_692 : decode cL_law 692 = .ok (.ireturn, 1) := by decide +kernel
theorem dL_law_693 : decode cL_law 693 = .ok (.iinc 3 4, 3) := by decide +kernel
theorem dL_law_696 : decode cL_law 696 = .ok (.goto (-678), 3) := by decide +kernel
theorem dL_law_699 : decode cL_law 699 = .ok (.iconst 1, 1) := by decide +kernel
theorem dL_law_700 : decode cL_law 700 = .ok (.ireturn, 1) := by decide +kernel
end
section
/-! The world: every cell of the class and of the reference, in one list; a state of it is two maps (cell, place -> int; cell, place -> long). -/
abbrev zv_St : Type := (Nat → Nat → Int32) × (Nat → Nat → Int64)
abbrev zv_G : Type := Launch × va_G × (Nat → Nat) × (Nat → ClassId)
/-- a method: its code, its locals, its class, its answer's type, how deep its calls go -/
abbrev zv_M : Type := ByteArray × Nat × String × Option FieldType × Nat
abbrev zv_X : Type := Program × Env × State × MethodId × Array Value × List Frame × Method × Code × Room × Nat × Nat × (State → Prop) × (Nat → Prop)
abbrev zv_N : Nat := 76
/-- the tables' words that stay as they are; the links among nest mates -/
def zv_tb : List Cond := lw_tbl.filter goodWord
theorem zv_in {w : Cond} (i : Nat) (h : lw_tbl[i]? = some w) (g : goodWord w = true) : w ∈ zv_tb := List.mem_filter.mpr ⟨List.mem_of_getElem? h, g⟩
theorem zv_ins {ws : List Cond} (h : ∀ w ∈ ws, w ∈ lw_tbl) (g : ws.all goodWord = true) : ∀ w ∈ ws, w ∈ zv_tb := fun w hw => List.mem_filter.mpr ⟨h w hw, List.all_eq_true.mp g w hw⟩
def zv_nt : List Cond := [.methodLinkNest RX0 171 yX10_isNeeded RX10, .methodLinkNest RX4 92 yX10_isNeeded RX10, .methodLinkNest RX4 117 yX10_modulusOf RX10, .methodLinkNest RX2 25 yX10_isWithin RX10, .methodLinkNest RX7 104 yX10_isNeeded RX10]
theorem zv_nt_form : ∀ w ∈ zv_nt, ∃ (a : String) (i : Nat) (x : MethodName) (h : String), w = .methodLinkNest a i x h := by
  intro w hw
  simp only [zv_nt, List.mem_cons, List.not_mem_nil, or_false] at hw
  rcases hw with rfl | rfl | rfl | rfl | rfl <;> exact ⟨_, _, _, _, rfl⟩
def zv_nw (U : State) : Prop := ∀ w ∈ zv_nt, va_Nw w U
theorem zv_nw.warm {s U : State} (hW : s.WarmedH U.vm) (h : zv_nw s) : zv_nw U := by
  intro w hw
  obtain ⟨a, i, x, q, rfl⟩ := zv_nt_form w hw
  exact va_Nw.warmM hW (h _ hw)
theorem zv_nw.same {u U : State} (e : u.vm = U.vm) (h : zv_nw u) : zv_nw U := by
  intro w hw
  have := h w hw
  obtain ⟨a, i, x, q, rfl⟩ := zv_nt_form w hw
  exact va_Nw.same rfl e this
/-- a cell: an array (0 int, 1 boolean, 2 long; its length), or an object (its class; its fields: 0 an int, 1 a long, k + 2 the cell k) -/
def zv_tab : List ((Nat × Nat) ⊕ (Nat × List Nat)) := [
  .inr (10, [3, 7, 15, 21, 29, 33, 36, 41, 1]),
  .inr (3, [4, 5, 6]),
  .inl (0, 960),
  .inl (0, 960),
  .inl (0, 16),
  .inr (5, [0, 8, 9, 10, 11, 12, 13, 14]),
  .inl (0, 80),
  .inl (0, 80),
  .inl (0, 80),
  .inl (0, 80),
  .inl (0, 80),
  .inl (0, 640),
  .inl (0, 640),
  .inr (9, [7, 16, 18, 19, 20]),
  .inr (8, [17]),
  .inl (2, 640),
  .inl (1, 80),
  .inl (0, 80),
  .inl (1, 80),
  .inr (0, [3, 7, 15, 22, 24, 26, 27, 28, 0]),
  .inr (8, [23]),
  .inl (2, 640),
  .inr (8, [25]),
  .inl (2, 640),
  .inl (0, 80),
  .inl (0, 640),
  .inl (2, 9),
  .inr (4, [3, 7, 15, 21, 30, 31, 32]),
  .inl (0, 80),
  .inl (2, 80),
  .inl (0, 80),
  .inr (1, [34, 35, 0]),
  .inl (0, 512),
  .inl (2, 512),
  .inr (2, [37, 38, 39, 40]),
  .inl (1, 8),
  .inl (0, 8),
  .inl (0, 8),
  .inl (0, 8),
  .inr (7, [3, 7, 42, 43, 44]),
  .inl (1, 80),
  .inl (0, 80),
  .inr (6, [45, 46, 0]),
  .inl (0, 8),
  .inl (0, 8),
  .inr (11, [48, 49, 0, 50, 51, 52, 53, 54, 55, 56, 0, 57, 58, 59, 60, 61, 62, 63, 64, 65, 66, 67, 68, 69, 70, 71, 0, 1, 72, 73, 0, 74, 75, 76, 0, 0, 77]),
  .inl (0, 8192),
  .inl (0, 16),
  .inl (0, 80),
  .inl (0, 80),
  .inl (0, 80),
  .inl (0, 80),
  .inl (0, 640),
  .inl (0, 640),
  .inl (0, 80),
  .inl (0, 80),
  .inl (1, 40960),
  .inl (0, 8),
  .inl (0, 8),
  .inl (1, 8),
  .inl (0, 8),
  .inl (1, 80),
  .inl (0, 80),
  .inl (1, 80),
  .inl (1, 80),
  .inl (0, 80),
  .inl (2, 80),
  .inl (0, 640),
  .inl (0, 80),
  .inl (0, 90),
  .inl (0, 512),
  .inl (2, 512),
  .inl (0, 80),
  .inl (0, 80),
  .inl (0, 80),
  .inl (1, 80)]
theorem zv_tab_len : zv_tab.length = zv_N := by decide +kernel
def zv_v (ad : Nat → Nat) (σ : zv_St) (k i f : Nat) : Value := match f with
  | 0 => .int (σ.1 k i)
  | 1 => .long (σ.2 k i)
  | j + 2 => .ref (ad j)
def zv_f (ad : Nat → Nat) (σ : zv_St) (k : Nat) : Nat → List Nat → List Value
  | _, [] => []
  | i, f :: fl => zv_v ad σ k i f :: zv_f ad σ k (i + 1) fl
def zv_eo (ad : Nat → Nat) (cA : Nat → ClassId) (σ : zv_St) (k : Nat) : Option ((Nat × Nat) ⊕ (Nat × List Nat)) → va_E
  | some (.inl (t, n)) => .inl (cA t, n, if t = 2 then .inr (.inl (σ.2 k)) else .inl (σ.1 k))
  | some (.inr (ci, fl)) => .inr (ci, zv_f ad σ k 0 fl)
  | none => .inr (0, [])
def zv_e (ad : Nat → Nat) (cA : Nat → ClassId) (σ : zv_St) (k : Nat) : va_E := zv_eo ad cA σ k zv_tab[k]?
def zv_w (ad : Nat → Nat) (cA : Nat → ClassId) (σ : zv_St) : va_W := (List.range zv_N).map (fun k => (ad k, zv_e ad cA σ k))
theorem zv_lt {k : Nat} {x : (Nat × Nat) ⊕ (Nat × List Nat)} (h : zv_tab[k]? = some x) : k < zv_N := by
  have := (List.getElem?_eq_some_iff.mp h).1
  rw [zv_tab_len] at this; exact this
theorem zv_w_get (ad : Nat → Nat) (cA : Nat → ClassId) (σ : zv_St) {k : Nat} (h : k < zv_N) : (zv_w ad cA σ)[k]? = some (ad k, zv_e ad cA σ k) := by
  simp only [zv_w, List.getElem?_map, List.getElem?_range h, Option.map_some]
theorem zv_w_of {ad : Nat → Nat} {cA : Nat → ClassId} {σ : zv_St} {k : Nat} {x : (Nat × Nat) ⊕ (Nat × List Nat)} (h : zv_tab[k]? = some x) : (zv_w ad cA σ)[k]? = some (ad k, zv_eo ad cA σ k (some x)) := by
  rw [zv_w_get ad cA σ (zv_lt h), zv_e, h]
theorem zv_f_congr (ad : Nat → Nat) {σ σ' : zv_St} {k : Nat} (h1 : σ'.1 k = σ.1 k) (h2 : σ'.2 k = σ.2 k) : ∀ (fl : List Nat) (i : Nat), zv_f ad σ' k i fl = zv_f ad σ k i fl := by
  intro fl
  induction fl with
  | nil => intro i; rfl
  | cons f fl ih =>
    intro i
    have e : zv_v ad σ' k i f = zv_v ad σ k i f := by
      match f with
      | 0 => simp only [zv_v, h1]
      | 1 => simp only [zv_v, h2]
      | j + 2 => rfl
    simp only [zv_f, e, ih]
theorem zv_e_congr (ad : Nat → Nat) (cA : Nat → ClassId) {σ σ' : zv_St} {k : Nat} (h1 : σ'.1 k = σ.1 k) (h2 : σ'.2 k = σ.2 k) : zv_e ad cA σ' k = zv_e ad cA σ k := by
  unfold zv_e
  generalize zv_tab[k]? = o
  match o with
  | some (.inl (t, n)) => simp only [zv_eo, h1, h2]
  | some (.inr (ci, fl)) => simp only [zv_eo, zv_f_congr ad h1 h2]
  | none => rfl
theorem zv_w_set (ad : Nat → Nat) (cA : Nat → ClassId) {σ σ' : zv_St} {k : Nat} (hk : k < zv_N) (h : ∀ j, j ≠ k → σ'.1 j = σ.1 j ∧ σ'.2 j = σ.2 j) {x : va_E} (hx : x = zv_e ad cA σ' k) : (zv_w ad cA σ).set k (ad k, x) = zv_w ad cA σ' := by
  subst hx
  apply List.ext_getElem?
  intro i
  rw [List.getElem?_set]
  by_cases hik : k = i
  · subst hik
    have hl : k < (zv_w ad cA σ).length := by simp only [zv_w, List.length_map, List.length_range]; exact hk
    rw [if_pos rfl, if_pos hl, zv_w_get ad cA σ' hk]
  · rw [if_neg hik]
    by_cases hi : i < zv_N
    · rw [zv_w_get ad cA σ hi, zv_w_get ad cA σ' hi, zv_e_congr ad cA (h i (fun q => hik q.symm)).1 (h i (fun q => hik q.symm)).2]
    · have e1 : ∀ τ, (zv_w ad cA τ)[i]? = none := fun τ => by
        rw [List.getElem?_eq_none_iff]; simp only [zv_w, List.length_map, List.length_range]; exact Nat.not_lt.mp hi
      rw [e1, e1]
/-- an int, a long written -/
def zv_wi (σ : zv_St) (k i : Nat) (x : Int32) : zv_St := (fun j => if j = k then upd (σ.1 k) i x else σ.1 j, σ.2)
def zv_wl (σ : zv_St) (k i : Nat) (x : Int64) : zv_St := (σ.1, fun j => if j = k then vp_updL (σ.2 k) i x else σ.2 j)
theorem zv_wi_s (σ : zv_St) (k i : Nat) (x : Int32) : (zv_wi σ k i x).1 k = upd (σ.1 k) i x := by simp [zv_wi]
theorem zv_wi_n (σ : zv_St) {k j : Nat} (i : Nat) (x : Int32) (h : j ≠ k) : (zv_wi σ k i x).1 j = σ.1 j := by simp [zv_wi, h]
theorem zv_wl_s (σ : zv_St) (k i : Nat) (x : Int64) : (zv_wl σ k i x).2 k = vp_updL (σ.2 k) i x := by simp [zv_wl]
theorem zv_wl_n (σ : zv_St) {k j : Nat} (i : Nat) (x : Int64) (h : j ≠ k) : (zv_wl σ k i x).2 j = σ.2 j := by simp [zv_wl, h]
theorem zv_f_get (ad : Nat → Nat) (σ : zv_St) (k : Nat) : ∀ (fl : List Nat) (o i f : Nat), fl[i]? = some f → (zv_f ad σ k o fl)[i]? = some (zv_v ad σ k (o + i) f) := by
  intro fl
  induction fl with
  | nil => intro o i f h; simp at h
  | cons a fl ih =>
    intro o i f h
    match i with
    | 0 => simp only [List.getElem?_cons_zero, Option.some.injEq] at h; subst h; rfl
    | i + 1 =>
      simp only [List.getElem?_cons_succ] at h
      simp only [zv_f, List.getElem?_cons_succ]
      rw [ih (o + 1) i f h, show o + 1 + i = o + (i + 1) by omega]
theorem zv_f_len (ad : Nat → Nat) (σ : zv_St) (k : Nat) : ∀ (fl : List Nat) (o : Nat), (zv_f ad σ k o fl).length = fl.length := by
  intro fl
  induction fl with
  | nil => intro o; rfl
  | cons a fl ih => intro o; simp only [zv_f, List.length_cons, ih]
theorem zv_f_late (ad : Nat → Nat) (σ : zv_St) (k p : Nat) (x : Int32) : ∀ (fl : List Nat) (o : Nat), p < o → zv_f ad (zv_wi σ k p x) k o fl = zv_f ad σ k o fl := by
  intro fl
  induction fl with
  | nil => intro o h; rfl
  | cons a fl ih =>
    intro o h
    have e : zv_v ad (zv_wi σ k p x) k o a = zv_v ad σ k o a := by
      match a with
      | 0 => simp only [zv_v, zv_wi_s, upd, if_neg (show ¬ o = p by omega)]
      | 1 => rfl
      | j + 2 => rfl
    simp only [zv_f, e, ih (o + 1) (by omega)]
theorem zv_f_set (ad : Nat → Nat) (σ : zv_St) (k : Nat) (x : Int32) : ∀ (fl : List Nat) (o i : Nat), fl[i]? = some 0 → (zv_f ad σ k o fl).set i (.int x) = zv_f ad (zv_wi σ k (o + i) x) k o fl := by
  intro fl
  induction fl with
  | nil => intro o i h; simp at h
  | cons a fl ih =>
    intro o i h
    match i with
    | 0 =>
      simp only [List.getElem?_cons_zero, Option.some.injEq] at h; subst h
      simp only [zv_f, List.set_cons_zero, Nat.add_zero, zv_v, zv_wi_s, upd, if_true]
      rw [zv_f_late ad σ k o x fl (o + 1) (by omega)]
    | i + 1 =>
      simp only [List.getElem?_cons_succ] at h
      have e : zv_v ad (zv_wi σ k (o + (i + 1)) x) k o a = zv_v ad σ k o a := by
        match a with
        | 0 => simp only [zv_v, zv_wi_s, upd, if_neg (show ¬ o = o + (i + 1) by omega)]
        | 1 => rfl
        | j + 2 => rfl
      simp only [zv_f, List.set_cons_succ, e]
      rw [ih (o + 1) i h, show o + 1 + i = o + (i + 1) by omega]
theorem zv_f_lateL (ad : Nat → Nat) (σ : zv_St) (k p : Nat) (x : Int64) : ∀ (fl : List Nat) (o : Nat), p < o → zv_f ad (zv_wl σ k p x) k o fl = zv_f ad σ k o fl := by
  intro fl
  induction fl with
  | nil => intro o h; rfl
  | cons a fl ih =>
    intro o h
    have e : zv_v ad (zv_wl σ k p x) k o a = zv_v ad σ k o a := by
      match a with
      | 0 => rfl
      | 1 => simp only [zv_v, zv_wl_s, vp_updL, if_neg (show ¬ o = p by omega)]
      | j + 2 => rfl
    simp only [zv_f, e, ih (o + 1) (by omega)]
theorem zv_f_setL (ad : Nat → Nat) (σ : zv_St) (k : Nat) (x : Int64) : ∀ (fl : List Nat) (o i : Nat), fl[i]? = some 1 → (zv_f ad σ k o fl).set i (.long x) = zv_f ad (zv_wl σ k (o + i) x) k o fl := by
  intro fl
  induction fl with
  | nil => intro o i h; simp at h
  | cons a fl ih =>
    intro o i h
    match i with
    | 0 =>
      simp only [List.getElem?_cons_zero, Option.some.injEq] at h; subst h
      simp only [zv_f, List.set_cons_zero, Nat.add_zero, zv_v, zv_wl_s, vp_updL, if_true]
      rw [zv_f_lateL ad σ k o x fl (o + 1) (by omega)]
    | i + 1 =>
      simp only [List.getElem?_cons_succ] at h
      have e : zv_v ad (zv_wl σ k (o + (i + 1)) x) k o a = zv_v ad σ k o a := by
        match a with
        | 0 => rfl
        | 1 => simp only [zv_v, zv_wl_s, vp_updL, if_neg (show ¬ o = o + (i + 1) by omega)]
        | j + 2 => rfl
      simp only [zv_f, List.set_cons_succ, e]
      rw [ih (o + 1) i h, show o + 1 + i = o + (i + 1) by omega]
/-! The judgement. -/
abbrev zv_ty (G : zv_G) : List (ClassId × FieldType) := [(G.2.2.2 0, .int), (G.2.2.2 1, .boolean), (G.2.2.2 2, .long)]
def zv_I (G : zv_G) : Prop := ∀ i j : Nat, i < zv_N → j < zv_N → G.2.2.1 i = G.2.2.1 j → i = j
abbrev zv_P (G : zv_G) (σ : zv_St) (H : Heap) : Prop := va_P G.2.1 vwCl (zv_w G.2.2.1 G.2.2.2 σ) H
def zv_C (G : zv_G) (X : zv_X) (M : zv_M) : Prop := match X with
  | (p, _, s, m, args, _, meth, c, R, cells, slots, _, A) => p.tables.exec = Jvm.exec ∧ c.code = M.1 ∧ c.maxLocals = M.2.1 ∧ s.vm.findClass M.2.2.1 = some m.cls ∧ (∀ w ∈ zv_tb, w.before args s = true) ∧ va_K G.2.1 vwCl (zv_ty G) s ∧ zv_I G ∧ (∀ k, k < zv_N → A (G.2.2.1 k)) ∧ cells ≤ R.cells ∧ slots ≤ R.slots ∧ M.2.2.2.2 ≤ R.frames ∧ 40 * M.2.2.2.2 ≤ R.locals ∧ meth.locks = false ∧ meth.sig.returnType = M.2.2.2.1 ∧ zv_nw s
def zv_V (G : zv_G) (X : zv_X) (M : zv_M) (pc : Nat) (lv : List (Nat × Value)) (st : List Value) (σ : zv_St) : Prop := match X with
  | (p, e, s, m, args, below, meth, c, R, cells, slots, QQ, A) => ∀ (H : Heap) (locs : List Loc) (ls : Array Slot), zv_P G σ H → va_S A s.heap H locs → lv_has ls M.2.1 lv → W p G.1 e R s m args below meth c H locs cells slots QQ (F0 m pc ls st)
theorem zv_D (G : zv_G) (hI : zv_I G) {A : Nat → Prop} (hA : ∀ k, k < zv_N → A (G.2.2.1 k)) (σ : zv_St) : va_D A (zv_w G.2.2.1 G.2.2.2 σ) := by
  have key : ∀ (i : Nat) (p : Nat × va_E), (zv_w G.2.2.1 G.2.2.2 σ)[i]? = some p → i < zv_N ∧ p.1 = G.2.2.1 i := by
    intro i p h
    have hl : i < zv_N := by
      have := (List.getElem?_eq_some_iff.mp h).1
      simpa only [zv_w, List.length_map, List.length_range] using this
    rw [zv_w_get _ _ _ hl] at h
    cases h
    exact ⟨hl, rfl⟩
  refine ⟨fun i j p q hp hq hpq => ?_, fun k q hk => ?_⟩
  · obtain ⟨a1, a2⟩ := key i p hp
    obtain ⟨b1, b2⟩ := key j q hq
    exact hI i j a1 b1 (by rw [← a2, ← b2]; exact hpq)
  · obtain ⟨a1, a2⟩ := key k q hk
    rw [a2]; exact hA k a1
/-- fewer locals -/
def zv_sl (lv : List (Nat × Value)) : List (Nat × Value) → Prop
  | [] => True
  | q :: r => lv.lookup q.1 = some q.2 ∧ zv_sl lv r
theorem zv_look {lv : List (Nat × Value)} {i : Nat} {v : Value} (h : lv.lookup i = some v) : (i, v) ∈ lv := by
  induction lv with
  | nil => simp [List.lookup] at h
  | cons a t ih =>
    obtain ⟨j, w⟩ := a
    by_cases hj : i = j
    · subst hj
      simp [List.lookup] at h
      subst h
      exact List.mem_cons_self
    · have : (i == j) = false := by simpa using hj
      simp only [List.lookup, this] at h
      exact List.mem_cons_of_mem _ (ih h)
theorem zv_sl_mem {lv : List (Nat × Value)} : ∀ {lv' : List (Nat × Value)}, zv_sl lv lv' → ∀ q ∈ lv', q ∈ lv := by
  intro lv'
  induction lv' with
  | nil => intro _ q hq; cases hq
  | cons a t ih =>
    intro h q hq
    rcases List.mem_cons.mp hq with rfl | hq
    · exact zv_look h.1
    · exact ih h.2 q hq
theorem zv_lk {ls : Array Slot} {nL : Nat} {l : List (Nat × Value)} (h : lv_has ls nL l) {i : Nat} {v : Value} (hk : l.lookup i = some v) : ls[i]? = some (.val v) := h.2.2 (i, v) (zv_look hk)
section ZV
variable {G : zv_G} {X : zv_X} {M : zv_M} {pc : Nat} {lv : List (Nat × Value)} {st : List Value} {σ : zv_St}
theorem zv_go {lv' : List (Nat × Value)} (kk : zv_V G X M pc lv' st σ) (hs : zv_sl lv lv') : zv_V G X M pc lv st σ := by
  obtain ⟨p, e, s, m, args, below, meth, c, R, cells, slots, QQ, A⟩ := X
  intro H locs ls hP hS hl
  exact kk H locs ls hP hS ⟨hl.1, hl.2.1, fun q hq => hl.2.2 q (zv_sl_mem hs q hq)⟩
abbrev zv_s1 (lv : List (Nat × Value)) (i : Nat) (v : Value) : List (Nat × Value) := (i, v) :: lv.filter (fun q => !(q.1 == i) && !(q.1 + 1 == i && q.2.category == 2))
abbrev zv_s2 (lv : List (Nat × Value)) (i : Nat) (v : Value) : List (Nat × Value) := (i, v) :: lv.filter (fun q => !(q.1 == i) && (!(q.1 == i + 1) && !(q.1 + 1 == i && q.2.category == 2)))
theorem zv_iconst (hC : zv_C G X M) {n : Int} {v : Int32} (hd : decode M.1 pc = .ok (.iconst n, 1)) (hv : Int32.ofInt n = v) (kk : zv_V G X M (pc + 1) lv (.int v :: st) σ) : zv_V G X M pc lv (st) σ := by
  obtain ⟨p, e, s, m, args, below, meth, c, R, cells, slots, QQ, A⟩ := X
  obtain ⟨hx, hb, hml, hown, hts, hK, hI, hA, hc1, hc2, hf1, hf2, hlk, hrt, hnt⟩ := hC
  intro H locs ls hP hS hl
  exact lv_iconst hx hb hd hv (kk H locs ls hP hS hl)
theorem zv_bipush (hC : zv_C G X M) {n : Int} {v : Int32} (hd : decode M.1 pc = .ok (.bipush n, 2)) (hv : (Int8.ofInt n).toInt32 = v) (kk : zv_V G X M (pc + 2) lv (.int v :: st) σ) : zv_V G X M pc lv (st) σ := by
  obtain ⟨p, e, s, m, args, below, meth, c, R, cells, slots, QQ, A⟩ := X
  obtain ⟨hx, hb, hml, hown, hts, hK, hI, hA, hc1, hc2, hf1, hf2, hlk, hrt, hnt⟩ := hC
  intro H locs ls hP hS hl
  exact lv_bipush hx hb hd hv (kk H locs ls hP hS hl)
theorem zv_sipush (hC : zv_C G X M) {n : Int} {v : Int32} (hd : decode M.1 pc = .ok (.sipush n, 3)) (hv : (Int16.ofInt n).toInt32 = v) (kk : zv_V G X M (pc + 3) lv (.int v :: st) σ) : zv_V G X M pc lv (st) σ := by
  obtain ⟨p, e, s, m, args, below, meth, c, R, cells, slots, QQ, A⟩ := X
  obtain ⟨hx, hb, hml, hown, hts, hK, hI, hA, hc1, hc2, hf1, hf2, hlk, hrt, hnt⟩ := hC
  intro H locs ls hP hS hl
  exact lv_sipush hx hb hd hv (kk H locs ls hP hS hl)
theorem zv_lconst (hC : zv_C G X M) {n : Fin 2} {v : Int64} (hd : decode M.1 pc = .ok (.lconst n, 1)) (hv : Int64.ofNat (n : Nat) = v) (kk : zv_V G X M (pc + 1) lv (.long v :: st) σ) : zv_V G X M pc lv (st) σ := by
  obtain ⟨p, e, s, m, args, below, meth, c, R, cells, slots, QQ, A⟩ := X
  obtain ⟨hx, hb, hml, hown, hts, hK, hI, hA, hc1, hc2, hf1, hf2, hlk, hrt, hnt⟩ := hC
  intro H locs ls hP hS hl
  exact lv_lconst hx hb hd hv (kk H locs ls hP hS hl)
theorem zv_ldc (hC : zv_C G X M) {i : Nat} {v : Int32} (hd : decode M.1 pc = .ok (.ldc i, 2)) (hw : Cond.constant M.2.2.1 i v ∈ zv_tb) (kk : zv_V G X M (pc + 2) lv (.int v :: st) σ) : zv_V G X M pc lv (st) σ := by
  obtain ⟨p, e, s, m, args, below, meth, c, R, cells, slots, QQ, A⟩ := X
  obtain ⟨hx, hb, hml, hown, hts, hK, hI, hA, hc1, hc2, hf1, hf2, hlk, hrt, hnt⟩ := hC
  intro H locs ls hP hS hl
  exact lv_ldc hx hb hown (hts _ hw) hd (kk H locs ls hP hS hl)
theorem zv_ldc2 (hC : zv_C G X M) {i : Nat} {v : Int64} (hd : decode M.1 pc = .ok (.ldc2_w i, 3)) (hw : Cond.constantLong M.2.2.1 i v ∈ zv_tb) (kk : zv_V G X M (pc + 3) lv (.long v :: st) σ) : zv_V G X M pc lv (st) σ := by
  obtain ⟨p, e, s, m, args, below, meth, c, R, cells, slots, QQ, A⟩ := X
  obtain ⟨hx, hb, hml, hown, hts, hK, hI, hA, hc1, hc2, hf1, hf2, hlk, hrt, hnt⟩ := hC
  intro H locs ls hP hS hl
  exact lv_ldc2 hx hb hown (hts _ hw) hd (kk H locs ls hP hS hl)
theorem zv_iload_n (hC : zv_C G X M) {k : Fin 4} {x : Int32} (hd : decode M.1 pc = .ok (.iload_n k, 1)) (hk : lv.lookup (k : Nat) = some (.int x)) (kk : zv_V G X M (pc + 1) lv (.int x :: st) σ) : zv_V G X M pc lv (st) σ := by
  obtain ⟨p, e, s, m, args, below, meth, c, R, cells, slots, QQ, A⟩ := X
  obtain ⟨hx, hb, hml, hown, hts, hK, hI, hA, hc1, hc2, hf1, hf2, hlk, hrt, hnt⟩ := hC
  intro H locs ls hP hS hl
  exact lv_iload_n hx hb hd rfl (zv_lk hl hk) (kk H locs ls hP hS hl)
theorem zv_iload (hC : zv_C G X M) {i : Nat} {x : Int32} (hd : decode M.1 pc = .ok (.iload i, 2)) (hk : lv.lookup i = some (.int x)) (kk : zv_V G X M (pc + 2) lv (.int x :: st) σ) : zv_V G X M pc lv (st) σ := by
  obtain ⟨p, e, s, m, args, below, meth, c, R, cells, slots, QQ, A⟩ := X
  obtain ⟨hx, hb, hml, hown, hts, hK, hI, hA, hc1, hc2, hf1, hf2, hlk, hrt, hnt⟩ := hC
  intro H locs ls hP hS hl
  exact lv_iload hx hb hd (zv_lk hl hk) (kk H locs ls hP hS hl)
theorem zv_lload_n (hC : zv_C G X M) {k : Fin 4} {x : Int64} (hd : decode M.1 pc = .ok (.lload_n k, 1)) (hk : lv.lookup (k : Nat) = some (.long x)) (kk : zv_V G X M (pc + 1) lv (.long x :: st) σ) : zv_V G X M pc lv (st) σ := by
  obtain ⟨p, e, s, m, args, below, meth, c, R, cells, slots, QQ, A⟩ := X
  obtain ⟨hx, hb, hml, hown, hts, hK, hI, hA, hc1, hc2, hf1, hf2, hlk, hrt, hnt⟩ := hC
  intro H locs ls hP hS hl
  exact lv_lload_n hx hb hd rfl (zv_lk hl hk) (kk H locs ls hP hS hl)
theorem zv_lload (hC : zv_C G X M) {i : Nat} {x : Int64} (hd : decode M.1 pc = .ok (.lload i, 2)) (hk : lv.lookup i = some (.long x)) (kk : zv_V G X M (pc + 2) lv (.long x :: st) σ) : zv_V G X M pc lv (st) σ := by
  obtain ⟨p, e, s, m, args, below, meth, c, R, cells, slots, QQ, A⟩ := X
  obtain ⟨hx, hb, hml, hown, hts, hK, hI, hA, hc1, hc2, hf1, hf2, hlk, hrt, hnt⟩ := hC
  intro H locs ls hP hS hl
  exact lv_lload hx hb hd (zv_lk hl hk) (kk H locs ls hP hS hl)
theorem zv_aload_n (hC : zv_C G X M) {k : Fin 4} {x : Nat} (hd : decode M.1 pc = .ok (.aload_n k, 1)) (hk : lv.lookup (k : Nat) = some (.ref x)) (kk : zv_V G X M (pc + 1) lv (.ref x :: st) σ) : zv_V G X M pc lv (st) σ := by
  obtain ⟨p, e, s, m, args, below, meth, c, R, cells, slots, QQ, A⟩ := X
  obtain ⟨hx, hb, hml, hown, hts, hK, hI, hA, hc1, hc2, hf1, hf2, hlk, hrt, hnt⟩ := hC
  intro H locs ls hP hS hl
  exact lv_aload_n hx hb hd rfl (zv_lk hl hk) (kk H locs ls hP hS hl)
theorem zv_aload (hC : zv_C G X M) {i : Nat} {x : Nat} (hd : decode M.1 pc = .ok (.aload i, 2)) (hk : lv.lookup i = some (.ref x)) (kk : zv_V G X M (pc + 2) lv (.ref x :: st) σ) : zv_V G X M pc lv (st) σ := by
  obtain ⟨p, e, s, m, args, below, meth, c, R, cells, slots, QQ, A⟩ := X
  obtain ⟨hx, hb, hml, hown, hts, hK, hI, hA, hc1, hc2, hf1, hf2, hlk, hrt, hnt⟩ := hC
  intro H locs ls hP hS hl
  exact lv_aload hx hb hd (zv_lk hl hk) (kk H locs ls hP hS hl)
theorem zv_istore_n (hC : zv_C G X M) {k : Fin 4} {x : Int32} (hd : decode M.1 pc = .ok (.istore_n k, 1)) (hn : (k : Nat) < M.2.1) (kk : zv_V G X M (pc + 1) (zv_s1 lv (k : Nat) (.int x)) st σ) : zv_V G X M pc lv (.int x :: st) σ := by
  obtain ⟨p, e, s, m, args, below, meth, c, R, cells, slots, QQ, A⟩ := X
  obtain ⟨hx, hb, hml, hown, hts, hK, hI, hA, hc1, hc2, hf1, hf2, hlk, hrt, hnt⟩ := hC
  intro H locs ls hP hS hl
  exact lv_istore_n hx hb hd rfl hl hn rfl (fun ls hl => (kk H locs ls hP hS hl))
theorem zv_istore (hC : zv_C G X M) {i : Nat} {x : Int32} (hd : decode M.1 pc = .ok (.istore i, 2)) (hn : i < M.2.1) (kk : zv_V G X M (pc + 2) (zv_s1 lv i (.int x)) st σ) : zv_V G X M pc lv (.int x :: st) σ := by
  obtain ⟨p, e, s, m, args, below, meth, c, R, cells, slots, QQ, A⟩ := X
  obtain ⟨hx, hb, hml, hown, hts, hK, hI, hA, hc1, hc2, hf1, hf2, hlk, hrt, hnt⟩ := hC
  intro H locs ls hP hS hl
  exact lv_istore hx hb hd hl hn rfl (fun ls hl => (kk H locs ls hP hS hl))
theorem zv_lstore_n (hC : zv_C G X M) {k : Fin 4} {x : Int64} (hd : decode M.1 pc = .ok (.lstore_n k, 1)) (hn : (k : Nat) + 1 < M.2.1) (kk : zv_V G X M (pc + 1) (zv_s2 lv (k : Nat) (.long x)) st σ) : zv_V G X M pc lv (.long x :: st) σ := by
  obtain ⟨p, e, s, m, args, below, meth, c, R, cells, slots, QQ, A⟩ := X
  obtain ⟨hx, hb, hml, hown, hts, hK, hI, hA, hc1, hc2, hf1, hf2, hlk, hrt, hnt⟩ := hC
  intro H locs ls hP hS hl
  exact lv_lstore_n hx hb hd rfl hl hn rfl (fun ls hl => (kk H locs ls hP hS hl))
theorem zv_lstore (hC : zv_C G X M) {i : Nat} {x : Int64} (hd : decode M.1 pc = .ok (.lstore i, 2)) (hn : i + 1 < M.2.1) (kk : zv_V G X M (pc + 2) (zv_s2 lv i (.long x)) st σ) : zv_V G X M pc lv (.long x :: st) σ := by
  obtain ⟨p, e, s, m, args, below, meth, c, R, cells, slots, QQ, A⟩ := X
  obtain ⟨hx, hb, hml, hown, hts, hK, hI, hA, hc1, hc2, hf1, hf2, hlk, hrt, hnt⟩ := hC
  intro H locs ls hP hS hl
  exact lv_lstore hx hb hd hl hn rfl (fun ls hl => (kk H locs ls hP hS hl))
theorem zv_astore_n (hC : zv_C G X M) {k : Fin 4} {x : Nat} (hd : decode M.1 pc = .ok (.astore_n k, 1)) (hn : (k : Nat) < M.2.1) (kk : zv_V G X M (pc + 1) (zv_s1 lv (k : Nat) (.ref x)) st σ) : zv_V G X M pc lv (.ref x :: st) σ := by
  obtain ⟨p, e, s, m, args, below, meth, c, R, cells, slots, QQ, A⟩ := X
  obtain ⟨hx, hb, hml, hown, hts, hK, hI, hA, hc1, hc2, hf1, hf2, hlk, hrt, hnt⟩ := hC
  intro H locs ls hP hS hl
  exact lv_astore_n hx hb hd rfl hl hn rfl (fun ls hl => (kk H locs ls hP hS hl))
theorem zv_astore (hC : zv_C G X M) {i : Nat} {x : Nat} (hd : decode M.1 pc = .ok (.astore i, 2)) (hn : i < M.2.1) (kk : zv_V G X M (pc + 2) (zv_s1 lv i (.ref x)) st σ) : zv_V G X M pc lv (.ref x :: st) σ := by
  obtain ⟨p, e, s, m, args, below, meth, c, R, cells, slots, QQ, A⟩ := X
  obtain ⟨hx, hb, hml, hown, hts, hK, hI, hA, hc1, hc2, hf1, hf2, hlk, hrt, hnt⟩ := hC
  intro H locs ls hP hS hl
  exact lv_astore hx hb hd hl hn rfl (fun ls hl => (kk H locs ls hP hS hl))
theorem zv_iinc (hC : zv_C G X M) {i : Nat} {n : Int} {x v : Int32} (hd : decode M.1 pc = .ok (.iinc i n, 3)) (hk : lv.lookup i = some (.int x)) (hv : Int32.ofInt n = v) (hn : i < M.2.1) (kk : zv_V G X M (pc + 3) (zv_s1 lv i (.int (x + v))) st σ) : zv_V G X M pc lv st σ := by
  obtain ⟨p, e, s, m, args, below, meth, c, R, cells, slots, QQ, A⟩ := X
  obtain ⟨hx, hb, hml, hown, hts, hK, hI, hA, hc1, hc2, hf1, hf2, hlk, hrt, hnt⟩ := hC
  intro H locs ls hP hS hl
  obtain ⟨k, hk'⟩ := List.getElem?_of_mem (zv_look hk)
  subst hv
  exact lv_iinc hx hb hd hl hk' rfl hn rfl (fun ls hl => (kk H locs ls hP hS hl))
theorem zv_iadd (hC : zv_C G X M) {x y : Int32} (hd : decode M.1 pc = .ok (.iadd, 1)) (kk : zv_V G X M (pc + 1) lv (.int (x + y) :: st) σ) : zv_V G X M pc lv (.int y :: .int x :: st) σ := by
  obtain ⟨p, e, s, m, args, below, meth, c, R, cells, slots, QQ, A⟩ := X
  obtain ⟨hx, hb, hml, hown, hts, hK, hI, hA, hc1, hc2, hf1, hf2, hlk, hrt, hnt⟩ := hC
  intro H locs ls hP hS hl
  exact lv_iadd hx hb hd (kk H locs ls hP hS hl)
theorem zv_isub (hC : zv_C G X M) {x y : Int32} (hd : decode M.1 pc = .ok (.isub, 1)) (kk : zv_V G X M (pc + 1) lv (.int (x - y) :: st) σ) : zv_V G X M pc lv (.int y :: .int x :: st) σ := by
  obtain ⟨p, e, s, m, args, below, meth, c, R, cells, slots, QQ, A⟩ := X
  obtain ⟨hx, hb, hml, hown, hts, hK, hI, hA, hc1, hc2, hf1, hf2, hlk, hrt, hnt⟩ := hC
  intro H locs ls hP hS hl
  exact lv_isub hx hb hd (kk H locs ls hP hS hl)
theorem zv_imul (hC : zv_C G X M) {x y : Int32} (hd : decode M.1 pc = .ok (.imul, 1)) (kk : zv_V G X M (pc + 1) lv (.int (x * y) :: st) σ) : zv_V G X M pc lv (.int y :: .int x :: st) σ := by
  obtain ⟨p, e, s, m, args, below, meth, c, R, cells, slots, QQ, A⟩ := X
  obtain ⟨hx, hb, hml, hown, hts, hK, hI, hA, hc1, hc2, hf1, hf2, hlk, hrt, hnt⟩ := hC
  intro H locs ls hP hS hl
  exact lv_imul hx hb hd (kk H locs ls hP hS hl)
theorem zv_iand (hC : zv_C G X M) {x y : Int32} (hd : decode M.1 pc = .ok (.iand, 1)) (kk : zv_V G X M (pc + 1) lv (.int (x &&& y) :: st) σ) : zv_V G X M pc lv (.int y :: .int x :: st) σ := by
  obtain ⟨p, e, s, m, args, below, meth, c, R, cells, slots, QQ, A⟩ := X
  obtain ⟨hx, hb, hml, hown, hts, hK, hI, hA, hc1, hc2, hf1, hf2, hlk, hrt, hnt⟩ := hC
  intro H locs ls hP hS hl
  exact lv_iand hx hb hd (kk H locs ls hP hS hl)
theorem zv_ishr (hC : zv_C G X M) {x y : Int32} (hd : decode M.1 pc = .ok (.ishr, 1)) (kk : zv_V G X M (pc + 1) lv (.int (x >>> (y &&& 31)) :: st) σ) : zv_V G X M pc lv (.int y :: .int x :: st) σ := by
  obtain ⟨p, e, s, m, args, below, meth, c, R, cells, slots, QQ, A⟩ := X
  obtain ⟨hx, hb, hml, hown, hts, hK, hI, hA, hc1, hc2, hf1, hf2, hlk, hrt, hnt⟩ := hC
  intro H locs ls hP hS hl
  exact lv_ishr hx hb hd (kk H locs ls hP hS hl)
theorem zv_ishl (hC : zv_C G X M) {x y : Int32} (hd : decode M.1 pc = .ok (.ishl, 1)) (kk : zv_V G X M (pc + 1) lv (.int (x <<< (y &&& 31)) :: st) σ) : zv_V G X M pc lv (.int y :: .int x :: st) σ := by
  obtain ⟨p, e, s, m, args, below, meth, c, R, cells, slots, QQ, A⟩ := X
  obtain ⟨hx, hb, hml, hown, hts, hK, hI, hA, hc1, hc2, hf1, hf2, hlk, hrt, hnt⟩ := hC
  intro H locs ls hP hS hl
  exact lv_ishl hx hb hd (kk H locs ls hP hS hl)
theorem zv_idiv (hC : zv_C G X M) {x y : Int32} (hd : decode M.1 pc = .ok (.idiv, 1)) (hne : ¬ y = 0) (kk : zv_V G X M (pc + 1) lv (.int (x / y) :: st) σ) : zv_V G X M pc lv (.int y :: .int x :: st) σ := by
  obtain ⟨p, e, s, m, args, below, meth, c, R, cells, slots, QQ, A⟩ := X
  obtain ⟨hx, hb, hml, hown, hts, hK, hI, hA, hc1, hc2, hf1, hf2, hlk, hrt, hnt⟩ := hC
  intro H locs ls hP hS hl
  exact lv_idiv hx hb hd hne (kk H locs ls hP hS hl)
theorem zv_irem (hC : zv_C G X M) {x y : Int32} (hd : decode M.1 pc = .ok (.irem, 1)) (hne : ¬ y = 0) (kk : zv_V G X M (pc + 1) lv (.int (x - x / y * y) :: st) σ) : zv_V G X M pc lv (.int y :: .int x :: st) σ := by
  obtain ⟨p, e, s, m, args, below, meth, c, R, cells, slots, QQ, A⟩ := X
  obtain ⟨hx, hb, hml, hown, hts, hK, hI, hA, hc1, hc2, hf1, hf2, hlk, hrt, hnt⟩ := hC
  intro H locs ls hP hS hl
  exact lv_irem hx hb hd hne (kk H locs ls hP hS hl)
theorem zv_ladd (hC : zv_C G X M) {x y : Int64} (hd : decode M.1 pc = .ok (.ladd, 1)) (kk : zv_V G X M (pc + 1) lv (.long (x + y) :: st) σ) : zv_V G X M pc lv (.long y :: .long x :: st) σ := by
  obtain ⟨p, e, s, m, args, below, meth, c, R, cells, slots, QQ, A⟩ := X
  obtain ⟨hx, hb, hml, hown, hts, hK, hI, hA, hc1, hc2, hf1, hf2, hlk, hrt, hnt⟩ := hC
  intro H locs ls hP hS hl
  exact lv_ladd hx hb hd (kk H locs ls hP hS hl)
theorem zv_lsub (hC : zv_C G X M) {x y : Int64} (hd : decode M.1 pc = .ok (.lsub, 1)) (kk : zv_V G X M (pc + 1) lv (.long (x - y) :: st) σ) : zv_V G X M pc lv (.long y :: .long x :: st) σ := by
  obtain ⟨p, e, s, m, args, below, meth, c, R, cells, slots, QQ, A⟩ := X
  obtain ⟨hx, hb, hml, hown, hts, hK, hI, hA, hc1, hc2, hf1, hf2, hlk, hrt, hnt⟩ := hC
  intro H locs ls hP hS hl
  exact lv_lsub hx hb hd (kk H locs ls hP hS hl)
theorem zv_lmul (hC : zv_C G X M) {x y : Int64} (hd : decode M.1 pc = .ok (.lmul, 1)) (kk : zv_V G X M (pc + 1) lv (.long (x * y) :: st) σ) : zv_V G X M pc lv (.long y :: .long x :: st) σ := by
  obtain ⟨p, e, s, m, args, below, meth, c, R, cells, slots, QQ, A⟩ := X
  obtain ⟨hx, hb, hml, hown, hts, hK, hI, hA, hc1, hc2, hf1, hf2, hlk, hrt, hnt⟩ := hC
  intro H locs ls hP hS hl
  exact lv_lmul hx hb hd (kk H locs ls hP hS hl)
theorem zv_land (hC : zv_C G X M) {x y : Int64} (hd : decode M.1 pc = .ok (.land, 1)) (kk : zv_V G X M (pc + 1) lv (.long (x &&& y) :: st) σ) : zv_V G X M pc lv (.long y :: .long x :: st) σ := by
  obtain ⟨p, e, s, m, args, below, meth, c, R, cells, slots, QQ, A⟩ := X
  obtain ⟨hx, hb, hml, hown, hts, hK, hI, hA, hc1, hc2, hf1, hf2, hlk, hrt, hnt⟩ := hC
  intro H locs ls hP hS hl
  exact lv_land hx hb hd (kk H locs ls hP hS hl)
theorem zv_lor (hC : zv_C G X M) {x y : Int64} (hd : decode M.1 pc = .ok (.lor, 1)) (kk : zv_V G X M (pc + 1) lv (.long (x ||| y) :: st) σ) : zv_V G X M pc lv (.long y :: .long x :: st) σ := by
  obtain ⟨p, e, s, m, args, below, meth, c, R, cells, slots, QQ, A⟩ := X
  obtain ⟨hx, hb, hml, hown, hts, hK, hI, hA, hc1, hc2, hf1, hf2, hlk, hrt, hnt⟩ := hC
  intro H locs ls hP hS hl
  exact lv_lor hx hb hd (kk H locs ls hP hS hl)
theorem zv_lxor (hC : zv_C G X M) {x y : Int64} (hd : decode M.1 pc = .ok (.lxor, 1)) (kk : zv_V G X M (pc + 1) lv (.long (x ^^^ y) :: st) σ) : zv_V G X M pc lv (.long y :: .long x :: st) σ := by
  obtain ⟨p, e, s, m, args, below, meth, c, R, cells, slots, QQ, A⟩ := X
  obtain ⟨hx, hb, hml, hown, hts, hK, hI, hA, hc1, hc2, hf1, hf2, hlk, hrt, hnt⟩ := hC
  intro H locs ls hP hS hl
  exact lv_lxor hx hb hd (kk H locs ls hP hS hl)
theorem zv_ldiv (hC : zv_C G X M) {x y : Int64} (hd : decode M.1 pc = .ok (.ldiv, 1)) (hne : ¬ y = 0) (kk : zv_V G X M (pc + 1) lv (.long (x / y) :: st) σ) : zv_V G X M pc lv (.long y :: .long x :: st) σ := by
  obtain ⟨p, e, s, m, args, below, meth, c, R, cells, slots, QQ, A⟩ := X
  obtain ⟨hx, hb, hml, hown, hts, hK, hI, hA, hc1, hc2, hf1, hf2, hlk, hrt, hnt⟩ := hC
  intro H locs ls hP hS hl
  exact lv_ldiv hx hb hd hne (kk H locs ls hP hS hl)
theorem zv_lshl (hC : zv_C G X M) {x : Int64} {y : Int32} (hd : decode M.1 pc = .ok (.lshl, 1)) (kk : zv_V G X M (pc + 1) lv (.long (x <<< (y.toInt64 &&& 63)) :: st) σ) : zv_V G X M pc lv (.int y :: .long x :: st) σ := by
  obtain ⟨p, e, s, m, args, below, meth, c, R, cells, slots, QQ, A⟩ := X
  obtain ⟨hx, hb, hml, hown, hts, hK, hI, hA, hc1, hc2, hf1, hf2, hlk, hrt, hnt⟩ := hC
  intro H locs ls hP hS hl
  exact lv_lshl hx hb hd rfl (kk H locs ls hP hS hl)
theorem zv_lushr (hC : zv_C G X M) {x : Int64} {y : Int32} (hd : decode M.1 pc = .ok (.lushr, 1)) (kk : zv_V G X M (pc + 1) lv (.long (x.toUInt64 >>> (y.toInt64.toUInt64 &&& Int64.toUInt64 63)).toInt64 :: st) σ) : zv_V G X M pc lv (.int y :: .long x :: st) σ := by
  obtain ⟨p, e, s, m, args, below, meth, c, R, cells, slots, QQ, A⟩ := X
  obtain ⟨hx, hb, hml, hown, hts, hK, hI, hA, hc1, hc2, hf1, hf2, hlk, hrt, hnt⟩ := hC
  intro H locs ls hP hS hl
  exact lv_lushr hx hb hd rfl (kk H locs ls hP hS hl)
theorem zv_i2l (hC : zv_C G X M) {x : Int32} (hd : decode M.1 pc = .ok (.i2l, 1)) (kk : zv_V G X M (pc + 1) lv (.long x.toInt64 :: st) σ) : zv_V G X M pc lv (.int x :: st) σ := by
  obtain ⟨p, e, s, m, args, below, meth, c, R, cells, slots, QQ, A⟩ := X
  obtain ⟨hx, hb, hml, hown, hts, hK, hI, hA, hc1, hc2, hf1, hf2, hlk, hrt, hnt⟩ := hC
  intro H locs ls hP hS hl
  exact lv_i2l hx hb hd rfl (kk H locs ls hP hS hl)
theorem zv_lcmp (hC : zv_C G X M) {x y : Int64} (hd : decode M.1 pc = .ok (.lcmp, 1)) (kk : zv_V G X M (pc + 1) lv (.int (lg_cmp x y) :: st) σ) : zv_V G X M pc lv (.long y :: .long x :: st) σ := by
  obtain ⟨p, e, s, m, args, below, meth, c, R, cells, slots, QQ, A⟩ := X
  obtain ⟨hx, hb, hml, hown, hts, hK, hI, hA, hc1, hc2, hf1, hf2, hlk, hrt, hnt⟩ := hC
  intro H locs ls hP hS hl
  exact W.lcmp hx hb hd (kk H locs ls hP hS hl)
theorem zv_dup (hC : zv_C G X M) {v : Value} (hd : decode M.1 pc = .ok (.dup, 1)) (hv : v.category = 1) (kk : zv_V G X M (pc + 1) lv (v :: v :: st) σ) : zv_V G X M pc lv (v :: st) σ := by
  obtain ⟨p, e, s, m, args, below, meth, c, R, cells, slots, QQ, A⟩ := X
  obtain ⟨hx, hb, hml, hown, hts, hK, hI, hA, hc1, hc2, hf1, hf2, hlk, hrt, hnt⟩ := hC
  intro H locs ls hP hS hl
  exact lv_dup hx hb hd hv (kk H locs ls hP hS hl)
theorem zv_pop (hC : zv_C G X M) {v : Value} (hd : decode M.1 pc = .ok (.pop, 1)) (hv : v.category = 1) (kk : zv_V G X M (pc + 1) lv (st) σ) : zv_V G X M pc lv (v :: st) σ := by
  obtain ⟨p, e, s, m, args, below, meth, c, R, cells, slots, QQ, A⟩ := X
  obtain ⟨hx, hb, hml, hown, hts, hK, hI, hA, hc1, hc2, hf1, hf2, hlk, hrt, hnt⟩ := hC
  intro H locs ls hP hS hl
  exact lv_pop hx hb hd hv (kk H locs ls hP hS hl)
theorem zv_dup2 (hC : zv_C G X M) {v w : Value} (hd : decode M.1 pc = .ok (.dup2, 1)) (hv : v.category = 1) (hw : w.category = 1) (kk : zv_V G X M (pc + 1) lv (v :: w :: v :: w :: st) σ) : zv_V G X M pc lv (v :: w :: st) σ := by
  obtain ⟨p, e, s, m, args, below, meth, c, R, cells, slots, QQ, A⟩ := X
  obtain ⟨hx, hb, hml, hown, hts, hK, hI, hA, hc1, hc2, hf1, hf2, hlk, hrt, hnt⟩ := hC
  intro H locs ls hP hS hl
  exact lv_dup2_11 hx hb hd hv hw (kk H locs ls hP hS hl)
theorem zv_if_eq (hC : zv_C G X M) {x : Int32} {off : Int} {tgt : Nat} (hd : decode M.1 pc = .ok (.ifCond .eq off, 3)) (ht : (pc : Int) + off = (tgt : Int)) (kt : x = 0 → zv_V G X M (tgt) lv (st) σ) (kf : ¬ x = 0 → zv_V G X M (pc + 3) lv (st) σ) : zv_V G X M pc lv (.int x :: st) σ := by
  obtain ⟨p, e, s, m, args, below, meth, c, R, cells, slots, QQ, A⟩ := X
  obtain ⟨hx, hb, hml, hown, hts, hK, hI, hA, hc1, hc2, hf1, hf2, hlk, hrt, hnt⟩ := hC
  intro H locs ls hP hS hl
  exact lv_if_eq hx hb hd ht (fun q => kt q H locs ls hP hS hl) (fun q => kf q H locs ls hP hS hl)
theorem zv_icmp_eq (hC : zv_C G X M) {x y : Int32} {off : Int} {tgt : Nat} (hd : decode M.1 pc = .ok (.if_icmp .eq off, 3)) (ht : (pc : Int) + off = (tgt : Int)) (kt : x = y → zv_V G X M (tgt) lv (st) σ) (kf : ¬ x = y → zv_V G X M (pc + 3) lv (st) σ) : zv_V G X M pc lv (.int y :: .int x :: st) σ := by
  obtain ⟨p, e, s, m, args, below, meth, c, R, cells, slots, QQ, A⟩ := X
  obtain ⟨hx, hb, hml, hown, hts, hK, hI, hA, hc1, hc2, hf1, hf2, hlk, hrt, hnt⟩ := hC
  intro H locs ls hP hS hl
  exact lv_icmp_eq hx hb hd ht (fun q => kt q H locs ls hP hS hl) (fun q => kf q H locs ls hP hS hl)
theorem zv_if_ne (hC : zv_C G X M) {x : Int32} {off : Int} {tgt : Nat} (hd : decode M.1 pc = .ok (.ifCond .ne off, 3)) (ht : (pc : Int) + off = (tgt : Int)) (kt : ¬ x = 0 → zv_V G X M (tgt) lv (st) σ) (kf : x = 0 → zv_V G X M (pc + 3) lv (st) σ) : zv_V G X M pc lv (.int x :: st) σ := by
  obtain ⟨p, e, s, m, args, below, meth, c, R, cells, slots, QQ, A⟩ := X
  obtain ⟨hx, hb, hml, hown, hts, hK, hI, hA, hc1, hc2, hf1, hf2, hlk, hrt, hnt⟩ := hC
  intro H locs ls hP hS hl
  exact lv_if_ne hx hb hd ht (fun q => kt q H locs ls hP hS hl) (fun q => kf q H locs ls hP hS hl)
theorem zv_icmp_ne (hC : zv_C G X M) {x y : Int32} {off : Int} {tgt : Nat} (hd : decode M.1 pc = .ok (.if_icmp .ne off, 3)) (ht : (pc : Int) + off = (tgt : Int)) (kt : ¬ x = y → zv_V G X M (tgt) lv (st) σ) (kf : x = y → zv_V G X M (pc + 3) lv (st) σ) : zv_V G X M pc lv (.int y :: .int x :: st) σ := by
  obtain ⟨p, e, s, m, args, below, meth, c, R, cells, slots, QQ, A⟩ := X
  obtain ⟨hx, hb, hml, hown, hts, hK, hI, hA, hc1, hc2, hf1, hf2, hlk, hrt, hnt⟩ := hC
  intro H locs ls hP hS hl
  exact lv_icmp_ne hx hb hd ht (fun q => kt q H locs ls hP hS hl) (fun q => kf q H locs ls hP hS hl)
theorem zv_if_lt (hC : zv_C G X M) {x : Int32} {off : Int} {tgt : Nat} (hd : decode M.1 pc = .ok (.ifCond .lt off, 3)) (ht : (pc : Int) + off = (tgt : Int)) (kt : x < 0 → zv_V G X M (tgt) lv (st) σ) (kf : ¬ x < 0 → zv_V G X M (pc + 3) lv (st) σ) : zv_V G X M pc lv (.int x :: st) σ := by
  obtain ⟨p, e, s, m, args, below, meth, c, R, cells, slots, QQ, A⟩ := X
  obtain ⟨hx, hb, hml, hown, hts, hK, hI, hA, hc1, hc2, hf1, hf2, hlk, hrt, hnt⟩ := hC
  intro H locs ls hP hS hl
  exact lv_if_lt hx hb hd ht (fun q => kt q H locs ls hP hS hl) (fun q => kf q H locs ls hP hS hl)
theorem zv_icmp_lt (hC : zv_C G X M) {x y : Int32} {off : Int} {tgt : Nat} (hd : decode M.1 pc = .ok (.if_icmp .lt off, 3)) (ht : (pc : Int) + off = (tgt : Int)) (kt : x < y → zv_V G X M (tgt) lv (st) σ) (kf : ¬ x < y → zv_V G X M (pc + 3) lv (st) σ) : zv_V G X M pc lv (.int y :: .int x :: st) σ := by
  obtain ⟨p, e, s, m, args, below, meth, c, R, cells, slots, QQ, A⟩ := X
  obtain ⟨hx, hb, hml, hown, hts, hK, hI, hA, hc1, hc2, hf1, hf2, hlk, hrt, hnt⟩ := hC
  intro H locs ls hP hS hl
  exact lv_icmp_lt hx hb hd ht (fun q => kt q H locs ls hP hS hl) (fun q => kf q H locs ls hP hS hl)
theorem zv_if_ge (hC : zv_C G X M) {x : Int32} {off : Int} {tgt : Nat} (hd : decode M.1 pc = .ok (.ifCond .ge off, 3)) (ht : (pc : Int) + off = (tgt : Int)) (kt : 0 ≤ x → zv_V G X M (tgt) lv (st) σ) (kf : ¬ 0 ≤ x → zv_V G X M (pc + 3) lv (st) σ) : zv_V G X M pc lv (.int x :: st) σ := by
  obtain ⟨p, e, s, m, args, below, meth, c, R, cells, slots, QQ, A⟩ := X
  obtain ⟨hx, hb, hml, hown, hts, hK, hI, hA, hc1, hc2, hf1, hf2, hlk, hrt, hnt⟩ := hC
  intro H locs ls hP hS hl
  exact lv_if_ge hx hb hd ht (fun q => kt q H locs ls hP hS hl) (fun q => kf q H locs ls hP hS hl)
theorem zv_icmp_ge (hC : zv_C G X M) {x y : Int32} {off : Int} {tgt : Nat} (hd : decode M.1 pc = .ok (.if_icmp .ge off, 3)) (ht : (pc : Int) + off = (tgt : Int)) (kt : y ≤ x → zv_V G X M (tgt) lv (st) σ) (kf : ¬ y ≤ x → zv_V G X M (pc + 3) lv (st) σ) : zv_V G X M pc lv (.int y :: .int x :: st) σ := by
  obtain ⟨p, e, s, m, args, below, meth, c, R, cells, slots, QQ, A⟩ := X
  obtain ⟨hx, hb, hml, hown, hts, hK, hI, hA, hc1, hc2, hf1, hf2, hlk, hrt, hnt⟩ := hC
  intro H locs ls hP hS hl
  exact lv_icmp_ge hx hb hd ht (fun q => kt q H locs ls hP hS hl) (fun q => kf q H locs ls hP hS hl)
theorem zv_if_gt (hC : zv_C G X M) {x : Int32} {off : Int} {tgt : Nat} (hd : decode M.1 pc = .ok (.ifCond .gt off, 3)) (ht : (pc : Int) + off = (tgt : Int)) (kt : 0 < x → zv_V G X M (tgt) lv (st) σ) (kf : ¬ 0 < x → zv_V G X M (pc + 3) lv (st) σ) : zv_V G X M pc lv (.int x :: st) σ := by
  obtain ⟨p, e, s, m, args, below, meth, c, R, cells, slots, QQ, A⟩ := X
  obtain ⟨hx, hb, hml, hown, hts, hK, hI, hA, hc1, hc2, hf1, hf2, hlk, hrt, hnt⟩ := hC
  intro H locs ls hP hS hl
  exact lv_if_gt hx hb hd ht (fun q => kt q H locs ls hP hS hl) (fun q => kf q H locs ls hP hS hl)
theorem zv_icmp_gt (hC : zv_C G X M) {x y : Int32} {off : Int} {tgt : Nat} (hd : decode M.1 pc = .ok (.if_icmp .gt off, 3)) (ht : (pc : Int) + off = (tgt : Int)) (kt : y < x → zv_V G X M (tgt) lv (st) σ) (kf : ¬ y < x → zv_V G X M (pc + 3) lv (st) σ) : zv_V G X M pc lv (.int y :: .int x :: st) σ := by
  obtain ⟨p, e, s, m, args, below, meth, c, R, cells, slots, QQ, A⟩ := X
  obtain ⟨hx, hb, hml, hown, hts, hK, hI, hA, hc1, hc2, hf1, hf2, hlk, hrt, hnt⟩ := hC
  intro H locs ls hP hS hl
  exact lv_icmp_gt hx hb hd ht (fun q => kt q H locs ls hP hS hl) (fun q => kf q H locs ls hP hS hl)
theorem zv_if_le (hC : zv_C G X M) {x : Int32} {off : Int} {tgt : Nat} (hd : decode M.1 pc = .ok (.ifCond .le off, 3)) (ht : (pc : Int) + off = (tgt : Int)) (kt : x ≤ 0 → zv_V G X M (tgt) lv (st) σ) (kf : ¬ x ≤ 0 → zv_V G X M (pc + 3) lv (st) σ) : zv_V G X M pc lv (.int x :: st) σ := by
  obtain ⟨p, e, s, m, args, below, meth, c, R, cells, slots, QQ, A⟩ := X
  obtain ⟨hx, hb, hml, hown, hts, hK, hI, hA, hc1, hc2, hf1, hf2, hlk, hrt, hnt⟩ := hC
  intro H locs ls hP hS hl
  exact lv_if_le hx hb hd ht (fun q => kt q H locs ls hP hS hl) (fun q => kf q H locs ls hP hS hl)
theorem zv_icmp_le (hC : zv_C G X M) {x y : Int32} {off : Int} {tgt : Nat} (hd : decode M.1 pc = .ok (.if_icmp .le off, 3)) (ht : (pc : Int) + off = (tgt : Int)) (kt : x ≤ y → zv_V G X M (tgt) lv (st) σ) (kf : ¬ x ≤ y → zv_V G X M (pc + 3) lv (st) σ) : zv_V G X M pc lv (.int y :: .int x :: st) σ := by
  obtain ⟨p, e, s, m, args, below, meth, c, R, cells, slots, QQ, A⟩ := X
  obtain ⟨hx, hb, hml, hown, hts, hK, hI, hA, hc1, hc2, hf1, hf2, hlk, hrt, hnt⟩ := hC
  intro H locs ls hP hS hl
  exact lv_icmp_le hx hb hd ht (fun q => kt q H locs ls hP hS hl) (fun q => kf q H locs ls hP hS hl)
theorem zv_goto (hC : zv_C G X M) {off : Int} {tgt : Nat} (hd : decode M.1 pc = .ok (.goto off, 3)) (ht : (pc : Int) + off = (tgt : Int)) (kk : zv_V G X M (tgt) lv (st) σ) : zv_V G X M pc lv (st) σ := by
  obtain ⟨p, e, s, m, args, below, meth, c, R, cells, slots, QQ, A⟩ := X
  obtain ⟨hx, hb, hml, hown, hts, hK, hI, hA, hc1, hc2, hf1, hf2, hlk, hrt, hnt⟩ := hC
  intro H locs ls hP hS hl
  exact lv_goto hx hb hd ht (kk H locs ls hP hS hl)
theorem zv_table (hC : zv_C G X M) {dflt lo hi : Int} {offs : Array Int} {len : Nat} {x : Int32} {off : Int} {tgt : Nat} (hd : decode M.1 pc = .ok (.tableswitch dflt lo hi offs, len)) (h1 : ¬ x.toInt < lo) (h2 : ¬ hi < x.toInt) (ho : offs[(x.toInt - lo).toNat]? = some off) (ht : (pc : Int) + off = (tgt : Int)) (kk : zv_V G X M (tgt) lv (st) σ) : zv_V G X M pc lv (.int x :: st) σ := by
  obtain ⟨p, e, s, m, args, below, meth, c, R, cells, slots, QQ, A⟩ := X
  obtain ⟨hx, hb, hml, hown, hts, hK, hI, hA, hc1, hc2, hf1, hf2, hlk, hrt, hnt⟩ := hC
  intro H locs ls hP hS hl
  exact lv_tableIn hx hb hd h1 h2 ho ht (kk H locs ls hP hS hl)
theorem zv_tableD (hC : zv_C G X M) {dflt lo hi : Int} {offs : Array Int} {len : Nat} {x : Int32} {tgt : Nat} (hd : decode M.1 pc = .ok (.tableswitch dflt lo hi offs, len)) (h : x.toInt < lo ∨ hi < x.toInt) (ht : (pc : Int) + dflt = (tgt : Int)) (kk : zv_V G X M (tgt) lv (st) σ) : zv_V G X M pc lv (.int x :: st) σ := by
  obtain ⟨p, e, s, m, args, below, meth, c, R, cells, slots, QQ, A⟩ := X
  obtain ⟨hx, hb, hml, hown, hts, hK, hI, hA, hc1, hc2, hf1, hf2, hlk, hrt, hnt⟩ := hC
  intro H locs ls hP hS hl
  exact lv_tableOut hx hb hd h ht (kk H locs ls hP hS hl)
theorem zv_lookup (hC : zv_C G X M) {dflt : Int} {ps : Array (Int × Int)} {len : Nat} {x : Int32} {off : Int} {tgt : Nat} (hd : decode M.1 pc = .ok (.lookupswitch dflt ps, len)) (hp : (ps.toList.zip (ps.toList.drop 1)).all (fun (a, next) => a.1 < next.1) = true) (ho : Op.lookupswitch.offset ps.toList dflt x.toInt = off) (ht : (pc : Int) + off = (tgt : Int)) (kk : zv_V G X M (tgt) lv (st) σ) : zv_V G X M pc lv (.int x :: st) σ := by
  obtain ⟨p, e, s, m, args, below, meth, c, R, cells, slots, QQ, A⟩ := X
  obtain ⟨hx, hb, hml, hown, hts, hK, hI, hA, hc1, hc2, hf1, hf2, hlk, hrt, hnt⟩ := hC
  intro H locs ls hP hS hl
  exact lv_lookup hx hb hd hp ho ht (kk H locs ls hP hS hl)
/-- a field of an object, named by entry 'idx' of the class 'own': class number ci, place i -/
def zv_FL (own : String) (idx ci i : Nat) : Prop := ∃ (C : String) (T : u_T) (N : Nat), vwCl[ci]? = some (C, T, N) ∧ i < N ∧ (∀ w ∈ u_ws C T N, w ∈ zv_tb) ∧ Cond.fieldLink own idx (T i).1 (T i).2.1 (T i).2.2.1 ∈ zv_tb
def zv_FP (own : String) (idx ci i : Nat) (ty : FieldType) : Prop := ∃ (C : String) (T : u_T) (N : Nat) (ty0 : Nat → FieldType), vwCl[ci]? = some (C, T, N) ∧ i < N ∧ (∀ w ∈ u_ws C T N, w ∈ zv_tb) ∧ Cond.fieldLink own idx (T i).1 (T i).2.1 (T i).2.2.1 ∈ zv_tb ∧ (∀ k, k < N → parseFieldDescriptor (T k).2.2.1 = some (ty0 k)) ∧ (∀ a, a < N → ∀ b, b < N → a ≠ b → (T a).2.1 ≠ (T b).2.1) ∧ (T i).2.2.2 = false ∧ parseFieldDescriptor (T i).2.2.1 = some ty
theorem zv_get (hC : zv_C G X M) {idx ci i k f : Nat} {fl : List Nat} {v : Value} (hF : zv_FL M.2.2.1 idx ci i) (hd : decode M.1 pc = .ok (.getfield idx, 3)) (hk : zv_tab[k]? = some (.inr (ci, fl))) (hf : fl[i]? = some f) (hv : zv_v G.2.2.1 σ k i f = v) (kk : zv_V G X M (pc + 3) lv (v :: st) σ) : zv_V G X M pc lv (.ref (G.2.2.1 k) :: st) σ := by
  obtain ⟨p, e, s, m, args, below, meth, c, R, cells, slots, QQ, A⟩ := X
  obtain ⟨hx, hb, hml, hown, hts, hK, hI, hA, hc1, hc2, hf1, hf2, hlk, hrt, hnt⟩ := hC
  intro H locs ls hP hS hl
  obtain ⟨C, T, N, h1, h2, h3, h4⟩ := hF
  subst hv
  refine va_get (ci := ci) hx hb hts h3 hown hK hP k (zv_w_of hk) h1 i h2 (hts _ h4) (fun _ h9 => h9) ?_ hd (kk H locs ls hP hS hl)
  have := zv_f_get G.2.2.1 σ k fl 0 i f hf
  rwa [Nat.zero_add] at this
theorem zv_getR (hC : zv_C G X M) {idx ci i k j : Nat} {fl : List Nat} (hF : zv_FL M.2.2.1 idx ci i) (hd : decode M.1 pc = .ok (.getfield idx, 3)) (hk : zv_tab[k]? = some (.inr (ci, fl))) (hf : fl[i]? = some (j + 2)) (kk : zv_V G X M (pc + 3) lv (.ref (G.2.2.1 j) :: st) σ) : zv_V G X M pc lv (.ref (G.2.2.1 k) :: st) σ := zv_get hC hF hd hk hf rfl kk
theorem zv_getI (hC : zv_C G X M) {idx ci i k : Nat} {fl : List Nat} (hF : zv_FL M.2.2.1 idx ci i) (hd : decode M.1 pc = .ok (.getfield idx, 3)) (hk : zv_tab[k]? = some (.inr (ci, fl))) (hf : fl[i]? = some 0) (kk : zv_V G X M (pc + 3) lv (.int (σ.1 k i) :: st) σ) : zv_V G X M pc lv (.ref (G.2.2.1 k) :: st) σ := zv_get hC hF hd hk hf rfl kk
theorem zv_getL (hC : zv_C G X M) {idx ci i k : Nat} {fl : List Nat} (hF : zv_FL M.2.2.1 idx ci i) (hd : decode M.1 pc = .ok (.getfield idx, 3)) (hk : zv_tab[k]? = some (.inr (ci, fl))) (hf : fl[i]? = some 1) (kk : zv_V G X M (pc + 3) lv (.long (σ.2 k i) :: st) σ) : zv_V G X M pc lv (.ref (G.2.2.1 k) :: st) σ := zv_get hC hF hd hk hf rfl kk
theorem zv_putI (hC : zv_C G X M) {idx ci i k : Nat} {fl : List Nat} {ty : FieldType} {x : Int32} (hF : zv_FP M.2.2.1 idx ci i ty) (hd : decode M.1 pc = .ok (.putfield idx, 3)) (hk : zv_tab[k]? = some (.inr (ci, fl))) (hf : fl[i]? = some 0) (hn : narrow ty (.int x) = .int x) (hfit : fits ty (.int x) = true) (kk : zv_V G X M (pc + 3) lv st (zv_wi σ k i x)) : zv_V G X M pc lv (.int x :: .ref (G.2.2.1 k) :: st) σ := by
  obtain ⟨p, e, s, m, args, below, meth, c, R, cells, slots, QQ, A⟩ := X
  obtain ⟨hx, hb, hml, hown, hts, hK, hI, hA, hc1, hc2, hf1, hf2, hlk, hrt, hnt⟩ := hC
  intro H locs ls hP hS hl
  obtain ⟨C, T, N, ty0, h1, h2, h3, h4, h5, h6, h7, h8⟩ := hF
  have hD := zv_D G hI hA σ
  have hlen : i < (zv_f G.2.2.1 σ k 0 fl).length := by rw [zv_f_len]; exact (List.getElem?_eq_some_iff.mp hf).1
  refine va_put (ci := ci) hx hb hts h3 ty0 h5 h6 hown hK hP hD hS k (zv_w_of hk) h1 i h2 (hts _ h4) (fun _ h9 => h9) h7 h8 hn hfit hlen hd (fun H1 locs1 hP1 hD1 hS1 => ?_)
  refine kk H1 locs1 ls ?_ hS1 hl
  have e := zv_f_set G.2.2.1 σ k x fl 0 i hf
  rw [Nat.zero_add] at e
  rw [zv_w_set G.2.2.1 G.2.2.2 (σ := σ) (σ' := zv_wi σ k i x) (zv_lt hk) (fun j hj => ⟨zv_wi_n σ i x hj, rfl⟩) (by rw [e, zv_e, hk]; rfl)] at hP1
  exact hP1
theorem zv_putL (hC : zv_C G X M) {idx ci i k : Nat} {fl : List Nat} {ty : FieldType} {x : Int64} (hF : zv_FP M.2.2.1 idx ci i ty) (hd : decode M.1 pc = .ok (.putfield idx, 3)) (hk : zv_tab[k]? = some (.inr (ci, fl))) (hf : fl[i]? = some 1) (hn : narrow ty (.long x) = .long x) (hfit : fits ty (.long x) = true) (kk : zv_V G X M (pc + 3) lv st (zv_wl σ k i x)) : zv_V G X M pc lv (.long x :: .ref (G.2.2.1 k) :: st) σ := by
  obtain ⟨p, e, s, m, args, below, meth, c, R, cells, slots, QQ, A⟩ := X
  obtain ⟨hx, hb, hml, hown, hts, hK, hI, hA, hc1, hc2, hf1, hf2, hlk, hrt, hnt⟩ := hC
  intro H locs ls hP hS hl
  obtain ⟨C, T, N, ty0, h1, h2, h3, h4, h5, h6, h7, h8⟩ := hF
  have hD := zv_D G hI hA σ
  have hlen : i < (zv_f G.2.2.1 σ k 0 fl).length := by rw [zv_f_len]; exact (List.getElem?_eq_some_iff.mp hf).1
  refine va_put (ci := ci) hx hb hts h3 ty0 h5 h6 hown hK hP hD hS k (zv_w_of hk) h1 i h2 (hts _ h4) (fun _ h9 => h9) h7 h8 hn hfit hlen hd (fun H1 locs1 hP1 hD1 hS1 => ?_)
  refine kk H1 locs1 ls ?_ hS1 hl
  have e := zv_f_setL G.2.2.1 σ k x fl 0 i hf
  rw [Nat.zero_add] at e
  rw [zv_w_set G.2.2.1 G.2.2.2 (σ := σ) (σ' := zv_wl σ k i x) (zv_lt hk) (fun j hj => ⟨rfl, zv_wl_n σ i x hj⟩) (by rw [e, zv_e, hk]; rfl)] at hP1
  exact hP1
theorem zv_iald (hC : zv_C G X M) {k n : Nat} {i : Int32} (hd : decode M.1 pc = .ok (.iaload, 1)) (hk : zv_tab[k]? = some (.inl (0, n))) (hin : vp_in i n) (kk : zv_V G X M (pc + 1) lv (.int (σ.1 k i.toNatClampNeg) :: st) σ) : zv_V G X M pc lv (.int i :: .ref (G.2.2.1 k) :: st) σ := by
  obtain ⟨p, e, s, m, args, below, meth, c, R, cells, slots, QQ, A⟩ := X
  obtain ⟨hx, hb, hml, hown, hts, hK, hI, hA, hc1, hc2, hf1, hf2, hlk, hrt, hnt⟩ := hC
  intro H locs ls hP hS hl
  exact va_iald hx hb hK hP k 0 (zv_w_of hk) rfl hin hd (kk H locs ls hP hS hl)
theorem zv_zald (hC : zv_C G X M) {k n : Nat} {i : Int32} (hd : decode M.1 pc = .ok (.baload, 1)) (hk : zv_tab[k]? = some (.inl (1, n))) (hin : vp_in i n) (kk : zv_V G X M (pc + 1) lv (.int (σ.1 k i.toNatClampNeg) :: st) σ) : zv_V G X M pc lv (.int i :: .ref (G.2.2.1 k) :: st) σ := by
  obtain ⟨p, e, s, m, args, below, meth, c, R, cells, slots, QQ, A⟩ := X
  obtain ⟨hx, hb, hml, hown, hts, hK, hI, hA, hc1, hc2, hf1, hf2, hlk, hrt, hnt⟩ := hC
  intro H locs ls hP hS hl
  exact va_zald hx hb hK hP k 1 (zv_w_of hk) rfl hin hd (kk H locs ls hP hS hl)
theorem zv_lald (hC : zv_C G X M) {k n : Nat} {i : Int32} (hd : decode M.1 pc = .ok (.laload, 1)) (hk : zv_tab[k]? = some (.inl (2, n))) (hin : vp_in i n) (kk : zv_V G X M (pc + 1) lv (.long (σ.2 k i.toNatClampNeg) :: st) σ) : zv_V G X M pc lv (.int i :: .ref (G.2.2.1 k) :: st) σ := by
  obtain ⟨p, e, s, m, args, below, meth, c, R, cells, slots, QQ, A⟩ := X
  obtain ⟨hx, hb, hml, hown, hts, hK, hI, hA, hc1, hc2, hf1, hf2, hlk, hrt, hnt⟩ := hC
  intro H locs ls hP hS hl
  exact va_lald hx hb hK hP k 2 (zv_w_of hk) rfl hin hd (kk H locs ls hP hS hl)
theorem zv_iast (hC : zv_C G X M) {k n : Nat} {i x : Int32} (hd : decode M.1 pc = .ok (.iastore, 1)) (hk : zv_tab[k]? = some (.inl (0, n))) (hin : vp_in i n) (kk : zv_V G X M (pc + 1) lv st (zv_wi σ k i.toNatClampNeg x)) : zv_V G X M pc lv (.int x :: .int i :: .ref (G.2.2.1 k) :: st) σ := by
  obtain ⟨p, e, s, m, args, below, meth, c, R, cells, slots, QQ, A⟩ := X
  obtain ⟨hx, hb, hml, hown, hts, hK, hI, hA, hc1, hc2, hf1, hf2, hlk, hrt, hnt⟩ := hC
  intro H locs ls hP hS hl
  refine va_iast hx hb hK hP (zv_D G hI hA σ) hS k 0 (zv_w_of hk) rfl hin hd (fun H1 locs1 hP1 hD1 hS1 => ?_)
  refine kk H1 locs1 ls ?_ hS1 hl
  rw [zv_w_set G.2.2.1 G.2.2.2 (σ := σ) (σ' := zv_wi σ k i.toNatClampNeg x) (zv_lt hk) (fun j hj => ⟨zv_wi_n σ _ _ hj, rfl⟩) (by rw [zv_e, hk, zv_eo, zv_wi_s]; rfl)] at hP1
  exact hP1
theorem zv_zast (hC : zv_C G X M) {k n : Nat} {i x : Int32} (hd : decode M.1 pc = .ok (.bastore, 1)) (hk : zv_tab[k]? = some (.inl (1, n))) (hin : vp_in i n) (kk : zv_V G X M (pc + 1) lv st (zv_wi σ k i.toNatClampNeg (vp_nar .boolean x))) : zv_V G X M pc lv (.int x :: .int i :: .ref (G.2.2.1 k) :: st) σ := by
  obtain ⟨p, e, s, m, args, below, meth, c, R, cells, slots, QQ, A⟩ := X
  obtain ⟨hx, hb, hml, hown, hts, hK, hI, hA, hc1, hc2, hf1, hf2, hlk, hrt, hnt⟩ := hC
  intro H locs ls hP hS hl
  refine va_zast hx hb hK hP (zv_D G hI hA σ) hS k 1 (zv_w_of hk) rfl hin hd (fun H1 locs1 hP1 hD1 hS1 => ?_)
  refine kk H1 locs1 ls ?_ hS1 hl
  rw [zv_w_set G.2.2.1 G.2.2.2 (σ := σ) (σ' := zv_wi σ k i.toNatClampNeg (vp_nar .boolean x)) (zv_lt hk) (fun j hj => ⟨zv_wi_n σ _ _ hj, rfl⟩) (by rw [zv_e, hk, zv_eo, zv_wi_s]; rfl)] at hP1
  exact hP1
theorem zv_last (hC : zv_C G X M) {k n : Nat} {i : Int32} {x : Int64} (hd : decode M.1 pc = .ok (.lastore, 1)) (hk : zv_tab[k]? = some (.inl (2, n))) (hin : vp_in i n) (kk : zv_V G X M (pc + 1) lv st (zv_wl σ k i.toNatClampNeg x)) : zv_V G X M pc lv (.long x :: .int i :: .ref (G.2.2.1 k) :: st) σ := by
  obtain ⟨p, e, s, m, args, below, meth, c, R, cells, slots, QQ, A⟩ := X
  obtain ⟨hx, hb, hml, hown, hts, hK, hI, hA, hc1, hc2, hf1, hf2, hlk, hrt, hnt⟩ := hC
  intro H locs ls hP hS hl
  refine va_last hx hb hK hP (zv_D G hI hA σ) hS k 2 (zv_w_of hk) rfl hin hd (fun H1 locs1 hP1 hD1 hS1 => ?_)
  refine kk H1 locs1 ls ?_ hS1 hl
  rw [zv_w_set G.2.2.1 G.2.2.2 (σ := σ) (σ' := zv_wl σ k i.toNatClampNeg x) (zv_lt hk) (fun j hj => ⟨rfl, zv_wl_n σ _ _ hj⟩) (by rw [zv_e, hk, zv_eo, zv_wl_s]; rfl)] at hP1
  exact hP1
theorem zv_alen (hC : zv_C G X M) {k t n : Nat} {v : Int32} (hd : decode M.1 pc = .ok (.arraylength, 1)) (hk : zv_tab[k]? = some (.inl (t, n))) (ht : t < 3) (hv : Int32.ofNat n = v) (kk : zv_V G X M (pc + 1) lv (.int v :: st) σ) : zv_V G X M pc lv (.ref (G.2.2.1 k) :: st) σ := by
  obtain ⟨p, e, s, m, args, below, meth, c, R, cells, slots, QQ, A⟩ := X
  obtain ⟨hx, hb, hml, hown, hts, hK, hI, hA, hc1, hc2, hf1, hf2, hlk, hrt, hnt⟩ := hC
  intro H locs ls hP hS hl
  rcases (show t = 0 ∨ t = 1 ∨ t = 2 by omega) with rfl | rfl | rfl
  · exact va_alen hx hb hK hP k 0 (zv_w_of hk) rfl hv hd (kk H locs ls hP hS hl)
  · exact va_alen hx hb hK hP k 1 (zv_w_of hk) rfl hv hd (kk H locs ls hP hS hl)
  · exact va_alen hx hb hK hP k 2 (zv_w_of hk) rfl hv hd (kk H locs ls hP hS hl)
/-! Contracts and calls. -/
def zv_A (G : zv_G) : Nat → Prop := fun q => ∃ k, k < zv_N ∧ q = G.2.2.1 k
def zv_B (G : zv_G) (σ : zv_St) (U : State) : Prop := zv_P G σ U.heap ∧ va_K G.2.1 vwCl (zv_ty G) U ∧ zv_I G ∧ zv_nw U
def zv_q (G : zv_G) (QV : Option Value → zv_St → Prop) : Array Value → State → Outcome → State → Prop := fun _ st oc t => (∃ (r : Option Value) (σ' : zv_St), oc = .returned r ∧ QV r σ' ∧ zv_B G σ' t) ∧ va_F (zv_A G) st t
def zv_rm (d : Nat) : Room := { frames := d, cells := 0, slots := 0, locals := 40 * d }
def zv_ws (y : MethodName) (M : zv_M) : List Cond := Cond.code y M.1 M.2.1 M.2.2.2.1 :: zv_tb
def zv_OK (G : zv_G) (M : zv_M) (y : MethodName) (as : List Value) (σ : zv_St) (QV : Option Value → zv_St → Prop) : Prop := Met G.1 y (zv_ws y M) (zv_rm M.2.2.2.2) (va_Pc as (fun U => zv_B G σ U)) (zv_q G QV) 0 0 (zv_A G)
def zv_qi (Q : Int32 → zv_St → Prop) : Option Value → zv_St → Prop := fun r σ => ∃ v, r = some (.int v) ∧ Q v σ
def zv_ql (Q : Int64 → zv_St → Prop) : Option Value → zv_St → Prop := fun r σ => ∃ v, r = some (.long v) ∧ Q v σ
def zv_qv (Q : zv_St → Prop) : Option Value → zv_St → Prop := fun r σ => r = none ∧ Q σ
def zv_qr (a : Nat) (Q : zv_St → Prop) : Option Value → zv_St → Prop := fun r σ => r = some (.ref a) ∧ Q σ
/-- a return from here is right -/
def zv_R (G : zv_G) (X : zv_X) (M : zv_M) (QV : Option Value → zv_St → Prop) : Prop := ∀ (pc : Nat) (lv : List (Nat × Value)) (σ : zv_St),
  (∀ v : Int32, M.2.2.2.1 = some .int → decode M.1 pc = .ok (.ireturn, 1) → QV (some (.int v)) σ → zv_V G X M pc lv [.int v] σ) ∧
  (∀ v : Int32, M.2.2.2.1 = some .boolean → narrow .boolean (.int v) = .int v → decode M.1 pc = .ok (.ireturn, 1) → QV (some (.int v)) σ → zv_V G X M pc lv [.int v] σ) ∧
  (∀ v : Int64, M.2.2.2.1 = some .long → decode M.1 pc = .ok (.lreturn, 1) → QV (some (.long v)) σ → zv_V G X M pc lv [.long v] σ) ∧
  (M.2.2.2.1 = none → decode M.1 pc = .ok (.return_, 1) → QV none σ → zv_V G X M pc lv [] σ) ∧
  (∀ (a : Nat) (n : String), M.2.2.2.1 = some (.object n) → decode M.1 pc = .ok (.areturn, 1) → QV (some (.ref a)) σ → zv_V G X M pc lv [.ref a] σ)
theorem zv_ok (G : zv_G) (M : zv_M) (y : MethodName) (as : List Value) (σ : zv_St) (QV : Option Value → zv_St → Prop) (hy : plainFor y = true) (hown : y.cls = M.2.2.1) (hlen : (lg_sl as).length ≤ M.2.1)
    (body : ∀ X, zv_C G X M → zv_R G X M QV → zv_V G X M 0 (lv_args 0 as) [] σ) : zv_OK G M y as σ QV := by
  refine va_MetF (cc := M.1) (maxL := M.2.1) (ret := M.2.2.2.1) hy rfl ?_
  intro p e s m args below meth c s₁ B hml hv
  obtain ⟨rfl, hP, hK, hI, hnt⟩ := hv
  have hts := atoms_spec (ws := zv_ws y M) B.pre
  have hown' : s.vm.findClass M.2.2.1 = some m.cls := by rw [← hown]; exact findClass_of_methodNamed B.named
  have hS : va_S (zv_A G) s.heap s.heap [] := va_S.rf
  have hl := lv_entry as (n := M.2.1) hlen
  rw [lg_entry_eq]
  refine body (p, e, s, m, as.toArray, below, meth, c, zv_rm M.2.2.2.2, 0, 0, MQ below (zv_q G QV) as.toArray s 0 0 (zv_A G), zv_A G) ⟨B.exec, B.bytes, hml, hown', fun w h => hts w (List.mem_cons_of_mem _ h), hK, hI, fun k hk => ⟨k, hk, rfl⟩, Nat.zero_le _, Nat.zero_le _, Nat.le_refl _, Nat.le_refl _, B.notSynchronized, B.returns, hnt⟩ ?_ s.heap [] _ hP hS hl
  intro pc lv σ'
  refine ⟨?_, ?_, ?_, ?_, ?_⟩
  · intro v hr hd hq H locs ls hP1 hS1 hl1
    exact W.iret B.exec B.bytes (B.returns.trans hr) (fun t ht hW => ⟨⟨some (.int v), σ', rfl, hq, by rw [ht]; exact hP1, va_K.moved hW.alike hK, hI, hnt.warm hW⟩, hS1.F ht⟩) hS1.2.2 hd B.notSynchronized
  · intro v hr hn hd hq H locs ls hP1 hS1 hl1
    exact W.zret B.exec B.bytes (B.returns.trans hr) hn (fun t ht hW => ⟨⟨some (.int v), σ', rfl, hq, by rw [ht]; exact hP1, va_K.moved hW.alike hK, hI, hnt.warm hW⟩, hS1.F ht⟩) hS1.2.2 hd B.notSynchronized
  · intro v hr hd hq H locs ls hP1 hS1 hl1
    exact W.lret B.exec B.bytes (B.returns.trans hr) (fun t ht hW => ⟨⟨some (.long v), σ', rfl, hq, by rw [ht]; exact hP1, va_K.moved hW.alike hK, hI, hnt.warm hW⟩, hS1.F ht⟩) hS1.2.2 hd B.notSynchronized
  · intro hr hd hq H locs ls hP1 hS1 hl1
    exact W.vret B.exec B.bytes (B.returns.trans hr) (fun t ht hW => ⟨⟨none, σ', rfl, hq, by rw [ht]; exact hP1, va_K.moved hW.alike hK, hI, hnt.warm hW⟩, hS1.F ht⟩) hS1.2.2 hd B.notSynchronized
  · intro a n hr hd hq H locs ls hP1 hS1 hl1
    exact W.aret B.exec B.bytes (B.returns.trans hr) (Or.inl ⟨n, rfl⟩) (Or.inr ⟨a, rfl⟩) (fun t ht hW => ⟨⟨some (.ref a), σ', rfl, hq, by rw [ht]; exact hP1, va_K.moved hW.alike hK, hI, hnt.warm hW⟩, hS1.F ht⟩) hS1.2.2 hd B.notSynchronized
/-- what the tables say of a method that is called -/
def zv_Y (y : MethodName) (M : zv_M) (n : Nat) : Prop := Cond.code y M.1 M.2.1 M.2.2.2.1 ∈ zv_tb ∧ Cond.initialized y.cls ∈ zv_tb ∧ (y.cls ≠ "java/lang/invoke/MethodHandle" ∧ y.cls ≠ "java/lang/invoke/VarHandle" ∧ (parseMethodDescriptor y.desc).map (fun d => d.parameters.length) = some n) ∧ M.2.1 ≤ 21
theorem zv_good : ∀ w ∈ zv_tb, ((w.onTables && w.keeps) = true ∨ ∃ ty, w = .arrayClass ty) := fun w hw => good_of_word (List.mem_filter.mp hw).2
theorem zv_goodIn {y : MethodName} {M : zv_M} (h : Cond.code y M.1 M.2.1 M.2.2.2.1 ∈ zv_tb) : GoodIn zv_tb (zv_ws y M) := by
  intro w hw
  rcases List.mem_cons.mp hw with rfl | hw
  · exact ⟨h, zv_good _ h⟩
  · exact ⟨hw, zv_good _ hw⟩
theorem zv_blind (G : zv_G) (σ : zv_St) (as : List Value) : FrameBlind (va_Pc as (fun U => zv_B G σ U)) := fun a U g mk q => by
  obtain ⟨q0, qP, qK, qI, qn⟩ := q
  exact ⟨q0, qP, va_K.moved (u := U) (U := U.calling g mk a) (Vm.Alike.refl U.vm) qK, qI, zv_nw.same (u := U) (U := U.calling g mk a) rfl qn⟩
section CALLS
variable {p : Program} {l : Launch} {e : Env} {R : Room} {s : State} {m : MethodId} {args : Array Value} {below : List Frame} {meth : Method} {c : Code} {H : Heap} {locs : List Loc} {cells slots : Nat} {QQ : State → Prop}
variable {ls : Array Slot} {rest st0 : List Value} {a : Array Value} {A0 : Nat → Prop} {H0 : Heap}
theorem zv_after {G : zv_G} {pc : Nat} {QV : Option Value → zv_St → Prop} (hr : va_Run p l e R s m args below meth c H locs cells slots 0 0 (F0 m pc ls st0) rest (zv_q G QV a) (zv_A G)) (hS : va_S A0 H0 H locs) (hA : ∀ q, zv_A G q → A0 q)
    (kk : ∀ (r : Option Value) (σ' : zv_St) (H1 : Heap) (locs1 : List Loc), QV r σ' → zv_P G σ' H1 → va_S A0 H0 H1 locs1 → W p l e R s m args below meth c H1 locs1 cells slots QQ (F0 m (pc + 3) ls (r.toList ++ rest))) : W p l e R s m args below meth c H locs cells slots QQ (F0 m pc ls st0) := by
  intro T hT X
  obtain ⟨v, st₀, t, T', L, h0, X', hL, e1, e2, ⟨⟨r, σ', hv, hp, hb⟩, hz, hk⟩, st⟩ := hr T hT X
  cases hv
  rw [h0] at hz hk
  obtain ⟨t2, a1, b1⟩ := kk v σ' T'.heap (locs ++ L) hp (by rw [e1]; exact hb.1)
    ⟨Nat.le_trans hS.1 (by rw [e1]; exact hz), fun q h1 h2 => by rw [e1, hk q (Nat.lt_of_lt_of_le h1 hS.1) (fun z => h2 (hA q z))]; exact hS.2.1 q h1 h2, fun q hq => by
      rcases List.mem_append.mp hq with h | h
      · exact hS.2.2 q h
      · exact hA _ (hL q h)⟩ T' rfl X'
  exact ⟨t2, st t2 a1, b1⟩
end CALLS
theorem zv_roomOk {M My : zv_M} {R : Room} (h1 : M.2.2.2.2 ≤ R.frames) (h2 : 40 * M.2.2.2.2 ≤ R.locals) (hd : My.2.2.2.2 + 1 ≤ M.2.2.2.2) (hL : My.2.1 ≤ 21) : (zv_rm My.2.2.2.2).frames + 1 ≤ R.frames ∧ 8 + (My.2.1 + 11) + (zv_rm My.2.2.2.2).locals ≤ R.locals := by
  simp only [zv_rm]
  omega
theorem zv_callV0 (hC : zv_C G X M) {y : MethodName} {My : zv_M} {idx k ci n : Nat} {fl : List Nat} {T : u_T} {N : Nat} {As rest : List Value} {QV : Option Value → zv_St → Prop} (hd : decode M.1 pc = .ok (.invokevirtual idx, 3)) (hY : zv_Y y My n) (hin : Cond.instanceMethod y ∈ zv_tb) (hsel : Cond.selects y.cls y y ∈ zv_tb) (hlink : Cond.methodLink M.2.2.1 idx y ∈ zv_tb) (hdep : My.2.2.2.2 + 1 ≤ M.2.2.2.2) (hk : zv_tab[k]? = some (.inr (ci, fl))) (hci : vwCl[ci]? = some (y.cls, T, N)) (hn : As.length = n) (hst : st = As.reverse ++ .ref (G.2.2.1 k) :: rest) (hw : (rest.map fun v => v.category).sum ≤ 8)
    (hM : zv_OK G My y (.ref (G.2.2.1 k) :: As) σ QV) (kk : ∀ (r : Option Value) (σ' : zv_St), QV r σ' → zv_V G X M (pc + 3) lv (r.toList ++ rest) σ') : zv_V G X M pc lv st σ := by
  obtain ⟨p, e, s, m, args, below, meth, c, R, cells, slots, QQ, A⟩ := X
  obtain ⟨hx, hb, hml, hown, hts, hK, hI, hA, hc1, hc2, hf1, hf2, hlk, hrt, hnt⟩ := hC
  intro H locs ls hP hS hl
  obtain ⟨y1, y2, y3, y4⟩ := hY
  refine zv_after (G := G) (QV := QV) (va_runV (As := As) (rest := rest) (C := y.cls) (n := n) (ret := My.2.2.2.1) (bytes := My.1) (maxL := My.2.1) ⟨hx, hb, hml, hown, hts⟩ hM ⟨callB_of n hts (zv_goodIn y1) rfl rfl rfl (hts _ y2) (hts _ hlink) y3 (zv_roomOk hf1 hf2 hdep y4), hts _ hin, hts _ hsel⟩ ⟨zv_blind G σ _, ?_, fun U hU hW => ⟨rfl, by rw [hU]; exact hP, va_K.moved hW.alike hK, hI, hnt.warm hW⟩⟩ rfl hn hl.1 (by rw [hst]) (lv_room hw) hd ⟨hc1, hc2⟩) hS (fun q h => by obtain ⟨k', h1, rfl⟩ := h; exact hA k' h1) (fun r σ' H1 locs1 hq hP1 hS1 => kk r σ' hq H1 locs1 ls hP1 hS1 hl)
  exact va_recv hK hP hci (zv_w_of hk)
theorem zv_callS0 (hC : zv_C G X M) {y : MethodName} {My : zv_M} {idx n : Nat} {As rest : List Value} {QV : Option Value → zv_St → Prop} (hd : decode M.1 pc = .ok (.invokestatic idx, 3)) (hY : zv_Y y My n) (hin : Cond.static y ∈ zv_tb) (hlink : Cond.methodLink M.2.2.1 idx y ∈ zv_tb) (hdep : My.2.2.2.2 + 1 ≤ M.2.2.2.2) (hn : As.length = n) (hst : st = As.reverse ++ rest) (hw : (rest.map fun v => v.category).sum ≤ 8)
    (hM : zv_OK G My y As σ QV) (kk : ∀ (r : Option Value) (σ' : zv_St), QV r σ' → zv_V G X M (pc + 3) lv (r.toList ++ rest) σ') : zv_V G X M pc lv st σ := by
  obtain ⟨p, e, s, m, args, below, meth, c, R, cells, slots, QQ, A⟩ := X
  obtain ⟨hx, hb, hml, hown, hts, hK, hI, hA, hc1, hc2, hf1, hf2, hlk, hrt, hnt⟩ := hC
  intro H locs ls hP hS hl
  obtain ⟨y1, y2, y3, y4⟩ := hY
  exact zv_after (G := G) (QV := QV) (va_runS (As := As) (rest := rest) (n := n) (ret := My.2.2.2.1) (bytes := My.1) (maxL := My.2.1) ⟨hx, hb, hml, hown, hts⟩ hM ⟨callB_of n hts (zv_goodIn y1) rfl rfl rfl (hts _ y2) (hts _ hlink) y3 (zv_roomOk hf1 hf2 hdep y4), hts _ hin⟩ ⟨zv_blind G σ _, fun U hU hW => ⟨rfl, by rw [hU]; exact hP, va_K.moved hW.alike hK, hI, hnt.warm hW⟩⟩ rfl hn hl.1 (by rw [hst]) (lv_room hw) hd ⟨hc1, hc2⟩) hS (fun q h => by obtain ⟨k', h1, rfl⟩ := h; exact hA k' h1) (fun r σ' H1 locs1 hq hP1 hS1 => kk r σ' hq H1 locs1 ls hP1 hS1 hl)
theorem zv_callSN0 (hC : zv_C G X M) {y : MethodName} {My : zv_M} {idx n : Nat} {host : String} {As rest : List Value} {QV : Option Value → zv_St → Prop} (hd : decode M.1 pc = .ok (.invokestatic idx, 3)) (hY : zv_Y y My n) (hin : Cond.static y ∈ zv_tb) (hlink : Cond.methodLinkNest M.2.2.1 idx y host ∈ zv_nt) (hdep : My.2.2.2.2 + 1 ≤ M.2.2.2.2) (hn : As.length = n) (hst : st = As.reverse ++ rest) (hw : (rest.map fun v => v.category).sum ≤ 8)
    (hM : zv_OK G My y As σ QV) (kk : ∀ (r : Option Value) (σ' : zv_St), QV r σ' → zv_V G X M (pc + 3) lv (r.toList ++ rest) σ') : zv_V G X M pc lv st σ := by
  obtain ⟨p, e, s, m, args, below, meth, c, R, cells, slots, QQ, A⟩ := X
  obtain ⟨hx, hb, hml, hown, hts, hK, hI, hA, hc1, hc2, hf1, hf2, hlk, hrt, hnt⟩ := hC
  intro H locs ls hP hS hl
  obtain ⟨y1, y2, y3, y4⟩ := hY
  have hnw : va_Nw (.methodLinkNest M.2.2.1 idx y host) s := hnt _ hlink
  exact zv_after (G := G) (QV := QV) (va_runSN (As := As) (rest := rest) (n := n) (ret := My.2.2.2.1) (bytes := My.1) (maxL := My.2.1) ⟨hx, hb, hml, hown, hts⟩ hM ⟨va_cnB n hts (zv_goodIn y1) rfl rfl rfl hnw (hts _ y2) y3 (zv_roomOk hf1 hf2 hdep y4), hts _ hin, trivial⟩ ⟨zv_blind G σ _, fun U hU hW => ⟨rfl, by rw [hU]; exact hP, va_K.moved hW.alike hK, hI, hnt.warm hW⟩⟩ rfl hn hl.1 (by rw [hst]) (lv_room hw) hd ⟨hc1, hc2⟩) hS (fun q h => by obtain ⟨k', h1, rfl⟩ := h; exact hA k' h1) (fun r σ' H1 locs1 hq hP1 hS1 => kk r σ' hq H1 locs1 ls hP1 hS1 hl)
/-- what the tables say of a called method, all in one -/
def zv_YV (y : MethodName) (M : zv_M) (n ci : Nat) : Prop := zv_Y y M n ∧ Cond.instanceMethod y ∈ zv_tb ∧ Cond.selects y.cls y y ∈ zv_tb ∧ ∃ (T : u_T) (N : Nat), vwCl[ci]? = some (y.cls, T, N)
def zv_YS (y : MethodName) (M : zv_M) (n : Nat) : Prop := zv_Y y M n ∧ Cond.static y ∈ zv_tb
theorem zv_callVi (hC : zv_C G X M) {y : MethodName} {My : zv_M} {idx n k ci : Nat} {fl : List Nat} {As rest : List Value} {Q : Int32 → zv_St → Prop} (hd : decode M.1 pc = .ok (.invokevirtual idx, 3)) (hY : zv_YV y My n ci) (hlink : Cond.methodLink M.2.2.1 idx y ∈ zv_tb) (hdep : My.2.2.2.2 + 1 ≤ M.2.2.2.2) (hk : zv_tab[k]? = some (.inr (ci, fl))) (hn : As.length = n) (hst : st = As.reverse ++ .ref (G.2.2.1 k) :: rest) (hw : (rest.map fun v => v.category).sum ≤ 8) (hM : zv_OK G My y (.ref (G.2.2.1 k) :: As) σ (zv_qi Q)) (kk : ∀ (v : Int32) (σ' : zv_St), Q v σ' → zv_V G X M (pc + 3) lv (.int v :: rest) σ') : zv_V G X M pc lv st σ := by
  obtain ⟨h1, h2, h3, T, N, h4⟩ := hY
  exact zv_callV0 hC hd h1 h2 h3 hlink hdep hk h4 hn hst hw hM (fun r σ' h => by obtain ⟨v, rfl, h⟩ := h; exact kk v σ' h)
theorem zv_callVl (hC : zv_C G X M) {y : MethodName} {My : zv_M} {idx n k ci : Nat} {fl : List Nat} {As rest : List Value} {Q : Int64 → zv_St → Prop} (hd : decode M.1 pc = .ok (.invokevirtual idx, 3)) (hY : zv_YV y My n ci) (hlink : Cond.methodLink M.2.2.1 idx y ∈ zv_tb) (hdep : My.2.2.2.2 + 1 ≤ M.2.2.2.2) (hk : zv_tab[k]? = some (.inr (ci, fl))) (hn : As.length = n) (hst : st = As.reverse ++ .ref (G.2.2.1 k) :: rest) (hw : (rest.map fun v => v.category).sum ≤ 8) (hM : zv_OK G My y (.ref (G.2.2.1 k) :: As) σ (zv_ql Q)) (kk : ∀ (v : Int64) (σ' : zv_St), Q v σ' → zv_V G X M (pc + 3) lv (.long v :: rest) σ') : zv_V G X M pc lv st σ := by
  obtain ⟨h1, h2, h3, T, N, h4⟩ := hY
  exact zv_callV0 hC hd h1 h2 h3 hlink hdep hk h4 hn hst hw hM (fun r σ' h => by obtain ⟨v, rfl, h⟩ := h; exact kk v σ' h)
theorem zv_callVv (hC : zv_C G X M) {y : MethodName} {My : zv_M} {idx n k ci : Nat} {fl : List Nat} {As rest : List Value} {Q : zv_St → Prop} (hd : decode M.1 pc = .ok (.invokevirtual idx, 3)) (hY : zv_YV y My n ci) (hlink : Cond.methodLink M.2.2.1 idx y ∈ zv_tb) (hdep : My.2.2.2.2 + 1 ≤ M.2.2.2.2) (hk : zv_tab[k]? = some (.inr (ci, fl))) (hn : As.length = n) (hst : st = As.reverse ++ .ref (G.2.2.1 k) :: rest) (hw : (rest.map fun v => v.category).sum ≤ 8) (hM : zv_OK G My y (.ref (G.2.2.1 k) :: As) σ (zv_qv Q)) (kk : ∀ (σ' : zv_St), Q σ' → zv_V G X M (pc + 3) lv (rest) σ') : zv_V G X M pc lv st σ := by
  obtain ⟨h1, h2, h3, T, N, h4⟩ := hY
  exact zv_callV0 hC hd h1 h2 h3 hlink hdep hk h4 hn hst hw hM (fun r σ' h => by obtain ⟨rfl, h⟩ := h; exact kk σ' h)
theorem zv_callVr (hC : zv_C G X M) {y : MethodName} {My : zv_M} {idx n k ci : Nat} {fl : List Nat} {As rest : List Value} {Q : zv_St → Prop} {a : Nat} (hd : decode M.1 pc = .ok (.invokevirtual idx, 3)) (hY : zv_YV y My n ci) (hlink : Cond.methodLink M.2.2.1 idx y ∈ zv_tb) (hdep : My.2.2.2.2 + 1 ≤ M.2.2.2.2) (hk : zv_tab[k]? = some (.inr (ci, fl))) (hn : As.length = n) (hst : st = As.reverse ++ .ref (G.2.2.1 k) :: rest) (hw : (rest.map fun v => v.category).sum ≤ 8) (hM : zv_OK G My y (.ref (G.2.2.1 k) :: As) σ (zv_qr a Q)) (kk : ∀ (σ' : zv_St), Q σ' → zv_V G X M (pc + 3) lv (.ref a :: rest) σ') : zv_V G X M pc lv st σ := by
  obtain ⟨h1, h2, h3, T, N, h4⟩ := hY
  exact zv_callV0 hC hd h1 h2 h3 hlink hdep hk h4 hn hst hw hM (fun r σ' h => by obtain ⟨rfl, h⟩ := h; exact kk σ' h)
theorem zv_callSi (hC : zv_C G X M) {y : MethodName} {My : zv_M} {idx n : Nat} {As rest : List Value} {Q : Int32 → zv_St → Prop} (hd : decode M.1 pc = .ok (.invokestatic idx, 3)) (hY : zv_YS y My n) (hlink : Cond.methodLink M.2.2.1 idx y ∈ zv_tb) (hdep : My.2.2.2.2 + 1 ≤ M.2.2.2.2) (hn : As.length = n) (hst : st = As.reverse ++ rest) (hw : (rest.map fun v => v.category).sum ≤ 8) (hM : zv_OK G My y (As) σ (zv_qi Q)) (kk : ∀ (v : Int32) (σ' : zv_St), Q v σ' → zv_V G X M (pc + 3) lv (.int v :: rest) σ') : zv_V G X M pc lv st σ := by
  obtain ⟨h1, h2⟩ := hY
  exact zv_callS0 hC hd h1 h2 hlink hdep hn hst hw hM (fun r σ' h => by obtain ⟨v, rfl, h⟩ := h; exact kk v σ' h)
theorem zv_callSl (hC : zv_C G X M) {y : MethodName} {My : zv_M} {idx n : Nat} {As rest : List Value} {Q : Int64 → zv_St → Prop} (hd : decode M.1 pc = .ok (.invokestatic idx, 3)) (hY : zv_YS y My n) (hlink : Cond.methodLink M.2.2.1 idx y ∈ zv_tb) (hdep : My.2.2.2.2 + 1 ≤ M.2.2.2.2) (hn : As.length = n) (hst : st = As.reverse ++ rest) (hw : (rest.map fun v => v.category).sum ≤ 8) (hM : zv_OK G My y (As) σ (zv_ql Q)) (kk : ∀ (v : Int64) (σ' : zv_St), Q v σ' → zv_V G X M (pc + 3) lv (.long v :: rest) σ') : zv_V G X M pc lv st σ := by
  obtain ⟨h1, h2⟩ := hY
  exact zv_callS0 hC hd h1 h2 hlink hdep hn hst hw hM (fun r σ' h => by obtain ⟨v, rfl, h⟩ := h; exact kk v σ' h)
theorem zv_callSv (hC : zv_C G X M) {y : MethodName} {My : zv_M} {idx n : Nat} {As rest : List Value} {Q : zv_St → Prop} (hd : decode M.1 pc = .ok (.invokestatic idx, 3)) (hY : zv_YS y My n) (hlink : Cond.methodLink M.2.2.1 idx y ∈ zv_tb) (hdep : My.2.2.2.2 + 1 ≤ M.2.2.2.2) (hn : As.length = n) (hst : st = As.reverse ++ rest) (hw : (rest.map fun v => v.category).sum ≤ 8) (hM : zv_OK G My y (As) σ (zv_qv Q)) (kk : ∀ (σ' : zv_St), Q σ' → zv_V G X M (pc + 3) lv (rest) σ') : zv_V G X M pc lv st σ := by
  obtain ⟨h1, h2⟩ := hY
  exact zv_callS0 hC hd h1 h2 hlink hdep hn hst hw hM (fun r σ' h => by obtain ⟨rfl, h⟩ := h; exact kk σ' h)
theorem zv_callSr (hC : zv_C G X M) {y : MethodName} {My : zv_M} {idx n : Nat} {As rest : List Value} {Q : zv_St → Prop} {a : Nat} (hd : decode M.1 pc = .ok (.invokestatic idx, 3)) (hY : zv_YS y My n) (hlink : Cond.methodLink M.2.2.1 idx y ∈ zv_tb) (hdep : My.2.2.2.2 + 1 ≤ M.2.2.2.2) (hn : As.length = n) (hst : st = As.reverse ++ rest) (hw : (rest.map fun v => v.category).sum ≤ 8) (hM : zv_OK G My y (As) σ (zv_qr a Q)) (kk : ∀ (σ' : zv_St), Q σ' → zv_V G X M (pc + 3) lv (.ref a :: rest) σ') : zv_V G X M pc lv st σ := by
  obtain ⟨h1, h2⟩ := hY
  exact zv_callS0 hC hd h1 h2 hlink hdep hn hst hw hM (fun r σ' h => by obtain ⟨rfl, h⟩ := h; exact kk σ' h)
theorem zv_callSNi (hC : zv_C G X M) {y : MethodName} {My : zv_M} {idx n : Nat} {As rest : List Value} {Q : Int32 → zv_St → Prop} {host : String} (hd : decode M.1 pc = .ok (.invokestatic idx, 3)) (hY : zv_YS y My n) (hlink : Cond.methodLinkNest M.2.2.1 idx y host ∈ zv_nt) (hdep : My.2.2.2.2 + 1 ≤ M.2.2.2.2) (hn : As.length = n) (hst : st = As.reverse ++ rest) (hw : (rest.map fun v => v.category).sum ≤ 8) (hM : zv_OK G My y (As) σ (zv_qi Q)) (kk : ∀ (v : Int32) (σ' : zv_St), Q v σ' → zv_V G X M (pc + 3) lv (.int v :: rest) σ') : zv_V G X M pc lv st σ := by
  obtain ⟨h1, h2⟩ := hY
  exact zv_callSN0 hC hd h1 h2 hlink hdep hn hst hw hM (fun r σ' h => by obtain ⟨v, rfl, h⟩ := h; exact kk v σ' h)
theorem zv_callSNl (hC : zv_C G X M) {y : MethodName} {My : zv_M} {idx n : Nat} {As rest : List Value} {Q : Int64 → zv_St → Prop} {host : String} (hd : decode M.1 pc = .ok (.invokestatic idx, 3)) (hY : zv_YS y My n) (hlink : Cond.methodLinkNest M.2.2.1 idx y host ∈ zv_nt) (hdep : My.2.2.2.2 + 1 ≤ M.2.2.2.2) (hn : As.length = n) (hst : st = As.reverse ++ rest) (hw : (rest.map fun v => v.category).sum ≤ 8) (hM : zv_OK G My y (As) σ (zv_ql Q)) (kk : ∀ (v : Int64) (σ' : zv_St), Q v σ' → zv_V G X M (pc + 3) lv (.long v :: rest) σ') : zv_V G X M pc lv st σ := by
  obtain ⟨h1, h2⟩ := hY
  exact zv_callSN0 hC hd h1 h2 hlink hdep hn hst hw hM (fun r σ' h => by obtain ⟨v, rfl, h⟩ := h; exact kk v σ' h)
theorem zv_callSNv (hC : zv_C G X M) {y : MethodName} {My : zv_M} {idx n : Nat} {As rest : List Value} {Q : zv_St → Prop} {host : String} (hd : decode M.1 pc = .ok (.invokestatic idx, 3)) (hY : zv_YS y My n) (hlink : Cond.methodLinkNest M.2.2.1 idx y host ∈ zv_nt) (hdep : My.2.2.2.2 + 1 ≤ M.2.2.2.2) (hn : As.length = n) (hst : st = As.reverse ++ rest) (hw : (rest.map fun v => v.category).sum ≤ 8) (hM : zv_OK G My y (As) σ (zv_qv Q)) (kk : ∀ (σ' : zv_St), Q σ' → zv_V G X M (pc + 3) lv (rest) σ') : zv_V G X M pc lv st σ := by
  obtain ⟨h1, h2⟩ := hY
  exact zv_callSN0 hC hd h1 h2 hlink hdep hn hst hw hM (fun r σ' h => by obtain ⟨rfl, h⟩ := h; exact kk σ' h)
theorem zv_callSNr (hC : zv_C G X M) {y : MethodName} {My : zv_M} {idx n : Nat} {As rest : List Value} {Q : zv_St → Prop} {a : Nat} {host : String} (hd : decode M.1 pc = .ok (.invokestatic idx, 3)) (hY : zv_YS y My n) (hlink : Cond.methodLinkNest M.2.2.1 idx y host ∈ zv_nt) (hdep : My.2.2.2.2 + 1 ≤ M.2.2.2.2) (hn : As.length = n) (hst : st = As.reverse ++ rest) (hw : (rest.map fun v => v.category).sum ≤ 8) (hM : zv_OK G My y (As) σ (zv_qr a Q)) (kk : ∀ (σ' : zv_St), Q σ' → zv_V G X M (pc + 3) lv (.ref a :: rest) σ') : zv_V G X M pc lv st σ := by
  obtain ⟨h1, h2⟩ := hY
  exact zv_callSN0 hC hd h1 h2 hlink hdep hn hst hw hM (fun r σ' h => by obtain ⟨rfl, h⟩ := h; exact kk σ' h)
theorem zv_swV {x : Int32} {P : Int32 → Prop} (hs : ∀ x, P x) (kk : P x → zv_V G X M pc lv (.int x :: st) σ) : zv_V G X M pc lv (.int x :: st) σ := kk (hs x)
end ZV
theorem zv_sw_0_6 (x : Int32) : x = 0 ∨ x = 1 ∨ x = 2 ∨ x = 3 ∨ x = 4 ∨ x = 5 ∨ x = 6 ∨ (x.toInt < 0 ∨ 6 < x.toInt) := by
  have h : x.toInt = 0 ∨ x.toInt = 1 ∨ x.toInt = 2 ∨ x.toInt = 3 ∨ x.toInt = 4 ∨ x.toInt = 5 ∨ x.toInt = 6 ∨ (x.toInt < 0 ∨ 6 < x.toInt) := by omega
  rcases h with h | h | h | h | h | h | h | h
  · exact Or.inl (Int32.toInt_inj.mp (h.trans (by decide)))
  · exact Or.inr (Or.inl (Int32.toInt_inj.mp (h.trans (by decide))))
  · exact Or.inr (Or.inr (Or.inl (Int32.toInt_inj.mp (h.trans (by decide)))))
  · exact Or.inr (Or.inr (Or.inr (Or.inl (Int32.toInt_inj.mp (h.trans (by decide))))))
  · exact Or.inr (Or.inr (Or.inr (Or.inr (Or.inl (Int32.toInt_inj.mp (h.trans (by decide)))))))
  · exact Or.inr (Or.inr (Or.inr (Or.inr (Or.inr (Or.inl (Int32.toInt_inj.mp (h.trans (by decide))))))))
  · exact Or.inr (Or.inr (Or.inr (Or.inr (Or.inr (Or.inr (Or.inl (Int32.toInt_inj.mp (h.trans (by decide)))))))))
  · exact Or.inr (Or.inr (Or.inr (Or.inr (Or.inr (Or.inr (Or.inr (h)))))))
theorem zv_sw_2_6 (x : Int32) : x = 2 ∨ x = 3 ∨ x = 4 ∨ x = 5 ∨ x = 6 ∨ (x.toInt < 2 ∨ 6 < x.toInt) := by
  have h : x.toInt = 2 ∨ x.toInt = 3 ∨ x.toInt = 4 ∨ x.toInt = 5 ∨ x.toInt = 6 ∨ (x.toInt < 2 ∨ 6 < x.toInt) := by omega
  rcases h with h | h | h | h | h | h
  · exact Or.inl (Int32.toInt_inj.mp (h.trans (by decide)))
  · exact Or.inr (Or.inl (Int32.toInt_inj.mp (h.trans (by decide))))
  · exact Or.inr (Or.inr (Or.inl (Int32.toInt_inj.mp (h.trans (by decide)))))
  · exact Or.inr (Or.inr (Or.inr (Or.inl (Int32.toInt_inj.mp (h.trans (by decide))))))
  · exact Or.inr (Or.inr (Or.inr (Or.inr (Or.inl (Int32.toInt_inj.mp (h.trans (by decide)))))))
  · exact Or.inr (Or.inr (Or.inr (Or.inr (Or.inr (h)))))
theorem zv_sw_0_5 (x : Int32) : x = 0 ∨ x = 1 ∨ x = 2 ∨ x = 3 ∨ x = 4 ∨ x = 5 ∨ (x.toInt < 0 ∨ 5 < x.toInt) := by
  have h : x.toInt = 0 ∨ x.toInt = 1 ∨ x.toInt = 2 ∨ x.toInt = 3 ∨ x.toInt = 4 ∨ x.toInt = 5 ∨ (x.toInt < 0 ∨ 5 < x.toInt) := by omega
  rcases h with h | h | h | h | h | h | h
  · exact Or.inl (Int32.toInt_inj.mp (h.trans (by decide)))
  · exact Or.inr (Or.inl (Int32.toInt_inj.mp (h.trans (by decide))))
  · exact Or.inr (Or.inr (Or.inl (Int32.toInt_inj.mp (h.trans (by decide)))))
  · exact Or.inr (Or.inr (Or.inr (Or.inl (Int32.toInt_inj.mp (h.trans (by decide))))))
  · exact Or.inr (Or.inr (Or.inr (Or.inr (Or.inl (Int32.toInt_inj.mp (h.trans (by decide)))))))
  · exact Or.inr (Or.inr (Or.inr (Or.inr (Or.inr (Or.inl (Int32.toInt_inj.mp (h.trans (by decide))))))))
  · exact Or.inr (Or.inr (Or.inr (Or.inr (Or.inr (Or.inr (h))))))
theorem zv_sw_0_4 (x : Int32) : x = 0 ∨ x = 1 ∨ x = 2 ∨ x = 3 ∨ x = 4 ∨ (x.toInt < 0 ∨ 4 < x.toInt) := by
  have h : x.toInt = 0 ∨ x.toInt = 1 ∨ x.toInt = 2 ∨ x.toInt = 3 ∨ x.toInt = 4 ∨ (x.toInt < 0 ∨ 4 < x.toInt) := by omega
  rcases h with h | h | h | h | h | h
  · exact Or.inl (Int32.toInt_inj.mp (h.trans (by decide)))
  · exact Or.inr (Or.inl (Int32.toInt_inj.mp (h.trans (by decide))))
  · exact Or.inr (Or.inr (Or.inl (Int32.toInt_inj.mp (h.trans (by decide)))))
  · exact Or.inr (Or.inr (Or.inr (Or.inl (Int32.toInt_inj.mp (h.trans (by decide))))))
  · exact Or.inr (Or.inr (Or.inr (Or.inr (Or.inl (Int32.toInt_inj.mp (h.trans (by decide)))))))
  · exact Or.inr (Or.inr (Or.inr (Or.inr (Or.inr (h)))))
theorem zv_sw_0_7 (x : Int32) : x = 0 ∨ x = 1 ∨ x = 2 ∨ x = 3 ∨ x = 4 ∨ x = 5 ∨ x = 6 ∨ x = 7 ∨ (x.toInt < 0 ∨ 7 < x.toInt) := by
  have h : x.toInt = 0 ∨ x.toInt = 1 ∨ x.toInt = 2 ∨ x.toInt = 3 ∨ x.toInt = 4 ∨ x.toInt = 5 ∨ x.toInt = 6 ∨ x.toInt = 7 ∨ (x.toInt < 0 ∨ 7 < x.toInt) := by omega
  rcases h with h | h | h | h | h | h | h | h | h
  · exact Or.inl (Int32.toInt_inj.mp (h.trans (by decide)))
  · exact Or.inr (Or.inl (Int32.toInt_inj.mp (h.trans (by decide))))
  · exact Or.inr (Or.inr (Or.inl (Int32.toInt_inj.mp (h.trans (by decide)))))
  · exact Or.inr (Or.inr (Or.inr (Or.inl (Int32.toInt_inj.mp (h.trans (by decide))))))
  · exact Or.inr (Or.inr (Or.inr (Or.inr (Or.inl (Int32.toInt_inj.mp (h.trans (by decide)))))))
  · exact Or.inr (Or.inr (Or.inr (Or.inr (Or.inr (Or.inl (Int32.toInt_inj.mp (h.trans (by decide))))))))
  · exact Or.inr (Or.inr (Or.inr (Or.inr (Or.inr (Or.inr (Or.inl (Int32.toInt_inj.mp (h.trans (by decide)))))))))
  · exact Or.inr (Or.inr (Or.inr (Or.inr (Or.inr (Or.inr (Or.inr (Or.inl (Int32.toInt_inj.mp (h.trans (by decide))))))))))
  · exact Or.inr (Or.inr (Or.inr (Or.inr (Or.inr (Or.inr (Or.inr (Or.inr (h))))))))
theorem zv_sw_0_18 (x : Int32) : x = 0 ∨ x = 1 ∨ x = 2 ∨ x = 3 ∨ x = 4 ∨ x = 5 ∨ x = 6 ∨ x = 7 ∨ x = 8 ∨ x = 9 ∨ x = 10 ∨ x = 11 ∨ x = 12 ∨ x = 13 ∨ x = 14 ∨ x = 15 ∨ x = 16 ∨ x = 17 ∨ x = 18 ∨ (x.toInt < 0 ∨ 18 < x.toInt) := by
  have h : x.toInt = 0 ∨ x.toInt = 1 ∨ x.toInt = 2 ∨ x.toInt = 3 ∨ x.toInt = 4 ∨ x.toInt = 5 ∨ x.toInt = 6 ∨ x.toInt = 7 ∨ x.toInt = 8 ∨ x.toInt = 9 ∨ x.toInt = 10 ∨ x.toInt = 11 ∨ x.toInt = 12 ∨ x.toInt = 13 ∨ x.toInt = 14 ∨ x.toInt = 15 ∨ x.toInt = 16 ∨ x.toInt = 17 ∨ x.toInt = 18 ∨ (x.toInt < 0 ∨ 18 < x.toInt) := by omega
  rcases h with h | h | h | h | h | h | h | h | h | h | h | h | h | h | h | h | h | h | h | h
  · exact Or.inl (Int32.toInt_inj.mp (h.trans (by decide)))
  · exact Or.inr (Or.inl (Int32.toInt_inj.mp (h.trans (by decide))))
  · exact Or.inr (Or.inr (Or.inl (Int32.toInt_inj.mp (h.trans (by decide)))))
  · exact Or.inr (Or.inr (Or.inr (Or.inl (Int32.toInt_inj.mp (h.trans (by decide))))))
  · exact Or.inr (Or.inr (Or.inr (Or.inr (Or.inl (Int32.toInt_inj.mp (h.trans (by decide)))))))
  · exact Or.inr (Or.inr (Or.inr (Or.inr (Or.inr (Or.inl (Int32.toInt_inj.mp (h.trans (by decide))))))))
  · exact Or.inr (Or.inr (Or.inr (Or.inr (Or.inr (Or.inr (Or.inl (Int32.toInt_inj.mp (h.trans (by decide)))))))))
  · exact Or.inr (Or.inr (Or.inr (Or.inr (Or.inr (Or.inr (Or.inr (Or.inl (Int32.toInt_inj.mp (h.trans (by decide))))))))))
  · exact Or.inr (Or.inr (Or.inr (Or.inr (Or.inr (Or.inr (Or.inr (Or.inr (Or.inl (Int32.toInt_inj.mp (h.trans (by decide)))))))))))
  · exact Or.inr (Or.inr (Or.inr (Or.inr (Or.inr (Or.inr (Or.inr (Or.inr (Or.inr (Or.inl (Int32.toInt_inj.mp (h.trans (by decide))))))))))))
  · exact Or.inr (Or.inr (Or.inr (Or.inr (Or.inr (Or.inr (Or.inr (Or.inr (Or.inr (Or.inr (Or.inl (Int32.toInt_inj.mp (h.trans (by decide)))))))))))))
  · exact Or.inr (Or.inr (Or.inr (Or.inr (Or.inr (Or.inr (Or.inr (Or.inr (Or.inr (Or.inr (Or.inr (Or.inl (Int32.toInt_inj.mp (h.trans (by decide))))))))))))))
  · exact Or.inr (Or.inr (Or.inr (Or.inr (Or.inr (Or.inr (Or.inr (Or.inr (Or.inr (Or.inr (Or.inr (Or.inr (Or.inl (Int32.toInt_inj.mp (h.trans (by decide)))))))))))))))
  · exact Or.inr (Or.inr (Or.inr (Or.inr (Or.inr (Or.inr (Or.inr (Or.inr (Or.inr (Or.inr (Or.inr (Or.inr (Or.inr (Or.inl (Int32.toInt_inj.mp (h.trans (by decide))))))))))))))))
  · exact Or.inr (Or.inr (Or.inr (Or.inr (Or.inr (Or.inr (Or.inr (Or.inr (Or.inr (Or.inr (Or.inr (Or.inr (Or.inr (Or.inr (Or.inl (Int32.toInt_inj.mp (h.trans (by decide)))))))))))))))))
  · exact Or.inr (Or.inr (Or.inr (Or.inr (Or.inr (Or.inr (Or.inr (Or.inr (Or.inr (Or.inr (Or.inr (Or.inr (Or.inr (Or.inr (Or.inr (Or.inl (Int32.toInt_inj.mp (h.trans (by decide))))))))))))))))))
  · exact Or.inr (Or.inr (Or.inr (Or.inr (Or.inr (Or.inr (Or.inr (Or.inr (Or.inr (Or.inr (Or.inr (Or.inr (Or.inr (Or.inr (Or.inr (Or.inr (Or.inl (Int32.toInt_inj.mp (h.trans (by decide)))))))))))))))))))
  · exact Or.inr (Or.inr (Or.inr (Or.inr (Or.inr (Or.inr (Or.inr (Or.inr (Or.inr (Or.inr (Or.inr (Or.inr (Or.inr (Or.inr (Or.inr (Or.inr (Or.inr (Or.inl (Int32.toInt_inj.mp (h.trans (by decide))))))))))))))))))))
  · exact Or.inr (Or.inr (Or.inr (Or.inr (Or.inr (Or.inr (Or.inr (Or.inr (Or.inr (Or.inr (Or.inr (Or.inr (Or.inr (Or.inr (Or.inr (Or.inr (Or.inr (Or.inr (Or.inl (Int32.toInt_inj.mp (h.trans (by decide)))))))))))))))))))))
  · exact Or.inr (Or.inr (Or.inr (Or.inr (Or.inr (Or.inr (Or.inr (Or.inr (Or.inr (Or.inr (Or.inr (Or.inr (Or.inr (Or.inr (Or.inr (Or.inr (Or.inr (Or.inr (Or.inr (h)))))))))))))))))))
theorem zv_sw01 (x : Int32) : x = 0 ∨ x = 1 ∨ (¬ x = 0 ∧ ¬ x = 1) := by
  by_cases h : x = 0
  · exact Or.inl h
  · by_cases h1 : x = 1
    · exact Or.inr (Or.inl h1)
    · exact Or.inr (Or.inr ⟨h, h1⟩)
end
section
abbrev M_X10_isWithin : zv_M := (cX10_isWithin, 2, RX10, (some .boolean), 0)
abbrev M_X10_isList : zv_M := (cX10_isList, 1, RX10, (some .boolean), 1)
abbrev M_X10_isObject : zv_M := (cX10_isObject, 1, RX10, (some .boolean), 1)
abbrev M_X3_placeOf : zv_M := (cX3_placeOf, 6, RX3, (some .int), 0)
abbrev M_X3_store : zv_M := (cX3_store, 5, RX3, (some .boolean), 1)
abbrev M_X5_count : zv_M := (cX5_count, 1, RX5, (some .int), 0)
abbrev M_X5_hasNumbers : zv_M := (cX5_hasNumbers, 5, RX5, (some .boolean), 0)
abbrev M_X5_size : zv_M := (cX5_size, 2, RX5, (some .int), 0)
abbrev M_X5_partAt : zv_M := (cX5_partAt, 3, RX5, (some .int), 0)
abbrev M_X9_touchesByParts : zv_M := (cX9_touchesByParts, 3, RX9, (some .boolean), 1)
abbrev M_X9_dropThoseOverList : zv_M := (cX9_dropThoseOverList, 3, RX9, none, 2)
abbrev M_J9_min_7cf53 : zv_M := (cJ9_min_7cf53, 2, RJ9, (some .int), 0)
abbrev M_X0_forgetFrom : zv_M := (cX0_forgetFrom, 2, RX0, none, 1)
abbrev M_X10_listHasChanged : zv_M := (cX10_listHasChanged, 2, RX10, none, 3)
abbrev M_X3_size : zv_M := (cX3_size, 2, RX3, (some .int), 0)
abbrev M_X10_put : zv_M := (cX10_put, 4, RX10, (some .int), 4)
abbrev M_X3_weightOf : zv_M := (cX3_weightOf, 4, RX3, (some .int), 1)
abbrev M_X3_remove : zv_M := (cX3_remove, 5, RX3, none, 1)
abbrev M_X10_take : zv_M := (cX10_take, 4, RX10, (some .int), 4)
abbrev M_X5_has : zv_M := (cX5_has, 2, RX5, (some .boolean), 0)
abbrev M_X10_modulusOf : zv_M := (cX10_modulusOf, 1, RX10, (some .int), 0)
abbrev M_X10_areNumbersOf : zv_M := (cX10_areNumbersOf, 4, RX10, (some .boolean), 2)
abbrev M_X10_hasSecondNumber : zv_M := (cX10_hasSecondNumber, 1, RX10, (some .boolean), 0)
abbrev M_X5_add : zv_M := (cX5_add, 5, RX5, (some .boolean), 0)
abbrev M_X5_make : zv_M := (cX5_make, 5, RX5, (some .int), 1)
abbrev M_X10_node : zv_M := (cX10_node, 4, RX10, (some .int), 3)
abbrev M_X5_kind : zv_M := (cX5_kind, 2, RX5, (some .int), 0)
abbrev M_X10_isRoleOf : zv_M := (cX10_isRoleOf, 2, RX10, (some .boolean), 1)
abbrev M_X9_dropThoseAbove : zv_M := (cX9_dropThoseAbove, 3, RX9, none, 2)
abbrev M_X10_part : zv_M := (cX10_part, 4, RX10, (some .int), 3)
abbrev M_X9_isThere : zv_M := (cX9_isThere, 2, RX9, (some .boolean), 0)
abbrev M_X9_size : zv_M := (cX9_size, 2, RX9, (some .int), 0)
abbrev M_X5_asked : zv_M := (cX5_asked, 2, RX5, (some .int), 0)
abbrev M_X8_clear_20 : zv_M := (cX8_clear, 3, RX8, none, 0)
abbrev M_X8_clear_22 : zv_M := (cX8_clear, 3, RX8, none, 0)
abbrev M_X9_rows : zv_M := (cX9_rows, 1, RX9, (some (.object "BooleanRuns$Rows")), 0)
abbrev M_X8_join_20_14 : zv_M := (cX8_join, 5, RX8, none, 0)
abbrev M_X8_join_22_14 : zv_M := (cX8_join, 5, RX8, none, 0)
abbrev M_X8_join_20_20 : zv_M := (cX8_join, 5, RX8, none, 0)
abbrev M_X8_join_22_22 : zv_M := (cX8_join, 5, RX8, none, 0)
abbrev M_X0_joinParts : zv_M := (cX0_joinParts, 3, RX0, none, 1)
abbrev M_X0_fillByKept : zv_M := (cX0_fillByKept, 2, RX0, none, 2)
abbrev M_X5_roleAt : zv_M := (cX5_roleAt, 3, RX5, (some .int), 0)
abbrev M_X5_countOf : zv_M := (cX5_countOf, 5, RX5, (some .int), 1)
abbrev M_J9_max_7cf53 : zv_M := (cJ9_max_7cf53, 2, RJ9, (some .int), 0)
abbrev M_X5_leastOf : zv_M := (cX5_leastOf, 3, RX5, (some .int), 2)
abbrev M_J7_fill_d0a16 : zv_M := (cJ7_fill_d0a16, 5, RJ7, none, 0)
abbrev M_X8_word_22 : zv_M := (cX8_word, 3, RX8, (some .long), 0)
abbrev M_X8_word_20 : zv_M := (cX8_word, 3, RX8, (some .long), 0)
abbrev M_X0_countIn : zv_M := (cX0_countIn, 5, RX0, none, 0)
abbrev M_X0_boolWord_19_20_22 : zv_M := (cX0_boolWord, 11, RX0, (some .long), 1)
abbrev M_X8_setWord_20 : zv_M := (cX8_setWord, 5, RX8, none, 0)
abbrev M_X0_boolWord_19_22_20 : zv_M := (cX0_boolWord, 11, RX0, (some .long), 1)
abbrev M_X8_setWord_22 : zv_M := (cX8_setWord, 5, RX8, none, 0)
abbrev M_X0_fillByBool : zv_M := (cX0_fillByBool, 4, RX0, none, 3)
abbrev M_X5_first : zv_M := (cX5_first, 2, RX5, (some .int), 0)
abbrev M_X5_second : zv_M := (cX5_second, 2, RX5, (some .int), 0)
abbrev M_X8_add_20 : zv_M := (cX8_add, 3, RX8, none, 0)
abbrev M_X8_add_22 : zv_M := (cX8_add, 3, RX8, none, 0)
abbrev M_X0_addToBoth : zv_M := (cX0_addToBoth, 3, RX0, none, 1)
abbrev M_X0_fillByRange : zv_M := (cX0_fillByRange, 3, RX0, none, 2)
abbrev M_X3_objectAt : zv_M := (cX3_objectAt, 3, RX3, (some .int), 0)
abbrev M_X0_fillByList : zv_M := (cX0_fillByList, 4, RX0, none, 2)
abbrev M_X0_fillRows : zv_M := (cX0_fillRows, 2, RX0, none, 4)
abbrev M_X0_costOfShoulds : zv_M := (cX0_costOfShoulds, 4, RX0, (some .int), 1)
abbrev M_X10_isNeeded : zv_M := (cX10_isNeeded, 1, RX10, (some .boolean), 0)
abbrev M_X0_costOfBool : zv_M := (cX0_costOfBool, 5, RX0, (some .int), 2)
abbrev M_X0_costOf : zv_M := (cX0_costOf, 2, RX0, (some .int), 3)
abbrev M_X0_rankOf : zv_M := (cX0_rankOf, 4, RX0, (some .int), 1)
abbrev M_X0_arrange : zv_M := (cX0_arrange, 6, RX0, none, 2)
abbrev M_X0_prepare : zv_M := (cX0_prepare, 3, RX0, none, 5)
abbrev M_X0_cost : zv_M := (cX0_cost, 2, RX0, (some .int), 0)
abbrev M_X10_told : zv_M := (cX10_told, 3, RX10, (some .int), 6)
abbrev M_X10_partOf : zv_M := (cX10_partOf, 4, RX10, (some .int), 1)
abbrev M_X8_has_20 : zv_M := (cX8_has, 3, RX8, (some .boolean), 0)
abbrev M_X0_maybe : zv_M := (cX0_maybe, 3, RX0, (some .boolean), 1)
abbrev M_X10_may : zv_M := (cX10_may, 3, RX10, (some .boolean), 6)
abbrev M_X8_has_22 : zv_M := (cX8_has, 3, RX8, (some .boolean), 0)
abbrev M_X0_surely : zv_M := (cX0_surely, 3, RX0, (some .boolean), 1)
abbrev M_X10_sure : zv_M := (cX10_sure, 3, RX10, (some .boolean), 6)
abbrev M_J7_fill_53178 : zv_M := (cJ7_fill_53178, 4, RJ7, none, 0)
abbrev M_X0_placeInOrder : zv_M := (cX0_placeInOrder, 3, RX0, (some .int), 0)
abbrev M_X4_holds : zv_M := (cX4_holds, 5, RX4, (some .boolean), 2)
abbrev M_X4_wantedByBool : zv_M := (cX4_wantedByBool, 8, RX4, (some .int), 3)
abbrev M_X4_wantedBy : zv_M := (cX4_wantedBy, 5, RX4, (some .int), 4)
abbrev M_X4_somePartMatches : zv_M := (cX4_somePartMatches, 3, RX4, (some .boolean), 1)
abbrev M_X5_ask : zv_M := (cX5_ask, 2, RX5, none, 0)
abbrev M_X4_passesTest : zv_M := (cX4_passesTest, 5, RX4, (some .boolean), 1)
abbrev M_X4_fitsBool : zv_M := (cX4_fitsBool, 7, RX4, (some .boolean), 3)
abbrev M_X4_fitsByParts : zv_M := (cX4_fitsByParts, 3, RX4, (some .boolean), 4)
abbrev M_J9_max_f86c9 : zv_M := (cJ9_max_f86c9, 4, RJ9, (some .long), 0)
abbrev M_X4_scoreOfBest : zv_M := (cX4_scoreOfBest, 8, RX4, (some .long), 1)
abbrev M_X4_scoreOfBool : zv_M := (cX4_scoreOfBool, 7, RX4, (some .long), 1)
abbrev M_X4_scoreByParts : zv_M := (cX4_scoreByParts, 3, RX4, (some .long), 2)
abbrev M_X4_matches : zv_M := (cX4_matches, 8, RX4, (some .boolean), 5)
abbrev M_X4_scoreOf : zv_M := (cX4_scoreOf, 2, RX4, (some .long), 0)
abbrev M_X10_look : zv_M := (cX10_look, 3, RX10, (some .int), 6)
abbrev M_X10_scored : zv_M := (cX10_scored, 1, RX10, (some .long), 0)
abbrev M_X1_clear : zv_M := (cX1_clear, 1, RX1, none, 0)
abbrev M_X1_add : zv_M := (cX1_add, 4, RX1, none, 0)
abbrev M_X1_size : zv_M := (cX1_size, 1, RX1, (some .int), 0)
abbrev M_X10_run : zv_M := (cX10_run, 3, RX10, (some .int), 6)
abbrev M_X1_has : zv_M := (cX1_has, 2, RX1, (some .boolean), 0)
abbrev M_X1_objectAt : zv_M := (cX1_objectAt, 2, RX1, (some .int), 0)
abbrev M_X10_found : zv_M := (cX10_found, 2, RX10, (some .int), 1)
abbrev M_X1_scoreAt : zv_M := (cX1_scoreAt, 2, RX1, (some .long), 0)
abbrev M_X10_score : zv_M := (cX10_score, 2, RX10, (some .long), 1)
abbrev M_X8_clear_14 : zv_M := (cX8_clear, 3, RX8, none, 0)
abbrev M_X9_begin : zv_M := (cX9_begin, 2, RX9, none, 1)
abbrev M_X8_add_14 : zv_M := (cX8_add, 3, RX8, none, 0)
abbrev M_X9_add : zv_M := (cX9_add, 3, RX9, none, 1)
abbrev M_X10_keep : zv_M := (cX10_keep, 4, RX10, (some .int), 6)
abbrev M_X2_start : zv_M := (cX2_start, 3, RX2, (some .int), 0)
abbrev M_X10_open : zv_M := (cX10_open, 2, RX10, (some .int), 1)
abbrev M_X2_isOpen : zv_M := (cX2_isOpen, 2, RX2, (some .boolean), 1)
abbrev M_X2_nodeOf : zv_M := (cX2_nodeOf, 2, RX2, (some .int), 0)
abbrev M_X2_standOf : zv_M := (cX2_standOf, 2, RX2, (some .int), 0)
abbrev M_X2_stopAt : zv_M := (cX2_stopAt, 3, RX2, none, 0)
abbrev M_X2_finish : zv_M := (cX2_finish, 2, RX2, none, 0)
abbrev M_X10_next : zv_M := (cX10_next, 5, RX10, (some .int), 6)
abbrev M_X2_end : zv_M := (cX2_end, 2, RX2, (some .int), 0)
abbrev M_X10_close : zv_M := (cX10_close, 2, RX10, (some .int), 2)
abbrev M_X7_markUnder : zv_M := (cX7_markUnder, 4, RX7, none, 1)
abbrev M_X7_thatIsSo : zv_M := (cX7_thatIsSo, 5, RX7, (some .int), 2)
abbrev M_X7_newOfOne : zv_M := (cX7_newOfOne, 5, RX7, (some .int), 3)
abbrev M_X6_clear : zv_M := (cX6_clear, 1, RX6, none, 0)
abbrev M_X6_add : zv_M := (cX6_add, 3, RX6, none, 0)
abbrev M_X6_size : zv_M := (cX6_size, 1, RX6, (some .int), 0)
abbrev M_X6_partAt : zv_M := (cX6_partAt, 2, RX6, (some .int), 0)
abbrev M_X6_roleAt : zv_M := (cX6_roleAt, 2, RX6, (some .int), 0)
abbrev M_X7_hasPartsOfRow : zv_M := (cX7_hasPartsOfRow, 3, RX7, (some .boolean), 1)
abbrev M_X7_thatIsSoWithRow : zv_M := (cX7_thatIsSoWithRow, 5, RX7, (some .int), 2)
abbrev M_X7_newOfBest : zv_M := (cX7_newOfBest, 4, RX7, (some .int), 3)
abbrev M_X7_canDissolve : zv_M := (cX7_canDissolve, 6, RX7, (some .boolean), 2)
abbrev M_X7_dissolve : zv_M := (cX7_dissolve, 5, RX7, none, 1)
abbrev M_X7_gatherBool : zv_M := (cX7_gatherBool, 6, RX7, (some .boolean), 3)
abbrev M_X6_countOf : zv_M := (cX6_countOf, 4, RX6, (some .int), 0)
abbrev M_X6_makeShouldsMusts : zv_M := (cX6_makeShouldsMusts, 2, RX6, none, 0)
abbrev M_X6_hasAhead : zv_M := (cX6_hasAhead, 5, RX6, (some .boolean), 0)
abbrev M_X6_contradictsItself : zv_M := (cX6_contradictsItself, 2, RX6, (some .boolean), 1)
abbrev M_X6_hasBehind : zv_M := (cX6_hasBehind, 5, RX6, (some .boolean), 0)
abbrev M_X6_isRepeat : zv_M := (cX6_isRepeat, 4, RX6, (some .boolean), 1)
abbrev M_X6_leaveOutRepeats : zv_M := (cX6_leaveOutRepeats, 3, RX6, none, 2)
abbrev M_X7_boolOfRow : zv_M := (cX7_boolOfRow, 4, RX7, (some .int), 3)
abbrev M_X7_newOf : zv_M := (cX7_newOf, 3, RX7, (some .int), 4)
abbrev M_X5_shrinkTo : zv_M := (cX5_shrinkTo, 2, RX5, none, 0)
abbrev M_X7_writeAnew : zv_M := (cX7_writeAnew, 5, RX7, (some .int), 5)
abbrev M_X10_rewrite : zv_M := (cX10_rewrite, 2, RX10, (some .int), 6)
abbrev M_X9_count : zv_M := (cX9_count, 3, RX9, (some .int), 0)
abbrev M_X2_countOpen : zv_M := (cX2_countOpen, 3, RX2, (some .int), 0)
abbrev M_X5_askedInAll : zv_M := (cX5_askedInAll, 3, RX5, (some .int), 0)
abbrev M_X3_total : zv_M := (cX3_total, 3, RX3, (some .int), 0)
abbrev M_X10_sum : zv_M := (cX10_sum, 2, RX10, (some .int), 1)
abbrev M_X11_in : zv_M := (cX11_in, 3, RX11, (some .boolean), 0)
abbrev M_X11_isObject : zv_M := (cX11_isObject, 1, RX11, (some .boolean), 1)
abbrev M_X11_forget : zv_M := (cX11_forget, 5, RX11, none, 0)
abbrev M_X11_change : zv_M := (cX11_change, 3, RX11, none, 1)
abbrev M_X11_put : zv_M := (cX11_put, 5, RX11, (some .int), 2)
abbrev M_X11_take : zv_M := (cX11_take, 5, RX11, (some .int), 2)
abbrev M_X11_isNode : zv_M := (cX11_isNode, 2, RX11, (some .boolean), 1)
abbrev M_X11_isToldSo : zv_M := (cX11_isToldSo, 4, RX11, (some .boolean), 2)
abbrev M_X11_make : zv_M := (cX11_make, 4, RX11, none, 0)
abbrev M_X11_node : zv_M := (cX11_node, 5, RX11, (some .int), 3)
abbrev M_X11_part : zv_M := (cX11_part, 5, RX11, (some .int), 2)
abbrev M_X11_together : zv_M := (cX11_together, 7, RX11, (some .int), 0)
abbrev M_X11_costs : zv_M := (cX11_costs, 3, RX11, none, 1)
abbrev M_X11_told : zv_M := (cX11_told, 3, RX11, (some .int), 2)
abbrev M_X11_partOf : zv_M := (cX11_partOf, 4, RX11, (some .int), 2)
abbrev M_X11_fits : zv_M := (cX11_fits, 10, RX11, (some .boolean), 0)
abbrev M_X11_mayAll : zv_M := (cX11_mayAll, 6, RX11, none, 1)
abbrev M_X11_may : zv_M := (cX11_may, 3, RX11, (some .boolean), 2)
abbrev M_X11_sure : zv_M := (cX11_sure, 3, RX11, (some .boolean), 2)
abbrev M_X11_sort : zv_M := (cX11_sort, 6, RX11, none, 0)
abbrev M_X11_come : zv_M := (cX11_come, 2, RX11, none, 1)
abbrev M_X11_goBool : zv_M := (cX11_goBool, 8, RX11, none, 2)
abbrev M_X11_goBest : zv_M := (cX11_goBest, 9, RX11, none, 2)
abbrev M_X11_goOne : zv_M := (cX11_goOne, 5, RX11, none, 2)
abbrev M_X11_go : zv_M := (cX11_go, 4, RX11, (some .boolean), 3)
abbrev M_X11_look : zv_M := (cX11_look, 4, RX11, (some .int), 4)
abbrev M_X11_scored : zv_M := (cX11_scored, 1, RX11, (some .long), 0)
abbrev M_X11_run : zv_M := (cX11_run, 3, RX11, (some .int), 4)
abbrev M_X11_found : zv_M := (cX11_found, 2, RX11, (some .int), 1)
abbrev M_X11_score : zv_M := (cX11_score, 2, RX11, (some .long), 1)
abbrev M_X11_keep : zv_M := (cX11_keep, 5, RX11, (some .int), 4)
abbrev M_X11_open : zv_M := (cX11_open, 3, RX11, (some .int), 2)
abbrev M_X11_isOpen : zv_M := (cX11_isOpen, 2, RX11, (some .boolean), 1)
abbrev M_X11_next : zv_M := (cX11_next, 4, RX11, (some .int), 4)
abbrev M_X11_close : zv_M := (cX11_close, 2, RX11, (some .int), 2)
abbrev M_X11_so : zv_M := (cX11_so, 7, RX11, (some .int), 1)
abbrev M_X11_opens : zv_M := (cX11_opens, 7, RX11, (some .boolean), 0)
abbrev M_X11_lay : zv_M := (cX11_lay, 3, RX11, none, 0)
abbrev M_X11_count : zv_M := (cX11_count, 4, RX11, (some .int), 0)
abbrev M_X11_thin : zv_M := (cX11_thin, 9, RX11, (some .boolean), 0)
abbrev M_X11_newBool : zv_M := (cX11_newBool, 8, RX11, (some .int), 2)
abbrev M_X11_newBest : zv_M := (cX11_newBest, 4, RX11, (some .int), 2)
abbrev M_X11_newOther : zv_M := (cX11_newOther, 5, RX11, (some .int), 2)
abbrev M_X11_rewrite : zv_M := (cX11_rewrite, 5, RX11, (some .int), 3)
abbrev M_X11_sum : zv_M := (cX11_sum, 4, RX11, (some .int), 0)
theorem zinX0 : ∀ w ∈ wsX00, w ∈ zv_tb := zv_ins inX0 (by decide +kernel)
theorem zinX1 : ∀ w ∈ wsX10, w ∈ zv_tb := zv_ins inX1 (by decide +kernel)
theorem zinX2 : ∀ w ∈ wsX20, w ∈ zv_tb := zv_ins inX2 (by decide +kernel)
theorem zinX3 : ∀ w ∈ wsX30, w ∈ zv_tb := zv_ins inX3 (by decide +kernel)
theorem zinX4 : ∀ w ∈ wsX40, w ∈ zv_tb := zv_ins inX4 (by decide +kernel)
theorem zinX5 : ∀ w ∈ wsX50, w ∈ zv_tb := zv_ins inX5 (by decide +kernel)
theorem zinX6 : ∀ w ∈ wsX60, w ∈ zv_tb := zv_ins inX6 (by decide +kernel)
theorem zinX7 : ∀ w ∈ wsX70, w ∈ zv_tb := zv_ins inX7 (by decide +kernel)
theorem zinX8 : ∀ w ∈ wsX80, w ∈ zv_tb := zv_ins inX8 (by decide +kernel)
theorem zinX9 : ∀ w ∈ wsX90, w ∈ zv_tb := zv_ins inX9 (by decide +kernel)
theorem zinX10 : ∀ w ∈ wsX100, w ∈ zv_tb := zv_ins inX10 (by decide +kernel)
theorem zinX11 : ∀ w ∈ wsX110, w ∈ zv_tb := zv_ins inX11 (by decide +kernel)
theorem lk_X10_81 : Cond.methodLink RX10 81 yX10_isWithin ∈ zv_tb := zv_in 342 (by decide +kernel) rfl
theorem fl_X3_9 : zv_FL RX3 9 3 0 := ⟨_, _, _, rfl, by decide, zinX3, zv_in 94 (by decide +kernel) rfl⟩
theorem fl_X3_18 : zv_FL RX3 18 3 2 := ⟨_, _, _, rfl, by decide, zinX3, zv_in 96 (by decide +kernel) rfl⟩
theorem fl_X3_15 : zv_FL RX3 15 3 1 := ⟨_, _, _, rfl, by decide, zinX3, zv_in 95 (by decide +kernel) rfl⟩
theorem lk_X3_21 : Cond.methodLink RX3 21 yX3_placeOf ∈ zv_tb := zv_in 353 (by decide +kernel) rfl
theorem fl_X5_33 : zv_FL RX5 33 5 0 := ⟨_, _, _, rfl, by decide, zinX5, zv_in 111 (by decide +kernel) rfl⟩
theorem fl_X5_9 : zv_FL RX5 9 5 1 := ⟨_, _, _, rfl, by decide, zinX5, zv_in 112 (by decide +kernel) rfl⟩
theorem fl_X5_15 : zv_FL RX5 15 5 2 := ⟨_, _, _, rfl, by decide, zinX5, zv_in 113 (by decide +kernel) rfl⟩
theorem fl_X5_18 : zv_FL RX5 18 5 3 := ⟨_, _, _, rfl, by decide, zinX5, zv_in 114 (by decide +kernel) rfl⟩
theorem fl_X5_24 : zv_FL RX5 24 5 5 := ⟨_, _, _, rfl, by decide, zinX5, zv_in 116 (by decide +kernel) rfl⟩
theorem fl_X5_30 : zv_FL RX5 30 5 7 := ⟨_, _, _, rfl, by decide, zinX5, zv_in 118 (by decide +kernel) rfl⟩
theorem fl_X9_29 : zv_FL RX9 29 9 0 := ⟨_, _, _, rfl, by decide, zinX9, zv_in 153 (by decide +kernel) rfl⟩
theorem lk_X9_55 : Cond.methodLink RX9 55 yX5_size ∈ zv_tb := zv_in 377 (by decide +kernel) rfl
theorem fl_X9_26 : zv_FL RX9 26 9 4 := ⟨_, _, _, rfl, by decide, zinX9, zv_in 157 (by decide +kernel) rfl⟩
theorem lk_X9_59 : Cond.methodLink RX9 59 yX5_partAt ∈ zv_tb := zv_in 381 (by decide +kernel) rfl
theorem fl_X9_18 : zv_FL RX9 18 9 2 := ⟨_, _, _, rfl, by decide, zinX9, zv_in 155 (by decide +kernel) rfl⟩
theorem lk_X9_41 : Cond.methodLink RX9 41 yX5_count ∈ zv_tb := zv_in 365 (by decide +kernel) rfl
theorem lk_X9_51 : Cond.methodLink RX9 51 yX5_hasNumbers ∈ zv_tb := zv_in 369 (by decide +kernel) rfl
theorem lk_X9_47 : Cond.methodLink RX9 47 yX9_touchesByParts ∈ zv_tb := zv_in 373 (by decide +kernel) rfl
theorem fl_X0_48 : zv_FL RX0 48 0 8 := ⟨_, _, _, rfl, by decide, zinX0, zv_in 186 (by decide +kernel) rfl⟩
theorem lk_X0_52 : Cond.methodLink RX0 52 yJ9_min_7cf53 ∈ zv_tb := zv_in 389 (by decide +kernel) rfl
theorem fp_X0_48 : zv_FP RX0 48 0 8 .int := ⟨_, _, _, tyX0, rfl, by decide, zinX0, zv_in 186 (by decide +kernel) rfl, tyX0_ok, nmX0, rfl, by decide +kernel⟩
theorem fl_X10_28 : zv_FL RX10 28 10 2 := ⟨_, _, _, rfl, by decide, zinX10, zv_in 309 (by decide +kernel) rfl⟩
theorem lk_X10_242 : Cond.methodLink RX10 242 yX9_dropThoseOverList ∈ zv_tb := zv_in 361 (by decide +kernel) rfl
theorem fl_X10_37 : zv_FL RX10 37 10 3 := ⟨_, _, _, rfl, by decide, zinX10, zv_in 310 (by decide +kernel) rfl⟩
theorem lk_X10_133 : Cond.methodLink RX10 133 yX0_forgetFrom ∈ zv_tb := zv_in 385 (by decide +kernel) rfl
theorem lk_X10_73 : Cond.methodLink RX10 73 yX10_isList ∈ zv_tb := zv_in 339 (by decide +kernel) rfl
theorem lk_X10_77 : Cond.methodLink RX10 77 yX10_isObject ∈ zv_tb := zv_in 345 (by decide +kernel) rfl
theorem cst_X10_80 : Cond.constant RX10 80 1000000 ∈ zv_tb := zv_in 348 (by decide +kernel) rfl
theorem fl_X10_12 : zv_FL RX10 12 10 0 := ⟨_, _, _, rfl, by decide, zinX10, zv_in 307 (by decide +kernel) rfl⟩
theorem lk_X10_85 : Cond.methodLink RX10 85 yX3_store ∈ zv_tb := zv_in 349 (by decide +kernel) rfl
theorem lk_X10_89 : Cond.methodLink RX10 89 yX10_listHasChanged ∈ zv_tb := zv_in 357 (by decide +kernel) rfl
theorem lk_X10_93 : Cond.methodLink RX10 93 yX3_size ∈ zv_tb := zv_in 392 (by decide +kernel) rfl
theorem lk_X10_97 : Cond.methodLink RX10 97 yX3_placeOf ∈ zv_tb := zv_in 400 (by decide +kernel) rfl
theorem lk_X10_101 : Cond.methodLink RX10 101 yX3_weightOf ∈ zv_tb := zv_in 401 (by decide +kernel) rfl
theorem lk_X10_104 : Cond.methodLink RX10 104 yX3_remove ∈ zv_tb := zv_in 405 (by decide +kernel) rfl
theorem fl_X10_19 : zv_FL RX10 19 10 1 := ⟨_, _, _, rfl, by decide, zinX10, zv_in 308 (by decide +kernel) rfl⟩
theorem lk_X10_118 : Cond.methodLink RX10 118 yX5_has ∈ zv_tb := zv_in 417 (by decide +kernel) rfl
theorem cst_X10_245 : Cond.constant RX10 245 999999999 ∈ zv_tb := zv_in 421 (by decide +kernel) rfl
theorem lk_X10_246 : Cond.methodLink RX10 246 yX10_modulusOf ∈ zv_tb := zv_in 422 (by decide +kernel) rfl
theorem fl_X5_27 : zv_FL RX5 27 5 6 := ⟨_, _, _, rfl, by decide, zinX5, zv_in 117 (by decide +kernel) rfl⟩
theorem lk_X5_37 : Cond.methodLink RX5 37 yX5_add ∈ zv_tb := zv_in 432 (by decide +kernel) rfl
theorem fp_X5_33 : zv_FP RX5 33 5 0 .int := ⟨_, _, _, tyX5, rfl, by decide, zinX5, zv_in 111 (by decide +kernel) rfl, tyX5_ok, nmX5, rfl, by decide +kernel⟩
theorem fl_X5_21 : zv_FL RX5 21 5 4 := ⟨_, _, _, rfl, by decide, zinX5, zv_in 115 (by decide +kernel) rfl⟩
theorem lk_X10_114 : Cond.methodLink RX10 114 yX5_make ∈ zv_tb := zv_in 428 (by decide +kernel) rfl
theorem lk_X10_111 : Cond.methodLink RX10 111 yX10_hasSecondNumber ∈ zv_tb := zv_in 425 (by decide +kernel) rfl
theorem lk_X10_108 : Cond.methodLink RX10 108 yX10_areNumbersOf ∈ zv_tb := zv_in 413 (by decide +kernel) rfl
theorem lk_X10_121 : Cond.methodLink RX10 121 yX5_kind ∈ zv_tb := zv_in 440 (by decide +kernel) rfl
theorem lk_X10_124 : Cond.methodLink RX10 124 yX10_isRoleOf ∈ zv_tb := zv_in 444 (by decide +kernel) rfl
theorem lk_X10_127 : Cond.methodLink RX10 127 yX5_add ∈ zv_tb := zv_in 447 (by decide +kernel) rfl
theorem lk_X10_130 : Cond.methodLink RX10 130 yX9_dropThoseAbove ∈ zv_tb := zv_in 448 (by decide +kernel) rfl
theorem lk_X10_136 : Cond.methodLink RX10 136 yX5_size ∈ zv_tb := zv_in 452 (by decide +kernel) rfl
theorem fl_X9_22 : zv_FL RX9 22 9 3 := ⟨_, _, _, rfl, by decide, zinX9, zv_in 156 (by decide +kernel) rfl⟩
theorem fl_X8_9 : zv_FL RX8 9 8 0 := ⟨_, _, _, rfl, by decide, zinX8, zv_in 148 (by decide +kernel) rfl⟩
theorem fl_X9_12 : zv_FL RX9 12 9 1 := ⟨_, _, _, rfl, by decide, zinX9, zv_in 154 (by decide +kernel) rfl⟩
theorem fl_X0_36 : zv_FL RX0 36 0 1 := ⟨_, _, _, rfl, by decide, zinX0, zv_in 179 (by decide +kernel) rfl⟩
theorem lk_X0_133 : Cond.methodLink RX0 133 yX5_size ∈ zv_tb := zv_in 528 (by decide +kernel) rfl
theorem fl_X0_12 : zv_FL RX0 12 0 3 := ⟨_, _, _, rfl, by decide, zinX0, zv_in 181 (by decide +kernel) rfl⟩
theorem lk_X0_92 : Cond.methodLink RX0 92 yX5_partAt ∈ zv_tb := zv_in 529 (by decide +kernel) rfl
theorem lk_X0_95 : Cond.methodLink RX0 95 yX8_join ∈ zv_tb := zv_in 555 (by decide +kernel) rfl
theorem fl_X0_18 : zv_FL RX0 18 0 4 := ⟨_, _, _, rfl, by decide, zinX0, zv_in 182 (by decide +kernel) rfl⟩
theorem fl_X0_40 : zv_FL RX0 40 0 2 := ⟨_, _, _, rfl, by decide, zinX0, zv_in 180 (by decide +kernel) rfl⟩
theorem lk_X0_123 : Cond.methodLink RX0 123 yX9_isThere ∈ zv_tb := zv_in 547 (by decide +kernel) rfl
theorem lk_X0_99 : Cond.methodLink RX0 99 yX0_joinParts ∈ zv_tb := zv_in 559 (by decide +kernel) rfl
theorem lk_X0_129 : Cond.methodLink RX0 129 yX9_rows ∈ zv_tb := zv_in 551 (by decide +kernel) rfl
theorem lk_X5_41 : Cond.methodLink RX5 41 yX5_roleAt ∈ zv_tb := zv_in 513 (by decide +kernel) rfl
theorem lk_X5_48 : Cond.methodLink RX5 48 yJ9_max_7cf53 ∈ zv_tb := zv_in 517 (by decide +kernel) rfl
theorem lk_X5_45 : Cond.methodLink RX5 45 yX5_countOf ∈ zv_tb := zv_in 509 (by decide +kernel) rfl
theorem fl_X0_28 : zv_FL RX0 28 0 7 := ⟨_, _, _, rfl, by decide, zinX0, zv_in 185 (by decide +kernel) rfl⟩
theorem lk_X0_153 : Cond.methodLink RX0 153 yX5_roleAt ∈ zv_tb := zv_in 530 (by decide +kernel) rfl
theorem lk_X0_156 : Cond.methodLink RX0 156 yX8_word ∈ zv_tb := zv_in 531 (by decide +kernel) rfl
theorem lk_X0_160 : Cond.methodLink RX0 160 yX0_countIn ∈ zv_tb := zv_in 535 (by decide +kernel) rfl
theorem cst_X0_145 : Cond.constantLong RX0 145 (-1) ∈ zv_tb := zv_in 524 (by decide +kernel) rfl
theorem lk_X0_147 : Cond.methodLink RX0 147 yJ7_fill_d0a16 ∈ zv_tb := zv_in 525 (by decide +kernel) rfl
theorem lk_X0_137 : Cond.methodLink RX0 137 yX0_boolWord ∈ zv_tb := zv_in 520 (by decide +kernel) rfl
theorem lk_X0_141 : Cond.methodLink RX0 141 yX8_setWord ∈ zv_tb := zv_in 539 (by decide +kernel) rfl
theorem lk_X0_134 : Cond.methodLink RX0 134 yX5_leastOf ∈ zv_tb := zv_in 505 (by decide +kernel) rfl
theorem lk_X0_120 : Cond.methodLink RX0 120 yX8_add ∈ zv_tb := zv_in 492 (by decide +kernel) rfl
theorem lk_X0_117 : Cond.methodLink RX0 117 yX5_second ∈ zv_tb := zv_in 500 (by decide +kernel) rfl
theorem lk_X0_113 : Cond.methodLink RX0 113 yX0_addToBoth ∈ zv_tb := zv_in 488 (by decide +kernel) rfl
theorem lk_X0_102 : Cond.methodLink RX0 102 yX5_first ∈ zv_tb := zv_in 482 (by decide +kernel) rfl
theorem fl_X0_32 : zv_FL RX0 32 0 0 := ⟨_, _, _, rfl, by decide, zinX0, zv_in 178 (by decide +kernel) rfl⟩
theorem lk_X0_105 : Cond.methodLink RX0 105 yX3_size ∈ zv_tb := zv_in 483 (by decide +kernel) rfl
theorem lk_X0_110 : Cond.methodLink RX0 110 yX3_objectAt ∈ zv_tb := zv_in 484 (by decide +kernel) rfl
theorem lk_X0_69 : Cond.methodLink RX0 69 yX5_kind ∈ zv_tb := zv_in 477 (by decide +kernel) rfl
theorem lk_X0_80 : Cond.methodLink RX0 80 yX0_fillByList ∈ zv_tb := zv_in 478 (by decide +kernel) rfl
theorem lk_X0_83 : Cond.methodLink RX0 83 yX0_fillByRange ∈ zv_tb := zv_in 496 (by decide +kernel) rfl
theorem lk_X0_86 : Cond.methodLink RX0 86 yX0_fillByBool ∈ zv_tb := zv_in 501 (by decide +kernel) rfl
theorem lk_X0_89 : Cond.methodLink RX0 89 yX0_fillByKept ∈ zv_tb := zv_in 543 (by decide +kernel) rfl
theorem fl_X0_21 : zv_FL RX0 21 0 5 := ⟨_, _, _, rfl, by decide, zinX0, zv_in 183 (by decide +kernel) rfl⟩
theorem lk_X0_167 : Cond.methodLink RX0 167 yX0_costOfShoulds ∈ zv_tb := zv_in 574 (by decide +kernel) rfl
theorem lk_X0_171 : Cond.methodLinkNest RX0 171 yX10_isNeeded RX10 ∈ zv_nt := by decide +kernel
theorem lk_X0_164 : Cond.methodLink RX0 164 yX0_costOfBool ∈ zv_tb := zv_in 567 (by decide +kernel) rfl
theorem lk_X0_170 : Cond.methodLink RX0 170 yX9_size ∈ zv_tb := zv_in 578 (by decide +kernel) rfl
theorem fl_X0_25 : zv_FL RX0 25 0 6 := ⟨_, _, _, rfl, by decide, zinX0, zv_in 184 (by decide +kernel) rfl⟩
theorem lk_X0_174 : Cond.methodLink RX0 174 yX0_rankOf ∈ zv_tb := zv_in 586 (by decide +kernel) rfl
theorem lk_X0_77 : Cond.methodLink RX0 77 yJ9_max_7cf53 ∈ zv_tb := zv_in 590 (by decide +kernel) rfl
theorem lk_X0_58 : Cond.methodLink RX0 58 yX8_clear ∈ zv_tb := zv_in 469 (by decide +kernel) rfl
theorem lk_X0_62 : Cond.methodLink RX0 62 yX0_fillRows ∈ zv_tb := zv_in 473 (by decide +kernel) rfl
theorem lk_X0_65 : Cond.methodLink RX0 65 yX0_costOf ∈ zv_tb := zv_in 563 (by decide +kernel) rfl
theorem lk_X0_74 : Cond.methodLink RX0 74 yX0_arrange ∈ zv_tb := zv_in 582 (by decide +kernel) rfl
theorem lk_X10_137 : Cond.methodLink RX10 137 yX5_first ∈ zv_tb := zv_in 457 (by decide +kernel) rfl
theorem lk_X10_140 : Cond.methodLink RX10 140 yX5_second ∈ zv_tb := zv_in 461 (by decide +kernel) rfl
theorem lk_X10_143 : Cond.methodLink RX10 143 yX0_prepare ∈ zv_tb := zv_in 465 (by decide +kernel) rfl
theorem lk_X10_146 : Cond.methodLink RX10 146 yX0_cost ∈ zv_tb := zv_in 591 (by decide +kernel) rfl
theorem lk_X10_149 : Cond.methodLink RX10 149 yX5_asked ∈ zv_tb := zv_in 595 (by decide +kernel) rfl
theorem lk_X10_152 : Cond.methodLink RX10 152 yX9_isThere ∈ zv_tb := zv_in 599 (by decide +kernel) rfl
theorem lk_X10_155 : Cond.methodLink RX10 155 yX9_size ∈ zv_tb := zv_in 600 (by decide +kernel) rfl
theorem lk_X10_156 : Cond.methodLink RX10 156 yX5_roleAt ∈ zv_tb := zv_in 605 (by decide +kernel) rfl
theorem lk_X10_159 : Cond.methodLink RX10 159 yX5_partAt ∈ zv_tb := zv_in 606 (by decide +kernel) rfl
theorem lk_X0_44 : Cond.methodLink RX0 44 yX8_has ∈ zv_tb := zv_in 615 (by decide +kernel) rfl
theorem lk_X10_162 : Cond.methodLink RX10 162 yX0_maybe ∈ zv_tb := zv_in 611 (by decide +kernel) rfl
theorem lk_X10_165 : Cond.methodLink RX10 165 yX0_surely ∈ zv_tb := zv_in 623 (by decide +kernel) rfl
theorem fl_X4_9 : zv_FL RX4 9 4 4 := ⟨_, _, _, rfl, by decide, zinX4, zv_in 216 (by decide +kernel) rfl⟩
theorem fl_X4_34 : zv_FL RX4 34 4 3 := ⟨_, _, _, rfl, by decide, zinX4, zv_in 215 (by decide +kernel) rfl⟩
theorem lk_X4_95 : Cond.methodLink RX4 95 yX0_surely ∈ zv_tb := zv_in 660 (by decide +kernel) rfl
theorem lk_X4_92 : Cond.methodLinkNest RX4 92 yX10_isNeeded RX10 ∈ zv_nt := by decide +kernel
theorem fl_X4_26 : zv_FL RX4 26 4 1 := ⟨_, _, _, rfl, by decide, zinX4, zv_in 213 (by decide +kernel) rfl⟩
theorem lk_X4_76 : Cond.methodLink RX4 76 yX5_size ∈ zv_tb := zv_in 649 (by decide +kernel) rfl
theorem lk_X4_82 : Cond.methodLink RX4 82 yX0_placeInOrder ∈ zv_tb := zv_in 650 (by decide +kernel) rfl
theorem lk_X4_79 : Cond.methodLink RX4 79 yX5_partAt ∈ zv_tb := zv_in 654 (by decide +kernel) rfl
theorem lk_X4_85 : Cond.methodLink RX4 85 yX5_roleAt ∈ zv_tb := zv_in 655 (by decide +kernel) rfl
theorem lk_X4_88 : Cond.methodLink RX4 88 yX4_holds ∈ zv_tb := zv_in 656 (by decide +kernel) rfl
theorem lk_X4_38 : Cond.methodLink RX4 38 yX0_maybe ∈ zv_tb := zv_in 635 (by decide +kernel) rfl
theorem fl_X4_30 : zv_FL RX4 30 4 2 := ⟨_, _, _, rfl, by decide, zinX4, zv_in 214 (by decide +kernel) rfl⟩
theorem lk_X4_61 : Cond.methodLink RX4 61 yX9_isThere ∈ zv_tb := zv_in 643 (by decide +kernel) rfl
theorem lk_X4_67 : Cond.methodLink RX4 67 yX5_kind ∈ zv_tb := zv_in 644 (by decide +kernel) rfl
theorem lk_X4_73 : Cond.methodLink RX4 73 yX4_wantedByBool ∈ zv_tb := zv_in 645 (by decide +kernel) rfl
theorem lk_X4_110 : Cond.methodLink RX4 110 yX5_ask ∈ zv_tb := zv_in 679 (by decide +kernel) rfl
theorem lk_X4_114 : Cond.methodLink RX4 114 yX5_second ∈ zv_tb := zv_in 683 (by decide +kernel) rfl
theorem lk_X4_117 : Cond.methodLinkNest RX4 117 yX10_modulusOf RX10 ∈ zv_nt := by decide +kernel
theorem cst_X4_120 : Cond.constant RX4 120 1000000 ∈ zv_tb := zv_in 685 (by decide +kernel) rfl
theorem lk_X4_107 : Cond.methodLink RX4 107 yX5_leastOf ∈ zv_tb := zv_in 670 (by decide +kernel) rfl
theorem lk_X4_101 : Cond.methodLink RX4 101 yX4_somePartMatches ∈ zv_tb := zv_in 671 (by decide +kernel) rfl
theorem lk_X4_98 : Cond.methodLink RX4 98 yX4_fitsBool ∈ zv_tb := zv_in 666 (by decide +kernel) rfl
theorem lk_X4_104 : Cond.methodLink RX4 104 yX4_passesTest ∈ zv_tb := zv_in 675 (by decide +kernel) rfl
theorem lk_X4_121 : Cond.methodLink RX4 121 yX5_first ∈ zv_tb := zv_in 690 (by decide +kernel) rfl
theorem cst_X4_146 : Cond.constantLong RX4 146 100 ∈ zv_tb := zv_in 704 (by decide +kernel) rfl
theorem fl_X4_15 : zv_FL RX4 15 4 5 := ⟨_, _, _, rfl, by decide, zinX4, zv_in 217 (by decide +kernel) rfl⟩
theorem lk_X4_140 : Cond.methodLink RX4 140 yJ9_max_f86c9 ∈ zv_tb := zv_in 701 (by decide +kernel) rfl
theorem cst_X4_138 : Cond.constantLong RX4 138 (-9223372036854775808) ∈ zv_tb := zv_in 700 (by decide +kernel) rfl
theorem fl_X4_22 : zv_FL RX4 22 4 0 := ⟨_, _, _, rfl, by decide, zinX4, zv_in 212 (by decide +kernel) rfl⟩
theorem lk_X4_124 : Cond.methodLink RX4 124 yX3_weightOf ∈ zv_tb := zv_in 691 (by decide +kernel) rfl
theorem lk_X4_129 : Cond.methodLink RX4 129 yX4_scoreOfBool ∈ zv_tb := zv_in 692 (by decide +kernel) rfl
theorem lk_X4_133 : Cond.methodLink RX4 133 yX4_scoreOfBest ∈ zv_tb := zv_in 696 (by decide +kernel) rfl
theorem lk_X4_57 : Cond.methodLink RX4 57 yX4_scoreByParts ∈ zv_tb := zv_in 686 (by decide +kernel) rfl
theorem lk_X4_54 : Cond.methodLink RX4 54 yX4_fitsByParts ∈ zv_tb := zv_in 662 (by decide +kernel) rfl
theorem fl_X4_19 : zv_FL RX4 19 4 6 := ⟨_, _, _, rfl, by decide, zinX4, zv_in 218 (by decide +kernel) rfl⟩
theorem lk_X4_50 : Cond.methodLink RX4 50 yX4_wantedBy ∈ zv_tb := zv_in 639 (by decide +kernel) rfl
theorem lk_X4_44 : Cond.methodLink RX4 44 yJ7_fill_53178 ∈ zv_tb := zv_in 636 (by decide +kernel) rfl
theorem fl_X10_46 : zv_FL RX10 46 10 4 := ⟨_, _, _, rfl, by decide, zinX10, zv_in 311 (by decide +kernel) rfl⟩
theorem lk_X10_168 : Cond.methodLink RX10 168 yX4_matches ∈ zv_tb := zv_in 631 (by decide +kernel) rfl
theorem lk_X10_171 : Cond.methodLink RX10 171 yX4_scoreOf ∈ zv_tb := zv_in 705 (by decide +kernel) rfl
theorem fp_X10_175 : zv_FP RX10 175 10 8 .long := ⟨_, _, _, tyX10, rfl, by decide, zinX10, zv_in 315 (by decide +kernel) rfl, tyX10_ok, nmX10, rfl, by decide +kernel⟩
theorem fl_X10_175 : zv_FL RX10 175 10 8 := ⟨_, _, _, rfl, by decide, zinX10, zv_in 315 (by decide +kernel) rfl⟩
theorem fp_X1_19 : zv_FP RX1 19 1 2 .int := ⟨_, _, _, tyX1, rfl, by decide, zinX1, zv_in 242 (by decide +kernel) rfl, tyX1_ok, nmX1, rfl, by decide +kernel⟩
theorem fl_X1_19 : zv_FL RX1 19 1 2 := ⟨_, _, _, rfl, by decide, zinX1, zv_in 242 (by decide +kernel) rfl⟩
theorem fl_X1_9 : zv_FL RX1 9 1 0 := ⟨_, _, _, rfl, by decide, zinX1, zv_in 240 (by decide +kernel) rfl⟩
theorem fl_X1_15 : zv_FL RX1 15 1 1 := ⟨_, _, _, rfl, by decide, zinX1, zv_in 241 (by decide +kernel) rfl⟩
theorem fl_X10_53 : zv_FL RX10 53 10 5 := ⟨_, _, _, rfl, by decide, zinX10, zv_in 312 (by decide +kernel) rfl⟩
theorem lk_X10_185 : Cond.methodLink RX10 185 yX1_size ∈ zv_tb := zv_in 725 (by decide +kernel) rfl
theorem lk_X10_182 : Cond.methodLink RX10 182 yX1_add ∈ zv_tb := zv_in 721 (by decide +kernel) rfl
theorem lk_X10_179 : Cond.methodLink RX10 179 yX1_clear ∈ zv_tb := zv_in 717 (by decide +kernel) rfl
theorem lk_X10_188 : Cond.methodLink RX10 188 yX1_has ∈ zv_tb := zv_in 733 (by decide +kernel) rfl
theorem lk_X10_189 : Cond.methodLink RX10 189 yX1_objectAt ∈ zv_tb := zv_in 737 (by decide +kernel) rfl
theorem lk_X10_192 : Cond.methodLink RX10 192 yX1_scoreAt ∈ zv_tb := zv_in 745 (by decide +kernel) rfl
theorem lk_X9_33 : Cond.methodLink RX9 33 yX8_clear ∈ zv_tb := zv_in 757 (by decide +kernel) rfl
theorem lk_X9_37 : Cond.methodLink RX9 37 yX8_add ∈ zv_tb := zv_in 762 (by decide +kernel) rfl
theorem lk_X10_198 : Cond.methodLink RX10 198 yX9_add ∈ zv_tb := zv_in 758 (by decide +kernel) rfl
theorem lk_X10_195 : Cond.methodLink RX10 195 yX9_begin ∈ zv_tb := zv_in 753 (by decide +kernel) rfl
theorem fl_X2_9 : zv_FL RX2 9 2 0 := ⟨_, _, _, rfl, by decide, zinX2, zv_in 256 (by decide +kernel) rfl⟩
theorem fl_X2_15 : zv_FL RX2 15 2 1 := ⟨_, _, _, rfl, by decide, zinX2, zv_in 257 (by decide +kernel) rfl⟩
theorem fl_X2_19 : zv_FL RX2 19 2 2 := ⟨_, _, _, rfl, by decide, zinX2, zv_in 258 (by decide +kernel) rfl⟩
theorem fl_X2_22 : zv_FL RX2 22 2 3 := ⟨_, _, _, rfl, by decide, zinX2, zv_in 259 (by decide +kernel) rfl⟩
theorem fl_X10_60 : zv_FL RX10 60 10 6 := ⟨_, _, _, rfl, by decide, zinX10, zv_in 313 (by decide +kernel) rfl⟩
theorem lk_X10_200 : Cond.methodLink RX10 200 yX2_start ∈ zv_tb := zv_in 767 (by decide +kernel) rfl
theorem lk_X2_25 : Cond.methodLinkNest RX2 25 yX10_isWithin RX10 ∈ zv_nt := by decide +kernel
theorem lk_X10_220 : Cond.methodLink RX10 220 yX2_finish ∈ zv_tb := zv_in 793 (by decide +kernel) rfl
theorem lk_X10_217 : Cond.methodLink RX10 217 yX2_stopAt ∈ zv_tb := zv_in 789 (by decide +kernel) rfl
theorem lk_X10_203 : Cond.methodLink RX10 203 yX2_isOpen ∈ zv_tb := zv_in 775 (by decide +kernel) rfl
theorem lk_X10_206 : Cond.methodLink RX10 206 yX2_nodeOf ∈ zv_tb := zv_in 780 (by decide +kernel) rfl
theorem lk_X10_209 : Cond.methodLink RX10 209 yX2_standOf ∈ zv_tb := zv_in 784 (by decide +kernel) rfl
theorem lk_X10_212 : Cond.methodLink RX10 212 yJ9_max_7cf53 ∈ zv_tb := zv_in 788 (by decide +kernel) rfl
theorem lk_X10_223 : Cond.methodLink RX10 223 yX2_end ∈ zv_tb := zv_in 801 (by decide +kernel) rfl
theorem fl_X7_9 : zv_FL RX7 9 7 2 := ⟨_, _, _, rfl, by decide, zinX7, zv_in 293 (by decide +kernel) rfl⟩
theorem fl_X7_30 : zv_FL RX7 30 7 1 := ⟨_, _, _, rfl, by decide, zinX7, zv_in 292 (by decide +kernel) rfl⟩
theorem lk_X7_55 : Cond.methodLink RX7 55 yX5_size ∈ zv_tb := zv_in 818 (by decide +kernel) rfl
theorem lk_X7_58 : Cond.methodLink RX7 58 yX5_partAt ∈ zv_tb := zv_in 819 (by decide +kernel) rfl
theorem lk_X7_34 : Cond.methodLink RX7 34 yX5_count ∈ zv_tb := zv_in 813 (by decide +kernel) rfl
theorem lk_X7_140 : Cond.methodLink RX7 140 yX5_make ∈ zv_tb := zv_in 832 (by decide +kernel) rfl
theorem lk_X7_136 : Cond.methodLink RX7 136 yX5_hasNumbers ∈ zv_tb := zv_in 831 (by decide +kernel) rfl
theorem lk_X7_48 : Cond.methodLink RX7 48 yX7_thatIsSo ∈ zv_tb := zv_in 827 (by decide +kernel) rfl
theorem lk_X7_62 : Cond.methodLink RX7 62 yX5_kind ∈ zv_tb := zv_in 824 (by decide +kernel) rfl
theorem fp_X6_18 : zv_FP RX6 18 6 2 .int := ⟨_, _, _, tyX6, rfl, by decide, zinX6, zv_in 283 (by decide +kernel) rfl, tyX6_ok, nmX6, rfl, by decide +kernel⟩
theorem fl_X6_18 : zv_FL RX6 18 6 2 := ⟨_, _, _, rfl, by decide, zinX6, zv_in 283 (by decide +kernel) rfl⟩
theorem fl_X6_9 : zv_FL RX6 9 6 0 := ⟨_, _, _, rfl, by decide, zinX6, zv_in 281 (by decide +kernel) rfl⟩
theorem fl_X6_15 : zv_FL RX6 15 6 1 := ⟨_, _, _, rfl, by decide, zinX6, zv_in 282 (by decide +kernel) rfl⟩
theorem fl_X7_22 : zv_FL RX7 22 7 4 := ⟨_, _, _, rfl, by decide, zinX7, zv_in 295 (by decide +kernel) rfl⟩
theorem lk_X7_94 : Cond.methodLink RX7 94 yX6_size ∈ zv_tb := zv_in 848 (by decide +kernel) rfl
theorem lk_X7_101 : Cond.methodLink RX7 101 yX5_roleAt ∈ zv_tb := zv_in 841 (by decide +kernel) rfl
theorem lk_X7_134 : Cond.methodLink RX7 134 yX6_roleAt ∈ zv_tb := zv_in 893 (by decide +kernel) rfl
theorem lk_X7_96 : Cond.methodLink RX7 96 yX6_partAt ∈ zv_tb := zv_in 897 (by decide +kernel) rfl
theorem lk_X7_146 : Cond.methodLink RX7 146 yX5_add ∈ zv_tb := zv_in 909 (by decide +kernel) rfl
theorem lk_X7_143 : Cond.methodLink RX7 143 yX7_hasPartsOfRow ∈ zv_tb := zv_in 905 (by decide +kernel) rfl
theorem lk_X7_65 : Cond.methodLink RX7 65 yX5_first ∈ zv_tb := zv_in 825 (by decide +kernel) rfl
theorem lk_X7_98 : Cond.methodLink RX7 98 yX7_thatIsSoWithRow ∈ zv_tb := zv_in 901 (by decide +kernel) rfl
theorem fl_X7_15 : zv_FL RX7 15 7 3 := ⟨_, _, _, rfl, by decide, zinX7, zv_in 294 (by decide +kernel) rfl⟩
theorem lk_X7_90 : Cond.methodLink RX7 90 yX6_add ∈ zv_tb := zv_in 856 (by decide +kernel) rfl
theorem lk_X7_87 : Cond.methodLink RX7 87 yX6_clear ∈ zv_tb := zv_in 837 (by decide +kernel) rfl
theorem lk_X7_114 : Cond.methodLink RX7 114 yX5_countOf ∈ zv_tb := zv_in 847 (by decide +kernel) rfl
theorem lk_X7_107 : Cond.methodLink RX7 107 yX7_canDissolve ∈ zv_tb := zv_in 843 (by decide +kernel) rfl
theorem lk_X7_111 : Cond.methodLink RX7 111 yX7_dissolve ∈ zv_tb := zv_in 852 (by decide +kernel) rfl
theorem lk_X7_104 : Cond.methodLinkNest RX7 104 yX10_isNeeded RX10 ∈ zv_nt := by decide +kernel
theorem lk_X6_22 : Cond.methodLink RX6 22 yX6_hasAhead ∈ zv_tb := zv_in 877 (by decide +kernel) rfl
theorem lk_X6_30 : Cond.methodLink RX6 30 yX6_hasBehind ∈ zv_tb := zv_in 889 (by decide +kernel) rfl
theorem lk_X6_26 : Cond.methodLink RX6 26 yX6_isRepeat ∈ zv_tb := zv_in 885 (by decide +kernel) rfl
theorem lk_X7_127 : Cond.methodLink RX7 127 yX6_contradictsItself ∈ zv_tb := zv_in 873 (by decide +kernel) rfl
theorem lk_X7_131 : Cond.methodLink RX7 131 yX6_leaveOutRepeats ∈ zv_tb := zv_in 881 (by decide +kernel) rfl
theorem lk_X7_124 : Cond.methodLink RX7 124 yX6_makeShouldsMusts ∈ zv_tb := zv_in 869 (by decide +kernel) rfl
theorem lk_X7_117 : Cond.methodLink RX7 117 yX6_countOf ∈ zv_tb := zv_in 864 (by decide +kernel) rfl
theorem lk_X7_119 : Cond.methodLink RX7 119 yJ9_max_7cf53 ∈ zv_tb := zv_in 868 (by decide +kernel) rfl
theorem lk_X7_81 : Cond.methodLink RX7 81 yX5_second ∈ zv_tb := zv_in 914 (by decide +kernel) rfl
theorem lk_X7_84 : Cond.methodLink RX7 84 yX7_newOfOne ∈ zv_tb := zv_in 915 (by decide +kernel) rfl
theorem fl_X7_26 : zv_FL RX7 26 7 0 := ⟨_, _, _, rfl, by decide, zinX7, zv_in 291 (by decide +kernel) rfl⟩
theorem lk_X7_68 : Cond.methodLink RX7 68 yX3_size ∈ zv_tb := zv_in 826 (by decide +kernel) rfl
theorem lk_X7_71 : Cond.methodLink RX7 71 yX7_gatherBool ∈ zv_tb := zv_in 833 (by decide +kernel) rfl
theorem lk_X7_75 : Cond.methodLink RX7 75 yX7_boolOfRow ∈ zv_tb := zv_in 860 (by decide +kernel) rfl
theorem lk_X7_78 : Cond.methodLink RX7 78 yX7_newOfBest ∈ zv_tb := zv_in 910 (by decide +kernel) rfl
theorem lk_X7_52 : Cond.methodLink RX7 52 yX5_shrinkTo ∈ zv_tb := zv_in 919 (by decide +kernel) rfl
theorem lk_X7_44 : Cond.methodLink RX7 44 yX7_newOf ∈ zv_tb := zv_in 820 (by decide +kernel) rfl
theorem lk_X7_40 : Cond.methodLink RX7 40 yX7_markUnder ∈ zv_tb := zv_in 814 (by decide +kernel) rfl
theorem fl_X10_69 : zv_FL RX10 69 10 7 := ⟨_, _, _, rfl, by decide, zinX10, zv_in 314 (by decide +kernel) rfl⟩
theorem lk_X10_226 : Cond.methodLink RX10 226 yX7_writeAnew ∈ zv_tb := zv_in 809 (by decide +kernel) rfl
theorem lk_X10_229 : Cond.methodLink RX10 229 yX5_count ∈ zv_tb := zv_in 927 (by decide +kernel) rfl
theorem lk_X10_232 : Cond.methodLink RX10 232 yX3_total ∈ zv_tb := zv_in 928 (by decide +kernel) rfl
theorem lk_X10_235 : Cond.methodLink RX10 235 yX5_askedInAll ∈ zv_tb := zv_in 932 (by decide +kernel) rfl
theorem lk_X10_238 : Cond.methodLink RX10 238 yX2_countOpen ∈ zv_tb := zv_in 936 (by decide +kernel) rfl
theorem lk_X10_241 : Cond.methodLink RX10 241 yX9_count ∈ zv_tb := zv_in 940 (by decide +kernel) rfl
theorem lk_X11_103 : Cond.methodLink RX11 103 yX11_in ∈ zv_tb := zv_in 1067 (by decide +kernel) rfl
theorem fl_X11_25 : zv_FL RX11 25 11 6 := ⟨_, _, _, rfl, by decide, zinX11, zv_in 957 (by decide +kernel) rfl⟩
theorem fl_X11_57 : zv_FL RX11 57 11 17 := ⟨_, _, _, rfl, by decide, zinX11, zv_in 968 (by decide +kernel) rfl⟩
theorem fl_X11_37 : zv_FL RX11 37 11 11 := ⟨_, _, _, rfl, by decide, zinX11, zv_in 962 (by decide +kernel) rfl⟩
theorem fl_X11_31 : zv_FL RX11 31 11 8 := ⟨_, _, _, rfl, by decide, zinX11, zv_in 959 (by decide +kernel) rfl⟩
theorem fl_X11_107 : zv_FL RX11 107 11 2 := ⟨_, _, _, rfl, by decide, zinX11, zv_in 953 (by decide +kernel) rfl⟩
theorem lk_X11_111 : Cond.methodLink RX11 111 yX11_forget ∈ zv_tb := zv_in 1078 (by decide +kernel) rfl
theorem fl_X11_16 : zv_FL RX11 16 11 3 := ⟨_, _, _, rfl, by decide, zinX11, zv_in 954 (by decide +kernel) rfl⟩
theorem fl_X11_19 : zv_FL RX11 19 11 4 := ⟨_, _, _, rfl, by decide, zinX11, zv_in 955 (by decide +kernel) rfl⟩
theorem fl_X11_7 : zv_FL RX11 7 11 0 := ⟨_, _, _, rfl, by decide, zinX11, zv_in 951 (by decide +kernel) rfl⟩
theorem lk_X11_120 : Cond.methodLink RX11 120 yX11_change ∈ zv_tb := zv_in 1074 (by decide +kernel) rfl
theorem fl_X11_13 : zv_FL RX11 13 11 1 := ⟨_, _, _, rfl, by decide, zinX11, zv_in 952 (by decide +kernel) rfl⟩
theorem lk_X11_115 : Cond.methodLink RX11 115 yX11_isObject ∈ zv_tb := zv_in 1070 (by decide +kernel) rfl
theorem cst_X11_119 : Cond.constant RX11 119 1000000 ∈ zv_tb := zv_in 1073 (by decide +kernel) rfl
theorem lk_X11_123 : Cond.methodLink RX11 123 yX11_isNode ∈ zv_tb := zv_in 1094 (by decide +kernel) rfl
theorem cst_X11_126 : Cond.constant RX11 126 999999999 ∈ zv_tb := zv_in 1098 (by decide +kernel) rfl
theorem fl_X11_28 : zv_FL RX11 28 11 7 := ⟨_, _, _, rfl, by decide, zinX11, zv_in 958 (by decide +kernel) rfl⟩
theorem fl_X11_34 : zv_FL RX11 34 11 9 := ⟨_, _, _, rfl, by decide, zinX11, zv_in 960 (by decide +kernel) rfl⟩
theorem fp_X11_107 : zv_FP RX11 107 11 2 .int := ⟨_, _, _, tyX11, rfl, by decide, zinX11, zv_in 953 (by decide +kernel) rfl, tyX11_ok, nmX11, rfl, by decide +kernel⟩
theorem fl_X11_22 : zv_FL RX11 22 11 5 := ⟨_, _, _, rfl, by decide, zinX11, zv_in 956 (by decide +kernel) rfl⟩
theorem lk_X11_130 : Cond.methodLink RX11 130 yX11_make ∈ zv_tb := zv_in 1099 (by decide +kernel) rfl
theorem lk_X11_127 : Cond.methodLink RX11 127 yX11_isToldSo ∈ zv_tb := zv_in 1090 (by decide +kernel) rfl
theorem fl_X11_60 : zv_FL RX11 60 11 18 := ⟨_, _, _, rfl, by decide, zinX11, zv_in 969 (by decide +kernel) rfl⟩
theorem lk_X11_137 : Cond.methodLink RX11 137 yX11_together ∈ zv_tb := zv_in 1115 (by decide +kernel) rfl
theorem lk_X11_134 : Cond.methodLink RX11 134 yX11_costs ∈ zv_tb := zv_in 1111 (by decide +kernel) rfl
theorem fl_X11_63 : zv_FL RX11 63 11 19 := ⟨_, _, _, rfl, by decide, zinX11, zv_in 970 (by decide +kernel) rfl⟩
theorem fl_X11_66 : zv_FL RX11 66 11 20 := ⟨_, _, _, rfl, by decide, zinX11, zv_in 971 (by decide +kernel) rfl⟩
theorem lk_X11_141 : Cond.methodLink RX11 141 yX11_fits ∈ zv_tb := zv_in 1131 (by decide +kernel) rfl
theorem fl_X11_41 : zv_FL RX11 41 11 12 := ⟨_, _, _, rfl, by decide, zinX11, zv_in 963 (by decide +kernel) rfl⟩
theorem lk_X11_145 : Cond.methodLink RX11 145 yX11_mayAll ∈ zv_tb := zv_in 1127 (by decide +kernel) rfl
theorem fl_X11_76 : zv_FL RX11 76 11 23 := ⟨_, _, _, rfl, by decide, zinX11, zv_in 974 (by decide +kernel) rfl⟩
theorem fl_X11_82 : zv_FL RX11 82 11 25 := ⟨_, _, _, rfl, by decide, zinX11, zv_in 976 (by decide +kernel) rfl⟩
theorem fl_X11_152 : zv_FL RX11 152 11 26 := ⟨_, _, _, rfl, by decide, zinX11, zv_in 977 (by decide +kernel) rfl⟩
theorem fp_X11_152 : zv_FP RX11 152 11 26 .int := ⟨_, _, _, tyX11, rfl, by decide, zinX11, zv_in 977 (by decide +kernel) rfl, tyX11_ok, nmX11, rfl, by decide +kernel⟩
theorem fl_X11_69 : zv_FL RX11 69 11 21 := ⟨_, _, _, rfl, by decide, zinX11, zv_in 972 (by decide +kernel) rfl⟩
theorem fl_X11_79 : zv_FL RX11 79 11 24 := ⟨_, _, _, rfl, by decide, zinX11, zv_in 975 (by decide +kernel) rfl⟩
theorem lk_X11_149 : Cond.methodLink RX11 149 yX11_sort ∈ zv_tb := zv_in 1151 (by decide +kernel) rfl
theorem fl_X11_72 : zv_FL RX11 72 11 22 := ⟨_, _, _, rfl, by decide, zinX11, zv_in 973 (by decide +kernel) rfl⟩
theorem lk_X11_155 : Cond.methodLink RX11 155 yX11_come ∈ zv_tb := zv_in 1147 (by decide +kernel) rfl
theorem cst_X11_170 : Cond.constantLong RX11 170 100 ∈ zv_tb := zv_in 1163 (by decide +kernel) rfl
theorem fl_X11_167 : zv_FL RX11 167 11 10 := ⟨_, _, _, rfl, by decide, zinX11, zv_in 961 (by decide +kernel) rfl⟩
theorem fp_X11_167 : zv_FP RX11 167 11 10 .int := ⟨_, _, _, tyX11, rfl, by decide, zinX11, zv_in 961 (by decide +kernel) rfl, tyX11_ok, nmX11, rfl, by decide +kernel⟩
theorem lk_X11_164 : Cond.methodLink RX11 164 yX11_goOne ∈ zv_tb := zv_in 1164 (by decide +kernel) rfl
theorem lk_X11_161 : Cond.methodLink RX11 161 yX11_goBest ∈ zv_tb := zv_in 1159 (by decide +kernel) rfl
theorem lk_X11_158 : Cond.methodLink RX11 158 yX11_goBool ∈ zv_tb := zv_in 1155 (by decide +kernel) rfl
theorem fp_X11_176 : zv_FP RX11 176 11 27 .long := ⟨_, _, _, tyX11, rfl, by decide, zinX11, zv_in 978 (by decide +kernel) rfl, tyX11_ok, nmX11, rfl, by decide +kernel⟩
theorem lk_X11_172 : Cond.methodLink RX11 172 yX11_go ∈ zv_tb := zv_in 1143 (by decide +kernel) rfl
theorem fl_X11_176 : zv_FL RX11 176 11 27 := ⟨_, _, _, rfl, by decide, zinX11, zv_in 978 (by decide +kernel) rfl⟩
theorem fl_X11_180 : zv_FL RX11 180 11 30 := ⟨_, _, _, rfl, by decide, zinX11, zv_in 981 (by decide +kernel) rfl⟩
theorem fl_X11_85 : zv_FL RX11 85 11 28 := ⟨_, _, _, rfl, by decide, zinX11, zv_in 979 (by decide +kernel) rfl⟩
theorem fl_X11_88 : zv_FL RX11 88 11 29 := ⟨_, _, _, rfl, by decide, zinX11, zv_in 980 (by decide +kernel) rfl⟩
theorem fp_X11_180 : zv_FP RX11 180 11 30 .int := ⟨_, _, _, tyX11, rfl, by decide, zinX11, zv_in 981 (by decide +kernel) rfl, tyX11_ok, nmX11, rfl, by decide +kernel⟩
theorem fl_X11_45 : zv_FL RX11 45 11 13 := ⟨_, _, _, rfl, by decide, zinX11, zv_in 964 (by decide +kernel) rfl⟩
theorem fl_X11_48 : zv_FL RX11 48 11 14 := ⟨_, _, _, rfl, by decide, zinX11, zv_in 965 (by decide +kernel) rfl⟩
theorem fl_X11_51 : zv_FL RX11 51 11 15 := ⟨_, _, _, rfl, by decide, zinX11, zv_in 966 (by decide +kernel) rfl⟩
theorem fl_X11_54 : zv_FL RX11 54 11 16 := ⟨_, _, _, rfl, by decide, zinX11, zv_in 967 (by decide +kernel) rfl⟩
theorem lk_X11_183 : Cond.methodLink RX11 183 yX11_isOpen ∈ zv_tb := zv_in 1196 (by decide +kernel) rfl
theorem fl_X11_94 : zv_FL RX11 94 11 32 := ⟨_, _, _, rfl, by decide, zinX11, zv_in 983 (by decide +kernel) rfl⟩
theorem fl_X11_97 : zv_FL RX11 97 11 33 := ⟨_, _, _, rfl, by decide, zinX11, zv_in 984 (by decide +kernel) rfl⟩
theorem fl_X11_199 : zv_FL RX11 199 11 34 := ⟨_, _, _, rfl, by decide, zinX11, zv_in 985 (by decide +kernel) rfl⟩
theorem fp_X11_186 : zv_FP RX11 186 11 35 .boolean := ⟨_, _, _, tyX11, rfl, by decide, zinX11, zv_in 986 (by decide +kernel) rfl, tyX11_ok, nmX11, rfl, by decide +kernel⟩
theorem fp_X11_199 : zv_FP RX11 199 11 34 .int := ⟨_, _, _, tyX11, rfl, by decide, zinX11, zv_in 985 (by decide +kernel) rfl, tyX11_ok, nmX11, rfl, by decide +kernel⟩
theorem fl_X11_100 : zv_FL RX11 100 11 36 := ⟨_, _, _, rfl, by decide, zinX11, zv_in 987 (by decide +kernel) rfl⟩
theorem lk_X11_202 : Cond.methodLink RX11 202 yX11_so ∈ zv_tb := zv_in 1212 (by decide +kernel) rfl
theorem lk_X11_216 : Cond.methodLink RX11 216 yX11_thin ∈ zv_tb := zv_in 1228 (by decide +kernel) rfl
theorem lk_X11_206 : Cond.methodLink RX11 206 yX11_lay ∈ zv_tb := zv_in 1220 (by decide +kernel) rfl
theorem lk_X11_213 : Cond.methodLink RX11 213 yX11_count ∈ zv_tb := zv_in 1224 (by decide +kernel) rfl
theorem fl_X11_91 : zv_FL RX11 91 11 31 := ⟨_, _, _, rfl, by decide, zinX11, zv_in 982 (by decide +kernel) rfl⟩
theorem lk_X11_209 : Cond.methodLink RX11 209 yX11_opens ∈ zv_tb := zv_in 1216 (by decide +kernel) rfl
theorem fl_X11_186 : zv_FL RX11 186 11 35 := ⟨_, _, _, rfl, by decide, zinX11, zv_in 986 (by decide +kernel) rfl⟩
theorem lk_X11_196 : Cond.methodLink RX11 196 yX11_newOther ∈ zv_tb := zv_in 1236 (by decide +kernel) rfl
theorem lk_X11_193 : Cond.methodLink RX11 193 yX11_newBest ∈ zv_tb := zv_in 1232 (by decide +kernel) rfl
theorem lk_X11_190 : Cond.methodLink RX11 190 yX11_newBool ∈ zv_tb := zv_in 1208 (by decide +kernel) rfl
theorem Y_X10_isWithin : zv_YS yX10_isWithin M_X10_isWithin 2 := ⟨⟨zv_in 344 (by decide +kernel) rfl, zv_in 66 (by decide +kernel) rfl, ⟨by decide +kernel, by decide +kernel, by decide +kernel⟩, by decide⟩, zv_in 343 (by decide +kernel) rfl⟩
theorem Y_X10_isList : zv_YS yX10_isList M_X10_isList 1 := ⟨⟨zv_in 341 (by decide +kernel) rfl, zv_in 66 (by decide +kernel) rfl, ⟨by decide +kernel, by decide +kernel, by decide +kernel⟩, by decide⟩, zv_in 340 (by decide +kernel) rfl⟩
theorem Y_X10_isObject : zv_YS yX10_isObject M_X10_isObject 1 := ⟨⟨zv_in 347 (by decide +kernel) rfl, zv_in 66 (by decide +kernel) rfl, ⟨by decide +kernel, by decide +kernel, by decide +kernel⟩, by decide⟩, zv_in 346 (by decide +kernel) rfl⟩
theorem Y_X3_placeOf : zv_YV yX3_placeOf M_X3_placeOf 2 3 := ⟨⟨zv_in 356 (by decide +kernel) rfl, zv_in 67 (by decide +kernel) rfl, ⟨by decide +kernel, by decide +kernel, by decide +kernel⟩, by decide⟩, zv_in 354 (by decide +kernel) rfl, zv_in 355 (by decide +kernel) rfl, _, _, rfl⟩
theorem Y_X3_store : zv_YV yX3_store M_X3_store 3 3 := ⟨⟨zv_in 352 (by decide +kernel) rfl, zv_in 67 (by decide +kernel) rfl, ⟨by decide +kernel, by decide +kernel, by decide +kernel⟩, by decide⟩, zv_in 350 (by decide +kernel) rfl, zv_in 351 (by decide +kernel) rfl, _, _, rfl⟩
theorem Y_X5_count : zv_YV yX5_count M_X5_count 0 5 := ⟨⟨zv_in 368 (by decide +kernel) rfl, zv_in 68 (by decide +kernel) rfl, ⟨by decide +kernel, by decide +kernel, by decide +kernel⟩, by decide⟩, zv_in 366 (by decide +kernel) rfl, zv_in 367 (by decide +kernel) rfl, _, _, rfl⟩
theorem Y_X5_hasNumbers : zv_YV yX5_hasNumbers M_X5_hasNumbers 4 5 := ⟨⟨zv_in 372 (by decide +kernel) rfl, zv_in 68 (by decide +kernel) rfl, ⟨by decide +kernel, by decide +kernel, by decide +kernel⟩, by decide⟩, zv_in 370 (by decide +kernel) rfl, zv_in 371 (by decide +kernel) rfl, _, _, rfl⟩
theorem Y_X5_size : zv_YV yX5_size M_X5_size 1 5 := ⟨⟨zv_in 380 (by decide +kernel) rfl, zv_in 68 (by decide +kernel) rfl, ⟨by decide +kernel, by decide +kernel, by decide +kernel⟩, by decide⟩, zv_in 378 (by decide +kernel) rfl, zv_in 379 (by decide +kernel) rfl, _, _, rfl⟩
theorem Y_X5_partAt : zv_YV yX5_partAt M_X5_partAt 2 5 := ⟨⟨zv_in 384 (by decide +kernel) rfl, zv_in 68 (by decide +kernel) rfl, ⟨by decide +kernel, by decide +kernel, by decide +kernel⟩, by decide⟩, zv_in 382 (by decide +kernel) rfl, zv_in 383 (by decide +kernel) rfl, _, _, rfl⟩
theorem Y_X9_touchesByParts : zv_YV yX9_touchesByParts M_X9_touchesByParts 1 9 := ⟨⟨zv_in 376 (by decide +kernel) rfl, zv_in 69 (by decide +kernel) rfl, ⟨by decide +kernel, by decide +kernel, by decide +kernel⟩, by decide⟩, zv_in 375 (by decide +kernel) rfl, zv_in 1 (by decide +kernel) rfl, _, _, rfl⟩
theorem Y_X9_dropThoseOverList : zv_YV yX9_dropThoseOverList M_X9_dropThoseOverList 1 9 := ⟨⟨zv_in 364 (by decide +kernel) rfl, zv_in 69 (by decide +kernel) rfl, ⟨by decide +kernel, by decide +kernel, by decide +kernel⟩, by decide⟩, zv_in 362 (by decide +kernel) rfl, zv_in 363 (by decide +kernel) rfl, _, _, rfl⟩
theorem Y_J9_min_7cf53 : zv_YS yJ9_min_7cf53 M_J9_min_7cf53 2 := ⟨⟨zv_in 391 (by decide +kernel) rfl, zv_in 78 (by decide +kernel) rfl, ⟨by decide +kernel, by decide +kernel, by decide +kernel⟩, by decide⟩, zv_in 390 (by decide +kernel) rfl⟩
theorem Y_X0_forgetFrom : zv_YV yX0_forgetFrom M_X0_forgetFrom 1 0 := ⟨⟨zv_in 388 (by decide +kernel) rfl, zv_in 71 (by decide +kernel) rfl, ⟨by decide +kernel, by decide +kernel, by decide +kernel⟩, by decide⟩, zv_in 386 (by decide +kernel) rfl, zv_in 387 (by decide +kernel) rfl, _, _, rfl⟩
theorem Y_X10_listHasChanged : zv_YV yX10_listHasChanged M_X10_listHasChanged 1 10 := ⟨⟨zv_in 360 (by decide +kernel) rfl, zv_in 66 (by decide +kernel) rfl, ⟨by decide +kernel, by decide +kernel, by decide +kernel⟩, by decide⟩, zv_in 359 (by decide +kernel) rfl, zv_in 0 (by decide +kernel) rfl, _, _, rfl⟩
theorem Y_X3_size : zv_YV yX3_size M_X3_size 1 3 := ⟨⟨zv_in 395 (by decide +kernel) rfl, zv_in 67 (by decide +kernel) rfl, ⟨by decide +kernel, by decide +kernel, by decide +kernel⟩, by decide⟩, zv_in 393 (by decide +kernel) rfl, zv_in 394 (by decide +kernel) rfl, _, _, rfl⟩
theorem Y_X10_put : zv_YV yX10_put M_X10_put 3 10 := ⟨⟨zv_in 338 (by decide +kernel) rfl, zv_in 66 (by decide +kernel) rfl, ⟨by decide +kernel, by decide +kernel, by decide +kernel⟩, by decide⟩, zv_in 336 (by decide +kernel) rfl, zv_in 337 (by decide +kernel) rfl, _, _, rfl⟩
theorem Y_X3_weightOf : zv_YV yX3_weightOf M_X3_weightOf 2 3 := ⟨⟨zv_in 404 (by decide +kernel) rfl, zv_in 67 (by decide +kernel) rfl, ⟨by decide +kernel, by decide +kernel, by decide +kernel⟩, by decide⟩, zv_in 402 (by decide +kernel) rfl, zv_in 403 (by decide +kernel) rfl, _, _, rfl⟩
theorem Y_X3_remove : zv_YV yX3_remove M_X3_remove 2 3 := ⟨⟨zv_in 408 (by decide +kernel) rfl, zv_in 67 (by decide +kernel) rfl, ⟨by decide +kernel, by decide +kernel, by decide +kernel⟩, by decide⟩, zv_in 406 (by decide +kernel) rfl, zv_in 407 (by decide +kernel) rfl, _, _, rfl⟩
theorem Y_X10_take : zv_YV yX10_take M_X10_take 2 10 := ⟨⟨zv_in 399 (by decide +kernel) rfl, zv_in 66 (by decide +kernel) rfl, ⟨by decide +kernel, by decide +kernel, by decide +kernel⟩, by decide⟩, zv_in 397 (by decide +kernel) rfl, zv_in 398 (by decide +kernel) rfl, _, _, rfl⟩
theorem Y_X5_has : zv_YV yX5_has M_X5_has 1 5 := ⟨⟨zv_in 420 (by decide +kernel) rfl, zv_in 68 (by decide +kernel) rfl, ⟨by decide +kernel, by decide +kernel, by decide +kernel⟩, by decide⟩, zv_in 418 (by decide +kernel) rfl, zv_in 419 (by decide +kernel) rfl, _, _, rfl⟩
theorem Y_X10_modulusOf : zv_YS yX10_modulusOf M_X10_modulusOf 1 := ⟨⟨zv_in 424 (by decide +kernel) rfl, zv_in 66 (by decide +kernel) rfl, ⟨by decide +kernel, by decide +kernel, by decide +kernel⟩, by decide⟩, zv_in 423 (by decide +kernel) rfl⟩
theorem Y_X10_areNumbersOf : zv_YV yX10_areNumbersOf M_X10_areNumbersOf 3 10 := ⟨⟨zv_in 416 (by decide +kernel) rfl, zv_in 66 (by decide +kernel) rfl, ⟨by decide +kernel, by decide +kernel, by decide +kernel⟩, by decide⟩, zv_in 415 (by decide +kernel) rfl, zv_in 2 (by decide +kernel) rfl, _, _, rfl⟩
theorem Y_X10_hasSecondNumber : zv_YS yX10_hasSecondNumber M_X10_hasSecondNumber 1 := ⟨⟨zv_in 427 (by decide +kernel) rfl, zv_in 66 (by decide +kernel) rfl, ⟨by decide +kernel, by decide +kernel, by decide +kernel⟩, by decide⟩, zv_in 426 (by decide +kernel) rfl⟩
theorem Y_X5_add : zv_YV yX5_add M_X5_add 3 5 := ⟨⟨zv_in 435 (by decide +kernel) rfl, zv_in 68 (by decide +kernel) rfl, ⟨by decide +kernel, by decide +kernel, by decide +kernel⟩, by decide⟩, zv_in 433 (by decide +kernel) rfl, zv_in 434 (by decide +kernel) rfl, _, _, rfl⟩
theorem Y_X5_make : zv_YV yX5_make M_X5_make 3 5 := ⟨⟨zv_in 431 (by decide +kernel) rfl, zv_in 68 (by decide +kernel) rfl, ⟨by decide +kernel, by decide +kernel, by decide +kernel⟩, by decide⟩, zv_in 429 (by decide +kernel) rfl, zv_in 430 (by decide +kernel) rfl, _, _, rfl⟩
theorem Y_X10_node : zv_YV yX10_node M_X10_node 3 10 := ⟨⟨zv_in 412 (by decide +kernel) rfl, zv_in 66 (by decide +kernel) rfl, ⟨by decide +kernel, by decide +kernel, by decide +kernel⟩, by decide⟩, zv_in 410 (by decide +kernel) rfl, zv_in 411 (by decide +kernel) rfl, _, _, rfl⟩
theorem Y_X5_kind : zv_YV yX5_kind M_X5_kind 1 5 := ⟨⟨zv_in 443 (by decide +kernel) rfl, zv_in 68 (by decide +kernel) rfl, ⟨by decide +kernel, by decide +kernel, by decide +kernel⟩, by decide⟩, zv_in 441 (by decide +kernel) rfl, zv_in 442 (by decide +kernel) rfl, _, _, rfl⟩
theorem Y_X10_isRoleOf : zv_YS yX10_isRoleOf M_X10_isRoleOf 2 := ⟨⟨zv_in 446 (by decide +kernel) rfl, zv_in 66 (by decide +kernel) rfl, ⟨by decide +kernel, by decide +kernel, by decide +kernel⟩, by decide⟩, zv_in 445 (by decide +kernel) rfl⟩
theorem Y_X9_dropThoseAbove : zv_YV yX9_dropThoseAbove M_X9_dropThoseAbove 1 9 := ⟨⟨zv_in 451 (by decide +kernel) rfl, zv_in 69 (by decide +kernel) rfl, ⟨by decide +kernel, by decide +kernel, by decide +kernel⟩, by decide⟩, zv_in 449 (by decide +kernel) rfl, zv_in 450 (by decide +kernel) rfl, _, _, rfl⟩
theorem Y_X10_part : zv_YV yX10_part M_X10_part 3 10 := ⟨⟨zv_in 439 (by decide +kernel) rfl, zv_in 66 (by decide +kernel) rfl, ⟨by decide +kernel, by decide +kernel, by decide +kernel⟩, by decide⟩, zv_in 437 (by decide +kernel) rfl, zv_in 438 (by decide +kernel) rfl, _, _, rfl⟩
theorem Y_X9_isThere : zv_YV yX9_isThere M_X9_isThere 1 9 := ⟨⟨zv_in 550 (by decide +kernel) rfl, zv_in 69 (by decide +kernel) rfl, ⟨by decide +kernel, by decide +kernel, by decide +kernel⟩, by decide⟩, zv_in 548 (by decide +kernel) rfl, zv_in 549 (by decide +kernel) rfl, _, _, rfl⟩
theorem Y_X9_size : zv_YV yX9_size M_X9_size 1 9 := ⟨⟨zv_in 581 (by decide +kernel) rfl, zv_in 69 (by decide +kernel) rfl, ⟨by decide +kernel, by decide +kernel, by decide +kernel⟩, by decide⟩, zv_in 579 (by decide +kernel) rfl, zv_in 580 (by decide +kernel) rfl, _, _, rfl⟩
theorem Y_X5_asked : zv_YV yX5_asked M_X5_asked 1 5 := ⟨⟨zv_in 598 (by decide +kernel) rfl, zv_in 68 (by decide +kernel) rfl, ⟨by decide +kernel, by decide +kernel, by decide +kernel⟩, by decide⟩, zv_in 596 (by decide +kernel) rfl, zv_in 597 (by decide +kernel) rfl, _, _, rfl⟩
theorem Y_X8_clear : zv_YV yX8_clear M_X8_clear_20 1 8 := ⟨⟨zv_in 472 (by decide +kernel) rfl, zv_in 70 (by decide +kernel) rfl, ⟨by decide +kernel, by decide +kernel, by decide +kernel⟩, by decide⟩, zv_in 470 (by decide +kernel) rfl, zv_in 471 (by decide +kernel) rfl, _, _, rfl⟩
theorem Y_X9_rows : zv_YV yX9_rows M_X9_rows 0 9 := ⟨⟨zv_in 554 (by decide +kernel) rfl, zv_in 69 (by decide +kernel) rfl, ⟨by decide +kernel, by decide +kernel, by decide +kernel⟩, by decide⟩, zv_in 552 (by decide +kernel) rfl, zv_in 553 (by decide +kernel) rfl, _, _, rfl⟩
theorem Y_X8_join : zv_YV yX8_join M_X8_join_20_14 3 8 := ⟨⟨zv_in 558 (by decide +kernel) rfl, zv_in 70 (by decide +kernel) rfl, ⟨by decide +kernel, by decide +kernel, by decide +kernel⟩, by decide⟩, zv_in 556 (by decide +kernel) rfl, zv_in 557 (by decide +kernel) rfl, _, _, rfl⟩
theorem Y_X0_joinParts : zv_YV yX0_joinParts M_X0_joinParts 1 0 := ⟨⟨zv_in 562 (by decide +kernel) rfl, zv_in 71 (by decide +kernel) rfl, ⟨by decide +kernel, by decide +kernel, by decide +kernel⟩, by decide⟩, zv_in 561 (by decide +kernel) rfl, zv_in 11 (by decide +kernel) rfl, _, _, rfl⟩
theorem Y_X0_fillByKept : zv_YV yX0_fillByKept M_X0_fillByKept 1 0 := ⟨⟨zv_in 546 (by decide +kernel) rfl, zv_in 71 (by decide +kernel) rfl, ⟨by decide +kernel, by decide +kernel, by decide +kernel⟩, by decide⟩, zv_in 545 (by decide +kernel) rfl, zv_in 10 (by decide +kernel) rfl, _, _, rfl⟩
theorem Y_X5_roleAt : zv_YV yX5_roleAt M_X5_roleAt 2 5 := ⟨⟨zv_in 516 (by decide +kernel) rfl, zv_in 68 (by decide +kernel) rfl, ⟨by decide +kernel, by decide +kernel, by decide +kernel⟩, by decide⟩, zv_in 514 (by decide +kernel) rfl, zv_in 515 (by decide +kernel) rfl, _, _, rfl⟩
theorem Y_X5_countOf : zv_YV yX5_countOf M_X5_countOf 2 5 := ⟨⟨zv_in 512 (by decide +kernel) rfl, zv_in 68 (by decide +kernel) rfl, ⟨by decide +kernel, by decide +kernel, by decide +kernel⟩, by decide⟩, zv_in 510 (by decide +kernel) rfl, zv_in 511 (by decide +kernel) rfl, _, _, rfl⟩
theorem Y_J9_max_7cf53 : zv_YS yJ9_max_7cf53 M_J9_max_7cf53 2 := ⟨⟨zv_in 519 (by decide +kernel) rfl, zv_in 78 (by decide +kernel) rfl, ⟨by decide +kernel, by decide +kernel, by decide +kernel⟩, by decide⟩, zv_in 518 (by decide +kernel) rfl⟩
theorem Y_X5_leastOf : zv_YV yX5_leastOf M_X5_leastOf 1 5 := ⟨⟨zv_in 508 (by decide +kernel) rfl, zv_in 68 (by decide +kernel) rfl, ⟨by decide +kernel, by decide +kernel, by decide +kernel⟩, by decide⟩, zv_in 506 (by decide +kernel) rfl, zv_in 507 (by decide +kernel) rfl, _, _, rfl⟩
theorem Y_J7_fill_d0a16 : zv_YS yJ7_fill_d0a16 M_J7_fill_d0a16 2 := ⟨⟨zv_in 527 (by decide +kernel) rfl, zv_in 79 (by decide +kernel) rfl, ⟨by decide +kernel, by decide +kernel, by decide +kernel⟩, by decide⟩, zv_in 526 (by decide +kernel) rfl⟩
theorem Y_X8_word : zv_YV yX8_word M_X8_word_22 2 8 := ⟨⟨zv_in 534 (by decide +kernel) rfl, zv_in 70 (by decide +kernel) rfl, ⟨by decide +kernel, by decide +kernel, by decide +kernel⟩, by decide⟩, zv_in 532 (by decide +kernel) rfl, zv_in 533 (by decide +kernel) rfl, _, _, rfl⟩
theorem Y_X0_countIn : zv_YV yX0_countIn M_X0_countIn 2 0 := ⟨⟨zv_in 538 (by decide +kernel) rfl, zv_in 71 (by decide +kernel) rfl, ⟨by decide +kernel, by decide +kernel, by decide +kernel⟩, by decide⟩, zv_in 537 (by decide +kernel) rfl, zv_in 9 (by decide +kernel) rfl, _, _, rfl⟩
theorem Y_X0_boolWord : zv_YV yX0_boolWord M_X0_boolWord_19_20_22 5 0 := ⟨⟨zv_in 523 (by decide +kernel) rfl, zv_in 71 (by decide +kernel) rfl, ⟨by decide +kernel, by decide +kernel, by decide +kernel⟩, by decide⟩, zv_in 522 (by decide +kernel) rfl, zv_in 8 (by decide +kernel) rfl, _, _, rfl⟩
theorem Y_X8_setWord : zv_YV yX8_setWord M_X8_setWord_20 3 8 := ⟨⟨zv_in 542 (by decide +kernel) rfl, zv_in 70 (by decide +kernel) rfl, ⟨by decide +kernel, by decide +kernel, by decide +kernel⟩, by decide⟩, zv_in 540 (by decide +kernel) rfl, zv_in 541 (by decide +kernel) rfl, _, _, rfl⟩
theorem Y_X0_fillByBool : zv_YV yX0_fillByBool M_X0_fillByBool 1 0 := ⟨⟨zv_in 504 (by decide +kernel) rfl, zv_in 71 (by decide +kernel) rfl, ⟨by decide +kernel, by decide +kernel, by decide +kernel⟩, by decide⟩, zv_in 503 (by decide +kernel) rfl, zv_in 7 (by decide +kernel) rfl, _, _, rfl⟩
theorem Y_X5_first : zv_YV yX5_first M_X5_first 1 5 := ⟨⟨zv_in 460 (by decide +kernel) rfl, zv_in 68 (by decide +kernel) rfl, ⟨by decide +kernel, by decide +kernel, by decide +kernel⟩, by decide⟩, zv_in 458 (by decide +kernel) rfl, zv_in 459 (by decide +kernel) rfl, _, _, rfl⟩
theorem Y_X5_second : zv_YV yX5_second M_X5_second 1 5 := ⟨⟨zv_in 464 (by decide +kernel) rfl, zv_in 68 (by decide +kernel) rfl, ⟨by decide +kernel, by decide +kernel, by decide +kernel⟩, by decide⟩, zv_in 462 (by decide +kernel) rfl, zv_in 463 (by decide +kernel) rfl, _, _, rfl⟩
theorem Y_X8_add : zv_YV yX8_add M_X8_add_20 2 8 := ⟨⟨zv_in 495 (by decide +kernel) rfl, zv_in 70 (by decide +kernel) rfl, ⟨by decide +kernel, by decide +kernel, by decide +kernel⟩, by decide⟩, zv_in 493 (by decide +kernel) rfl, zv_in 494 (by decide +kernel) rfl, _, _, rfl⟩
theorem Y_X0_addToBoth : zv_YV yX0_addToBoth M_X0_addToBoth 2 0 := ⟨⟨zv_in 491 (by decide +kernel) rfl, zv_in 71 (by decide +kernel) rfl, ⟨by decide +kernel, by decide +kernel, by decide +kernel⟩, by decide⟩, zv_in 490 (by decide +kernel) rfl, zv_in 5 (by decide +kernel) rfl, _, _, rfl⟩
theorem Y_X0_fillByRange : zv_YV yX0_fillByRange M_X0_fillByRange 1 0 := ⟨⟨zv_in 499 (by decide +kernel) rfl, zv_in 71 (by decide +kernel) rfl, ⟨by decide +kernel, by decide +kernel, by decide +kernel⟩, by decide⟩, zv_in 498 (by decide +kernel) rfl, zv_in 6 (by decide +kernel) rfl, _, _, rfl⟩
theorem Y_X3_objectAt : zv_YV yX3_objectAt M_X3_objectAt 2 3 := ⟨⟨zv_in 487 (by decide +kernel) rfl, zv_in 67 (by decide +kernel) rfl, ⟨by decide +kernel, by decide +kernel, by decide +kernel⟩, by decide⟩, zv_in 485 (by decide +kernel) rfl, zv_in 486 (by decide +kernel) rfl, _, _, rfl⟩
theorem Y_X0_fillByList : zv_YV yX0_fillByList M_X0_fillByList 1 0 := ⟨⟨zv_in 481 (by decide +kernel) rfl, zv_in 71 (by decide +kernel) rfl, ⟨by decide +kernel, by decide +kernel, by decide +kernel⟩, by decide⟩, zv_in 480 (by decide +kernel) rfl, zv_in 4 (by decide +kernel) rfl, _, _, rfl⟩
theorem Y_X0_fillRows : zv_YV yX0_fillRows M_X0_fillRows 1 0 := ⟨⟨zv_in 476 (by decide +kernel) rfl, zv_in 71 (by decide +kernel) rfl, ⟨by decide +kernel, by decide +kernel, by decide +kernel⟩, by decide⟩, zv_in 475 (by decide +kernel) rfl, zv_in 3 (by decide +kernel) rfl, _, _, rfl⟩
theorem Y_X0_costOfShoulds : zv_YV yX0_costOfShoulds M_X0_costOfShoulds 1 0 := ⟨⟨zv_in 577 (by decide +kernel) rfl, zv_in 71 (by decide +kernel) rfl, ⟨by decide +kernel, by decide +kernel, by decide +kernel⟩, by decide⟩, zv_in 576 (by decide +kernel) rfl, zv_in 14 (by decide +kernel) rfl, _, _, rfl⟩
theorem Y_X10_isNeeded : zv_YS yX10_isNeeded M_X10_isNeeded 1 := ⟨⟨zv_in 573 (by decide +kernel) rfl, zv_in 66 (by decide +kernel) rfl, ⟨by decide +kernel, by decide +kernel, by decide +kernel⟩, by decide⟩, zv_in 572 (by decide +kernel) rfl⟩
theorem Y_X0_costOfBool : zv_YV yX0_costOfBool M_X0_costOfBool 1 0 := ⟨⟨zv_in 570 (by decide +kernel) rfl, zv_in 71 (by decide +kernel) rfl, ⟨by decide +kernel, by decide +kernel, by decide +kernel⟩, by decide⟩, zv_in 569 (by decide +kernel) rfl, zv_in 13 (by decide +kernel) rfl, _, _, rfl⟩
theorem Y_X0_costOf : zv_YV yX0_costOf M_X0_costOf 1 0 := ⟨⟨zv_in 566 (by decide +kernel) rfl, zv_in 71 (by decide +kernel) rfl, ⟨by decide +kernel, by decide +kernel, by decide +kernel⟩, by decide⟩, zv_in 565 (by decide +kernel) rfl, zv_in 12 (by decide +kernel) rfl, _, _, rfl⟩
theorem Y_X0_rankOf : zv_YV yX0_rankOf M_X0_rankOf 2 0 := ⟨⟨zv_in 589 (by decide +kernel) rfl, zv_in 71 (by decide +kernel) rfl, ⟨by decide +kernel, by decide +kernel, by decide +kernel⟩, by decide⟩, zv_in 588 (by decide +kernel) rfl, zv_in 16 (by decide +kernel) rfl, _, _, rfl⟩
theorem Y_X0_arrange : zv_YV yX0_arrange M_X0_arrange 1 0 := ⟨⟨zv_in 585 (by decide +kernel) rfl, zv_in 71 (by decide +kernel) rfl, ⟨by decide +kernel, by decide +kernel, by decide +kernel⟩, by decide⟩, zv_in 584 (by decide +kernel) rfl, zv_in 15 (by decide +kernel) rfl, _, _, rfl⟩
theorem Y_X0_prepare : zv_YV yX0_prepare M_X0_prepare 1 0 := ⟨⟨zv_in 468 (by decide +kernel) rfl, zv_in 71 (by decide +kernel) rfl, ⟨by decide +kernel, by decide +kernel, by decide +kernel⟩, by decide⟩, zv_in 466 (by decide +kernel) rfl, zv_in 467 (by decide +kernel) rfl, _, _, rfl⟩
theorem Y_X0_cost : zv_YV yX0_cost M_X0_cost 1 0 := ⟨⟨zv_in 594 (by decide +kernel) rfl, zv_in 71 (by decide +kernel) rfl, ⟨by decide +kernel, by decide +kernel, by decide +kernel⟩, by decide⟩, zv_in 592 (by decide +kernel) rfl, zv_in 593 (by decide +kernel) rfl, _, _, rfl⟩
theorem Y_X10_told : zv_YV yX10_told M_X10_told 2 10 := ⟨⟨zv_in 456 (by decide +kernel) rfl, zv_in 66 (by decide +kernel) rfl, ⟨by decide +kernel, by decide +kernel, by decide +kernel⟩, by decide⟩, zv_in 454 (by decide +kernel) rfl, zv_in 455 (by decide +kernel) rfl, _, _, rfl⟩
theorem Y_X10_partOf : zv_YV yX10_partOf M_X10_partOf 3 10 := ⟨⟨zv_in 604 (by decide +kernel) rfl, zv_in 66 (by decide +kernel) rfl, ⟨by decide +kernel, by decide +kernel, by decide +kernel⟩, by decide⟩, zv_in 602 (by decide +kernel) rfl, zv_in 603 (by decide +kernel) rfl, _, _, rfl⟩
theorem Y_X8_has : zv_YV yX8_has M_X8_has_20 2 8 := ⟨⟨zv_in 618 (by decide +kernel) rfl, zv_in 70 (by decide +kernel) rfl, ⟨by decide +kernel, by decide +kernel, by decide +kernel⟩, by decide⟩, zv_in 616 (by decide +kernel) rfl, zv_in 617 (by decide +kernel) rfl, _, _, rfl⟩
theorem Y_X0_maybe : zv_YV yX0_maybe M_X0_maybe 2 0 := ⟨⟨zv_in 614 (by decide +kernel) rfl, zv_in 71 (by decide +kernel) rfl, ⟨by decide +kernel, by decide +kernel, by decide +kernel⟩, by decide⟩, zv_in 612 (by decide +kernel) rfl, zv_in 613 (by decide +kernel) rfl, _, _, rfl⟩
theorem Y_X10_may : zv_YV yX10_may M_X10_may 2 10 := ⟨⟨zv_in 610 (by decide +kernel) rfl, zv_in 66 (by decide +kernel) rfl, ⟨by decide +kernel, by decide +kernel, by decide +kernel⟩, by decide⟩, zv_in 608 (by decide +kernel) rfl, zv_in 609 (by decide +kernel) rfl, _, _, rfl⟩
theorem Y_X0_surely : zv_YV yX0_surely M_X0_surely 2 0 := ⟨⟨zv_in 626 (by decide +kernel) rfl, zv_in 71 (by decide +kernel) rfl, ⟨by decide +kernel, by decide +kernel, by decide +kernel⟩, by decide⟩, zv_in 624 (by decide +kernel) rfl, zv_in 625 (by decide +kernel) rfl, _, _, rfl⟩
theorem Y_X10_sure : zv_YV yX10_sure M_X10_sure 2 10 := ⟨⟨zv_in 622 (by decide +kernel) rfl, zv_in 66 (by decide +kernel) rfl, ⟨by decide +kernel, by decide +kernel, by decide +kernel⟩, by decide⟩, zv_in 620 (by decide +kernel) rfl, zv_in 621 (by decide +kernel) rfl, _, _, rfl⟩
theorem Y_J7_fill_53178 : zv_YS yJ7_fill_53178 M_J7_fill_53178 2 := ⟨⟨zv_in 638 (by decide +kernel) rfl, zv_in 79 (by decide +kernel) rfl, ⟨by decide +kernel, by decide +kernel, by decide +kernel⟩, by decide⟩, zv_in 637 (by decide +kernel) rfl⟩
theorem Y_X0_placeInOrder : zv_YV yX0_placeInOrder M_X0_placeInOrder 2 0 := ⟨⟨zv_in 653 (by decide +kernel) rfl, zv_in 71 (by decide +kernel) rfl, ⟨by decide +kernel, by decide +kernel, by decide +kernel⟩, by decide⟩, zv_in 651 (by decide +kernel) rfl, zv_in 652 (by decide +kernel) rfl, _, _, rfl⟩
theorem Y_X4_holds : zv_YV yX4_holds M_X4_holds 3 4 := ⟨⟨zv_in 659 (by decide +kernel) rfl, zv_in 72 (by decide +kernel) rfl, ⟨by decide +kernel, by decide +kernel, by decide +kernel⟩, by decide⟩, zv_in 658 (by decide +kernel) rfl, zv_in 19 (by decide +kernel) rfl, _, _, rfl⟩
theorem Y_X4_wantedByBool : zv_YV yX4_wantedByBool M_X4_wantedByBool 2 4 := ⟨⟨zv_in 648 (by decide +kernel) rfl, zv_in 72 (by decide +kernel) rfl, ⟨by decide +kernel, by decide +kernel, by decide +kernel⟩, by decide⟩, zv_in 647 (by decide +kernel) rfl, zv_in 18 (by decide +kernel) rfl, _, _, rfl⟩
theorem Y_X4_wantedBy : zv_YV yX4_wantedBy M_X4_wantedBy 2 4 := ⟨⟨zv_in 642 (by decide +kernel) rfl, zv_in 72 (by decide +kernel) rfl, ⟨by decide +kernel, by decide +kernel, by decide +kernel⟩, by decide⟩, zv_in 641 (by decide +kernel) rfl, zv_in 17 (by decide +kernel) rfl, _, _, rfl⟩
theorem Y_X4_somePartMatches : zv_YV yX4_somePartMatches M_X4_somePartMatches 1 4 := ⟨⟨zv_in 674 (by decide +kernel) rfl, zv_in 72 (by decide +kernel) rfl, ⟨by decide +kernel, by decide +kernel, by decide +kernel⟩, by decide⟩, zv_in 673 (by decide +kernel) rfl, zv_in 22 (by decide +kernel) rfl, _, _, rfl⟩
theorem Y_X5_ask : zv_YV yX5_ask M_X5_ask 1 5 := ⟨⟨zv_in 682 (by decide +kernel) rfl, zv_in 68 (by decide +kernel) rfl, ⟨by decide +kernel, by decide +kernel, by decide +kernel⟩, by decide⟩, zv_in 680 (by decide +kernel) rfl, zv_in 681 (by decide +kernel) rfl, _, _, rfl⟩
theorem Y_X4_passesTest : zv_YV yX4_passesTest M_X4_passesTest 2 4 := ⟨⟨zv_in 678 (by decide +kernel) rfl, zv_in 72 (by decide +kernel) rfl, ⟨by decide +kernel, by decide +kernel, by decide +kernel⟩, by decide⟩, zv_in 677 (by decide +kernel) rfl, zv_in 23 (by decide +kernel) rfl, _, _, rfl⟩
theorem Y_X4_fitsBool : zv_YV yX4_fitsBool M_X4_fitsBool 2 4 := ⟨⟨zv_in 669 (by decide +kernel) rfl, zv_in 72 (by decide +kernel) rfl, ⟨by decide +kernel, by decide +kernel, by decide +kernel⟩, by decide⟩, zv_in 668 (by decide +kernel) rfl, zv_in 21 (by decide +kernel) rfl, _, _, rfl⟩
theorem Y_X4_fitsByParts : zv_YV yX4_fitsByParts M_X4_fitsByParts 2 4 := ⟨⟨zv_in 665 (by decide +kernel) rfl, zv_in 72 (by decide +kernel) rfl, ⟨by decide +kernel, by decide +kernel, by decide +kernel⟩, by decide⟩, zv_in 664 (by decide +kernel) rfl, zv_in 20 (by decide +kernel) rfl, _, _, rfl⟩
theorem Y_J9_max_f86c9 : zv_YS yJ9_max_f86c9 M_J9_max_f86c9 2 := ⟨⟨zv_in 703 (by decide +kernel) rfl, zv_in 78 (by decide +kernel) rfl, ⟨by decide +kernel, by decide +kernel, by decide +kernel⟩, by decide⟩, zv_in 702 (by decide +kernel) rfl⟩
theorem Y_X4_scoreOfBest : zv_YV yX4_scoreOfBest M_X4_scoreOfBest 1 4 := ⟨⟨zv_in 699 (by decide +kernel) rfl, zv_in 72 (by decide +kernel) rfl, ⟨by decide +kernel, by decide +kernel, by decide +kernel⟩, by decide⟩, zv_in 698 (by decide +kernel) rfl, zv_in 26 (by decide +kernel) rfl, _, _, rfl⟩
theorem Y_X4_scoreOfBool : zv_YV yX4_scoreOfBool M_X4_scoreOfBool 1 4 := ⟨⟨zv_in 695 (by decide +kernel) rfl, zv_in 72 (by decide +kernel) rfl, ⟨by decide +kernel, by decide +kernel, by decide +kernel⟩, by decide⟩, zv_in 694 (by decide +kernel) rfl, zv_in 25 (by decide +kernel) rfl, _, _, rfl⟩
theorem Y_X4_scoreByParts : zv_YV yX4_scoreByParts M_X4_scoreByParts 2 4 := ⟨⟨zv_in 689 (by decide +kernel) rfl, zv_in 72 (by decide +kernel) rfl, ⟨by decide +kernel, by decide +kernel, by decide +kernel⟩, by decide⟩, zv_in 688 (by decide +kernel) rfl, zv_in 24 (by decide +kernel) rfl, _, _, rfl⟩
theorem Y_X4_matches : zv_YV yX4_matches M_X4_matches 2 4 := ⟨⟨zv_in 634 (by decide +kernel) rfl, zv_in 72 (by decide +kernel) rfl, ⟨by decide +kernel, by decide +kernel, by decide +kernel⟩, by decide⟩, zv_in 632 (by decide +kernel) rfl, zv_in 633 (by decide +kernel) rfl, _, _, rfl⟩
theorem Y_X4_scoreOf : zv_YV yX4_scoreOf M_X4_scoreOf 1 4 := ⟨⟨zv_in 708 (by decide +kernel) rfl, zv_in 72 (by decide +kernel) rfl, ⟨by decide +kernel, by decide +kernel, by decide +kernel⟩, by decide⟩, zv_in 706 (by decide +kernel) rfl, zv_in 707 (by decide +kernel) rfl, _, _, rfl⟩
theorem Y_X10_look : zv_YV yX10_look M_X10_look 2 10 := ⟨⟨zv_in 630 (by decide +kernel) rfl, zv_in 66 (by decide +kernel) rfl, ⟨by decide +kernel, by decide +kernel, by decide +kernel⟩, by decide⟩, zv_in 628 (by decide +kernel) rfl, zv_in 629 (by decide +kernel) rfl, _, _, rfl⟩
theorem Y_X10_scored : zv_YV yX10_scored M_X10_scored 0 10 := ⟨⟨zv_in 712 (by decide +kernel) rfl, zv_in 66 (by decide +kernel) rfl, ⟨by decide +kernel, by decide +kernel, by decide +kernel⟩, by decide⟩, zv_in 710 (by decide +kernel) rfl, zv_in 711 (by decide +kernel) rfl, _, _, rfl⟩
theorem Y_X1_clear : zv_YV yX1_clear M_X1_clear 0 1 := ⟨⟨zv_in 720 (by decide +kernel) rfl, zv_in 73 (by decide +kernel) rfl, ⟨by decide +kernel, by decide +kernel, by decide +kernel⟩, by decide⟩, zv_in 718 (by decide +kernel) rfl, zv_in 719 (by decide +kernel) rfl, _, _, rfl⟩
theorem Y_X1_add : zv_YV yX1_add M_X1_add 2 1 := ⟨⟨zv_in 724 (by decide +kernel) rfl, zv_in 73 (by decide +kernel) rfl, ⟨by decide +kernel, by decide +kernel, by decide +kernel⟩, by decide⟩, zv_in 722 (by decide +kernel) rfl, zv_in 723 (by decide +kernel) rfl, _, _, rfl⟩
theorem Y_X1_size : zv_YV yX1_size M_X1_size 0 1 := ⟨⟨zv_in 728 (by decide +kernel) rfl, zv_in 73 (by decide +kernel) rfl, ⟨by decide +kernel, by decide +kernel, by decide +kernel⟩, by decide⟩, zv_in 726 (by decide +kernel) rfl, zv_in 727 (by decide +kernel) rfl, _, _, rfl⟩
theorem Y_X10_run : zv_YV yX10_run M_X10_run 1 10 := ⟨⟨zv_in 716 (by decide +kernel) rfl, zv_in 66 (by decide +kernel) rfl, ⟨by decide +kernel, by decide +kernel, by decide +kernel⟩, by decide⟩, zv_in 714 (by decide +kernel) rfl, zv_in 715 (by decide +kernel) rfl, _, _, rfl⟩
theorem Y_X1_has : zv_YV yX1_has M_X1_has 1 1 := ⟨⟨zv_in 736 (by decide +kernel) rfl, zv_in 73 (by decide +kernel) rfl, ⟨by decide +kernel, by decide +kernel, by decide +kernel⟩, by decide⟩, zv_in 734 (by decide +kernel) rfl, zv_in 735 (by decide +kernel) rfl, _, _, rfl⟩
theorem Y_X1_objectAt : zv_YV yX1_objectAt M_X1_objectAt 1 1 := ⟨⟨zv_in 740 (by decide +kernel) rfl, zv_in 73 (by decide +kernel) rfl, ⟨by decide +kernel, by decide +kernel, by decide +kernel⟩, by decide⟩, zv_in 738 (by decide +kernel) rfl, zv_in 739 (by decide +kernel) rfl, _, _, rfl⟩
theorem Y_X10_found : zv_YV yX10_found M_X10_found 1 10 := ⟨⟨zv_in 732 (by decide +kernel) rfl, zv_in 66 (by decide +kernel) rfl, ⟨by decide +kernel, by decide +kernel, by decide +kernel⟩, by decide⟩, zv_in 730 (by decide +kernel) rfl, zv_in 731 (by decide +kernel) rfl, _, _, rfl⟩
theorem Y_X1_scoreAt : zv_YV yX1_scoreAt M_X1_scoreAt 1 1 := ⟨⟨zv_in 748 (by decide +kernel) rfl, zv_in 73 (by decide +kernel) rfl, ⟨by decide +kernel, by decide +kernel, by decide +kernel⟩, by decide⟩, zv_in 746 (by decide +kernel) rfl, zv_in 747 (by decide +kernel) rfl, _, _, rfl⟩
theorem Y_X10_score : zv_YV yX10_score M_X10_score 1 10 := ⟨⟨zv_in 744 (by decide +kernel) rfl, zv_in 66 (by decide +kernel) rfl, ⟨by decide +kernel, by decide +kernel, by decide +kernel⟩, by decide⟩, zv_in 742 (by decide +kernel) rfl, zv_in 743 (by decide +kernel) rfl, _, _, rfl⟩
theorem Y_X9_begin : zv_YV yX9_begin M_X9_begin 1 9 := ⟨⟨zv_in 756 (by decide +kernel) rfl, zv_in 69 (by decide +kernel) rfl, ⟨by decide +kernel, by decide +kernel, by decide +kernel⟩, by decide⟩, zv_in 754 (by decide +kernel) rfl, zv_in 755 (by decide +kernel) rfl, _, _, rfl⟩
theorem Y_X9_add : zv_YV yX9_add M_X9_add 2 9 := ⟨⟨zv_in 761 (by decide +kernel) rfl, zv_in 69 (by decide +kernel) rfl, ⟨by decide +kernel, by decide +kernel, by decide +kernel⟩, by decide⟩, zv_in 759 (by decide +kernel) rfl, zv_in 760 (by decide +kernel) rfl, _, _, rfl⟩
theorem Y_X10_keep : zv_YV yX10_keep M_X10_keep 1 10 := ⟨⟨zv_in 752 (by decide +kernel) rfl, zv_in 66 (by decide +kernel) rfl, ⟨by decide +kernel, by decide +kernel, by decide +kernel⟩, by decide⟩, zv_in 750 (by decide +kernel) rfl, zv_in 751 (by decide +kernel) rfl, _, _, rfl⟩
theorem Y_X2_start : zv_YV yX2_start M_X2_start 1 2 := ⟨⟨zv_in 770 (by decide +kernel) rfl, zv_in 74 (by decide +kernel) rfl, ⟨by decide +kernel, by decide +kernel, by decide +kernel⟩, by decide⟩, zv_in 768 (by decide +kernel) rfl, zv_in 769 (by decide +kernel) rfl, _, _, rfl⟩
theorem Y_X10_open : zv_YV yX10_open M_X10_open 1 10 := ⟨⟨zv_in 766 (by decide +kernel) rfl, zv_in 66 (by decide +kernel) rfl, ⟨by decide +kernel, by decide +kernel, by decide +kernel⟩, by decide⟩, zv_in 764 (by decide +kernel) rfl, zv_in 765 (by decide +kernel) rfl, _, _, rfl⟩
theorem Y_X2_isOpen : zv_YV yX2_isOpen M_X2_isOpen 1 2 := ⟨⟨zv_in 778 (by decide +kernel) rfl, zv_in 74 (by decide +kernel) rfl, ⟨by decide +kernel, by decide +kernel, by decide +kernel⟩, by decide⟩, zv_in 776 (by decide +kernel) rfl, zv_in 777 (by decide +kernel) rfl, _, _, rfl⟩
theorem Y_X2_nodeOf : zv_YV yX2_nodeOf M_X2_nodeOf 1 2 := ⟨⟨zv_in 783 (by decide +kernel) rfl, zv_in 74 (by decide +kernel) rfl, ⟨by decide +kernel, by decide +kernel, by decide +kernel⟩, by decide⟩, zv_in 781 (by decide +kernel) rfl, zv_in 782 (by decide +kernel) rfl, _, _, rfl⟩
theorem Y_X2_standOf : zv_YV yX2_standOf M_X2_standOf 1 2 := ⟨⟨zv_in 787 (by decide +kernel) rfl, zv_in 74 (by decide +kernel) rfl, ⟨by decide +kernel, by decide +kernel, by decide +kernel⟩, by decide⟩, zv_in 785 (by decide +kernel) rfl, zv_in 786 (by decide +kernel) rfl, _, _, rfl⟩
theorem Y_X2_stopAt : zv_YV yX2_stopAt M_X2_stopAt 2 2 := ⟨⟨zv_in 792 (by decide +kernel) rfl, zv_in 74 (by decide +kernel) rfl, ⟨by decide +kernel, by decide +kernel, by decide +kernel⟩, by decide⟩, zv_in 790 (by decide +kernel) rfl, zv_in 791 (by decide +kernel) rfl, _, _, rfl⟩
theorem Y_X2_finish : zv_YV yX2_finish M_X2_finish 1 2 := ⟨⟨zv_in 796 (by decide +kernel) rfl, zv_in 74 (by decide +kernel) rfl, ⟨by decide +kernel, by decide +kernel, by decide +kernel⟩, by decide⟩, zv_in 794 (by decide +kernel) rfl, zv_in 795 (by decide +kernel) rfl, _, _, rfl⟩
theorem Y_X10_next : zv_YV yX10_next M_X10_next 2 10 := ⟨⟨zv_in 774 (by decide +kernel) rfl, zv_in 66 (by decide +kernel) rfl, ⟨by decide +kernel, by decide +kernel, by decide +kernel⟩, by decide⟩, zv_in 772 (by decide +kernel) rfl, zv_in 773 (by decide +kernel) rfl, _, _, rfl⟩
theorem Y_X2_end : zv_YV yX2_end M_X2_end 1 2 := ⟨⟨zv_in 804 (by decide +kernel) rfl, zv_in 74 (by decide +kernel) rfl, ⟨by decide +kernel, by decide +kernel, by decide +kernel⟩, by decide⟩, zv_in 802 (by decide +kernel) rfl, zv_in 803 (by decide +kernel) rfl, _, _, rfl⟩
theorem Y_X10_close : zv_YV yX10_close M_X10_close 1 10 := ⟨⟨zv_in 800 (by decide +kernel) rfl, zv_in 66 (by decide +kernel) rfl, ⟨by decide +kernel, by decide +kernel, by decide +kernel⟩, by decide⟩, zv_in 798 (by decide +kernel) rfl, zv_in 799 (by decide +kernel) rfl, _, _, rfl⟩
theorem Y_X7_markUnder : zv_YV yX7_markUnder M_X7_markUnder 1 7 := ⟨⟨zv_in 817 (by decide +kernel) rfl, zv_in 75 (by decide +kernel) rfl, ⟨by decide +kernel, by decide +kernel, by decide +kernel⟩, by decide⟩, zv_in 816 (by decide +kernel) rfl, zv_in 27 (by decide +kernel) rfl, _, _, rfl⟩
theorem Y_X7_thatIsSo : zv_YV yX7_thatIsSo M_X7_thatIsSo 3 7 := ⟨⟨zv_in 830 (by decide +kernel) rfl, zv_in 75 (by decide +kernel) rfl, ⟨by decide +kernel, by decide +kernel, by decide +kernel⟩, by decide⟩, zv_in 829 (by decide +kernel) rfl, zv_in 29 (by decide +kernel) rfl, _, _, rfl⟩
theorem Y_X7_newOfOne : zv_YV yX7_newOfOne M_X7_newOfOne 3 7 := ⟨⟨zv_in 918 (by decide +kernel) rfl, zv_in 75 (by decide +kernel) rfl, ⟨by decide +kernel, by decide +kernel, by decide +kernel⟩, by decide⟩, zv_in 917 (by decide +kernel) rfl, zv_in 40 (by decide +kernel) rfl, _, _, rfl⟩
theorem Y_X6_clear : zv_YV yX6_clear M_X6_clear 0 6 := ⟨⟨zv_in 840 (by decide +kernel) rfl, zv_in 76 (by decide +kernel) rfl, ⟨by decide +kernel, by decide +kernel, by decide +kernel⟩, by decide⟩, zv_in 838 (by decide +kernel) rfl, zv_in 839 (by decide +kernel) rfl, _, _, rfl⟩
theorem Y_X6_add : zv_YV yX6_add M_X6_add 2 6 := ⟨⟨zv_in 859 (by decide +kernel) rfl, zv_in 76 (by decide +kernel) rfl, ⟨by decide +kernel, by decide +kernel, by decide +kernel⟩, by decide⟩, zv_in 857 (by decide +kernel) rfl, zv_in 858 (by decide +kernel) rfl, _, _, rfl⟩
theorem Y_X6_size : zv_YV yX6_size M_X6_size 0 6 := ⟨⟨zv_in 851 (by decide +kernel) rfl, zv_in 76 (by decide +kernel) rfl, ⟨by decide +kernel, by decide +kernel, by decide +kernel⟩, by decide⟩, zv_in 849 (by decide +kernel) rfl, zv_in 850 (by decide +kernel) rfl, _, _, rfl⟩
theorem Y_X6_partAt : zv_YV yX6_partAt M_X6_partAt 1 6 := ⟨⟨zv_in 900 (by decide +kernel) rfl, zv_in 76 (by decide +kernel) rfl, ⟨by decide +kernel, by decide +kernel, by decide +kernel⟩, by decide⟩, zv_in 898 (by decide +kernel) rfl, zv_in 899 (by decide +kernel) rfl, _, _, rfl⟩
theorem Y_X6_roleAt : zv_YV yX6_roleAt M_X6_roleAt 1 6 := ⟨⟨zv_in 896 (by decide +kernel) rfl, zv_in 76 (by decide +kernel) rfl, ⟨by decide +kernel, by decide +kernel, by decide +kernel⟩, by decide⟩, zv_in 894 (by decide +kernel) rfl, zv_in 895 (by decide +kernel) rfl, _, _, rfl⟩
theorem Y_X7_hasPartsOfRow : zv_YV yX7_hasPartsOfRow M_X7_hasPartsOfRow 1 7 := ⟨⟨zv_in 908 (by decide +kernel) rfl, zv_in 75 (by decide +kernel) rfl, ⟨by decide +kernel, by decide +kernel, by decide +kernel⟩, by decide⟩, zv_in 907 (by decide +kernel) rfl, zv_in 38 (by decide +kernel) rfl, _, _, rfl⟩
theorem Y_X7_thatIsSoWithRow : zv_YV yX7_thatIsSoWithRow M_X7_thatIsSoWithRow 2 7 := ⟨⟨zv_in 904 (by decide +kernel) rfl, zv_in 75 (by decide +kernel) rfl, ⟨by decide +kernel, by decide +kernel, by decide +kernel⟩, by decide⟩, zv_in 903 (by decide +kernel) rfl, zv_in 37 (by decide +kernel) rfl, _, _, rfl⟩
theorem Y_X7_newOfBest : zv_YV yX7_newOfBest M_X7_newOfBest 1 7 := ⟨⟨zv_in 913 (by decide +kernel) rfl, zv_in 75 (by decide +kernel) rfl, ⟨by decide +kernel, by decide +kernel, by decide +kernel⟩, by decide⟩, zv_in 912 (by decide +kernel) rfl, zv_in 39 (by decide +kernel) rfl, _, _, rfl⟩
theorem Y_X7_canDissolve : zv_YV yX7_canDissolve M_X7_canDissolve 3 7 := ⟨⟨zv_in 846 (by decide +kernel) rfl, zv_in 75 (by decide +kernel) rfl, ⟨by decide +kernel, by decide +kernel, by decide +kernel⟩, by decide⟩, zv_in 845 (by decide +kernel) rfl, zv_in 31 (by decide +kernel) rfl, _, _, rfl⟩
theorem Y_X7_dissolve : zv_YV yX7_dissolve M_X7_dissolve 2 7 := ⟨⟨zv_in 855 (by decide +kernel) rfl, zv_in 75 (by decide +kernel) rfl, ⟨by decide +kernel, by decide +kernel, by decide +kernel⟩, by decide⟩, zv_in 854 (by decide +kernel) rfl, zv_in 32 (by decide +kernel) rfl, _, _, rfl⟩
theorem Y_X7_gatherBool : zv_YV yX7_gatherBool M_X7_gatherBool 1 7 := ⟨⟨zv_in 836 (by decide +kernel) rfl, zv_in 75 (by decide +kernel) rfl, ⟨by decide +kernel, by decide +kernel, by decide +kernel⟩, by decide⟩, zv_in 835 (by decide +kernel) rfl, zv_in 30 (by decide +kernel) rfl, _, _, rfl⟩
theorem Y_X6_countOf : zv_YV yX6_countOf M_X6_countOf 1 6 := ⟨⟨zv_in 867 (by decide +kernel) rfl, zv_in 76 (by decide +kernel) rfl, ⟨by decide +kernel, by decide +kernel, by decide +kernel⟩, by decide⟩, zv_in 865 (by decide +kernel) rfl, zv_in 866 (by decide +kernel) rfl, _, _, rfl⟩
theorem Y_X6_makeShouldsMusts : zv_YV yX6_makeShouldsMusts M_X6_makeShouldsMusts 0 6 := ⟨⟨zv_in 872 (by decide +kernel) rfl, zv_in 76 (by decide +kernel) rfl, ⟨by decide +kernel, by decide +kernel, by decide +kernel⟩, by decide⟩, zv_in 870 (by decide +kernel) rfl, zv_in 871 (by decide +kernel) rfl, _, _, rfl⟩
theorem Y_X6_hasAhead : zv_YV yX6_hasAhead M_X6_hasAhead 3 6 := ⟨⟨zv_in 880 (by decide +kernel) rfl, zv_in 76 (by decide +kernel) rfl, ⟨by decide +kernel, by decide +kernel, by decide +kernel⟩, by decide⟩, zv_in 879 (by decide +kernel) rfl, zv_in 34 (by decide +kernel) rfl, _, _, rfl⟩
theorem Y_X6_contradictsItself : zv_YV yX6_contradictsItself M_X6_contradictsItself 0 6 := ⟨⟨zv_in 876 (by decide +kernel) rfl, zv_in 76 (by decide +kernel) rfl, ⟨by decide +kernel, by decide +kernel, by decide +kernel⟩, by decide⟩, zv_in 874 (by decide +kernel) rfl, zv_in 875 (by decide +kernel) rfl, _, _, rfl⟩
theorem Y_X6_hasBehind : zv_YV yX6_hasBehind M_X6_hasBehind 3 6 := ⟨⟨zv_in 892 (by decide +kernel) rfl, zv_in 76 (by decide +kernel) rfl, ⟨by decide +kernel, by decide +kernel, by decide +kernel⟩, by decide⟩, zv_in 891 (by decide +kernel) rfl, zv_in 36 (by decide +kernel) rfl, _, _, rfl⟩
theorem Y_X6_isRepeat : zv_YV yX6_isRepeat M_X6_isRepeat 2 6 := ⟨⟨zv_in 888 (by decide +kernel) rfl, zv_in 76 (by decide +kernel) rfl, ⟨by decide +kernel, by decide +kernel, by decide +kernel⟩, by decide⟩, zv_in 887 (by decide +kernel) rfl, zv_in 35 (by decide +kernel) rfl, _, _, rfl⟩
theorem Y_X6_leaveOutRepeats : zv_YV yX6_leaveOutRepeats M_X6_leaveOutRepeats 0 6 := ⟨⟨zv_in 884 (by decide +kernel) rfl, zv_in 76 (by decide +kernel) rfl, ⟨by decide +kernel, by decide +kernel, by decide +kernel⟩, by decide⟩, zv_in 882 (by decide +kernel) rfl, zv_in 883 (by decide +kernel) rfl, _, _, rfl⟩
theorem Y_X7_boolOfRow : zv_YV yX7_boolOfRow M_X7_boolOfRow 1 7 := ⟨⟨zv_in 863 (by decide +kernel) rfl, zv_in 75 (by decide +kernel) rfl, ⟨by decide +kernel, by decide +kernel, by decide +kernel⟩, by decide⟩, zv_in 862 (by decide +kernel) rfl, zv_in 33 (by decide +kernel) rfl, _, _, rfl⟩
theorem Y_X7_newOf : zv_YV yX7_newOf M_X7_newOf 1 7 := ⟨⟨zv_in 823 (by decide +kernel) rfl, zv_in 75 (by decide +kernel) rfl, ⟨by decide +kernel, by decide +kernel, by decide +kernel⟩, by decide⟩, zv_in 822 (by decide +kernel) rfl, zv_in 28 (by decide +kernel) rfl, _, _, rfl⟩
theorem Y_X5_shrinkTo : zv_YV yX5_shrinkTo M_X5_shrinkTo 1 5 := ⟨⟨zv_in 922 (by decide +kernel) rfl, zv_in 68 (by decide +kernel) rfl, ⟨by decide +kernel, by decide +kernel, by decide +kernel⟩, by decide⟩, zv_in 920 (by decide +kernel) rfl, zv_in 921 (by decide +kernel) rfl, _, _, rfl⟩
theorem Y_X7_writeAnew : zv_YV yX7_writeAnew M_X7_writeAnew 1 7 := ⟨⟨zv_in 812 (by decide +kernel) rfl, zv_in 75 (by decide +kernel) rfl, ⟨by decide +kernel, by decide +kernel, by decide +kernel⟩, by decide⟩, zv_in 810 (by decide +kernel) rfl, zv_in 811 (by decide +kernel) rfl, _, _, rfl⟩
theorem Y_X10_rewrite : zv_YV yX10_rewrite M_X10_rewrite 1 10 := ⟨⟨zv_in 808 (by decide +kernel) rfl, zv_in 66 (by decide +kernel) rfl, ⟨by decide +kernel, by decide +kernel, by decide +kernel⟩, by decide⟩, zv_in 806 (by decide +kernel) rfl, zv_in 807 (by decide +kernel) rfl, _, _, rfl⟩
theorem Y_X9_count : zv_YV yX9_count M_X9_count 0 9 := ⟨⟨zv_in 943 (by decide +kernel) rfl, zv_in 69 (by decide +kernel) rfl, ⟨by decide +kernel, by decide +kernel, by decide +kernel⟩, by decide⟩, zv_in 941 (by decide +kernel) rfl, zv_in 942 (by decide +kernel) rfl, _, _, rfl⟩
theorem Y_X2_countOpen : zv_YV yX2_countOpen M_X2_countOpen 0 2 := ⟨⟨zv_in 939 (by decide +kernel) rfl, zv_in 74 (by decide +kernel) rfl, ⟨by decide +kernel, by decide +kernel, by decide +kernel⟩, by decide⟩, zv_in 937 (by decide +kernel) rfl, zv_in 938 (by decide +kernel) rfl, _, _, rfl⟩
theorem Y_X5_askedInAll : zv_YV yX5_askedInAll M_X5_askedInAll 0 5 := ⟨⟨zv_in 935 (by decide +kernel) rfl, zv_in 68 (by decide +kernel) rfl, ⟨by decide +kernel, by decide +kernel, by decide +kernel⟩, by decide⟩, zv_in 933 (by decide +kernel) rfl, zv_in 934 (by decide +kernel) rfl, _, _, rfl⟩
theorem Y_X3_total : zv_YV yX3_total M_X3_total 0 3 := ⟨⟨zv_in 931 (by decide +kernel) rfl, zv_in 67 (by decide +kernel) rfl, ⟨by decide +kernel, by decide +kernel, by decide +kernel⟩, by decide⟩, zv_in 929 (by decide +kernel) rfl, zv_in 930 (by decide +kernel) rfl, _, _, rfl⟩
theorem Y_X10_sum : zv_YV yX10_sum M_X10_sum 1 10 := ⟨⟨zv_in 926 (by decide +kernel) rfl, zv_in 66 (by decide +kernel) rfl, ⟨by decide +kernel, by decide +kernel, by decide +kernel⟩, by decide⟩, zv_in 924 (by decide +kernel) rfl, zv_in 925 (by decide +kernel) rfl, _, _, rfl⟩
theorem Y_X11_in : zv_YS yX11_in M_X11_in 3 := ⟨⟨zv_in 1069 (by decide +kernel) rfl, zv_in 77 (by decide +kernel) rfl, ⟨by decide +kernel, by decide +kernel, by decide +kernel⟩, by decide⟩, zv_in 1068 (by decide +kernel) rfl⟩
theorem Y_X11_isObject : zv_YS yX11_isObject M_X11_isObject 1 := ⟨⟨zv_in 1072 (by decide +kernel) rfl, zv_in 77 (by decide +kernel) rfl, ⟨by decide +kernel, by decide +kernel, by decide +kernel⟩, by decide⟩, zv_in 1071 (by decide +kernel) rfl⟩
theorem Y_X11_forget : zv_YV yX11_forget M_X11_forget 1 11 := ⟨⟨zv_in 1081 (by decide +kernel) rfl, zv_in 77 (by decide +kernel) rfl, ⟨by decide +kernel, by decide +kernel, by decide +kernel⟩, by decide⟩, zv_in 1080 (by decide +kernel) rfl, zv_in 42 (by decide +kernel) rfl, _, _, rfl⟩
theorem Y_X11_change : zv_YV yX11_change M_X11_change 1 11 := ⟨⟨zv_in 1077 (by decide +kernel) rfl, zv_in 77 (by decide +kernel) rfl, ⟨by decide +kernel, by decide +kernel, by decide +kernel⟩, by decide⟩, zv_in 1076 (by decide +kernel) rfl, zv_in 41 (by decide +kernel) rfl, _, _, rfl⟩
theorem Y_X11_put : zv_YV yX11_put M_X11_put 3 11 := ⟨⟨zv_in 1066 (by decide +kernel) rfl, zv_in 77 (by decide +kernel) rfl, ⟨by decide +kernel, by decide +kernel, by decide +kernel⟩, by decide⟩, zv_in 1064 (by decide +kernel) rfl, zv_in 1065 (by decide +kernel) rfl, _, _, rfl⟩
theorem Y_X11_take : zv_YV yX11_take M_X11_take 2 11 := ⟨⟨zv_in 1085 (by decide +kernel) rfl, zv_in 77 (by decide +kernel) rfl, ⟨by decide +kernel, by decide +kernel, by decide +kernel⟩, by decide⟩, zv_in 1083 (by decide +kernel) rfl, zv_in 1084 (by decide +kernel) rfl, _, _, rfl⟩
theorem Y_X11_isNode : zv_YV yX11_isNode M_X11_isNode 1 11 := ⟨⟨zv_in 1097 (by decide +kernel) rfl, zv_in 77 (by decide +kernel) rfl, ⟨by decide +kernel, by decide +kernel, by decide +kernel⟩, by decide⟩, zv_in 1096 (by decide +kernel) rfl, zv_in 44 (by decide +kernel) rfl, _, _, rfl⟩
theorem Y_X11_isToldSo : zv_YV yX11_isToldSo M_X11_isToldSo 3 11 := ⟨⟨zv_in 1093 (by decide +kernel) rfl, zv_in 77 (by decide +kernel) rfl, ⟨by decide +kernel, by decide +kernel, by decide +kernel⟩, by decide⟩, zv_in 1092 (by decide +kernel) rfl, zv_in 43 (by decide +kernel) rfl, _, _, rfl⟩
theorem Y_X11_make : zv_YV yX11_make M_X11_make 3 11 := ⟨⟨zv_in 1102 (by decide +kernel) rfl, zv_in 77 (by decide +kernel) rfl, ⟨by decide +kernel, by decide +kernel, by decide +kernel⟩, by decide⟩, zv_in 1101 (by decide +kernel) rfl, zv_in 45 (by decide +kernel) rfl, _, _, rfl⟩
theorem Y_X11_node : zv_YV yX11_node M_X11_node 3 11 := ⟨⟨zv_in 1089 (by decide +kernel) rfl, zv_in 77 (by decide +kernel) rfl, ⟨by decide +kernel, by decide +kernel, by decide +kernel⟩, by decide⟩, zv_in 1087 (by decide +kernel) rfl, zv_in 1088 (by decide +kernel) rfl, _, _, rfl⟩
theorem Y_X11_part : zv_YV yX11_part M_X11_part 3 11 := ⟨⟨zv_in 1106 (by decide +kernel) rfl, zv_in 77 (by decide +kernel) rfl, ⟨by decide +kernel, by decide +kernel, by decide +kernel⟩, by decide⟩, zv_in 1104 (by decide +kernel) rfl, zv_in 1105 (by decide +kernel) rfl, _, _, rfl⟩
theorem Y_X11_together : zv_YV yX11_together M_X11_together 1 11 := ⟨⟨zv_in 1118 (by decide +kernel) rfl, zv_in 77 (by decide +kernel) rfl, ⟨by decide +kernel, by decide +kernel, by decide +kernel⟩, by decide⟩, zv_in 1117 (by decide +kernel) rfl, zv_in 47 (by decide +kernel) rfl, _, _, rfl⟩
theorem Y_X11_costs : zv_YV yX11_costs M_X11_costs 0 11 := ⟨⟨zv_in 1114 (by decide +kernel) rfl, zv_in 77 (by decide +kernel) rfl, ⟨by decide +kernel, by decide +kernel, by decide +kernel⟩, by decide⟩, zv_in 1113 (by decide +kernel) rfl, zv_in 46 (by decide +kernel) rfl, _, _, rfl⟩
theorem Y_X11_told : zv_YV yX11_told M_X11_told 2 11 := ⟨⟨zv_in 1110 (by decide +kernel) rfl, zv_in 77 (by decide +kernel) rfl, ⟨by decide +kernel, by decide +kernel, by decide +kernel⟩, by decide⟩, zv_in 1108 (by decide +kernel) rfl, zv_in 1109 (by decide +kernel) rfl, _, _, rfl⟩
theorem Y_X11_partOf : zv_YV yX11_partOf M_X11_partOf 3 11 := ⟨⟨zv_in 1122 (by decide +kernel) rfl, zv_in 77 (by decide +kernel) rfl, ⟨by decide +kernel, by decide +kernel, by decide +kernel⟩, by decide⟩, zv_in 1120 (by decide +kernel) rfl, zv_in 1121 (by decide +kernel) rfl, _, _, rfl⟩
theorem Y_X11_fits : zv_YV yX11_fits M_X11_fits 2 11 := ⟨⟨zv_in 1134 (by decide +kernel) rfl, zv_in 77 (by decide +kernel) rfl, ⟨by decide +kernel, by decide +kernel, by decide +kernel⟩, by decide⟩, zv_in 1133 (by decide +kernel) rfl, zv_in 49 (by decide +kernel) rfl, _, _, rfl⟩
theorem Y_X11_mayAll : zv_YV yX11_mayAll M_X11_mayAll 2 11 := ⟨⟨zv_in 1130 (by decide +kernel) rfl, zv_in 77 (by decide +kernel) rfl, ⟨by decide +kernel, by decide +kernel, by decide +kernel⟩, by decide⟩, zv_in 1129 (by decide +kernel) rfl, zv_in 48 (by decide +kernel) rfl, _, _, rfl⟩
theorem Y_X11_may : zv_YV yX11_may M_X11_may 2 11 := ⟨⟨zv_in 1126 (by decide +kernel) rfl, zv_in 77 (by decide +kernel) rfl, ⟨by decide +kernel, by decide +kernel, by decide +kernel⟩, by decide⟩, zv_in 1124 (by decide +kernel) rfl, zv_in 1125 (by decide +kernel) rfl, _, _, rfl⟩
theorem Y_X11_sure : zv_YV yX11_sure M_X11_sure 2 11 := ⟨⟨zv_in 1138 (by decide +kernel) rfl, zv_in 77 (by decide +kernel) rfl, ⟨by decide +kernel, by decide +kernel, by decide +kernel⟩, by decide⟩, zv_in 1136 (by decide +kernel) rfl, zv_in 1137 (by decide +kernel) rfl, _, _, rfl⟩
theorem Y_X11_sort : zv_YV yX11_sort M_X11_sort 1 11 := ⟨⟨zv_in 1154 (by decide +kernel) rfl, zv_in 77 (by decide +kernel) rfl, ⟨by decide +kernel, by decide +kernel, by decide +kernel⟩, by decide⟩, zv_in 1153 (by decide +kernel) rfl, zv_in 52 (by decide +kernel) rfl, _, _, rfl⟩
theorem Y_X11_come : zv_YV yX11_come M_X11_come 1 11 := ⟨⟨zv_in 1150 (by decide +kernel) rfl, zv_in 77 (by decide +kernel) rfl, ⟨by decide +kernel, by decide +kernel, by decide +kernel⟩, by decide⟩, zv_in 1149 (by decide +kernel) rfl, zv_in 51 (by decide +kernel) rfl, _, _, rfl⟩
theorem Y_X11_goBool : zv_YV yX11_goBool M_X11_goBool 1 11 := ⟨⟨zv_in 1158 (by decide +kernel) rfl, zv_in 77 (by decide +kernel) rfl, ⟨by decide +kernel, by decide +kernel, by decide +kernel⟩, by decide⟩, zv_in 1157 (by decide +kernel) rfl, zv_in 53 (by decide +kernel) rfl, _, _, rfl⟩
theorem Y_X11_goBest : zv_YV yX11_goBest M_X11_goBest 1 11 := ⟨⟨zv_in 1162 (by decide +kernel) rfl, zv_in 77 (by decide +kernel) rfl, ⟨by decide +kernel, by decide +kernel, by decide +kernel⟩, by decide⟩, zv_in 1161 (by decide +kernel) rfl, zv_in 54 (by decide +kernel) rfl, _, _, rfl⟩
theorem Y_X11_goOne : zv_YV yX11_goOne M_X11_goOne 2 11 := ⟨⟨zv_in 1167 (by decide +kernel) rfl, zv_in 77 (by decide +kernel) rfl, ⟨by decide +kernel, by decide +kernel, by decide +kernel⟩, by decide⟩, zv_in 1166 (by decide +kernel) rfl, zv_in 55 (by decide +kernel) rfl, _, _, rfl⟩
theorem Y_X11_go : zv_YV yX11_go M_X11_go 2 11 := ⟨⟨zv_in 1146 (by decide +kernel) rfl, zv_in 77 (by decide +kernel) rfl, ⟨by decide +kernel, by decide +kernel, by decide +kernel⟩, by decide⟩, zv_in 1145 (by decide +kernel) rfl, zv_in 50 (by decide +kernel) rfl, _, _, rfl⟩
theorem Y_X11_look : zv_YV yX11_look M_X11_look 2 11 := ⟨⟨zv_in 1142 (by decide +kernel) rfl, zv_in 77 (by decide +kernel) rfl, ⟨by decide +kernel, by decide +kernel, by decide +kernel⟩, by decide⟩, zv_in 1140 (by decide +kernel) rfl, zv_in 1141 (by decide +kernel) rfl, _, _, rfl⟩
theorem Y_X11_scored : zv_YV yX11_scored M_X11_scored 0 11 := ⟨⟨zv_in 1171 (by decide +kernel) rfl, zv_in 77 (by decide +kernel) rfl, ⟨by decide +kernel, by decide +kernel, by decide +kernel⟩, by decide⟩, zv_in 1169 (by decide +kernel) rfl, zv_in 1170 (by decide +kernel) rfl, _, _, rfl⟩
theorem Y_X11_run : zv_YV yX11_run M_X11_run 1 11 := ⟨⟨zv_in 1175 (by decide +kernel) rfl, zv_in 77 (by decide +kernel) rfl, ⟨by decide +kernel, by decide +kernel, by decide +kernel⟩, by decide⟩, zv_in 1173 (by decide +kernel) rfl, zv_in 1174 (by decide +kernel) rfl, _, _, rfl⟩
theorem Y_X11_found : zv_YV yX11_found M_X11_found 1 11 := ⟨⟨zv_in 1179 (by decide +kernel) rfl, zv_in 77 (by decide +kernel) rfl, ⟨by decide +kernel, by decide +kernel, by decide +kernel⟩, by decide⟩, zv_in 1177 (by decide +kernel) rfl, zv_in 1178 (by decide +kernel) rfl, _, _, rfl⟩
theorem Y_X11_score : zv_YV yX11_score M_X11_score 1 11 := ⟨⟨zv_in 1183 (by decide +kernel) rfl, zv_in 77 (by decide +kernel) rfl, ⟨by decide +kernel, by decide +kernel, by decide +kernel⟩, by decide⟩, zv_in 1181 (by decide +kernel) rfl, zv_in 1182 (by decide +kernel) rfl, _, _, rfl⟩
theorem Y_X11_keep : zv_YV yX11_keep M_X11_keep 1 11 := ⟨⟨zv_in 1187 (by decide +kernel) rfl, zv_in 77 (by decide +kernel) rfl, ⟨by decide +kernel, by decide +kernel, by decide +kernel⟩, by decide⟩, zv_in 1185 (by decide +kernel) rfl, zv_in 1186 (by decide +kernel) rfl, _, _, rfl⟩
theorem Y_X11_open : zv_YV yX11_open M_X11_open 1 11 := ⟨⟨zv_in 1191 (by decide +kernel) rfl, zv_in 77 (by decide +kernel) rfl, ⟨by decide +kernel, by decide +kernel, by decide +kernel⟩, by decide⟩, zv_in 1189 (by decide +kernel) rfl, zv_in 1190 (by decide +kernel) rfl, _, _, rfl⟩
theorem Y_X11_isOpen : zv_YV yX11_isOpen M_X11_isOpen 1 11 := ⟨⟨zv_in 1199 (by decide +kernel) rfl, zv_in 77 (by decide +kernel) rfl, ⟨by decide +kernel, by decide +kernel, by decide +kernel⟩, by decide⟩, zv_in 1198 (by decide +kernel) rfl, zv_in 56 (by decide +kernel) rfl, _, _, rfl⟩
theorem Y_X11_next : zv_YV yX11_next M_X11_next 2 11 := ⟨⟨zv_in 1195 (by decide +kernel) rfl, zv_in 77 (by decide +kernel) rfl, ⟨by decide +kernel, by decide +kernel, by decide +kernel⟩, by decide⟩, zv_in 1193 (by decide +kernel) rfl, zv_in 1194 (by decide +kernel) rfl, _, _, rfl⟩
theorem Y_X11_close : zv_YV yX11_close M_X11_close 1 11 := ⟨⟨zv_in 1203 (by decide +kernel) rfl, zv_in 77 (by decide +kernel) rfl, ⟨by decide +kernel, by decide +kernel, by decide +kernel⟩, by decide⟩, zv_in 1201 (by decide +kernel) rfl, zv_in 1202 (by decide +kernel) rfl, _, _, rfl⟩
theorem Y_X11_so : zv_YV yX11_so M_X11_so 3 11 := ⟨⟨zv_in 1215 (by decide +kernel) rfl, zv_in 77 (by decide +kernel) rfl, ⟨by decide +kernel, by decide +kernel, by decide +kernel⟩, by decide⟩, zv_in 1214 (by decide +kernel) rfl, zv_in 58 (by decide +kernel) rfl, _, _, rfl⟩
theorem Y_X11_opens : zv_YV yX11_opens M_X11_opens 4 11 := ⟨⟨zv_in 1219 (by decide +kernel) rfl, zv_in 77 (by decide +kernel) rfl, ⟨by decide +kernel, by decide +kernel, by decide +kernel⟩, by decide⟩, zv_in 1218 (by decide +kernel) rfl, zv_in 59 (by decide +kernel) rfl, _, _, rfl⟩
theorem Y_X11_lay : zv_YV yX11_lay M_X11_lay 2 11 := ⟨⟨zv_in 1223 (by decide +kernel) rfl, zv_in 77 (by decide +kernel) rfl, ⟨by decide +kernel, by decide +kernel, by decide +kernel⟩, by decide⟩, zv_in 1222 (by decide +kernel) rfl, zv_in 60 (by decide +kernel) rfl, _, _, rfl⟩
theorem Y_X11_count : zv_YV yX11_count M_X11_count 1 11 := ⟨⟨zv_in 1227 (by decide +kernel) rfl, zv_in 77 (by decide +kernel) rfl, ⟨by decide +kernel, by decide +kernel, by decide +kernel⟩, by decide⟩, zv_in 1226 (by decide +kernel) rfl, zv_in 61 (by decide +kernel) rfl, _, _, rfl⟩
theorem Y_X11_thin : zv_YV yX11_thin M_X11_thin 0 11 := ⟨⟨zv_in 1231 (by decide +kernel) rfl, zv_in 77 (by decide +kernel) rfl, ⟨by decide +kernel, by decide +kernel, by decide +kernel⟩, by decide⟩, zv_in 1230 (by decide +kernel) rfl, zv_in 62 (by decide +kernel) rfl, _, _, rfl⟩
theorem Y_X11_newBool : zv_YV yX11_newBool M_X11_newBool 1 11 := ⟨⟨zv_in 1211 (by decide +kernel) rfl, zv_in 77 (by decide +kernel) rfl, ⟨by decide +kernel, by decide +kernel, by decide +kernel⟩, by decide⟩, zv_in 1210 (by decide +kernel) rfl, zv_in 57 (by decide +kernel) rfl, _, _, rfl⟩
theorem Y_X11_newBest : zv_YV yX11_newBest M_X11_newBest 1 11 := ⟨⟨zv_in 1235 (by decide +kernel) rfl, zv_in 77 (by decide +kernel) rfl, ⟨by decide +kernel, by decide +kernel, by decide +kernel⟩, by decide⟩, zv_in 1234 (by decide +kernel) rfl, zv_in 63 (by decide +kernel) rfl, _, _, rfl⟩
theorem Y_X11_newOther : zv_YV yX11_newOther M_X11_newOther 1 11 := ⟨⟨zv_in 1239 (by decide +kernel) rfl, zv_in 77 (by decide +kernel) rfl, ⟨by decide +kernel, by decide +kernel, by decide +kernel⟩, by decide⟩, zv_in 1238 (by decide +kernel) rfl, zv_in 64 (by decide +kernel) rfl, _, _, rfl⟩
theorem Y_X11_rewrite : zv_YV yX11_rewrite M_X11_rewrite 1 11 := ⟨⟨zv_in 1207 (by decide +kernel) rfl, zv_in 77 (by decide +kernel) rfl, ⟨by decide +kernel, by decide +kernel, by decide +kernel⟩, by decide⟩, zv_in 1205 (by decide +kernel) rfl, zv_in 1206 (by decide +kernel) rfl, _, _, rfl⟩
theorem Y_X11_sum : zv_YV yX11_sum M_X11_sum 1 11 := ⟨⟨zv_in 1243 (by decide +kernel) rfl, zv_in 77 (by decide +kernel) rfl, ⟨by decide +kernel, by decide +kernel, by decide +kernel⟩, by decide⟩, zv_in 1241 (by decide +kernel) rfl, zv_in 1242 (by decide +kernel) rfl, _, _, rfl⟩
end
section
-- X10_isWithin
def B_X10_isWithin_14 (Q : Int32 → zv_St → Prop) (y0 : Int32) (σ : zv_St) : Prop :=
  narrow .boolean (.int y0) = .int y0 ∧ Q y0 σ
set_option maxRecDepth 20000 in
set_option maxHeartbeats 2000000 in
theorem k_X10_isWithin_14 {G : zv_G} {X : zv_X} {Q : Int32 → zv_St → Prop}  (hC : zv_C G X M_X10_isWithin) (hR : zv_R G X M_X10_isWithin (zv_qi Q))  {y0 : Int32} {σ : zv_St} (h : B_X10_isWithin_14 Q  y0 σ) : zv_V G X M_X10_isWithin 14 [] [.int y0] σ := by
  unfold B_X10_isWithin_14 at h
  exact (hR _ _ _).2.1 _ rfl h.1 dX10_isWithin_14 ⟨_, rfl, h.2⟩
def B_X10_isWithin_13 (Q : Int32 → zv_St → Prop) (σ : zv_St) : Prop :=
  B_X10_isWithin_14 Q 0 σ
set_option maxRecDepth 20000 in
set_option maxHeartbeats 2000000 in
theorem k_X10_isWithin_13 {G : zv_G} {X : zv_X} {Q : Int32 → zv_St → Prop}  (hC : zv_C G X M_X10_isWithin) (hR : zv_R G X M_X10_isWithin (zv_qi Q))   {σ : zv_St} (h : B_X10_isWithin_13 Q   σ) : zv_V G X M_X10_isWithin 13 [] [] σ := by
  unfold B_X10_isWithin_13 at h
  refine zv_iconst (v := 0) hC dX10_isWithin_13 (by decide) ?_
  exact zv_go (k_X10_isWithin_14 hC hR  h) trivial
def B_X10_isWithin (Q : Int32 → zv_St → Prop) (x0 : Int32) (x1 : Int32) (σ : zv_St) : Prop :=
  (x0 < 0 → (B_X10_isWithin_13 Q σ)) ∧ (¬ x0 < 0 → ((x1 < x0 → (B_X10_isWithin_13 Q σ)) ∧ (¬ x1 < x0 → (B_X10_isWithin_14 Q 1 σ))))
set_option maxRecDepth 20000 in
set_option maxHeartbeats 2000000 in
theorem k_X10_isWithin_0 {G : zv_G} {X : zv_X} {Q : Int32 → zv_St → Prop}  (hC : zv_C G X M_X10_isWithin) (hR : zv_R G X M_X10_isWithin (zv_qi Q))  {x0 : Int32} {x1 : Int32} {σ : zv_St} (h : B_X10_isWithin Q  x0 x1 σ) : zv_V G X M_X10_isWithin 0 [(0, .int x0), (1, .int x1)] [] σ := by
  unfold B_X10_isWithin at h
  refine zv_iload_n hC dX10_isWithin_0 rfl ?_
  refine zv_if_lt (tgt := 13) hC dX10_isWithin_1 (by decide) (fun c => ?_) (fun c => ?_)
  · replace h := h.1 c
    exact zv_go (k_X10_isWithin_13 hC hR  h) trivial
  · replace h := h.2 c
    refine zv_iload_n hC dX10_isWithin_4 rfl ?_
    refine zv_iload_n hC dX10_isWithin_5 rfl ?_
    refine zv_icmp_gt (tgt := 13) hC dX10_isWithin_6 (by decide) (fun c => ?_) (fun c => ?_)
    · replace h := h.1 c
      exact zv_go (k_X10_isWithin_13 hC hR  h) trivial
    · replace h := h.2 c
      refine zv_iconst (v := 1) hC dX10_isWithin_9 (by decide) ?_
      refine zv_goto (tgt := 14) hC dX10_isWithin_10 (by decide) ?_
      exact zv_go (k_X10_isWithin_14 hC hR  h) trivial
theorem ok_X10_isWithin (G : zv_G) {Q : Int32 → zv_St → Prop} {x0 : Int32} {x1 : Int32} {σ : zv_St} (h : B_X10_isWithin Q x0 x1 σ) : zv_OK G M_X10_isWithin yX10_isWithin [.int x0, .int x1] σ (zv_qi Q) := zv_ok G _ _ _ _ _ (by decide +kernel) rfl (Nat.le_of_ble_eq_true rfl) (fun X hC hR => zv_go (k_X10_isWithin_0 hC hR h) ⟨rfl, rfl, trivial⟩)
-- X10_isList
def B_X10_isList (Q : Int32 → zv_St → Prop) (x0 : Int32) (σ : zv_St) : Prop :=
  B_X10_isWithin (fun r_2 σ_1 => narrow .boolean (.int r_2) = .int r_2 ∧ Q r_2 σ_1) x0 15 σ
set_option maxRecDepth 20000 in
set_option maxHeartbeats 2000000 in
theorem k_X10_isList_0 {G : zv_G} {X : zv_X} {Q : Int32 → zv_St → Prop}  (hC : zv_C G X M_X10_isList) (hR : zv_R G X M_X10_isList (zv_qi Q))  {x0 : Int32} {σ : zv_St} (h : B_X10_isList Q  x0 σ) : zv_V G X M_X10_isList 0 [(0, .int x0)] [] σ := by
  unfold B_X10_isList at h
  refine zv_iload_n hC dX10_isList_0 rfl ?_
  refine zv_bipush (v := 15) hC dX10_isList_1 (by decide) ?_
  refine zv_callSi (As := [_, _]) hC dX10_isList_3 Y_X10_isWithin lk_X10_81 (by decide) rfl rfl (Nat.le_of_ble_eq_true rfl) (ok_X10_isWithin G h) ?_
  intro r_2 σ_1 h
  exact (hR _ _ _).2.1 _ rfl h.1 dX10_isList_6 ⟨_, rfl, h.2⟩
theorem ok_X10_isList (G : zv_G) {Q : Int32 → zv_St → Prop} {x0 : Int32} {σ : zv_St} (h : B_X10_isList Q x0 σ) : zv_OK G M_X10_isList yX10_isList [.int x0] σ (zv_qi Q) := zv_ok G _ _ _ _ _ (by decide +kernel) rfl (Nat.le_of_ble_eq_true rfl) (fun X hC hR => zv_go (k_X10_isList_0 hC hR h) ⟨rfl, trivial⟩)
-- X10_isObject
def B_X10_isObject (Q : Int32 → zv_St → Prop) (x0 : Int32) (σ : zv_St) : Prop :=
  B_X10_isWithin (fun r_2 σ_1 => narrow .boolean (.int r_2) = .int r_2 ∧ Q r_2 σ_1) x0 511 σ
set_option maxRecDepth 20000 in
set_option maxHeartbeats 2000000 in
theorem k_X10_isObject_0 {G : zv_G} {X : zv_X} {Q : Int32 → zv_St → Prop}  (hC : zv_C G X M_X10_isObject) (hR : zv_R G X M_X10_isObject (zv_qi Q))  {x0 : Int32} {σ : zv_St} (h : B_X10_isObject Q  x0 σ) : zv_V G X M_X10_isObject 0 [(0, .int x0)] [] σ := by
  unfold B_X10_isObject at h
  refine zv_iload_n hC dX10_isObject_0 rfl ?_
  refine zv_sipush (v := 511) hC dX10_isObject_1 (by decide) ?_
  refine zv_callSi (As := [_, _]) hC dX10_isObject_4 Y_X10_isWithin lk_X10_81 (by decide) rfl rfl (Nat.le_of_ble_eq_true rfl) (ok_X10_isWithin G h) ?_
  intro r_2 σ_1 h
  exact (hR _ _ _).2.1 _ rfl h.1 dX10_isObject_7 ⟨_, rfl, h.2⟩
theorem ok_X10_isObject (G : zv_G) {Q : Int32 → zv_St → Prop} {x0 : Int32} {σ : zv_St} (h : B_X10_isObject Q x0 σ) : zv_OK G M_X10_isObject yX10_isObject [.int x0] σ (zv_qi Q) := zv_ok G _ _ _ _ _ (by decide +kernel) rfl (Nat.le_of_ble_eq_true rfl) (fun X hC hR => zv_go (k_X10_isObject_0 hC hR h) ⟨rfl, trivial⟩)
-- X3_placeOf
def L_X3_placeOf_18 (Q : Int32 → zv_St → Prop) : Nat → Int32 → Int32 → Int32 → zv_St → Prop
  | 0, _, _, _, _ => False
  | n + 1, x2, x4, x5, σ => 
    (x4 ≤ x5 → (Q (-1) σ)) ∧ (¬ x4 ≤ x5 → (vp_in x5 960 ∧ (¬ (σ.1 2 x5.toNatClampNeg) = x2 → ((L_X3_placeOf_18 Q n) x2 x4 (x5 + 1) σ)) ∧ ((σ.1 2 x5.toNatClampNeg) = x2 → (Q x5 σ))))
set_option maxRecDepth 20000 in
set_option maxHeartbeats 2000000 in
theorem kL_X3_placeOf_18 {G : zv_G} {X : zv_X} {Q : Int32 → zv_St → Prop}  (hC : zv_C G X M_X3_placeOf) (hR : zv_R G X M_X3_placeOf (zv_qi Q))  : ∀ (n : Nat) (x2 : Int32) (x4 : Int32) (x5 : Int32) (σ : zv_St), L_X3_placeOf_18 Q  n x2 x4 x5 σ → zv_V G X M_X3_placeOf 18 [(0, .ref (G.2.2.1 1)), (2, .int x2), (4, .int x4), (5, .int x5)] [] σ := by
  intro n
  induction n with
  | zero => intro x2 x4 x5 σ h; exact h.elim
  | succ n hk18 =>
    intro x2 x4 x5 σ h
    unfold L_X3_placeOf_18 at h
    refine zv_iload hC dX3_placeOf_18 rfl ?_
    refine zv_iload hC dX3_placeOf_20 rfl ?_
    refine zv_icmp_ge (tgt := 45) hC dX3_placeOf_22 (by decide) (fun c => ?_) (fun c => ?_)
    · replace h := h.1 c
      refine zv_iconst (v := (-1)) hC dX3_placeOf_45 (by decide) ?_
      exact (hR _ _ _).1 _ rfl dX3_placeOf_46 ⟨_, rfl, h⟩
    · replace h := h.2 c
      refine zv_aload_n hC dX3_placeOf_25 rfl ?_
      refine zv_getR (j := 2) hC fl_X3_9 dX3_placeOf_26 rfl rfl ?_
      refine zv_iload hC dX3_placeOf_29 rfl ?_
      refine zv_iald hC dX3_placeOf_31 rfl h.1 ?_
      replace h := h.2
      refine zv_iload_n hC dX3_placeOf_32 rfl ?_
      refine zv_icmp_ne (tgt := 39) hC dX3_placeOf_33 (by decide) (fun c => ?_) (fun c => ?_)
      · replace h := h.1 c
        refine zv_iinc (v := 1) hC dX3_placeOf_39 rfl (by decide) (by decide) ?_
        refine zv_goto (tgt := 18) hC dX3_placeOf_42 (by decide) ?_
        exact zv_go (hk18 _ _ _ _ h) ⟨rfl, rfl, rfl, rfl, trivial⟩
      · replace h := h.2 c
        refine zv_iload hC dX3_placeOf_36 rfl ?_
        exact (hR _ _ _).1 _ rfl dX3_placeOf_38 ⟨_, rfl, h⟩
def B_X3_placeOf (Q : Int32 → zv_St → Prop) (x1 : Int32) (x2 : Int32) (σ : zv_St) : Prop :=
  vp_in x1 16 ∧ ∀ v_1 : Int32, v_1 = ((x1 * 60) + (σ.1 4 x1.toNatClampNeg)) → ∃ n, L_X3_placeOf_18 Q n x2 v_1 (x1 * 60) σ
set_option maxRecDepth 20000 in
set_option maxHeartbeats 2000000 in
theorem k_X3_placeOf_0 {G : zv_G} {X : zv_X} {Q : Int32 → zv_St → Prop}  (hC : zv_C G X M_X3_placeOf) (hR : zv_R G X M_X3_placeOf (zv_qi Q))  {x1 : Int32} {x2 : Int32} {σ : zv_St} (h : B_X3_placeOf Q  x1 x2 σ) : zv_V G X M_X3_placeOf 0 [(0, .ref (G.2.2.1 1)), (1, .int x1), (2, .int x2)] [] σ := by
  unfold B_X3_placeOf at h
  refine zv_iload_n hC dX3_placeOf_0 rfl ?_
  refine zv_bipush (v := 60) hC dX3_placeOf_1 (by decide) ?_
  refine zv_imul hC dX3_placeOf_3 ?_
  refine zv_istore_n hC dX3_placeOf_4 (by decide) ?_
  refine zv_iload_n hC dX3_placeOf_5 rfl ?_
  refine zv_aload_n hC dX3_placeOf_6 rfl ?_
  refine zv_getR (j := 4) hC fl_X3_18 dX3_placeOf_7 rfl rfl ?_
  refine zv_iload_n hC dX3_placeOf_10 rfl ?_
  refine zv_iald hC dX3_placeOf_11 rfl h.1 ?_
  replace h := h.2
  refine zv_iadd hC dX3_placeOf_12 ?_
  replace h := h _ rfl
  refine zv_istore hC dX3_placeOf_13 (by decide) ?_
  refine zv_iload_n hC dX3_placeOf_15 rfl ?_
  refine zv_istore hC dX3_placeOf_16 (by decide) ?_
  obtain ⟨n, h⟩ := h
  exact zv_go (kL_X3_placeOf_18 hC hR  n _ _ _ _ h) ⟨rfl, rfl, rfl, rfl, trivial⟩
theorem ok_X3_placeOf (G : zv_G) {Q : Int32 → zv_St → Prop} {x1 : Int32} {x2 : Int32} {σ : zv_St} (h : B_X3_placeOf Q x1 x2 σ) : zv_OK G M_X3_placeOf yX3_placeOf [.ref (G.2.2.1 1), .int x1, .int x2] σ (zv_qi Q) := zv_ok G _ _ _ _ _ (by decide +kernel) rfl (Nat.le_of_ble_eq_true rfl) (fun X hC hR => zv_go (k_X3_placeOf_0 hC hR h) ⟨rfl, rfl, rfl, trivial⟩)
-- X3_store
def B_X3_store_50 (Q : Int32 → zv_St → Prop) (x2 : Int32) (x3 : Int32) (x4 : Int32) (σ : zv_St) : Prop :=
  vp_in x4 960 ∧ ∀ σ_1 : zv_St, σ_1 = zv_wi σ 2 x4.toNatClampNeg x2 → vp_in x4 960 ∧ ∀ σ_2 : zv_St, σ_2 = zv_wi σ_1 3 x4.toNatClampNeg x3 → Q 1 σ_2
set_option maxRecDepth 20000 in
set_option maxHeartbeats 2000000 in
theorem k_X3_store_50 {G : zv_G} {X : zv_X} {Q : Int32 → zv_St → Prop}  (hC : zv_C G X M_X3_store) (hR : zv_R G X M_X3_store (zv_qi Q))  {x2 : Int32} {x3 : Int32} {x4 : Int32} {σ : zv_St} (h : B_X3_store_50 Q  x2 x3 x4 σ) : zv_V G X M_X3_store 50 [(0, .ref (G.2.2.1 1)), (2, .int x2), (3, .int x3), (4, .int x4)] [] σ := by
  unfold B_X3_store_50 at h
  refine zv_aload_n hC dX3_store_50 rfl ?_
  refine zv_getR (j := 2) hC fl_X3_9 dX3_store_51 rfl rfl ?_
  refine zv_iload hC dX3_store_54 rfl ?_
  refine zv_iload_n hC dX3_store_56 rfl ?_
  refine zv_iast hC dX3_store_57 rfl h.1 ?_
  replace h := h.2 _ rfl
  refine zv_aload_n hC dX3_store_58 rfl ?_
  refine zv_getR (j := 3) hC fl_X3_15 dX3_store_59 rfl rfl ?_
  refine zv_iload hC dX3_store_62 rfl ?_
  refine zv_iload_n hC dX3_store_64 rfl ?_
  refine zv_iast hC dX3_store_65 rfl h.1 ?_
  replace h := h.2 _ rfl
  refine zv_iconst (v := 1) hC dX3_store_66 (by decide) ?_
  exact (hR _ _ _).2.1 _ rfl rfl dX3_store_67 ⟨_, rfl, h⟩
def B_X3_store (Q : Int32 → zv_St → Prop) (x1 : Int32) (x2 : Int32) (x3 : Int32) (σ : zv_St) : Prop :=
  B_X3_placeOf (fun r_2 σ_1 => (¬ r_2 = (-1) → (B_X3_store_50 Q x2 x3 r_2 σ_1)) ∧ (r_2 = (-1) → (vp_in x1 16 ∧ ((σ_1.1 4 x1.toNatClampNeg) < 60 → (vp_in x1 16 ∧ ∀ v_3 : Int32, v_3 = ((x1 * 60) + (σ_1.1 4 x1.toNatClampNeg)) → vp_in x1 16 ∧ vp_in x1 16 ∧ ∀ σ_4 : zv_St, σ_4 = zv_wi σ_1 4 x1.toNatClampNeg ((σ_1.1 4 x1.toNatClampNeg) + 1) → B_X3_store_50 Q x2 x3 v_3 σ_4)) ∧ (¬ (σ_1.1 4 x1.toNatClampNeg) < 60 → (Q 0 σ_1))))) x1 x2 σ
set_option maxRecDepth 20000 in
set_option maxHeartbeats 2000000 in
theorem k_X3_store_0 {G : zv_G} {X : zv_X} {Q : Int32 → zv_St → Prop}  (hC : zv_C G X M_X3_store) (hR : zv_R G X M_X3_store (zv_qi Q))  {x1 : Int32} {x2 : Int32} {x3 : Int32} {σ : zv_St} (h : B_X3_store Q  x1 x2 x3 σ) : zv_V G X M_X3_store 0 [(0, .ref (G.2.2.1 1)), (1, .int x1), (2, .int x2), (3, .int x3)] [] σ := by
  unfold B_X3_store at h
  refine zv_aload_n hC dX3_store_0 rfl ?_
  refine zv_iload_n hC dX3_store_1 rfl ?_
  refine zv_iload_n hC dX3_store_2 rfl ?_
  refine zv_callVi (As := [_, _]) hC dX3_store_3 Y_X3_placeOf lk_X3_21 (by decide) rfl rfl rfl (Nat.le_of_ble_eq_true rfl) (ok_X3_placeOf G h) ?_
  intro r_2 σ_1 h
  refine zv_istore hC dX3_store_6 (by decide) ?_
  refine zv_iload hC dX3_store_8 rfl ?_
  refine zv_iconst (v := (-1)) hC dX3_store_10 (by decide) ?_
  refine zv_icmp_ne (tgt := 50) hC dX3_store_11 (by decide) (fun c => ?_) (fun c => ?_)
  · replace h := h.1 c
    exact zv_go (k_X3_store_50 hC hR  h) ⟨rfl, rfl, rfl, rfl, trivial⟩
  · replace h := h.2 c
    refine zv_aload_n hC dX3_store_14 rfl ?_
    refine zv_getR (j := 4) hC fl_X3_18 dX3_store_15 rfl rfl ?_
    refine zv_iload_n hC dX3_store_18 rfl ?_
    refine zv_iald hC dX3_store_19 rfl h.1 ?_
    replace h := h.2
    refine zv_bipush (v := 60) hC dX3_store_20 (by decide) ?_
    refine zv_icmp_lt (tgt := 27) hC dX3_store_22 (by decide) (fun c => ?_) (fun c => ?_)
    · replace h := h.1 c
      refine zv_iload_n hC dX3_store_27 rfl ?_
      refine zv_bipush (v := 60) hC dX3_store_28 (by decide) ?_
      refine zv_imul hC dX3_store_30 ?_
      refine zv_aload_n hC dX3_store_31 rfl ?_
      refine zv_getR (j := 4) hC fl_X3_18 dX3_store_32 rfl rfl ?_
      refine zv_iload_n hC dX3_store_35 rfl ?_
      refine zv_iald hC dX3_store_36 rfl h.1 ?_
      replace h := h.2
      refine zv_iadd hC dX3_store_37 ?_
      replace h := h _ rfl
      refine zv_istore hC dX3_store_38 (by decide) ?_
      refine zv_aload_n hC dX3_store_40 rfl ?_
      refine zv_getR (j := 4) hC fl_X3_18 dX3_store_41 rfl rfl ?_
      refine zv_iload_n hC dX3_store_44 rfl ?_
      refine zv_dup2 hC dX3_store_45 rfl rfl ?_
      refine zv_iald hC dX3_store_46 rfl h.1 ?_
      replace h := h.2
      refine zv_iconst (v := 1) hC dX3_store_47 (by decide) ?_
      refine zv_iadd hC dX3_store_48 ?_
      refine zv_iast hC dX3_store_49 rfl h.1 ?_
      replace h := h.2 _ rfl
      exact zv_go (k_X3_store_50 hC hR  h) ⟨rfl, rfl, rfl, rfl, trivial⟩
    · replace h := h.2 c
      refine zv_iconst (v := 0) hC dX3_store_25 (by decide) ?_
      exact (hR _ _ _).2.1 _ rfl rfl dX3_store_26 ⟨_, rfl, h⟩
theorem ok_X3_store (G : zv_G) {Q : Int32 → zv_St → Prop} {x1 : Int32} {x2 : Int32} {x3 : Int32} {σ : zv_St} (h : B_X3_store Q x1 x2 x3 σ) : zv_OK G M_X3_store yX3_store [.ref (G.2.2.1 1), .int x1, .int x2, .int x3] σ (zv_qi Q) := zv_ok G _ _ _ _ _ (by decide +kernel) rfl (Nat.le_of_ble_eq_true rfl) (fun X hC hR => zv_go (k_X3_store_0 hC hR h) ⟨rfl, rfl, rfl, rfl, trivial⟩)
-- X5_count
def B_X5_count (Q : Int32 → zv_St → Prop) (σ : zv_St) : Prop :=
  Q (σ.1 5 0) σ
set_option maxRecDepth 20000 in
set_option maxHeartbeats 2000000 in
theorem k_X5_count_0 {G : zv_G} {X : zv_X} {Q : Int32 → zv_St → Prop}  (hC : zv_C G X M_X5_count) (hR : zv_R G X M_X5_count (zv_qi Q))   {σ : zv_St} (h : B_X5_count Q   σ) : zv_V G X M_X5_count 0 [(0, .ref (G.2.2.1 5))] [] σ := by
  unfold B_X5_count at h
  refine zv_aload_n hC dX5_count_0 rfl ?_
  refine zv_getI hC fl_X5_33 dX5_count_1 rfl rfl ?_
  exact (hR _ _ _).1 _ rfl dX5_count_4 ⟨_, rfl, h⟩
theorem ok_X5_count (G : zv_G) {Q : Int32 → zv_St → Prop}  {σ : zv_St} (h : B_X5_count Q  σ) : zv_OK G M_X5_count yX5_count [.ref (G.2.2.1 5)] σ (zv_qi Q) := zv_ok G _ _ _ _ _ (by decide +kernel) rfl (Nat.le_of_ble_eq_true rfl) (fun X hC hR => zv_go (k_X5_count_0 hC hR h) ⟨rfl, trivial⟩)
-- X5_hasNumbers
def B_X5_hasNumbers_36 (Q : Int32 → zv_St → Prop) (y0 : Int32) (σ : zv_St) : Prop :=
  narrow .boolean (.int y0) = .int y0 ∧ Q y0 σ
set_option maxRecDepth 20000 in
set_option maxHeartbeats 2000000 in
theorem k_X5_hasNumbers_36 {G : zv_G} {X : zv_X} {Q : Int32 → zv_St → Prop}  (hC : zv_C G X M_X5_hasNumbers) (hR : zv_R G X M_X5_hasNumbers (zv_qi Q))  {y0 : Int32} {σ : zv_St} (h : B_X5_hasNumbers_36 Q  y0 σ) : zv_V G X M_X5_hasNumbers 36 [] [.int y0] σ := by
  unfold B_X5_hasNumbers_36 at h
  exact (hR _ _ _).2.1 _ rfl h.1 dX5_hasNumbers_36 ⟨_, rfl, h.2⟩
def B_X5_hasNumbers_35 (Q : Int32 → zv_St → Prop) (σ : zv_St) : Prop :=
  B_X5_hasNumbers_36 Q 0 σ
set_option maxRecDepth 20000 in
set_option maxHeartbeats 2000000 in
theorem k_X5_hasNumbers_35 {G : zv_G} {X : zv_X} {Q : Int32 → zv_St → Prop}  (hC : zv_C G X M_X5_hasNumbers) (hR : zv_R G X M_X5_hasNumbers (zv_qi Q))   {σ : zv_St} (h : B_X5_hasNumbers_35 Q   σ) : zv_V G X M_X5_hasNumbers 35 [] [] σ := by
  unfold B_X5_hasNumbers_35 at h
  refine zv_iconst (v := 0) hC dX5_hasNumbers_35 (by decide) ?_
  exact zv_go (k_X5_hasNumbers_36 hC hR  h) trivial
def B_X5_hasNumbers (Q : Int32 → zv_St → Prop) (x1 : Int32) (x2 : Int32) (x3 : Int32) (x4 : Int32) (σ : zv_St) : Prop :=
  vp_in x1 80 ∧ (¬ (σ.1 6 x1.toNatClampNeg) = x2 → (B_X5_hasNumbers_35 Q σ)) ∧ ((σ.1 6 x1.toNatClampNeg) = x2 → (vp_in x1 80 ∧ (¬ (σ.1 7 x1.toNatClampNeg) = x3 → (B_X5_hasNumbers_35 Q σ)) ∧ ((σ.1 7 x1.toNatClampNeg) = x3 → (vp_in x1 80 ∧ (¬ (σ.1 8 x1.toNatClampNeg) = x4 → (B_X5_hasNumbers_35 Q σ)) ∧ ((σ.1 8 x1.toNatClampNeg) = x4 → (B_X5_hasNumbers_36 Q 1 σ))))))
set_option maxRecDepth 20000 in
set_option maxHeartbeats 2000000 in
theorem k_X5_hasNumbers_0 {G : zv_G} {X : zv_X} {Q : Int32 → zv_St → Prop}  (hC : zv_C G X M_X5_hasNumbers) (hR : zv_R G X M_X5_hasNumbers (zv_qi Q))  {x1 : Int32} {x2 : Int32} {x3 : Int32} {x4 : Int32} {σ : zv_St} (h : B_X5_hasNumbers Q  x1 x2 x3 x4 σ) : zv_V G X M_X5_hasNumbers 0 [(0, .ref (G.2.2.1 5)), (1, .int x1), (2, .int x2), (3, .int x3), (4, .int x4)] [] σ := by
  unfold B_X5_hasNumbers at h
  refine zv_aload_n hC dX5_hasNumbers_0 rfl ?_
  refine zv_getR (j := 6) hC fl_X5_9 dX5_hasNumbers_1 rfl rfl ?_
  refine zv_iload_n hC dX5_hasNumbers_4 rfl ?_
  refine zv_iald hC dX5_hasNumbers_5 rfl h.1 ?_
  replace h := h.2
  refine zv_iload_n hC dX5_hasNumbers_6 rfl ?_
  refine zv_icmp_ne (tgt := 35) hC dX5_hasNumbers_7 (by decide) (fun c => ?_) (fun c => ?_)
  · replace h := h.1 c
    exact zv_go (k_X5_hasNumbers_35 hC hR  h) trivial
  · replace h := h.2 c
    refine zv_aload_n hC dX5_hasNumbers_10 rfl ?_
    refine zv_getR (j := 7) hC fl_X5_15 dX5_hasNumbers_11 rfl rfl ?_
    refine zv_iload_n hC dX5_hasNumbers_14 rfl ?_
    refine zv_iald hC dX5_hasNumbers_15 rfl h.1 ?_
    replace h := h.2
    refine zv_iload_n hC dX5_hasNumbers_16 rfl ?_
    refine zv_icmp_ne (tgt := 35) hC dX5_hasNumbers_17 (by decide) (fun c => ?_) (fun c => ?_)
    · replace h := h.1 c
      exact zv_go (k_X5_hasNumbers_35 hC hR  h) trivial
    · replace h := h.2 c
      refine zv_aload_n hC dX5_hasNumbers_20 rfl ?_
      refine zv_getR (j := 8) hC fl_X5_18 dX5_hasNumbers_21 rfl rfl ?_
      refine zv_iload_n hC dX5_hasNumbers_24 rfl ?_
      refine zv_iald hC dX5_hasNumbers_25 rfl h.1 ?_
      replace h := h.2
      refine zv_iload hC dX5_hasNumbers_26 rfl ?_
      refine zv_icmp_ne (tgt := 35) hC dX5_hasNumbers_28 (by decide) (fun c => ?_) (fun c => ?_)
      · replace h := h.1 c
        exact zv_go (k_X5_hasNumbers_35 hC hR  h) trivial
      · replace h := h.2 c
        refine zv_iconst (v := 1) hC dX5_hasNumbers_31 (by decide) ?_
        refine zv_goto (tgt := 36) hC dX5_hasNumbers_32 (by decide) ?_
        exact zv_go (k_X5_hasNumbers_36 hC hR  h) trivial
theorem ok_X5_hasNumbers (G : zv_G) {Q : Int32 → zv_St → Prop} {x1 : Int32} {x2 : Int32} {x3 : Int32} {x4 : Int32} {σ : zv_St} (h : B_X5_hasNumbers Q x1 x2 x3 x4 σ) : zv_OK G M_X5_hasNumbers yX5_hasNumbers [.ref (G.2.2.1 5), .int x1, .int x2, .int x3, .int x4] σ (zv_qi Q) := zv_ok G _ _ _ _ _ (by decide +kernel) rfl (Nat.le_of_ble_eq_true rfl) (fun X hC hR => zv_go (k_X5_hasNumbers_0 hC hR h) ⟨rfl, rfl, rfl, rfl, rfl, trivial⟩)
-- X5_size
def B_X5_size (Q : Int32 → zv_St → Prop) (x1 : Int32) (σ : zv_St) : Prop :=
  vp_in x1 80 ∧ Q (σ.1 10 x1.toNatClampNeg) σ
set_option maxRecDepth 20000 in
set_option maxHeartbeats 2000000 in
theorem k_X5_size_0 {G : zv_G} {X : zv_X} {Q : Int32 → zv_St → Prop}  (hC : zv_C G X M_X5_size) (hR : zv_R G X M_X5_size (zv_qi Q))  {x1 : Int32} {σ : zv_St} (h : B_X5_size Q  x1 σ) : zv_V G X M_X5_size 0 [(0, .ref (G.2.2.1 5)), (1, .int x1)] [] σ := by
  unfold B_X5_size at h
  refine zv_aload_n hC dX5_size_0 rfl ?_
  refine zv_getR (j := 10) hC fl_X5_24 dX5_size_1 rfl rfl ?_
  refine zv_iload_n hC dX5_size_4 rfl ?_
  refine zv_iald hC dX5_size_5 rfl h.1 ?_
  replace h := h.2
  exact (hR _ _ _).1 _ rfl dX5_size_6 ⟨_, rfl, h⟩
theorem ok_X5_size (G : zv_G) {Q : Int32 → zv_St → Prop} {x1 : Int32} {σ : zv_St} (h : B_X5_size Q x1 σ) : zv_OK G M_X5_size yX5_size [.ref (G.2.2.1 5), .int x1] σ (zv_qi Q) := zv_ok G _ _ _ _ _ (by decide +kernel) rfl (Nat.le_of_ble_eq_true rfl) (fun X hC hR => zv_go (k_X5_size_0 hC hR h) ⟨rfl, rfl, trivial⟩)
-- X5_partAt
def B_X5_partAt (Q : Int32 → zv_St → Prop) (x1 : Int32) (x2 : Int32) (σ : zv_St) : Prop :=
  vp_in ((x1 * 8) + x2) 640 ∧ Q (σ.1 12 ((x1 * 8) + x2).toNatClampNeg) σ
set_option maxRecDepth 20000 in
set_option maxHeartbeats 2000000 in
theorem k_X5_partAt_0 {G : zv_G} {X : zv_X} {Q : Int32 → zv_St → Prop}  (hC : zv_C G X M_X5_partAt) (hR : zv_R G X M_X5_partAt (zv_qi Q))  {x1 : Int32} {x2 : Int32} {σ : zv_St} (h : B_X5_partAt Q  x1 x2 σ) : zv_V G X M_X5_partAt 0 [(0, .ref (G.2.2.1 5)), (1, .int x1), (2, .int x2)] [] σ := by
  unfold B_X5_partAt at h
  refine zv_aload_n hC dX5_partAt_0 rfl ?_
  refine zv_getR (j := 12) hC fl_X5_30 dX5_partAt_1 rfl rfl ?_
  refine zv_iload_n hC dX5_partAt_4 rfl ?_
  refine zv_bipush (v := 8) hC dX5_partAt_5 (by decide) ?_
  refine zv_imul hC dX5_partAt_7 ?_
  refine zv_iload_n hC dX5_partAt_8 rfl ?_
  refine zv_iadd hC dX5_partAt_9 ?_
  refine zv_iald hC dX5_partAt_10 rfl h.1 ?_
  replace h := h.2
  exact (hR _ _ _).1 _ rfl dX5_partAt_11 ⟨_, rfl, h⟩
theorem ok_X5_partAt (G : zv_G) {Q : Int32 → zv_St → Prop} {x1 : Int32} {x2 : Int32} {σ : zv_St} (h : B_X5_partAt Q x1 x2 σ) : zv_OK G M_X5_partAt yX5_partAt [.ref (G.2.2.1 5), .int x1, .int x2] σ (zv_qi Q) := zv_ok G _ _ _ _ _ (by decide +kernel) rfl (Nat.le_of_ble_eq_true rfl) (fun X hC hR => zv_go (k_X5_partAt_0 hC hR h) ⟨rfl, rfl, rfl, trivial⟩)
-- X9_touchesByParts
def L_X9_touchesByParts_2 (Q : Int32 → zv_St → Prop) : Nat → Int32 → Int32 → zv_St → Prop
  | 0, _, _, _ => False
  | n + 1, x1, x2, σ => 
    B_X5_size (fun r_2 σ_1 => (r_2 ≤ x2 → (Q 0 σ_1)) ∧ (¬ r_2 ≤ x2 → (B_X5_partAt (fun r_4 σ_3 => vp_in r_4 80 ∧ ((σ_3.1 18 r_4.toNatClampNeg) = 0 → ((L_X9_touchesByParts_2 Q n) x1 (x2 + 1) σ_3)) ∧ (¬ (σ_3.1 18 r_4.toNatClampNeg) = 0 → (Q 1 σ_3))) x1 x2 σ_1))) x1 σ
set_option maxRecDepth 20000 in
set_option maxHeartbeats 2000000 in
theorem kL_X9_touchesByParts_2 {G : zv_G} {X : zv_X} {Q : Int32 → zv_St → Prop}  (hC : zv_C G X M_X9_touchesByParts) (hR : zv_R G X M_X9_touchesByParts (zv_qi Q))  : ∀ (n : Nat) (x1 : Int32) (x2 : Int32) (σ : zv_St), L_X9_touchesByParts_2 Q  n x1 x2 σ → zv_V G X M_X9_touchesByParts 2 [(0, .ref (G.2.2.1 13)), (1, .int x1), (2, .int x2)] [] σ := by
  intro n
  induction n with
  | zero => intro x1 x2 σ h; exact h.elim
  | succ n hk2 =>
    intro x1 x2 σ h
    unfold L_X9_touchesByParts_2 at h
    refine zv_iload_n hC dX9_touchesByParts_2 rfl ?_
    refine zv_aload_n hC dX9_touchesByParts_3 rfl ?_
    refine zv_getR (j := 5) hC fl_X9_29 dX9_touchesByParts_4 rfl rfl ?_
    refine zv_iload_n hC dX9_touchesByParts_7 rfl ?_
    refine zv_callVi (As := [_]) hC dX9_touchesByParts_8 Y_X5_size lk_X9_55 (by decide) rfl rfl rfl (Nat.le_of_ble_eq_true rfl) (ok_X5_size G h) ?_
    intro r_2 σ_1 h
    refine zv_icmp_ge (tgt := 39) hC dX9_touchesByParts_11 (by decide) (fun c => ?_) (fun c => ?_)
    · replace h := h.1 c
      refine zv_iconst (v := 0) hC dX9_touchesByParts_39 (by decide) ?_
      exact (hR _ _ _).2.1 _ rfl rfl dX9_touchesByParts_40 ⟨_, rfl, h⟩
    · replace h := h.2 c
      refine zv_aload_n hC dX9_touchesByParts_14 rfl ?_
      refine zv_getR (j := 18) hC fl_X9_26 dX9_touchesByParts_15 rfl rfl ?_
      refine zv_aload_n hC dX9_touchesByParts_18 rfl ?_
      refine zv_getR (j := 5) hC fl_X9_29 dX9_touchesByParts_19 rfl rfl ?_
      refine zv_iload_n hC dX9_touchesByParts_22 rfl ?_
      refine zv_iload_n hC dX9_touchesByParts_23 rfl ?_
      refine zv_callVi (As := [_, _]) hC dX9_touchesByParts_24 Y_X5_partAt lk_X9_59 (by decide) rfl rfl rfl (Nat.le_of_ble_eq_true rfl) (ok_X5_partAt G h) ?_
      intro r_4 σ_3 h
      refine zv_zald hC dX9_touchesByParts_27 rfl h.1 ?_
      replace h := h.2
      refine zv_if_eq (tgt := 33) hC dX9_touchesByParts_28 (by decide) (fun c => ?_) (fun c => ?_)
      · replace h := h.1 c
        refine zv_iinc (v := 1) hC dX9_touchesByParts_33 rfl (by decide) (by decide) ?_
        refine zv_goto (tgt := 2) hC dX9_touchesByParts_36 (by decide) ?_
        exact zv_go (hk2 _ _ _ h) ⟨rfl, rfl, rfl, trivial⟩
      · replace h := h.2 c
        refine zv_iconst (v := 1) hC dX9_touchesByParts_31 (by decide) ?_
        exact (hR _ _ _).2.1 _ rfl rfl dX9_touchesByParts_32 ⟨_, rfl, h⟩
def B_X9_touchesByParts (Q : Int32 → zv_St → Prop) (x1 : Int32) (σ : zv_St) : Prop :=
  ∃ n, L_X9_touchesByParts_2 Q n x1 0 σ
set_option maxRecDepth 20000 in
set_option maxHeartbeats 2000000 in
theorem k_X9_touchesByParts_0 {G : zv_G} {X : zv_X} {Q : Int32 → zv_St → Prop}  (hC : zv_C G X M_X9_touchesByParts) (hR : zv_R G X M_X9_touchesByParts (zv_qi Q))  {x1 : Int32} {σ : zv_St} (h : B_X9_touchesByParts Q  x1 σ) : zv_V G X M_X9_touchesByParts 0 [(0, .ref (G.2.2.1 13)), (1, .int x1)] [] σ := by
  unfold B_X9_touchesByParts at h
  refine zv_iconst (v := 0) hC dX9_touchesByParts_0 (by decide) ?_
  refine zv_istore_n hC dX9_touchesByParts_1 (by decide) ?_
  obtain ⟨n, h⟩ := h
  exact zv_go (kL_X9_touchesByParts_2 hC hR  n _ _ _ h) ⟨rfl, rfl, rfl, trivial⟩
theorem ok_X9_touchesByParts (G : zv_G) {Q : Int32 → zv_St → Prop} {x1 : Int32} {σ : zv_St} (h : B_X9_touchesByParts Q x1 σ) : zv_OK G M_X9_touchesByParts yX9_touchesByParts [.ref (G.2.2.1 13), .int x1] σ (zv_qi Q) := zv_ok G _ _ _ _ _ (by decide +kernel) rfl (Nat.le_of_ble_eq_true rfl) (fun X hC hR => zv_go (k_X9_touchesByParts_0 hC hR h) ⟨rfl, rfl, trivial⟩)
-- X9_dropThoseOverList
def B_X9_dropThoseOverList_74 (Q : zv_St → Prop) (kk2 : Int32 → Int32 → zv_St → Prop) (x1 : Int32) (x2 : Int32) (y1 : Int32) (y2 : Int32) (σ : zv_St) : Prop :=
  vp_in y1 80 ∧ ∀ σ_1 : zv_St, σ_1 = zv_wi σ 16 y1.toNatClampNeg (vp_nar .boolean y2) → kk2 x1 (x2 + 1) σ_1
set_option maxRecDepth 20000 in
set_option maxHeartbeats 2000000 in
theorem k_X9_dropThoseOverList_74 {G : zv_G} {X : zv_X} {Q : zv_St → Prop} {kk2 : Int32 → Int32 → zv_St → Prop} (hC : zv_C G X M_X9_dropThoseOverList) (hR : zv_R G X M_X9_dropThoseOverList (zv_qv Q)) (hk2 : ∀ (x1 : Int32) (x2 : Int32) (σ : zv_St), kk2 x1 x2 σ → zv_V G X M_X9_dropThoseOverList 2 [(0, .ref (G.2.2.1 13)), (1, .int x1), (2, .int x2)] [] σ) {x1 : Int32} {x2 : Int32} {y1 : Int32} {y2 : Int32} {σ : zv_St} (h : B_X9_dropThoseOverList_74 Q kk2 x1 x2 y1 y2 σ) : zv_V G X M_X9_dropThoseOverList 74 [(0, .ref (G.2.2.1 13)), (1, .int x1), (2, .int x2)] [.int y2, .int y1, .ref (G.2.2.1 16)] σ := by
  unfold B_X9_dropThoseOverList_74 at h
  refine zv_zast hC dX9_dropThoseOverList_74 rfl h.1 ?_
  replace h := h.2 _ rfl
  refine zv_iinc (v := 1) hC dX9_dropThoseOverList_75 rfl (by decide) (by decide) ?_
  refine zv_goto (tgt := 2) hC dX9_dropThoseOverList_78 (by decide) ?_
  exact zv_go (hk2 _ _ _ h) ⟨rfl, rfl, rfl, trivial⟩
def B_X9_dropThoseOverList_73 (Q : zv_St → Prop) (kk2 : Int32 → Int32 → zv_St → Prop) (x1 : Int32) (x2 : Int32) (y1 : Int32) (σ : zv_St) : Prop :=
  B_X9_dropThoseOverList_74 Q kk2 x1 x2 y1 0 σ
set_option maxRecDepth 20000 in
set_option maxHeartbeats 2000000 in
theorem k_X9_dropThoseOverList_73 {G : zv_G} {X : zv_X} {Q : zv_St → Prop} {kk2 : Int32 → Int32 → zv_St → Prop} (hC : zv_C G X M_X9_dropThoseOverList) (hR : zv_R G X M_X9_dropThoseOverList (zv_qv Q)) (hk2 : ∀ (x1 : Int32) (x2 : Int32) (σ : zv_St), kk2 x1 x2 σ → zv_V G X M_X9_dropThoseOverList 2 [(0, .ref (G.2.2.1 13)), (1, .int x1), (2, .int x2)] [] σ) {x1 : Int32} {x2 : Int32} {y1 : Int32} {σ : zv_St} (h : B_X9_dropThoseOverList_73 Q kk2 x1 x2 y1 σ) : zv_V G X M_X9_dropThoseOverList 73 [(0, .ref (G.2.2.1 13)), (1, .int x1), (2, .int x2)] [.int y1, .ref (G.2.2.1 16)] σ := by
  unfold B_X9_dropThoseOverList_73 at h
  refine zv_iconst (v := 0) hC dX9_dropThoseOverList_73 (by decide) ?_
  exact zv_go (k_X9_dropThoseOverList_74 hC hR hk2 h) ⟨rfl, rfl, rfl, trivial⟩
def B_X9_dropThoseOverList_45 (Q : zv_St → Prop) (kk2 : Int32 → Int32 → zv_St → Prop) (x1 : Int32) (x2 : Int32) (y1 : Int32) (y2 : Int32) (σ : zv_St) : Prop :=
  vp_in y1 80 ∧ ∀ σ_1 : zv_St, σ_1 = zv_wi σ 18 y1.toNatClampNeg (vp_nar .boolean y2) → vp_in x2 80 ∧ ((σ_1.1 16 x2.toNatClampNeg) = 0 → (B_X9_dropThoseOverList_73 Q kk2 x1 x2 x2 σ_1)) ∧ (¬ (σ_1.1 16 x2.toNatClampNeg) = 0 → (vp_in x2 80 ∧ (¬ (σ_1.1 18 x2.toNatClampNeg) = 0 → (B_X9_dropThoseOverList_73 Q kk2 x1 x2 x2 σ_1)) ∧ ((σ_1.1 18 x2.toNatClampNeg) = 0 → (B_X9_dropThoseOverList_74 Q kk2 x1 x2 x2 1 σ_1))))
set_option maxRecDepth 20000 in
set_option maxHeartbeats 2000000 in
theorem k_X9_dropThoseOverList_45 {G : zv_G} {X : zv_X} {Q : zv_St → Prop} {kk2 : Int32 → Int32 → zv_St → Prop} (hC : zv_C G X M_X9_dropThoseOverList) (hR : zv_R G X M_X9_dropThoseOverList (zv_qv Q)) (hk2 : ∀ (x1 : Int32) (x2 : Int32) (σ : zv_St), kk2 x1 x2 σ → zv_V G X M_X9_dropThoseOverList 2 [(0, .ref (G.2.2.1 13)), (1, .int x1), (2, .int x2)] [] σ) {x1 : Int32} {x2 : Int32} {y1 : Int32} {y2 : Int32} {σ : zv_St} (h : B_X9_dropThoseOverList_45 Q kk2 x1 x2 y1 y2 σ) : zv_V G X M_X9_dropThoseOverList 45 [(0, .ref (G.2.2.1 13)), (1, .int x1), (2, .int x2)] [.int y2, .int y1, .ref (G.2.2.1 18)] σ := by
  unfold B_X9_dropThoseOverList_45 at h
  refine zv_zast hC dX9_dropThoseOverList_45 rfl h.1 ?_
  replace h := h.2 _ rfl
  refine zv_aload_n hC dX9_dropThoseOverList_46 rfl ?_
  refine zv_getR (j := 16) hC fl_X9_18 dX9_dropThoseOverList_47 rfl rfl ?_
  refine zv_iload_n hC dX9_dropThoseOverList_50 rfl ?_
  refine zv_aload_n hC dX9_dropThoseOverList_51 rfl ?_
  refine zv_getR (j := 16) hC fl_X9_18 dX9_dropThoseOverList_52 rfl rfl ?_
  refine zv_iload_n hC dX9_dropThoseOverList_55 rfl ?_
  refine zv_zald hC dX9_dropThoseOverList_56 rfl h.1 ?_
  replace h := h.2
  refine zv_if_eq (tgt := 73) hC dX9_dropThoseOverList_57 (by decide) (fun c => ?_) (fun c => ?_)
  · replace h := h.1 c
    exact zv_go (k_X9_dropThoseOverList_73 hC hR hk2 h) ⟨rfl, rfl, rfl, trivial⟩
  · replace h := h.2 c
    refine zv_aload_n hC dX9_dropThoseOverList_60 rfl ?_
    refine zv_getR (j := 18) hC fl_X9_26 dX9_dropThoseOverList_61 rfl rfl ?_
    refine zv_iload_n hC dX9_dropThoseOverList_64 rfl ?_
    refine zv_zald hC dX9_dropThoseOverList_65 rfl h.1 ?_
    replace h := h.2
    refine zv_if_ne (tgt := 73) hC dX9_dropThoseOverList_66 (by decide) (fun c => ?_) (fun c => ?_)
    · replace h := h.1 c
      exact zv_go (k_X9_dropThoseOverList_73 hC hR hk2 h) ⟨rfl, rfl, rfl, trivial⟩
    · replace h := h.2 c
      refine zv_iconst (v := 1) hC dX9_dropThoseOverList_69 (by decide) ?_
      refine zv_goto (tgt := 74) hC dX9_dropThoseOverList_70 (by decide) ?_
      exact zv_go (k_X9_dropThoseOverList_74 hC hR hk2 h) ⟨rfl, rfl, rfl, trivial⟩
def B_X9_dropThoseOverList_40 (Q : zv_St → Prop) (kk2 : Int32 → Int32 → zv_St → Prop) (x1 : Int32) (x2 : Int32) (y1 : Int32) (σ : zv_St) : Prop :=
  B_X9_dropThoseOverList_45 Q kk2 x1 x2 y1 1 σ
set_option maxRecDepth 20000 in
set_option maxHeartbeats 2000000 in
theorem k_X9_dropThoseOverList_40 {G : zv_G} {X : zv_X} {Q : zv_St → Prop} {kk2 : Int32 → Int32 → zv_St → Prop} (hC : zv_C G X M_X9_dropThoseOverList) (hR : zv_R G X M_X9_dropThoseOverList (zv_qv Q)) (hk2 : ∀ (x1 : Int32) (x2 : Int32) (σ : zv_St), kk2 x1 x2 σ → zv_V G X M_X9_dropThoseOverList 2 [(0, .ref (G.2.2.1 13)), (1, .int x1), (2, .int x2)] [] σ) {x1 : Int32} {x2 : Int32} {y1 : Int32} {σ : zv_St} (h : B_X9_dropThoseOverList_40 Q kk2 x1 x2 y1 σ) : zv_V G X M_X9_dropThoseOverList 40 [(0, .ref (G.2.2.1 13)), (1, .int x1), (2, .int x2)] [.int y1, .ref (G.2.2.1 18)] σ := by
  unfold B_X9_dropThoseOverList_40 at h
  refine zv_iconst (v := 1) hC dX9_dropThoseOverList_40 (by decide) ?_
  refine zv_goto (tgt := 45) hC dX9_dropThoseOverList_41 (by decide) ?_
  exact zv_go (k_X9_dropThoseOverList_45 hC hR hk2 h) ⟨rfl, rfl, rfl, trivial⟩
def L_X9_dropThoseOverList_2 (Q : zv_St → Prop) : Nat → Int32 → Int32 → zv_St → Prop
  | 0, _, _, _ => False
  | n + 1, x1, x2, σ => 
    B_X5_count (fun r_2 σ_1 => (r_2 ≤ x2 → (Q σ_1)) ∧ (¬ r_2 ≤ x2 → (B_X5_hasNumbers (fun r_4 σ_3 => (¬ r_4 = 0 → (B_X9_dropThoseOverList_40 Q (L_X9_dropThoseOverList_2 Q n) x1 x2 x2 σ_3)) ∧ (r_4 = 0 → (B_X9_touchesByParts (fun r_6 σ_5 => (r_6 = 0 → (B_X9_dropThoseOverList_45 Q (L_X9_dropThoseOverList_2 Q n) x1 x2 x2 0 σ_5)) ∧ (¬ r_6 = 0 → (B_X9_dropThoseOverList_40 Q (L_X9_dropThoseOverList_2 Q n) x1 x2 x2 σ_5))) x2 σ_3))) x2 0 x1 0 σ_1))) σ
set_option maxRecDepth 20000 in
set_option maxHeartbeats 2000000 in
theorem kL_X9_dropThoseOverList_2 {G : zv_G} {X : zv_X} {Q : zv_St → Prop}  (hC : zv_C G X M_X9_dropThoseOverList) (hR : zv_R G X M_X9_dropThoseOverList (zv_qv Q))  : ∀ (n : Nat) (x1 : Int32) (x2 : Int32) (σ : zv_St), L_X9_dropThoseOverList_2 Q  n x1 x2 σ → zv_V G X M_X9_dropThoseOverList 2 [(0, .ref (G.2.2.1 13)), (1, .int x1), (2, .int x2)] [] σ := by
  intro n
  induction n with
  | zero => intro x1 x2 σ h; exact h.elim
  | succ n hk2 =>
    intro x1 x2 σ h
    unfold L_X9_dropThoseOverList_2 at h
    refine zv_iload_n hC dX9_dropThoseOverList_2 rfl ?_
    refine zv_aload_n hC dX9_dropThoseOverList_3 rfl ?_
    refine zv_getR (j := 5) hC fl_X9_29 dX9_dropThoseOverList_4 rfl rfl ?_
    refine zv_callVi (As := []) hC dX9_dropThoseOverList_7 Y_X5_count lk_X9_41 (by decide) rfl rfl rfl (Nat.le_of_ble_eq_true rfl) (ok_X5_count G h) ?_
    intro r_2 σ_1 h
    refine zv_icmp_ge (tgt := 81) hC dX9_dropThoseOverList_10 (by decide) (fun c => ?_) (fun c => ?_)
    · replace h := h.1 c
      exact (hR _ _ _).2.2.2.1 rfl dX9_dropThoseOverList_81 ⟨rfl, h⟩
    · replace h := h.2 c
      refine zv_aload_n hC dX9_dropThoseOverList_13 rfl ?_
      refine zv_getR (j := 18) hC fl_X9_26 dX9_dropThoseOverList_14 rfl rfl ?_
      refine zv_iload_n hC dX9_dropThoseOverList_17 rfl ?_
      refine zv_aload_n hC dX9_dropThoseOverList_18 rfl ?_
      refine zv_getR (j := 5) hC fl_X9_29 dX9_dropThoseOverList_19 rfl rfl ?_
      refine zv_iload_n hC dX9_dropThoseOverList_22 rfl ?_
      refine zv_iconst (v := 0) hC dX9_dropThoseOverList_23 (by decide) ?_
      refine zv_iload_n hC dX9_dropThoseOverList_24 rfl ?_
      refine zv_iconst (v := 0) hC dX9_dropThoseOverList_25 (by decide) ?_
      refine zv_callVi (As := [_, _, _, _]) hC dX9_dropThoseOverList_26 Y_X5_hasNumbers lk_X9_51 (by decide) rfl rfl rfl (Nat.le_of_ble_eq_true rfl) (ok_X5_hasNumbers G h) ?_
      intro r_4 σ_3 h
      refine zv_if_ne (tgt := 40) hC dX9_dropThoseOverList_29 (by decide) (fun c => ?_) (fun c => ?_)
      · replace h := h.1 c
        exact zv_go (k_X9_dropThoseOverList_40 hC hR hk2 h) ⟨rfl, rfl, rfl, trivial⟩
      · replace h := h.2 c
        refine zv_aload_n hC dX9_dropThoseOverList_32 rfl ?_
        refine zv_iload_n hC dX9_dropThoseOverList_33 rfl ?_
        refine zv_callVi (As := [_]) hC dX9_dropThoseOverList_34 Y_X9_touchesByParts lk_X9_47 (by decide) rfl rfl rfl (Nat.le_of_ble_eq_true rfl) (ok_X9_touchesByParts G h) ?_
        intro r_6 σ_5 h
        refine zv_if_eq (tgt := 44) hC dX9_dropThoseOverList_37 (by decide) (fun c => ?_) (fun c => ?_)
        · replace h := h.1 c
          refine zv_iconst (v := 0) hC dX9_dropThoseOverList_44 (by decide) ?_
          exact zv_go (k_X9_dropThoseOverList_45 hC hR hk2 h) ⟨rfl, rfl, rfl, trivial⟩
        · replace h := h.2 c
          exact zv_go (k_X9_dropThoseOverList_40 hC hR hk2 h) ⟨rfl, rfl, rfl, trivial⟩
def B_X9_dropThoseOverList (Q : zv_St → Prop) (x1 : Int32) (σ : zv_St) : Prop :=
  ∃ n, L_X9_dropThoseOverList_2 Q n x1 0 σ
set_option maxRecDepth 20000 in
set_option maxHeartbeats 2000000 in
theorem k_X9_dropThoseOverList_0 {G : zv_G} {X : zv_X} {Q : zv_St → Prop}  (hC : zv_C G X M_X9_dropThoseOverList) (hR : zv_R G X M_X9_dropThoseOverList (zv_qv Q))  {x1 : Int32} {σ : zv_St} (h : B_X9_dropThoseOverList Q  x1 σ) : zv_V G X M_X9_dropThoseOverList 0 [(0, .ref (G.2.2.1 13)), (1, .int x1)] [] σ := by
  unfold B_X9_dropThoseOverList at h
  refine zv_iconst (v := 0) hC dX9_dropThoseOverList_0 (by decide) ?_
  refine zv_istore_n hC dX9_dropThoseOverList_1 (by decide) ?_
  obtain ⟨n, h⟩ := h
  exact zv_go (kL_X9_dropThoseOverList_2 hC hR  n _ _ _ h) ⟨rfl, rfl, rfl, trivial⟩
theorem ok_X9_dropThoseOverList (G : zv_G) {Q : zv_St → Prop} {x1 : Int32} {σ : zv_St} (h : B_X9_dropThoseOverList Q x1 σ) : zv_OK G M_X9_dropThoseOverList yX9_dropThoseOverList [.ref (G.2.2.1 13), .int x1] σ (zv_qv Q) := zv_ok G _ _ _ _ _ (by decide +kernel) rfl (Nat.le_of_ble_eq_true rfl) (fun X hC hR => zv_go (k_X9_dropThoseOverList_0 hC hR h) ⟨rfl, rfl, trivial⟩)
-- J9_min_7cf53
def B_J9_min_7cf53_10 (Q : Int32 → zv_St → Prop) (y0 : Int32) (σ : zv_St) : Prop :=
  Q y0 σ
set_option maxRecDepth 20000 in
set_option maxHeartbeats 2000000 in
theorem k_J9_min_7cf53_10 {G : zv_G} {X : zv_X} {Q : Int32 → zv_St → Prop}  (hC : zv_C G X M_J9_min_7cf53) (hR : zv_R G X M_J9_min_7cf53 (zv_qi Q))  {y0 : Int32} {σ : zv_St} (h : B_J9_min_7cf53_10 Q  y0 σ) : zv_V G X M_J9_min_7cf53 10 [] [.int y0] σ := by
  unfold B_J9_min_7cf53_10 at h
  exact (hR _ _ _).1 _ rfl dJ9_min_7cf53_10 ⟨_, rfl, h⟩
def B_J9_min_7cf53 (Q : Int32 → zv_St → Prop) (x0 : Int32) (x1 : Int32) (σ : zv_St) : Prop :=
  (x1 < x0 → (B_J9_min_7cf53_10 Q x1 σ)) ∧ (¬ x1 < x0 → (B_J9_min_7cf53_10 Q x0 σ))
set_option maxRecDepth 20000 in
set_option maxHeartbeats 2000000 in
theorem k_J9_min_7cf53_0 {G : zv_G} {X : zv_X} {Q : Int32 → zv_St → Prop}  (hC : zv_C G X M_J9_min_7cf53) (hR : zv_R G X M_J9_min_7cf53 (zv_qi Q))  {x0 : Int32} {x1 : Int32} {σ : zv_St} (h : B_J9_min_7cf53 Q  x0 x1 σ) : zv_V G X M_J9_min_7cf53 0 [(0, .int x0), (1, .int x1)] [] σ := by
  unfold B_J9_min_7cf53 at h
  refine zv_iload_n hC dJ9_min_7cf53_0 rfl ?_
  refine zv_iload_n hC dJ9_min_7cf53_1 rfl ?_
  refine zv_icmp_gt (tgt := 9) hC dJ9_min_7cf53_2 (by decide) (fun c => ?_) (fun c => ?_)
  · replace h := h.1 c
    refine zv_iload_n hC dJ9_min_7cf53_9 rfl ?_
    exact zv_go (k_J9_min_7cf53_10 hC hR  h) trivial
  · replace h := h.2 c
    refine zv_iload_n hC dJ9_min_7cf53_5 rfl ?_
    refine zv_goto (tgt := 10) hC dJ9_min_7cf53_6 (by decide) ?_
    exact zv_go (k_J9_min_7cf53_10 hC hR  h) trivial
theorem ok_J9_min_7cf53 (G : zv_G) {Q : Int32 → zv_St → Prop} {x0 : Int32} {x1 : Int32} {σ : zv_St} (h : B_J9_min_7cf53 Q x0 x1 σ) : zv_OK G M_J9_min_7cf53 yJ9_min_7cf53 [.int x0, .int x1] σ (zv_qi Q) := zv_ok G _ _ _ _ _ (by decide +kernel) rfl (Nat.le_of_ble_eq_true rfl) (fun X hC hR => zv_go (k_J9_min_7cf53_0 hC hR h) ⟨rfl, rfl, trivial⟩)
-- X0_forgetFrom
def B_X0_forgetFrom (Q : zv_St → Prop) (x1 : Int32) (σ : zv_St) : Prop :=
  B_J9_min_7cf53 (fun r_2 σ_1 => ∀ σ_3 : zv_St, σ_3 = zv_wi σ_1 19 8 r_2 → Q σ_3) (σ.1 19 8) x1 σ
set_option maxRecDepth 20000 in
set_option maxHeartbeats 2000000 in
theorem k_X0_forgetFrom_0 {G : zv_G} {X : zv_X} {Q : zv_St → Prop}  (hC : zv_C G X M_X0_forgetFrom) (hR : zv_R G X M_X0_forgetFrom (zv_qv Q))  {x1 : Int32} {σ : zv_St} (h : B_X0_forgetFrom Q  x1 σ) : zv_V G X M_X0_forgetFrom 0 [(0, .ref (G.2.2.1 19)), (1, .int x1)] [] σ := by
  unfold B_X0_forgetFrom at h
  refine zv_aload_n hC dX0_forgetFrom_0 rfl ?_
  refine zv_aload_n hC dX0_forgetFrom_1 rfl ?_
  refine zv_getI hC fl_X0_48 dX0_forgetFrom_2 rfl rfl ?_
  refine zv_iload_n hC dX0_forgetFrom_5 rfl ?_
  refine zv_callSi (As := [_, _]) hC dX0_forgetFrom_6 Y_J9_min_7cf53 lk_X0_52 (by decide) rfl rfl (Nat.le_of_ble_eq_true rfl) (ok_J9_min_7cf53 G h) ?_
  intro r_2 σ_1 h
  refine zv_putI hC fp_X0_48 dX0_forgetFrom_9 rfl rfl rfl rfl ?_
  replace h := h _ rfl
  exact (hR _ _ _).2.2.2.1 rfl dX0_forgetFrom_12 ⟨rfl, h⟩
theorem ok_X0_forgetFrom (G : zv_G) {Q : zv_St → Prop} {x1 : Int32} {σ : zv_St} (h : B_X0_forgetFrom Q x1 σ) : zv_OK G M_X0_forgetFrom yX0_forgetFrom [.ref (G.2.2.1 19), .int x1] σ (zv_qv Q) := zv_ok G _ _ _ _ _ (by decide +kernel) rfl (Nat.le_of_ble_eq_true rfl) (fun X hC hR => zv_go (k_X0_forgetFrom_0 hC hR h) ⟨rfl, rfl, trivial⟩)
-- X10_listHasChanged
def B_X10_listHasChanged (Q : zv_St → Prop) (x1 : Int32) (σ : zv_St) : Prop :=
  B_X9_dropThoseOverList (fun σ_1 => B_X0_forgetFrom (fun σ_2 => Q σ_2) 0 σ_1) x1 σ
set_option maxRecDepth 20000 in
set_option maxHeartbeats 2000000 in
theorem k_X10_listHasChanged_0 {G : zv_G} {X : zv_X} {Q : zv_St → Prop}  (hC : zv_C G X M_X10_listHasChanged) (hR : zv_R G X M_X10_listHasChanged (zv_qv Q))  {x1 : Int32} {σ : zv_St} (h : B_X10_listHasChanged Q  x1 σ) : zv_V G X M_X10_listHasChanged 0 [(0, .ref (G.2.2.1 0)), (1, .int x1)] [] σ := by
  unfold B_X10_listHasChanged at h
  refine zv_aload_n hC dX10_listHasChanged_0 rfl ?_
  refine zv_getR (j := 13) hC fl_X10_28 dX10_listHasChanged_1 rfl rfl ?_
  refine zv_iload_n hC dX10_listHasChanged_4 rfl ?_
  refine zv_callVv (As := [_]) hC dX10_listHasChanged_5 Y_X9_dropThoseOverList lk_X10_242 (by decide) rfl rfl rfl (Nat.le_of_ble_eq_true rfl) (ok_X9_dropThoseOverList G h) ?_
  intro σ_1 h
  refine zv_aload_n hC dX10_listHasChanged_8 rfl ?_
  refine zv_getR (j := 19) hC fl_X10_37 dX10_listHasChanged_9 rfl rfl ?_
  refine zv_iconst (v := 0) hC dX10_listHasChanged_12 (by decide) ?_
  refine zv_callVv (As := [_]) hC dX10_listHasChanged_13 Y_X0_forgetFrom lk_X10_133 (by decide) rfl rfl rfl (Nat.le_of_ble_eq_true rfl) (ok_X0_forgetFrom G h) ?_
  intro σ_2 h
  exact (hR _ _ _).2.2.2.1 rfl dX10_listHasChanged_16 ⟨rfl, h⟩
theorem ok_X10_listHasChanged (G : zv_G) {Q : zv_St → Prop} {x1 : Int32} {σ : zv_St} (h : B_X10_listHasChanged Q x1 σ) : zv_OK G M_X10_listHasChanged yX10_listHasChanged [.ref (G.2.2.1 0), .int x1] σ (zv_qv Q) := zv_ok G _ _ _ _ _ (by decide +kernel) rfl (Nat.le_of_ble_eq_true rfl) (fun X hC hR => zv_go (k_X10_listHasChanged_0 hC hR h) ⟨rfl, rfl, trivial⟩)
-- X3_size
def B_X3_size (Q : Int32 → zv_St → Prop) (x1 : Int32) (σ : zv_St) : Prop :=
  vp_in x1 16 ∧ Q (σ.1 4 x1.toNatClampNeg) σ
set_option maxRecDepth 20000 in
set_option maxHeartbeats 2000000 in
theorem k_X3_size_0 {G : zv_G} {X : zv_X} {Q : Int32 → zv_St → Prop}  (hC : zv_C G X M_X3_size) (hR : zv_R G X M_X3_size (zv_qi Q))  {x1 : Int32} {σ : zv_St} (h : B_X3_size Q  x1 σ) : zv_V G X M_X3_size 0 [(0, .ref (G.2.2.1 1)), (1, .int x1)] [] σ := by
  unfold B_X3_size at h
  refine zv_aload_n hC dX3_size_0 rfl ?_
  refine zv_getR (j := 4) hC fl_X3_18 dX3_size_1 rfl rfl ?_
  refine zv_iload_n hC dX3_size_4 rfl ?_
  refine zv_iald hC dX3_size_5 rfl h.1 ?_
  replace h := h.2
  exact (hR _ _ _).1 _ rfl dX3_size_6 ⟨_, rfl, h⟩
theorem ok_X3_size (G : zv_G) {Q : Int32 → zv_St → Prop} {x1 : Int32} {σ : zv_St} (h : B_X3_size Q x1 σ) : zv_OK G M_X3_size yX3_size [.ref (G.2.2.1 1), .int x1] σ (zv_qi Q) := zv_ok G _ _ _ _ _ (by decide +kernel) rfl (Nat.le_of_ble_eq_true rfl) (fun X hC hR => zv_go (k_X3_size_0 hC hR h) ⟨rfl, rfl, trivial⟩)
-- X10_put
def B_X10_put_23 (Q : Int32 → zv_St → Prop) (σ : zv_St) : Prop :=
  Q (-2) σ
set_option maxRecDepth 20000 in
set_option maxHeartbeats 2000000 in
theorem k_X10_put_23 {G : zv_G} {X : zv_X} {Q : Int32 → zv_St → Prop}  (hC : zv_C G X M_X10_put) (hR : zv_R G X M_X10_put (zv_qi Q))   {σ : zv_St} (h : B_X10_put_23 Q   σ) : zv_V G X M_X10_put 23 [] [] σ := by
  unfold B_X10_put_23 at h
  refine zv_bipush (v := (-2)) hC dX10_put_23 (by decide) ?_
  exact (hR _ _ _).1 _ rfl dX10_put_25 ⟨_, rfl, h⟩
def B_X10_put (Q : Int32 → zv_St → Prop) (x1 : Int32) (x2 : Int32) (x3 : Int32) (σ : zv_St) : Prop :=
  B_X10_isList (fun r_2 σ_1 => (r_2 = 0 → (B_X10_put_23 Q σ_1)) ∧ (¬ r_2 = 0 → (B_X10_isObject (fun r_4 σ_3 => (r_4 = 0 → (B_X10_put_23 Q σ_3)) ∧ (¬ r_4 = 0 → (B_X10_isWithin (fun r_6 σ_5 => (¬ r_6 = 0 → (B_X3_store (fun r_8 σ_7 => (¬ r_8 = 0 → (B_X10_listHasChanged (fun σ_9 => B_X3_size (fun r_11 σ_10 => Q r_11 σ_10) x1 σ_9) x1 σ_7)) ∧ (r_8 = 0 → (Q (-3) σ_7))) x1 x2 x3 σ_5)) ∧ (r_6 = 0 → (B_X10_put_23 Q σ_5))) x3 1000000 σ_3))) x2 σ_1))) x1 σ
set_option maxRecDepth 20000 in
set_option maxHeartbeats 2000000 in
theorem k_X10_put_0 {G : zv_G} {X : zv_X} {Q : Int32 → zv_St → Prop}  (hC : zv_C G X M_X10_put) (hR : zv_R G X M_X10_put (zv_qi Q))  {x1 : Int32} {x2 : Int32} {x3 : Int32} {σ : zv_St} (h : B_X10_put Q  x1 x2 x3 σ) : zv_V G X M_X10_put 0 [(0, .ref (G.2.2.1 0)), (1, .int x1), (2, .int x2), (3, .int x3)] [] σ := by
  unfold B_X10_put at h
  refine zv_iload_n hC dX10_put_0 rfl ?_
  refine zv_callSi (As := [_]) hC dX10_put_1 Y_X10_isList lk_X10_73 (by decide) rfl rfl (Nat.le_of_ble_eq_true rfl) (ok_X10_isList G h) ?_
  intro r_2 σ_1 h
  refine zv_if_eq (tgt := 23) hC dX10_put_4 (by decide) (fun c => ?_) (fun c => ?_)
  · replace h := h.1 c
    exact zv_go (k_X10_put_23 hC hR  h) trivial
  · replace h := h.2 c
    refine zv_iload_n hC dX10_put_7 rfl ?_
    refine zv_callSi (As := [_]) hC dX10_put_8 Y_X10_isObject lk_X10_77 (by decide) rfl rfl (Nat.le_of_ble_eq_true rfl) (ok_X10_isObject G h) ?_
    intro r_4 σ_3 h
    refine zv_if_eq (tgt := 23) hC dX10_put_11 (by decide) (fun c => ?_) (fun c => ?_)
    · replace h := h.1 c
      exact zv_go (k_X10_put_23 hC hR  h) trivial
    · replace h := h.2 c
      refine zv_iload_n hC dX10_put_14 rfl ?_
      refine zv_ldc hC dX10_put_15 cst_X10_80 ?_
      refine zv_callSi (As := [_, _]) hC dX10_put_17 Y_X10_isWithin lk_X10_81 (by decide) rfl rfl (Nat.le_of_ble_eq_true rfl) (ok_X10_isWithin G h) ?_
      intro r_6 σ_5 h
      refine zv_if_ne (tgt := 26) hC dX10_put_20 (by decide) (fun c => ?_) (fun c => ?_)
      · replace h := h.1 c
        refine zv_aload_n hC dX10_put_26 rfl ?_
        refine zv_getR (j := 1) hC fl_X10_12 dX10_put_27 rfl rfl ?_
        refine zv_iload_n hC dX10_put_30 rfl ?_
        refine zv_iload_n hC dX10_put_31 rfl ?_
        refine zv_iload_n hC dX10_put_32 rfl ?_
        refine zv_callVi (As := [_, _, _]) hC dX10_put_33 Y_X3_store lk_X10_85 (by decide) rfl rfl rfl (Nat.le_of_ble_eq_true rfl) (ok_X3_store G h) ?_
        intro r_8 σ_7 h
        refine zv_if_ne (tgt := 42) hC dX10_put_36 (by decide) (fun c => ?_) (fun c => ?_)
        · replace h := h.1 c
          refine zv_aload_n hC dX10_put_42 rfl ?_
          refine zv_iload_n hC dX10_put_43 rfl ?_
          refine zv_callVv (As := [_]) hC dX10_put_44 Y_X10_listHasChanged lk_X10_89 (by decide) rfl rfl rfl (Nat.le_of_ble_eq_true rfl) (ok_X10_listHasChanged G h) ?_
          intro σ_9 h
          refine zv_aload_n hC dX10_put_47 rfl ?_
          refine zv_getR (j := 1) hC fl_X10_12 dX10_put_48 rfl rfl ?_
          refine zv_iload_n hC dX10_put_51 rfl ?_
          refine zv_callVi (As := [_]) hC dX10_put_52 Y_X3_size lk_X10_93 (by decide) rfl rfl rfl (Nat.le_of_ble_eq_true rfl) (ok_X3_size G h) ?_
          intro r_11 σ_10 h
          exact (hR _ _ _).1 _ rfl dX10_put_55 ⟨_, rfl, h⟩
        · replace h := h.2 c
          refine zv_bipush (v := (-3)) hC dX10_put_39 (by decide) ?_
          exact (hR _ _ _).1 _ rfl dX10_put_41 ⟨_, rfl, h⟩
      · replace h := h.2 c
        exact zv_go (k_X10_put_23 hC hR  h) trivial
theorem ok_X10_put (G : zv_G) {Q : Int32 → zv_St → Prop} {x1 : Int32} {x2 : Int32} {x3 : Int32} {σ : zv_St} (h : B_X10_put Q x1 x2 x3 σ) : zv_OK G M_X10_put yX10_put [.ref (G.2.2.1 0), .int x1, .int x2, .int x3] σ (zv_qi Q) := zv_ok G _ _ _ _ _ (by decide +kernel) rfl (Nat.le_of_ble_eq_true rfl) (fun X hC hR => zv_go (k_X10_put_0 hC hR h) ⟨rfl, rfl, rfl, rfl, trivial⟩)
-- X3_weightOf
def B_X3_weightOf_22 (Q : Int32 → zv_St → Prop) (y0 : Int32) (σ : zv_St) : Prop :=
  Q y0 σ
set_option maxRecDepth 20000 in
set_option maxHeartbeats 2000000 in
theorem k_X3_weightOf_22 {G : zv_G} {X : zv_X} {Q : Int32 → zv_St → Prop}  (hC : zv_C G X M_X3_weightOf) (hR : zv_R G X M_X3_weightOf (zv_qi Q))  {y0 : Int32} {σ : zv_St} (h : B_X3_weightOf_22 Q  y0 σ) : zv_V G X M_X3_weightOf 22 [] [.int y0] σ := by
  unfold B_X3_weightOf_22 at h
  exact (hR _ _ _).1 _ rfl dX3_weightOf_22 ⟨_, rfl, h⟩
def B_X3_weightOf (Q : Int32 → zv_St → Prop) (x1 : Int32) (x2 : Int32) (σ : zv_St) : Prop :=
  B_X3_placeOf (fun r_2 σ_1 => (¬ r_2 = (-1) → (vp_in r_2 960 ∧ B_X3_weightOf_22 Q (σ_1.1 3 r_2.toNatClampNeg) σ_1)) ∧ (r_2 = (-1) → (B_X3_weightOf_22 Q 0 σ_1))) x1 x2 σ
set_option maxRecDepth 20000 in
set_option maxHeartbeats 2000000 in
theorem k_X3_weightOf_0 {G : zv_G} {X : zv_X} {Q : Int32 → zv_St → Prop}  (hC : zv_C G X M_X3_weightOf) (hR : zv_R G X M_X3_weightOf (zv_qi Q))  {x1 : Int32} {x2 : Int32} {σ : zv_St} (h : B_X3_weightOf Q  x1 x2 σ) : zv_V G X M_X3_weightOf 0 [(0, .ref (G.2.2.1 1)), (1, .int x1), (2, .int x2)] [] σ := by
  unfold B_X3_weightOf at h
  refine zv_aload_n hC dX3_weightOf_0 rfl ?_
  refine zv_iload_n hC dX3_weightOf_1 rfl ?_
  refine zv_iload_n hC dX3_weightOf_2 rfl ?_
  refine zv_callVi (As := [_, _]) hC dX3_weightOf_3 Y_X3_placeOf lk_X3_21 (by decide) rfl rfl rfl (Nat.le_of_ble_eq_true rfl) (ok_X3_placeOf G h) ?_
  intro r_2 σ_1 h
  refine zv_istore_n hC dX3_weightOf_6 (by decide) ?_
  refine zv_iload_n hC dX3_weightOf_7 rfl ?_
  refine zv_iconst (v := (-1)) hC dX3_weightOf_8 (by decide) ?_
  refine zv_icmp_ne (tgt := 16) hC dX3_weightOf_9 (by decide) (fun c => ?_) (fun c => ?_)
  · replace h := h.1 c
    refine zv_aload_n hC dX3_weightOf_16 rfl ?_
    refine zv_getR (j := 3) hC fl_X3_15 dX3_weightOf_17 rfl rfl ?_
    refine zv_iload_n hC dX3_weightOf_20 rfl ?_
    refine zv_iald hC dX3_weightOf_21 rfl h.1 ?_
    replace h := h.2
    exact zv_go (k_X3_weightOf_22 hC hR  h) trivial
  · replace h := h.2 c
    refine zv_iconst (v := 0) hC dX3_weightOf_12 (by decide) ?_
    refine zv_goto (tgt := 22) hC dX3_weightOf_13 (by decide) ?_
    exact zv_go (k_X3_weightOf_22 hC hR  h) trivial
theorem ok_X3_weightOf (G : zv_G) {Q : Int32 → zv_St → Prop} {x1 : Int32} {x2 : Int32} {σ : zv_St} (h : B_X3_weightOf Q x1 x2 σ) : zv_OK G M_X3_weightOf yX3_weightOf [.ref (G.2.2.1 1), .int x1, .int x2] σ (zv_qi Q) := zv_ok G _ _ _ _ _ (by decide +kernel) rfl (Nat.le_of_ble_eq_true rfl) (fun X hC hR => zv_go (k_X3_weightOf_0 hC hR h) ⟨rfl, rfl, rfl, trivial⟩)
-- X3_remove
def B_X3_remove (Q : zv_St → Prop) (x1 : Int32) (x2 : Int32) (σ : zv_St) : Prop :=
  B_X3_placeOf (fun r_2 σ_1 => (¬ r_2 = (-1) → (vp_in x1 16 ∧ vp_in x1 16 ∧ ∀ σ_3 : zv_St, σ_3 = zv_wi σ_1 4 x1.toNatClampNeg ((σ_1.1 4 x1.toNatClampNeg) - 1) → vp_in x1 16 ∧ ∀ v_4 : Int32, v_4 = ((x1 * 60) + (σ_3.1 4 x1.toNatClampNeg)) → vp_in v_4 960 ∧ vp_in r_2 960 ∧ ∀ σ_5 : zv_St, σ_5 = zv_wi σ_3 2 r_2.toNatClampNeg (σ_3.1 2 v_4.toNatClampNeg) → vp_in v_4 960 ∧ vp_in r_2 960 ∧ ∀ σ_6 : zv_St, σ_6 = zv_wi σ_5 3 r_2.toNatClampNeg (σ_5.1 3 v_4.toNatClampNeg) → Q σ_6)) ∧ (r_2 = (-1) → (Q σ_1))) x1 x2 σ
set_option maxRecDepth 20000 in
set_option maxHeartbeats 2000000 in
theorem k_X3_remove_0 {G : zv_G} {X : zv_X} {Q : zv_St → Prop}  (hC : zv_C G X M_X3_remove) (hR : zv_R G X M_X3_remove (zv_qv Q))  {x1 : Int32} {x2 : Int32} {σ : zv_St} (h : B_X3_remove Q  x1 x2 σ) : zv_V G X M_X3_remove 0 [(0, .ref (G.2.2.1 1)), (1, .int x1), (2, .int x2)] [] σ := by
  unfold B_X3_remove at h
  refine zv_aload_n hC dX3_remove_0 rfl ?_
  refine zv_iload_n hC dX3_remove_1 rfl ?_
  refine zv_iload_n hC dX3_remove_2 rfl ?_
  refine zv_callVi (As := [_, _]) hC dX3_remove_3 Y_X3_placeOf lk_X3_21 (by decide) rfl rfl rfl (Nat.le_of_ble_eq_true rfl) (ok_X3_placeOf G h) ?_
  intro r_2 σ_1 h
  refine zv_istore_n hC dX3_remove_6 (by decide) ?_
  refine zv_iload_n hC dX3_remove_7 rfl ?_
  refine zv_iconst (v := (-1)) hC dX3_remove_8 (by decide) ?_
  refine zv_icmp_ne (tgt := 13) hC dX3_remove_9 (by decide) (fun c => ?_) (fun c => ?_)
  · replace h := h.1 c
    refine zv_aload_n hC dX3_remove_13 rfl ?_
    refine zv_getR (j := 4) hC fl_X3_18 dX3_remove_14 rfl rfl ?_
    refine zv_iload_n hC dX3_remove_17 rfl ?_
    refine zv_dup2 hC dX3_remove_18 rfl rfl ?_
    refine zv_iald hC dX3_remove_19 rfl h.1 ?_
    replace h := h.2
    refine zv_iconst (v := 1) hC dX3_remove_20 (by decide) ?_
    refine zv_isub hC dX3_remove_21 ?_
    refine zv_iast hC dX3_remove_22 rfl h.1 ?_
    replace h := h.2 _ rfl
    refine zv_iload_n hC dX3_remove_23 rfl ?_
    refine zv_bipush (v := 60) hC dX3_remove_24 (by decide) ?_
    refine zv_imul hC dX3_remove_26 ?_
    refine zv_aload_n hC dX3_remove_27 rfl ?_
    refine zv_getR (j := 4) hC fl_X3_18 dX3_remove_28 rfl rfl ?_
    refine zv_iload_n hC dX3_remove_31 rfl ?_
    refine zv_iald hC dX3_remove_32 rfl h.1 ?_
    replace h := h.2
    refine zv_iadd hC dX3_remove_33 ?_
    replace h := h _ rfl
    refine zv_istore hC dX3_remove_34 (by decide) ?_
    refine zv_aload_n hC dX3_remove_36 rfl ?_
    refine zv_getR (j := 2) hC fl_X3_9 dX3_remove_37 rfl rfl ?_
    refine zv_iload_n hC dX3_remove_40 rfl ?_
    refine zv_aload_n hC dX3_remove_41 rfl ?_
    refine zv_getR (j := 2) hC fl_X3_9 dX3_remove_42 rfl rfl ?_
    refine zv_iload hC dX3_remove_45 rfl ?_
    refine zv_iald hC dX3_remove_47 rfl h.1 ?_
    replace h := h.2
    refine zv_iast hC dX3_remove_48 rfl h.1 ?_
    replace h := h.2 _ rfl
    refine zv_aload_n hC dX3_remove_49 rfl ?_
    refine zv_getR (j := 3) hC fl_X3_15 dX3_remove_50 rfl rfl ?_
    refine zv_iload_n hC dX3_remove_53 rfl ?_
    refine zv_aload_n hC dX3_remove_54 rfl ?_
    refine zv_getR (j := 3) hC fl_X3_15 dX3_remove_55 rfl rfl ?_
    refine zv_iload hC dX3_remove_58 rfl ?_
    refine zv_iald hC dX3_remove_60 rfl h.1 ?_
    replace h := h.2
    refine zv_iast hC dX3_remove_61 rfl h.1 ?_
    replace h := h.2 _ rfl
    exact (hR _ _ _).2.2.2.1 rfl dX3_remove_62 ⟨rfl, h⟩
  · replace h := h.2 c
    exact (hR _ _ _).2.2.2.1 rfl dX3_remove_12 ⟨rfl, h⟩
theorem ok_X3_remove (G : zv_G) {Q : zv_St → Prop} {x1 : Int32} {x2 : Int32} {σ : zv_St} (h : B_X3_remove Q x1 x2 σ) : zv_OK G M_X3_remove yX3_remove [.ref (G.2.2.1 1), .int x1, .int x2] σ (zv_qv Q) := zv_ok G _ _ _ _ _ (by decide +kernel) rfl (Nat.le_of_ble_eq_true rfl) (fun X hC hR => zv_go (k_X3_remove_0 hC hR h) ⟨rfl, rfl, rfl, trivial⟩)
-- X10_take
def B_X10_take_14 (Q : Int32 → zv_St → Prop) (σ : zv_St) : Prop :=
  Q (-2) σ
set_option maxRecDepth 20000 in
set_option maxHeartbeats 2000000 in
theorem k_X10_take_14 {G : zv_G} {X : zv_X} {Q : Int32 → zv_St → Prop}  (hC : zv_C G X M_X10_take) (hR : zv_R G X M_X10_take (zv_qi Q))   {σ : zv_St} (h : B_X10_take_14 Q   σ) : zv_V G X M_X10_take 14 [] [] σ := by
  unfold B_X10_take_14 at h
  refine zv_bipush (v := (-2)) hC dX10_take_14 (by decide) ?_
  exact (hR _ _ _).1 _ rfl dX10_take_16 ⟨_, rfl, h⟩
def B_X10_take (Q : Int32 → zv_St → Prop) (x1 : Int32) (x2 : Int32) (σ : zv_St) : Prop :=
  B_X10_isList (fun r_2 σ_1 => (r_2 = 0 → (B_X10_take_14 Q σ_1)) ∧ (¬ r_2 = 0 → (B_X10_isObject (fun r_4 σ_3 => (¬ r_4 = 0 → (B_X3_placeOf (fun r_6 σ_5 => (¬ r_6 = (-1) → (B_X3_weightOf (fun r_8 σ_7 => B_X3_remove (fun σ_9 => B_X10_listHasChanged (fun σ_10 => Q r_8 σ_10) x1 σ_9) x1 x2 σ_7) x1 x2 σ_5)) ∧ (r_6 = (-1) → (Q (-4) σ_5))) x1 x2 σ_3)) ∧ (r_4 = 0 → (B_X10_take_14 Q σ_3))) x2 σ_1))) x1 σ
set_option maxRecDepth 20000 in
set_option maxHeartbeats 2000000 in
theorem k_X10_take_0 {G : zv_G} {X : zv_X} {Q : Int32 → zv_St → Prop}  (hC : zv_C G X M_X10_take) (hR : zv_R G X M_X10_take (zv_qi Q))  {x1 : Int32} {x2 : Int32} {σ : zv_St} (h : B_X10_take Q  x1 x2 σ) : zv_V G X M_X10_take 0 [(0, .ref (G.2.2.1 0)), (1, .int x1), (2, .int x2)] [] σ := by
  unfold B_X10_take at h
  refine zv_iload_n hC dX10_take_0 rfl ?_
  refine zv_callSi (As := [_]) hC dX10_take_1 Y_X10_isList lk_X10_73 (by decide) rfl rfl (Nat.le_of_ble_eq_true rfl) (ok_X10_isList G h) ?_
  intro r_2 σ_1 h
  refine zv_if_eq (tgt := 14) hC dX10_take_4 (by decide) (fun c => ?_) (fun c => ?_)
  · replace h := h.1 c
    exact zv_go (k_X10_take_14 hC hR  h) trivial
  · replace h := h.2 c
    refine zv_iload_n hC dX10_take_7 rfl ?_
    refine zv_callSi (As := [_]) hC dX10_take_8 Y_X10_isObject lk_X10_77 (by decide) rfl rfl (Nat.le_of_ble_eq_true rfl) (ok_X10_isObject G h) ?_
    intro r_4 σ_3 h
    refine zv_if_ne (tgt := 17) hC dX10_take_11 (by decide) (fun c => ?_) (fun c => ?_)
    · replace h := h.1 c
      refine zv_aload_n hC dX10_take_17 rfl ?_
      refine zv_getR (j := 1) hC fl_X10_12 dX10_take_18 rfl rfl ?_
      refine zv_iload_n hC dX10_take_21 rfl ?_
      refine zv_iload_n hC dX10_take_22 rfl ?_
      refine zv_callVi (As := [_, _]) hC dX10_take_23 Y_X3_placeOf lk_X10_97 (by decide) rfl rfl rfl (Nat.le_of_ble_eq_true rfl) (ok_X3_placeOf G h) ?_
      intro r_6 σ_5 h
      refine zv_iconst (v := (-1)) hC dX10_take_26 (by decide) ?_
      refine zv_icmp_ne (tgt := 33) hC dX10_take_27 (by decide) (fun c => ?_) (fun c => ?_)
      · replace h := h.1 c
        refine zv_aload_n hC dX10_take_33 rfl ?_
        refine zv_getR (j := 1) hC fl_X10_12 dX10_take_34 rfl rfl ?_
        refine zv_iload_n hC dX10_take_37 rfl ?_
        refine zv_iload_n hC dX10_take_38 rfl ?_
        refine zv_callVi (As := [_, _]) hC dX10_take_39 Y_X3_weightOf lk_X10_101 (by decide) rfl rfl rfl (Nat.le_of_ble_eq_true rfl) (ok_X3_weightOf G h) ?_
        intro r_8 σ_7 h
        refine zv_istore_n hC dX10_take_42 (by decide) ?_
        refine zv_aload_n hC dX10_take_43 rfl ?_
        refine zv_getR (j := 1) hC fl_X10_12 dX10_take_44 rfl rfl ?_
        refine zv_iload_n hC dX10_take_47 rfl ?_
        refine zv_iload_n hC dX10_take_48 rfl ?_
        refine zv_callVv (As := [_, _]) hC dX10_take_49 Y_X3_remove lk_X10_104 (by decide) rfl rfl rfl (Nat.le_of_ble_eq_true rfl) (ok_X3_remove G h) ?_
        intro σ_9 h
        refine zv_aload_n hC dX10_take_52 rfl ?_
        refine zv_iload_n hC dX10_take_53 rfl ?_
        refine zv_callVv (As := [_]) hC dX10_take_54 Y_X10_listHasChanged lk_X10_89 (by decide) rfl rfl rfl (Nat.le_of_ble_eq_true rfl) (ok_X10_listHasChanged G h) ?_
        intro σ_10 h
        refine zv_iload_n hC dX10_take_57 rfl ?_
        exact (hR _ _ _).1 _ rfl dX10_take_58 ⟨_, rfl, h⟩
      · replace h := h.2 c
        refine zv_bipush (v := (-4)) hC dX10_take_30 (by decide) ?_
        exact (hR _ _ _).1 _ rfl dX10_take_32 ⟨_, rfl, h⟩
    · replace h := h.2 c
      exact zv_go (k_X10_take_14 hC hR  h) trivial
theorem ok_X10_take (G : zv_G) {Q : Int32 → zv_St → Prop} {x1 : Int32} {x2 : Int32} {σ : zv_St} (h : B_X10_take Q x1 x2 σ) : zv_OK G M_X10_take yX10_take [.ref (G.2.2.1 0), .int x1, .int x2] σ (zv_qi Q) := zv_ok G _ _ _ _ _ (by decide +kernel) rfl (Nat.le_of_ble_eq_true rfl) (fun X hC hR => zv_go (k_X10_take_0 hC hR h) ⟨rfl, rfl, rfl, trivial⟩)
-- X5_has
def B_X5_has_17 (Q : Int32 → zv_St → Prop) (y0 : Int32) (σ : zv_St) : Prop :=
  narrow .boolean (.int y0) = .int y0 ∧ Q y0 σ
set_option maxRecDepth 20000 in
set_option maxHeartbeats 2000000 in
theorem k_X5_has_17 {G : zv_G} {X : zv_X} {Q : Int32 → zv_St → Prop}  (hC : zv_C G X M_X5_has) (hR : zv_R G X M_X5_has (zv_qi Q))  {y0 : Int32} {σ : zv_St} (h : B_X5_has_17 Q  y0 σ) : zv_V G X M_X5_has 17 [] [.int y0] σ := by
  unfold B_X5_has_17 at h
  exact (hR _ _ _).2.1 _ rfl h.1 dX5_has_17 ⟨_, rfl, h.2⟩
def B_X5_has_16 (Q : Int32 → zv_St → Prop) (σ : zv_St) : Prop :=
  B_X5_has_17 Q 0 σ
set_option maxRecDepth 20000 in
set_option maxHeartbeats 2000000 in
theorem k_X5_has_16 {G : zv_G} {X : zv_X} {Q : Int32 → zv_St → Prop}  (hC : zv_C G X M_X5_has) (hR : zv_R G X M_X5_has (zv_qi Q))   {σ : zv_St} (h : B_X5_has_16 Q   σ) : zv_V G X M_X5_has 16 [] [] σ := by
  unfold B_X5_has_16 at h
  refine zv_iconst (v := 0) hC dX5_has_16 (by decide) ?_
  exact zv_go (k_X5_has_17 hC hR  h) trivial
def B_X5_has (Q : Int32 → zv_St → Prop) (x1 : Int32) (σ : zv_St) : Prop :=
  (x1 < 0 → (B_X5_has_16 Q σ)) ∧ (¬ x1 < 0 → (((σ.1 5 0) ≤ x1 → (B_X5_has_16 Q σ)) ∧ (¬ (σ.1 5 0) ≤ x1 → (B_X5_has_17 Q 1 σ))))
set_option maxRecDepth 20000 in
set_option maxHeartbeats 2000000 in
theorem k_X5_has_0 {G : zv_G} {X : zv_X} {Q : Int32 → zv_St → Prop}  (hC : zv_C G X M_X5_has) (hR : zv_R G X M_X5_has (zv_qi Q))  {x1 : Int32} {σ : zv_St} (h : B_X5_has Q  x1 σ) : zv_V G X M_X5_has 0 [(0, .ref (G.2.2.1 5)), (1, .int x1)] [] σ := by
  unfold B_X5_has at h
  refine zv_iload_n hC dX5_has_0 rfl ?_
  refine zv_if_lt (tgt := 16) hC dX5_has_1 (by decide) (fun c => ?_) (fun c => ?_)
  · replace h := h.1 c
    exact zv_go (k_X5_has_16 hC hR  h) trivial
  · replace h := h.2 c
    refine zv_iload_n hC dX5_has_4 rfl ?_
    refine zv_aload_n hC dX5_has_5 rfl ?_
    refine zv_getI hC fl_X5_33 dX5_has_6 rfl rfl ?_
    refine zv_icmp_ge (tgt := 16) hC dX5_has_9 (by decide) (fun c => ?_) (fun c => ?_)
    · replace h := h.1 c
      exact zv_go (k_X5_has_16 hC hR  h) trivial
    · replace h := h.2 c
      refine zv_iconst (v := 1) hC dX5_has_12 (by decide) ?_
      refine zv_goto (tgt := 17) hC dX5_has_13 (by decide) ?_
      exact zv_go (k_X5_has_17 hC hR  h) trivial
theorem ok_X5_has (G : zv_G) {Q : Int32 → zv_St → Prop} {x1 : Int32} {σ : zv_St} (h : B_X5_has Q x1 σ) : zv_OK G M_X5_has yX5_has [.ref (G.2.2.1 5), .int x1] σ (zv_qi Q) := zv_ok G _ _ _ _ _ (by decide +kernel) rfl (Nat.le_of_ble_eq_true rfl) (fun X hC hR => zv_go (k_X5_has_0 hC hR h) ⟨rfl, rfl, trivial⟩)
end
