section
-- ===== PART A: goes FIRST, ahead of the names: the tables' words, and 'selects' of the private methods out of them =====
/-- a private method of a class that the tables say can be made, by its rows of tables_1 -/
def lw_okq (q : MethodName × Nat) : Prop := (q.1.cls ≠ "java/lang/invoke/MethodHandle" ∧ q.1.cls ≠ "java/lang/invoke/VarHandle") ∧ Cond.instantiable q.1.cls q.2 ∈ tables_1 ∧ Cond.privateMethod q.1 ∈ tables_1 ∧ Cond.instanceMethod q.1 ∈ tables_1
theorem lw_p0 : lw_okq (⟨"MatchedFlows$Program", "placeNode", "(II)I"⟩, 12) := ⟨⟨by decide +kernel, by decide +kernel⟩, List.mem_of_getElem? (i := 109) (by decide +kernel), List.mem_of_getElem? (i := 182) (by decide +kernel), List.mem_of_getElem? (i := 183) (by decide +kernel)⟩
theorem lw_p1 : lw_okq (⟨"MatchedFlows", "draft", "()LMatchedFlows$Program;"⟩, 9) := ⟨⟨by decide +kernel, by decide +kernel⟩, List.mem_of_getElem? (i := 10) (by decide +kernel), List.mem_of_getElem? (i := 218) (by decide +kernel), List.mem_of_getElem? (i := 219) (by decide +kernel)⟩
theorem lw_p2 : lw_okq (⟨"MatchedFlows", "settled", "(I)I"⟩, 9) := ⟨⟨by decide +kernel, by decide +kernel⟩, List.mem_of_getElem? (i := 10) (by decide +kernel), List.mem_of_getElem? (i := 229) (by decide +kernel), List.mem_of_getElem? (i := 230) (by decide +kernel)⟩
theorem lw_p3 : lw_okq (⟨"MatchedFlows", "refused", "(I)I"⟩, 9) := ⟨⟨by decide +kernel, by decide +kernel⟩, List.mem_of_getElem? (i := 10) (by decide +kernel), List.mem_of_getElem? (i := 233) (by decide +kernel), List.mem_of_getElem? (i := 234) (by decide +kernel)⟩
theorem lw_p4 : lw_okq (⟨"MatchedFlows", "moveTo", "(I)V"⟩, 9) := ⟨⟨by decide +kernel, by decide +kernel⟩, List.mem_of_getElem? (i := 10) (by decide +kernel), List.mem_of_getElem? (i := 240) (by decide +kernel), List.mem_of_getElem? (i := 241) (by decide +kernel)⟩
theorem lw_p5 : lw_okq (⟨"MatchedFlows$Program", "addEdge", "(III)I"⟩, 12) := ⟨⟨by decide +kernel, by decide +kernel⟩, List.mem_of_getElem? (i := 109) (by decide +kernel), List.mem_of_getElem? (i := 272) (by decide +kernel), List.mem_of_getElem? (i := 273) (by decide +kernel)⟩
theorem lw_p6 : lw_okq (⟨"MatchedFlows", "partOfEdge", "(LMatchedFlows$Program;II)I"⟩, 9) := ⟨⟨by decide +kernel, by decide +kernel⟩, List.mem_of_getElem? (i := 10) (by decide +kernel), List.mem_of_getElem? (i := 346) (by decide +kernel), List.mem_of_getElem? (i := 347) (by decide +kernel)⟩
theorem lw_p7 : lw_okq (⟨"MatchedFlows$Table", "come", "(LMatchedFlows$Program;IIII)V"⟩, 13) := ⟨⟨by decide +kernel, by decide +kernel⟩, List.mem_of_getElem? (i := 20) (by decide +kernel), List.mem_of_getElem? (i := 369) (by decide +kernel), List.mem_of_getElem? (i := 370) (by decide +kernel)⟩
theorem lw_p8 : lw_okq (⟨"MatchedFlows$Table", "take", "(LMatchedFlows$Program;I)V"⟩, 13) := ⟨⟨by decide +kernel, by decide +kernel⟩, List.mem_of_getElem? (i := 20) (by decide +kernel), List.mem_of_getElem? (i := 374) (by decide +kernel), List.mem_of_getElem? (i := 375) (by decide +kernel)⟩
theorem lw_p9 : lw_okq (⟨"MatchedFlows$Table", "returnToCallers", "(LMatchedFlows$Program;I)V"⟩, 13) := ⟨⟨by decide +kernel, by decide +kernel⟩, List.mem_of_getElem? (i := 20) (by decide +kernel), List.mem_of_getElem? (i := 382) (by decide +kernel), List.mem_of_getElem? (i := 383) (by decide +kernel)⟩
theorem lw_p10 : lw_okq (⟨"MatchedFlows$Table", "landing", "(LMatchedFlows$Program;II)I"⟩, 13) := ⟨⟨by decide +kernel, by decide +kernel⟩, List.mem_of_getElem? (i := 20) (by decide +kernel), List.mem_of_getElem? (i := 395) (by decide +kernel), List.mem_of_getElem? (i := 396) (by decide +kernel)⟩
theorem lw_p11 : lw_okq (⟨"MatchedFlows$Table", "enter", "(LMatchedFlows$Program;II)V"⟩, 13) := ⟨⟨by decide +kernel, by decide +kernel⟩, List.mem_of_getElem? (i := 20) (by decide +kernel), List.mem_of_getElem? (i := 399) (by decide +kernel), List.mem_of_getElem? (i := 400) (by decide +kernel)⟩
theorem lw_p12 : lw_okq (⟨"MatchedFlows$Table", "noteSite", "(II)V"⟩, 13) := ⟨⟨by decide +kernel, by decide +kernel⟩, List.mem_of_getElem? (i := 20) (by decide +kernel), List.mem_of_getElem? (i := 403) (by decide +kernel), List.mem_of_getElem? (i := 404) (by decide +kernel)⟩
theorem lw_p13 : lw_okq (⟨"MatchedFlows$Table", "leaveAsKnown", "(LMatchedFlows$Program;III)V"⟩, 13) := ⟨⟨by decide +kernel, by decide +kernel⟩, List.mem_of_getElem? (i := 20) (by decide +kernel), List.mem_of_getElem? (i := 407) (by decide +kernel), List.mem_of_getElem? (i := 408) (by decide +kernel)⟩
theorem lw_p14 : lw_okq (⟨"MatchedFlows", "counted", "(LMatchedFlows$Program;I)I"⟩, 9) := ⟨⟨by decide +kernel, by decide +kernel⟩, List.mem_of_getElem? (i := 10) (by decide +kernel), List.mem_of_getElem? (i := 411) (by decide +kernel), List.mem_of_getElem? (i := 412) (by decide +kernel)⟩
theorem lw_p15 : lw_okq (⟨"MatchedFlows", "nodesReached", "(LMatchedFlows$Program;)I"⟩, 9) := ⟨⟨by decide +kernel, by decide +kernel⟩, List.mem_of_getElem? (i := 10) (by decide +kernel), List.mem_of_getElem? (i := 415) (by decide +kernel), List.mem_of_getElem? (i := 416) (by decide +kernel)⟩
def lw_privs_1 : List (MethodName × Nat) := [(⟨"MatchedFlows$Program", "placeNode", "(II)I"⟩, 12), (⟨"MatchedFlows", "draft", "()LMatchedFlows$Program;"⟩, 9), (⟨"MatchedFlows", "settled", "(I)I"⟩, 9), (⟨"MatchedFlows", "refused", "(I)I"⟩, 9), (⟨"MatchedFlows", "moveTo", "(I)V"⟩, 9), (⟨"MatchedFlows$Program", "addEdge", "(III)I"⟩, 12), (⟨"MatchedFlows", "partOfEdge", "(LMatchedFlows$Program;II)I"⟩, 9), (⟨"MatchedFlows$Table", "come", "(LMatchedFlows$Program;IIII)V"⟩, 13), (⟨"MatchedFlows$Table", "take", "(LMatchedFlows$Program;I)V"⟩, 13), (⟨"MatchedFlows$Table", "returnToCallers", "(LMatchedFlows$Program;I)V"⟩, 13), (⟨"MatchedFlows$Table", "landing", "(LMatchedFlows$Program;II)I"⟩, 13), (⟨"MatchedFlows$Table", "enter", "(LMatchedFlows$Program;II)V"⟩, 13), (⟨"MatchedFlows$Table", "noteSite", "(II)V"⟩, 13), (⟨"MatchedFlows$Table", "leaveAsKnown", "(LMatchedFlows$Program;III)V"⟩, 13), (⟨"MatchedFlows", "counted", "(LMatchedFlows$Program;I)I"⟩, 9), (⟨"MatchedFlows", "nodesReached", "(LMatchedFlows$Program;)I"⟩, 9)]
theorem lw_r1 : ∀ q ∈ lw_privs_1, lw_okq q := List.forall_mem_cons.mpr ⟨lw_p0, List.forall_mem_cons.mpr ⟨lw_p1, List.forall_mem_cons.mpr ⟨lw_p2, List.forall_mem_cons.mpr ⟨lw_p3, List.forall_mem_cons.mpr ⟨lw_p4, List.forall_mem_cons.mpr ⟨lw_p5, List.forall_mem_cons.mpr ⟨lw_p6, List.forall_mem_cons.mpr ⟨lw_p7, List.forall_mem_cons.mpr ⟨lw_p8, List.forall_mem_cons.mpr ⟨lw_p9, List.forall_mem_cons.mpr ⟨lw_p10, List.forall_mem_cons.mpr ⟨lw_p11, List.forall_mem_cons.mpr ⟨lw_p12, List.forall_mem_cons.mpr ⟨lw_p13, List.forall_mem_cons.mpr ⟨lw_p14, List.forall_mem_cons.mpr ⟨lw_p15, fun _ h => absurd h List.not_mem_nil⟩⟩⟩⟩⟩⟩⟩⟩⟩⟩⟩⟩⟩⟩⟩⟩
theorem lw_p16 : lw_okq (⟨"MatchedFlows$Spread", "stepAlong", "(LMatchedFlows$Program;I)Z"⟩, 2) := ⟨⟨by decide +kernel, by decide +kernel⟩, List.mem_of_getElem? (i := 71) (by decide +kernel), List.mem_of_getElem? (i := 435) (by decide +kernel), List.mem_of_getElem? (i := 436) (by decide +kernel)⟩
theorem lw_p17 : lw_okq (⟨"MatchedFlows$Spread", "addTo", "(II)Z"⟩, 2) := ⟨⟨by decide +kernel, by decide +kernel⟩, List.mem_of_getElem? (i := 71) (by decide +kernel), List.mem_of_getElem? (i := 443) (by decide +kernel), List.mem_of_getElem? (i := 444) (by decide +kernel)⟩
theorem lw_p18 : lw_okq (⟨"MatchedFlows", "partOfEntry", "(LMatchedFlows$Program;II)I"⟩, 9) := ⟨⟨by decide +kernel, by decide +kernel⟩, List.mem_of_getElem? (i := 10) (by decide +kernel), List.mem_of_getElem? (i := 462) (by decide +kernel), List.mem_of_getElem? (i := 463) (by decide +kernel)⟩
theorem lw_p19 : lw_okq (⟨"MatchedFlows$Text", "skipBlanks", "()V"⟩, 5) := ⟨⟨by decide +kernel, by decide +kernel⟩, List.mem_of_getElem? (i := 86) (by decide +kernel), List.mem_of_getElem? (i := 501) (by decide +kernel), List.mem_of_getElem? (i := 502) (by decide +kernel)⟩
theorem lw_p20 : lw_okq (⟨"MatchedFlows$Text", "readOrder", "(I)Z"⟩, 5) := ⟨⟨by decide +kernel, by decide +kernel⟩, List.mem_of_getElem? (i := 86) (by decide +kernel), List.mem_of_getElem? (i := 505) (by decide +kernel), List.mem_of_getElem? (i := 506) (by decide +kernel)⟩
theorem lw_p21 : lw_okq (⟨"MatchedFlows$Text", "readNumber", "(I)Z"⟩, 5) := ⟨⟨by decide +kernel, by decide +kernel⟩, List.mem_of_getElem? (i := 86) (by decide +kernel), List.mem_of_getElem? (i := 512) (by decide +kernel), List.mem_of_getElem? (i := 513) (by decide +kernel)⟩
theorem lw_p22 : lw_okq (⟨"MatchedFlows$Text", "isFigure", "()Z"⟩, 5) := ⟨⟨by decide +kernel, by decide +kernel⟩, List.mem_of_getElem? (i := 86) (by decide +kernel), List.mem_of_getElem? (i := 516) (by decide +kernel), List.mem_of_getElem? (i := 517) (by decide +kernel)⟩
theorem lw_p23 : lw_okq (⟨"MatchedFlows", "obeyed", "(LMatchedFlows$Program;I)I"⟩, 9) := ⟨⟨by decide +kernel, by decide +kernel⟩, List.mem_of_getElem? (i := 10) (by decide +kernel), List.mem_of_getElem? (i := 520) (by decide +kernel), List.mem_of_getElem? (i := 521) (by decide +kernel)⟩
theorem lw_p24 : lw_okq (⟨"MatchedFlows", "tally", "(I)I"⟩, 9) := ⟨⟨by decide +kernel, by decide +kernel⟩, List.mem_of_getElem? (i := 10) (by decide +kernel), List.mem_of_getElem? (i := 536) (by decide +kernel), List.mem_of_getElem? (i := 537) (by decide +kernel)⟩
theorem lw_p25 : lw_okq (⟨"MatchedFlows", "digestOfNodes", "(LMatchedFlows$Program;J)J"⟩, 9) := ⟨⟨by decide +kernel, by decide +kernel⟩, List.mem_of_getElem? (i := 10) (by decide +kernel), List.mem_of_getElem? (i := 546) (by decide +kernel), List.mem_of_getElem? (i := 547) (by decide +kernel)⟩
theorem lw_p26 : lw_okq (⟨"MatchedFlows", "digestOfEdges", "(LMatchedFlows$Program;J)J"⟩, 9) := ⟨⟨by decide +kernel, by decide +kernel⟩, List.mem_of_getElem? (i := 10) (by decide +kernel), List.mem_of_getElem? (i := 550) (by decide +kernel), List.mem_of_getElem? (i := 551) (by decide +kernel)⟩
theorem lw_p27 : lw_okq (⟨"MatchedFlowsModel", "addProc", "()I"⟩, 27) := ⟨⟨by decide +kernel, by decide +kernel⟩, List.mem_of_getElem? (i := 555) (by decide +kernel), List.mem_of_getElem? (i := 561) (by decide +kernel), List.mem_of_getElem? (i := 562) (by decide +kernel)⟩
theorem lw_p28 : lw_okq (⟨"MatchedFlowsModel", "addNode", "(II)I"⟩, 27) := ⟨⟨by decide +kernel, by decide +kernel⟩, List.mem_of_getElem? (i := 555) (by decide +kernel), List.mem_of_getElem? (i := 565) (by decide +kernel), List.mem_of_getElem? (i := 566) (by decide +kernel)⟩
theorem lw_p29 : lw_okq (⟨"MatchedFlowsModel", "no", "()I"⟩, 27) := ⟨⟨by decide +kernel, by decide +kernel⟩, List.mem_of_getElem? (i := 555) (by decide +kernel), List.mem_of_getElem? (i := 655) (by decide +kernel), List.mem_of_getElem? (i := 656) (by decide +kernel)⟩
theorem lw_p30 : lw_okq (⟨"MatchedFlowsModel", "takes", "(I)V"⟩, 27) := ⟨⟨by decide +kernel, by decide +kernel⟩, List.mem_of_getElem? (i := 555) (by decide +kernel), List.mem_of_getElem? (i := 659) (by decide +kernel), List.mem_of_getElem? (i := 660) (by decide +kernel)⟩
theorem lw_p31 : lw_okq (⟨"MatchedFlowsModel", "puts", "(I)V"⟩, 27) := ⟨⟨by decide +kernel, by decide +kernel⟩, List.mem_of_getElem? (i := 555) (by decide +kernel), List.mem_of_getElem? (i := 667) (by decide +kernel), List.mem_of_getElem? (i := 668) (by decide +kernel)⟩
def lw_privs_2 : List (MethodName × Nat) := [(⟨"MatchedFlows$Spread", "stepAlong", "(LMatchedFlows$Program;I)Z"⟩, 2), (⟨"MatchedFlows$Spread", "addTo", "(II)Z"⟩, 2), (⟨"MatchedFlows", "partOfEntry", "(LMatchedFlows$Program;II)I"⟩, 9), (⟨"MatchedFlows$Text", "skipBlanks", "()V"⟩, 5), (⟨"MatchedFlows$Text", "readOrder", "(I)Z"⟩, 5), (⟨"MatchedFlows$Text", "readNumber", "(I)Z"⟩, 5), (⟨"MatchedFlows$Text", "isFigure", "()Z"⟩, 5), (⟨"MatchedFlows", "obeyed", "(LMatchedFlows$Program;I)I"⟩, 9), (⟨"MatchedFlows", "tally", "(I)I"⟩, 9), (⟨"MatchedFlows", "digestOfNodes", "(LMatchedFlows$Program;J)J"⟩, 9), (⟨"MatchedFlows", "digestOfEdges", "(LMatchedFlows$Program;J)J"⟩, 9), (⟨"MatchedFlowsModel", "addProc", "()I"⟩, 27), (⟨"MatchedFlowsModel", "addNode", "(II)I"⟩, 27), (⟨"MatchedFlowsModel", "no", "()I"⟩, 27), (⟨"MatchedFlowsModel", "takes", "(I)V"⟩, 27), (⟨"MatchedFlowsModel", "puts", "(I)V"⟩, 27)]
theorem lw_r2 : ∀ q ∈ lw_privs_2, lw_okq q := List.forall_mem_cons.mpr ⟨lw_p16, List.forall_mem_cons.mpr ⟨lw_p17, List.forall_mem_cons.mpr ⟨lw_p18, List.forall_mem_cons.mpr ⟨lw_p19, List.forall_mem_cons.mpr ⟨lw_p20, List.forall_mem_cons.mpr ⟨lw_p21, List.forall_mem_cons.mpr ⟨lw_p22, List.forall_mem_cons.mpr ⟨lw_p23, List.forall_mem_cons.mpr ⟨lw_p24, List.forall_mem_cons.mpr ⟨lw_p25, List.forall_mem_cons.mpr ⟨lw_p26, List.forall_mem_cons.mpr ⟨lw_p27, List.forall_mem_cons.mpr ⟨lw_p28, List.forall_mem_cons.mpr ⟨lw_p29, List.forall_mem_cons.mpr ⟨lw_p30, List.forall_mem_cons.mpr ⟨lw_p31, fun _ h => absurd h List.not_mem_nil⟩⟩⟩⟩⟩⟩⟩⟩⟩⟩⟩⟩⟩⟩⟩⟩
theorem lw_p32 : lw_okq (⟨"MatchedFlowsModel", "done", "(I)I"⟩, 27) := ⟨⟨by decide +kernel, by decide +kernel⟩, List.mem_of_getElem? (i := 555) (by decide +kernel), List.mem_of_getElem? (i := 671) (by decide +kernel), List.mem_of_getElem? (i := 672) (by decide +kernel)⟩
theorem lw_p33 : lw_okq (⟨"MatchedFlowsModel", "counted", "(I)I"⟩, 27) := ⟨⟨by decide +kernel, by decide +kernel⟩, List.mem_of_getElem? (i := 555) (by decide +kernel), List.mem_of_getElem? (i := 675) (by decide +kernel), List.mem_of_getElem? (i := 676) (by decide +kernel)⟩
theorem lw_p34 : lw_okq (⟨"MatchedFlowsModel", "bad", "()I"⟩, 27) := ⟨⟨by decide +kernel, by decide +kernel⟩, List.mem_of_getElem? (i := 555) (by decide +kernel), List.mem_of_getElem? (i := 679) (by decide +kernel), List.mem_of_getElem? (i := 680) (by decide +kernel)⟩
theorem lw_p35 : lw_okq (⟨"MatchedFlowsModel", "full", "()I"⟩, 27) := ⟨⟨by decide +kernel, by decide +kernel⟩, List.mem_of_getElem? (i := 555) (by decide +kernel), List.mem_of_getElem? (i := 683) (by decide +kernel), List.mem_of_getElem? (i := 684) (by decide +kernel)⟩
theorem lw_p36 : lw_okq (⟨"MatchedFlowsModel", "leavesState", "()V"⟩, 27) := ⟨⟨by decide +kernel, by decide +kernel⟩, List.mem_of_getElem? (i := 555) (by decide +kernel), List.mem_of_getElem? (i := 687) (by decide +kernel), List.mem_of_getElem? (i := 688) (by decide +kernel)⟩
theorem lw_p37 : lw_okq (⟨"MatchedFlowsModel", "addAny", "(I)I"⟩, 27) := ⟨⟨by decide +kernel, by decide +kernel⟩, List.mem_of_getElem? (i := 555) (by decide +kernel), List.mem_of_getElem? (i := 695) (by decide +kernel), List.mem_of_getElem? (i := 696) (by decide +kernel)⟩
theorem lw_p38 : lw_okq (⟨"MatchedFlowsModel", "isProc", "(I)Z"⟩, 27) := ⟨⟨by decide +kernel, by decide +kernel⟩, List.mem_of_getElem? (i := 555) (by decide +kernel), List.mem_of_getElem? (i := 699) (by decide +kernel), List.mem_of_getElem? (i := 700) (by decide +kernel)⟩
theorem lw_p39 : lw_okq (⟨"MatchedFlowsModel", "addEdge", "(III)I"⟩, 27) := ⟨⟨by decide +kernel, by decide +kernel⟩, List.mem_of_getElem? (i := 555) (by decide +kernel), List.mem_of_getElem? (i := 710) (by decide +kernel), List.mem_of_getElem? (i := 711) (by decide +kernel)⟩
theorem lw_p40 : lw_okq (⟨"MatchedFlowsModel", "isNode", "(I)Z"⟩, 27) := ⟨⟨by decide +kernel, by decide +kernel⟩, List.mem_of_getElem? (i := 555) (by decide +kernel), List.mem_of_getElem? (i := 714) (by decide +kernel), List.mem_of_getElem? (i := 715) (by decide +kernel)⟩
theorem lw_p41 : lw_okq (⟨"MatchedFlowsModel", "procOf", "(I)I"⟩, 27) := ⟨⟨by decide +kernel, by decide +kernel⟩, List.mem_of_getElem? (i := 555) (by decide +kernel), List.mem_of_getElem? (i := 718) (by decide +kernel), List.mem_of_getElem? (i := 719) (by decide +kernel)⟩
theorem lw_p42 : lw_okq (⟨"MatchedFlowsModel", "sortOf", "(I)I"⟩, 27) := ⟨⟨by decide +kernel, by decide +kernel⟩, List.mem_of_getElem? (i := 555) (by decide +kernel), List.mem_of_getElem? (i := 722) (by decide +kernel), List.mem_of_getElem? (i := 723) (by decide +kernel)⟩
theorem lw_p43 : lw_okq (⟨"MatchedFlowsModel", "addCall", "(III)I"⟩, 27) := ⟨⟨by decide +kernel, by decide +kernel⟩, List.mem_of_getElem? (i := 555) (by decide +kernel), List.mem_of_getElem? (i := 730) (by decide +kernel), List.mem_of_getElem? (i := 731) (by decide +kernel)⟩
theorem lw_p44 : lw_okq (⟨"MatchedFlowsModel", "setFlow", "(IIII)I"⟩, 27) := ⟨⟨by decide +kernel, by decide +kernel⟩, List.mem_of_getElem? (i := 555) (by decide +kernel), List.mem_of_getElem? (i := 738) (by decide +kernel), List.mem_of_getElem? (i := 739) (by decide +kernel)⟩
theorem lw_p45 : lw_okq (⟨"MatchedFlowsModel", "isFlow", "(III)Z"⟩, 27) := ⟨⟨by decide +kernel, by decide +kernel⟩, List.mem_of_getElem? (i := 555) (by decide +kernel), List.mem_of_getElem? (i := 742) (by decide +kernel), List.mem_of_getElem? (i := 743) (by decide +kernel)⟩
theorem lw_p46 : lw_okq (⟨"MatchedFlowsModel", "isEdge", "(I)Z"⟩, 27) := ⟨⟨by decide +kernel, by decide +kernel⟩, List.mem_of_getElem? (i := 555) (by decide +kernel), List.mem_of_getElem? (i := 746) (by decide +kernel), List.mem_of_getElem? (i := 747) (by decide +kernel)⟩
theorem lw_p47 : lw_okq (⟨"MatchedFlowsModel", "edgeOf", "(II)I"⟩, 27) := ⟨⟨by decide +kernel, by decide +kernel⟩, List.mem_of_getElem? (i := 555) (by decide +kernel), List.mem_of_getElem? (i := 750) (by decide +kernel), List.mem_of_getElem? (i := 751) (by decide +kernel)⟩
def lw_privs_3 : List (MethodName × Nat) := [(⟨"MatchedFlowsModel", "done", "(I)I"⟩, 27), (⟨"MatchedFlowsModel", "counted", "(I)I"⟩, 27), (⟨"MatchedFlowsModel", "bad", "()I"⟩, 27), (⟨"MatchedFlowsModel", "full", "()I"⟩, 27), (⟨"MatchedFlowsModel", "leavesState", "()V"⟩, 27), (⟨"MatchedFlowsModel", "addAny", "(I)I"⟩, 27), (⟨"MatchedFlowsModel", "isProc", "(I)Z"⟩, 27), (⟨"MatchedFlowsModel", "addEdge", "(III)I"⟩, 27), (⟨"MatchedFlowsModel", "isNode", "(I)Z"⟩, 27), (⟨"MatchedFlowsModel", "procOf", "(I)I"⟩, 27), (⟨"MatchedFlowsModel", "sortOf", "(I)I"⟩, 27), (⟨"MatchedFlowsModel", "addCall", "(III)I"⟩, 27), (⟨"MatchedFlowsModel", "setFlow", "(IIII)I"⟩, 27), (⟨"MatchedFlowsModel", "isFlow", "(III)Z"⟩, 27), (⟨"MatchedFlowsModel", "isEdge", "(I)Z"⟩, 27), (⟨"MatchedFlowsModel", "edgeOf", "(II)I"⟩, 27)]
theorem lw_r3 : ∀ q ∈ lw_privs_3, lw_okq q := List.forall_mem_cons.mpr ⟨lw_p32, List.forall_mem_cons.mpr ⟨lw_p33, List.forall_mem_cons.mpr ⟨lw_p34, List.forall_mem_cons.mpr ⟨lw_p35, List.forall_mem_cons.mpr ⟨lw_p36, List.forall_mem_cons.mpr ⟨lw_p37, List.forall_mem_cons.mpr ⟨lw_p38, List.forall_mem_cons.mpr ⟨lw_p39, List.forall_mem_cons.mpr ⟨lw_p40, List.forall_mem_cons.mpr ⟨lw_p41, List.forall_mem_cons.mpr ⟨lw_p42, List.forall_mem_cons.mpr ⟨lw_p43, List.forall_mem_cons.mpr ⟨lw_p44, List.forall_mem_cons.mpr ⟨lw_p45, List.forall_mem_cons.mpr ⟨lw_p46, List.forall_mem_cons.mpr ⟨lw_p47, fun _ h => absurd h List.not_mem_nil⟩⟩⟩⟩⟩⟩⟩⟩⟩⟩⟩⟩⟩⟩⟩⟩
theorem lw_p48 : lw_okq (⟨"MatchedFlowsModel", "flowOf", "(III)I"⟩, 27) := ⟨⟨by decide +kernel, by decide +kernel⟩, List.mem_of_getElem? (i := 555) (by decide +kernel), List.mem_of_getElem? (i := 754) (by decide +kernel), List.mem_of_getElem? (i := 755) (by decide +kernel)⟩
theorem lw_p49 : lw_okq (⟨"MatchedFlowsModel", "setStart", "(I)I"⟩, 27) := ⟨⟨by decide +kernel, by decide +kernel⟩, List.mem_of_getElem? (i := 555) (by decide +kernel), List.mem_of_getElem? (i := 762) (by decide +kernel), List.mem_of_getElem? (i := 763) (by decide +kernel)⟩
theorem lw_p50 : lw_okq (⟨"MatchedFlowsModel", "cutEdge", "(I)I"⟩, 27) := ⟨⟨by decide +kernel, by decide +kernel⟩, List.mem_of_getElem? (i := 555) (by decide +kernel), List.mem_of_getElem? (i := 770) (by decide +kernel), List.mem_of_getElem? (i := 771) (by decide +kernel)⟩
theorem lw_p51 : lw_okq (⟨"MatchedFlowsModel", "countOf", "(I)I"⟩, 27) := ⟨⟨by decide +kernel, by decide +kernel⟩, List.mem_of_getElem? (i := 555) (by decide +kernel), List.mem_of_getElem? (i := 790) (by decide +kernel), List.mem_of_getElem? (i := 791) (by decide +kernel)⟩
theorem lw_p52 : lw_okq (⟨"MatchedFlowsModel", "knows", "()V"⟩, 27) := ⟨⟨by decide +kernel, by decide +kernel⟩, List.mem_of_getElem? (i := 555) (by decide +kernel), List.mem_of_getElem? (i := 794) (by decide +kernel), List.mem_of_getElem? (i := 795) (by decide +kernel)⟩
theorem lw_p53 : lw_okq (⟨"MatchedFlowsModel", "clearTable", "()V"⟩, 27) := ⟨⟨by decide +kernel, by decide +kernel⟩, List.mem_of_getElem? (i := 555) (by decide +kernel), List.mem_of_getElem? (i := 798) (by decide +kernel), List.mem_of_getElem? (i := 799) (by decide +kernel)⟩
theorem lw_p54 : lw_okq (⟨"MatchedFlowsModel", "comes", "(IIIII)V"⟩, 27) := ⟨⟨by decide +kernel, by decide +kernel⟩, List.mem_of_getElem? (i := 555) (by decide +kernel), List.mem_of_getElem? (i := 802) (by decide +kernel), List.mem_of_getElem? (i := 803) (by decide +kernel)⟩
theorem lw_p55 : lw_okq (⟨"MatchedFlowsModel", "fills", "()V"⟩, 27) := ⟨⟨by decide +kernel, by decide +kernel⟩, List.mem_of_getElem? (i := 555) (by decide +kernel), List.mem_of_getElem? (i := 809) (by decide +kernel), List.mem_of_getElem? (i := 810) (by decide +kernel)⟩
theorem lw_p56 : lw_okq (⟨"MatchedFlowsModel", "takesEntry", "(I)V"⟩, 27) := ⟨⟨by decide +kernel, by decide +kernel⟩, List.mem_of_getElem? (i := 555) (by decide +kernel), List.mem_of_getElem? (i := 813) (by decide +kernel), List.mem_of_getElem? (i := 814) (by decide +kernel)⟩
theorem lw_p57 : lw_okq (⟨"MatchedFlowsModel", "allCome", "(IIIII)V"⟩, 27) := ⟨⟨by decide +kernel, by decide +kernel⟩, List.mem_of_getElem? (i := 555) (by decide +kernel), List.mem_of_getElem? (i := 817) (by decide +kernel), List.mem_of_getElem? (i := 818) (by decide +kernel)⟩
theorem lw_p58 : lw_okq (⟨"MatchedFlowsModel", "takesCall", "(II)V"⟩, 27) := ⟨⟨by decide +kernel, by decide +kernel⟩, List.mem_of_getElem? (i := 555) (by decide +kernel), List.mem_of_getElem? (i := 821) (by decide +kernel), List.mem_of_getElem? (i := 822) (by decide +kernel)⟩
theorem lw_p59 : lw_okq (⟨"MatchedFlowsModel", "notes", "(IIII)V"⟩, 27) := ⟨⟨by decide +kernel, by decide +kernel⟩, List.mem_of_getElem? (i := 555) (by decide +kernel), List.mem_of_getElem? (i := 825) (by decide +kernel), List.mem_of_getElem? (i := 826) (by decide +kernel)⟩
theorem lw_p60 : lw_okq (⟨"MatchedFlowsModel", "held", "(I)I"⟩, 27) := ⟨⟨by decide +kernel, by decide +kernel⟩, List.mem_of_getElem? (i := 555) (by decide +kernel), List.mem_of_getElem? (i := 829) (by decide +kernel), List.mem_of_getElem? (i := 830) (by decide +kernel)⟩
theorem lw_p61 : lw_okq (⟨"MatchedFlowsModel", "holdsAt", "(I)I"⟩, 27) := ⟨⟨by decide +kernel, by decide +kernel⟩, List.mem_of_getElem? (i := 555) (by decide +kernel), List.mem_of_getElem? (i := 837) (by decide +kernel), List.mem_of_getElem? (i := 838) (by decide +kernel)⟩
theorem lw_p62 : lw_okq (⟨"MatchedFlowsModel", "looseAt", "(I)I"⟩, 27) := ⟨⟨by decide +kernel, by decide +kernel⟩, List.mem_of_getElem? (i := 555) (by decide +kernel), List.mem_of_getElem? (i := 845) (by decide +kernel), List.mem_of_getElem? (i := 846) (by decide +kernel)⟩
theorem lw_p63 : lw_okq (⟨"MatchedFlowsModel", "loosens", "()V"⟩, 27) := ⟨⟨by decide +kernel, by decide +kernel⟩, List.mem_of_getElem? (i := 555) (by decide +kernel), List.mem_of_getElem? (i := 849) (by decide +kernel), List.mem_of_getElem? (i := 850) (by decide +kernel)⟩
def lw_privs_4 : List (MethodName × Nat) := [(⟨"MatchedFlowsModel", "flowOf", "(III)I"⟩, 27), (⟨"MatchedFlowsModel", "setStart", "(I)I"⟩, 27), (⟨"MatchedFlowsModel", "cutEdge", "(I)I"⟩, 27), (⟨"MatchedFlowsModel", "countOf", "(I)I"⟩, 27), (⟨"MatchedFlowsModel", "knows", "()V"⟩, 27), (⟨"MatchedFlowsModel", "clearTable", "()V"⟩, 27), (⟨"MatchedFlowsModel", "comes", "(IIIII)V"⟩, 27), (⟨"MatchedFlowsModel", "fills", "()V"⟩, 27), (⟨"MatchedFlowsModel", "takesEntry", "(I)V"⟩, 27), (⟨"MatchedFlowsModel", "allCome", "(IIIII)V"⟩, 27), (⟨"MatchedFlowsModel", "takesCall", "(II)V"⟩, 27), (⟨"MatchedFlowsModel", "notes", "(IIII)V"⟩, 27), (⟨"MatchedFlowsModel", "held", "(I)I"⟩, 27), (⟨"MatchedFlowsModel", "holdsAt", "(I)I"⟩, 27), (⟨"MatchedFlowsModel", "looseAt", "(I)I"⟩, 27), (⟨"MatchedFlowsModel", "loosens", "()V"⟩, 27)]
theorem lw_r4 : ∀ q ∈ lw_privs_4, lw_okq q := List.forall_mem_cons.mpr ⟨lw_p48, List.forall_mem_cons.mpr ⟨lw_p49, List.forall_mem_cons.mpr ⟨lw_p50, List.forall_mem_cons.mpr ⟨lw_p51, List.forall_mem_cons.mpr ⟨lw_p52, List.forall_mem_cons.mpr ⟨lw_p53, List.forall_mem_cons.mpr ⟨lw_p54, List.forall_mem_cons.mpr ⟨lw_p55, List.forall_mem_cons.mpr ⟨lw_p56, List.forall_mem_cons.mpr ⟨lw_p57, List.forall_mem_cons.mpr ⟨lw_p58, List.forall_mem_cons.mpr ⟨lw_p59, List.forall_mem_cons.mpr ⟨lw_p60, List.forall_mem_cons.mpr ⟨lw_p61, List.forall_mem_cons.mpr ⟨lw_p62, List.forall_mem_cons.mpr ⟨lw_p63, fun _ h => absurd h List.not_mem_nil⟩⟩⟩⟩⟩⟩⟩⟩⟩⟩⟩⟩⟩⟩⟩⟩
theorem lw_p64 : lw_okq (⟨"MatchedFlowsModel", "carried", "(III)I"⟩, 27) := ⟨⟨by decide +kernel, by decide +kernel⟩, List.mem_of_getElem? (i := 555) (by decide +kernel), List.mem_of_getElem? (i := 853) (by decide +kernel), List.mem_of_getElem? (i := 854) (by decide +kernel)⟩
theorem lw_p65 : lw_okq (⟨"MatchedFlowsModel", "spells", "(I)V"⟩, 27) := ⟨⟨by decide +kernel, by decide +kernel⟩, List.mem_of_getElem? (i := 555) (by decide +kernel), List.mem_of_getElem? (i := 873) (by decide +kernel), List.mem_of_getElem? (i := 874) (by decide +kernel)⟩
theorem lw_p66 : lw_okq (⟨"MatchedFlowsModel", "blanks", "()V"⟩, 27) := ⟨⟨by decide +kernel, by decide +kernel⟩, List.mem_of_getElem? (i := 555) (by decide +kernel), List.mem_of_getElem? (i := 889) (by decide +kernel), List.mem_of_getElem? (i := 890) (by decide +kernel)⟩
theorem lw_p67 : lw_okq (⟨"MatchedFlowsModel", "byteAt", "(I)I"⟩, 27) := ⟨⟨by decide +kernel, by decide +kernel⟩, List.mem_of_getElem? (i := 555) (by decide +kernel), List.mem_of_getElem? (i := 893) (by decide +kernel), List.mem_of_getElem? (i := 894) (by decide +kernel)⟩
theorem lw_p68 : lw_okq (⟨"MatchedFlowsModel", "reads", "()Z"⟩, 27) := ⟨⟨by decide +kernel, by decide +kernel⟩, List.mem_of_getElem? (i := 555) (by decide +kernel), List.mem_of_getElem? (i := 897) (by decide +kernel), List.mem_of_getElem? (i := 898) (by decide +kernel)⟩
theorem lw_p69 : lw_okq (⟨"MatchedFlowsModel", "number", "()I"⟩, 27) := ⟨⟨by decide +kernel, by decide +kernel⟩, List.mem_of_getElem? (i := 555) (by decide +kernel), List.mem_of_getElem? (i := 904) (by decide +kernel), List.mem_of_getElem? (i := 905) (by decide +kernel)⟩
theorem lw_p70 : lw_okq (⟨"MatchedFlowsModel", "isFigure", "(I)Z"⟩, 27) := ⟨⟨by decide +kernel, by decide +kernel⟩, List.mem_of_getElem? (i := 555) (by decide +kernel), List.mem_of_getElem? (i := 908) (by decide +kernel), List.mem_of_getElem? (i := 909) (by decide +kernel)⟩
theorem lw_p71 : lw_okq (⟨"MatchedFlowsModel", "acted", "(I)I"⟩, 27) := ⟨⟨by decide +kernel, by decide +kernel⟩, List.mem_of_getElem? (i := 555) (by decide +kernel), List.mem_of_getElem? (i := 912) (by decide +kernel), List.mem_of_getElem? (i := 913) (by decide +kernel)⟩
theorem lw_p72 : lw_okq (⟨"MatchedFlowsModel", "toldOf", "(I)I"⟩, 27) := ⟨⟨by decide +kernel, by decide +kernel⟩, List.mem_of_getElem? (i := 555) (by decide +kernel), List.mem_of_getElem? (i := 920) (by decide +kernel), List.mem_of_getElem? (i := 921) (by decide +kernel)⟩
def lw_privs_5 : List (MethodName × Nat) := [(⟨"MatchedFlowsModel", "carried", "(III)I"⟩, 27), (⟨"MatchedFlowsModel", "spells", "(I)V"⟩, 27), (⟨"MatchedFlowsModel", "blanks", "()V"⟩, 27), (⟨"MatchedFlowsModel", "byteAt", "(I)I"⟩, 27), (⟨"MatchedFlowsModel", "reads", "()Z"⟩, 27), (⟨"MatchedFlowsModel", "number", "()I"⟩, 27), (⟨"MatchedFlowsModel", "isFigure", "(I)Z"⟩, 27), (⟨"MatchedFlowsModel", "acted", "(I)I"⟩, 27), (⟨"MatchedFlowsModel", "toldOf", "(I)I"⟩, 27)]
theorem lw_r5 : ∀ q ∈ lw_privs_5, lw_okq q := List.forall_mem_cons.mpr ⟨lw_p64, List.forall_mem_cons.mpr ⟨lw_p65, List.forall_mem_cons.mpr ⟨lw_p66, List.forall_mem_cons.mpr ⟨lw_p67, List.forall_mem_cons.mpr ⟨lw_p68, List.forall_mem_cons.mpr ⟨lw_p69, List.forall_mem_cons.mpr ⟨lw_p70, List.forall_mem_cons.mpr ⟨lw_p71, List.forall_mem_cons.mpr ⟨lw_p72, fun _ h => absurd h List.not_mem_nil⟩⟩⟩⟩⟩⟩⟩⟩⟩
def lw_privs : List (MethodName × Nat) := lw_privs_1 ++ (lw_privs_2 ++ (lw_privs_3 ++ (lw_privs_4 ++ (lw_privs_5))))
def lw_tbl : List Cond := k2_sels lw_privs ++ tables_1
theorem lw_privs_ok : ∀ q ∈ lw_privs, lw_okq q := by
  show ∀ q ∈ lw_privs_1 ++ (lw_privs_2 ++ (lw_privs_3 ++ (lw_privs_4 ++ (lw_privs_5)))), lw_okq q
  exact List.forall_mem_append.mpr ⟨lw_r1, List.forall_mem_append.mpr ⟨lw_r2, List.forall_mem_append.mpr ⟨lw_r3, List.forall_mem_append.mpr ⟨lw_r4, lw_r5⟩⟩⟩⟩
end
section
def RX0 : String := "MatchedFlows$Program"
def TX0 : u_T := fun k => match k with
  | 0 => ("MatchedFlows$Program", "procs", "I", false)
  | 1 => ("MatchedFlows$Program", "nodes", "I", false)
  | 2 => ("MatchedFlows$Program", "edges", "I", false)
  | 3 => ("MatchedFlows$Program", "start", "I", false)
  | 4 => ("MatchedFlows$Program", "entryOf", "[I", true)
  | 5 => ("MatchedFlows$Program", "exitOf", "[I", true)
  | 6 => ("MatchedFlows$Program", "procOf", "[I", true)
  | 7 => ("MatchedFlows$Program", "kindOf", "[I", true)
  | 8 => ("MatchedFlows$Program", "from", "[I", true)
  | 9 => ("MatchedFlows$Program", "to", "[I", true)
  | 10 => ("MatchedFlows$Program", "callee", "[I", true)
  | _ => ("MatchedFlows$Program", "flow", "[J", true)
def tyX0 : Nat → FieldType := fun k => match k with
  | 0 => .int
  | 1 => .int
  | 2 => .int
  | 3 => .int
  | 4 => .array .int
  | 5 => .array .int
  | 6 => .array .int
  | 7 => .array .int
  | 8 => .array .int
  | 9 => .array .int
  | 10 => .array .int
  | _ => .array .long
abbrev wsX00 : List Cond := u_ws RX0 TX0 12
theorem nmX0 : ∀ a, a < 12 → ∀ b, b < 12 → a ≠ b → (TX0 a).2.1 ≠ (TX0 b).2.1 := by decide +kernel
theorem tyX0_ok : ∀ k, k < 12 → parseFieldDescriptor (TX0 k).2.2.1 = some (tyX0 k) := by decide +kernel
abbrev cX0_init : ByteArray := prog_2_method_1_code
def yX0_init : MethodName := ⟨RX0, "<init>", "()V"⟩
abbrev cX0_copy : ByteArray := prog_2_method_2_code
def yX0_copy : MethodName := ⟨RX0, "copy", "(LMatchedFlows$Program;)V"⟩
abbrev cX0_isProc : ByteArray := prog_2_method_3_code
def yX0_isProc : MethodName := ⟨RX0, "isProc", "(I)Z"⟩
abbrev cX0_isNode : ByteArray := prog_2_method_4_code
def yX0_isNode : MethodName := ⟨RX0, "isNode", "(I)Z"⟩
abbrev cX0_isEdge : ByteArray := prog_2_method_5_code
def yX0_isEdge : MethodName := ⟨RX0, "isEdge", "(I)Z"⟩
abbrev cX0_joins : ByteArray := prog_2_method_6_code
def yX0_joins : MethodName := ⟨RX0, "joins", "(II)Z"⟩
abbrev cX0_flowsOf : ByteArray := prog_2_method_7_code
def yX0_flowsOf : MethodName := ⟨RX0, "flowsOf", "(I)I"⟩
abbrev cX0_hasFlow : ByteArray := prog_2_method_8_code
def yX0_hasFlow : MethodName := ⟨RX0, "hasFlow", "(II)Z"⟩
abbrev cX0_reach : ByteArray := prog_2_method_9_code
def yX0_reach : MethodName := ⟨RX0, "reach", "(III)I"⟩
abbrev cX0_carry : ByteArray := prog_2_method_10_code
def yX0_carry : MethodName := ⟨RX0, "carry", "(III)I"⟩
abbrev cX0_addProc : ByteArray := prog_2_method_11_code
def yX0_addProc : MethodName := ⟨RX0, "addProc", "()I"⟩
abbrev cX0_addNode : ByteArray := prog_2_method_12_code
def yX0_addNode : MethodName := ⟨RX0, "addNode", "(I)I"⟩
abbrev cX0_placeNode : ByteArray := prog_2_method_13_code
def yX0_placeNode : MethodName := ⟨RX0, "placeNode", "(II)I"⟩
abbrev cX0_addPlain : ByteArray := prog_2_method_14_code
def yX0_addPlain : MethodName := ⟨RX0, "addPlain", "(II)I"⟩
abbrev cX0_addCall : ByteArray := prog_2_method_15_code
def yX0_addCall : MethodName := ⟨RX0, "addCall", "(III)I"⟩
abbrev cX0_addEdge : ByteArray := prog_2_method_16_code
def yX0_addEdge : MethodName := ⟨RX0, "addEdge", "(III)I"⟩
abbrev cX0_setFlow : ByteArray := prog_2_method_17_code
def yX0_setFlow : MethodName := ⟨RX0, "setFlow", "(IIII)I"⟩
abbrev cX0_setStart : ByteArray := prog_2_method_18_code
def yX0_setStart : MethodName := ⟨RX0, "setStart", "(I)I"⟩
abbrev cX0_cutEdge : ByteArray := prog_2_method_19_code
def yX0_cutEdge : MethodName := ⟨RX0, "cutEdge", "(I)I"⟩
def RX1 : String := "MatchedFlows$Spread"
def TX1 : u_T := fun k => match k with
  | 0 => ("MatchedFlows$Spread", "ready", "Z", false)
  | _ => ("MatchedFlows$Spread", "reached", "[I", true)
def tyX1 : Nat → FieldType := fun k => match k with
  | 0 => .boolean
  | _ => .array .int
abbrev wsX10 : List Cond := u_ws RX1 TX1 2
theorem nmX1 : ∀ a, a < 2 → ∀ b, b < 2 → a ≠ b → (TX1 a).2.1 ≠ (TX1 b).2.1 := by decide +kernel
theorem tyX1_ok : ∀ k, k < 2 → parseFieldDescriptor (TX1 k).2.2.1 = some (tyX1 k) := by decide +kernel
abbrev cX1_init : ByteArray := prog_3_method_1_code
def yX1_init : MethodName := ⟨RX1, "<init>", "()V"⟩
abbrev cX1_fill : ByteArray := prog_3_method_2_code
def yX1_fill : MethodName := ⟨RX1, "fill", "(LMatchedFlows$Program;)V"⟩
abbrev cX1_stepAlong : ByteArray := prog_3_method_3_code
def yX1_stepAlong : MethodName := ⟨RX1, "stepAlong", "(LMatchedFlows$Program;I)Z"⟩
abbrev cX1_addTo : ByteArray := prog_3_method_4_code
def yX1_addTo : MethodName := ⟨RX1, "addTo", "(II)Z"⟩
def RX2 : String := "MatchedFlows$Table"
def TX2 : u_T := fun k => match k with
  | 0 => ("MatchedFlows$Table", "ready", "Z", false)
  | 1 => ("MatchedFlows$Table", "seedProc", "I", false)
  | 2 => ("MatchedFlows$Table", "seedFacts", "I", false)
  | 3 => ("MatchedFlows$Table", "size", "I", false)
  | 4 => ("MatchedFlows$Table", "seen", "[I", true)
  | 5 => ("MatchedFlows$Table", "keys", "[I", true)
  | 6 => ("MatchedFlows$Table", "placeOf", "[I", true)
  | 7 => ("MatchedFlows$Table", "before", "[I", true)
  | 8 => ("MatchedFlows$Table", "through", "[I", true)
  | 9 => ("MatchedFlows$Table", "way", "[I", true)
  | 10 => ("MatchedFlows$Table", "inner", "[I", true)
  | 11 => ("MatchedFlows$Table", "sites", "[I", true)
  | _ => ("MatchedFlows$Table", "siteCount", "I", false)
def tyX2 : Nat → FieldType := fun k => match k with
  | 0 => .boolean
  | 1 => .int
  | 2 => .int
  | 3 => .int
  | 4 => .array .int
  | 5 => .array .int
  | 6 => .array .int
  | 7 => .array .int
  | 8 => .array .int
  | 9 => .array .int
  | 10 => .array .int
  | 11 => .array .int
  | _ => .int
abbrev wsX20 : List Cond := u_ws RX2 TX2 13
theorem nmX2 : ∀ a, a < 13 → ∀ b, b < 13 → a ≠ b → (TX2 a).2.1 ≠ (TX2 b).2.1 := by decide +kernel
theorem tyX2_ok : ∀ k, k < 13 → parseFieldDescriptor (TX2 k).2.2.1 = some (tyX2 k) := by decide +kernel
abbrev cX2_init : ByteArray := prog_4_method_1_code
def yX2_init : MethodName := ⟨RX2, "<init>", "()V"⟩
abbrev cX2_fill : ByteArray := prog_4_method_2_code
def yX2_fill : MethodName := ⟨RX2, "fill", "(LMatchedFlows$Program;II)V"⟩
abbrev cX2_factsAt : ByteArray := prog_4_method_3_code
def yX2_factsAt : MethodName := ⟨RX2, "factsAt", "(I)I"⟩
abbrev cX2_nodeOf : ByteArray := prog_4_method_4_code
def yX2_nodeOf : MethodName := ⟨RX2, "nodeOf", "(I)I"⟩
abbrev cX2_factAtEntry : ByteArray := prog_4_method_5_code
def yX2_factAtEntry : MethodName := ⟨RX2, "factAtEntry", "(I)I"⟩
abbrev cX2_factOf : ByteArray := prog_4_method_6_code
def yX2_factOf : MethodName := ⟨RX2, "factOf", "(I)I"⟩
abbrev cX2_firstWith : ByteArray := prog_4_method_7_code
def yX2_firstWith : MethodName := ⟨RX2, "firstWith", "(II)I"⟩
abbrev cX2_pairOfWay : ByteArray := prog_4_method_8_code
def yX2_pairOfWay : MethodName := ⟨RX2, "pairOfWay", "(II)I"⟩
abbrev cX2_take : ByteArray := prog_4_method_9_code
def yX2_take : MethodName := ⟨RX2, "take", "(LMatchedFlows$Program;I)V"⟩
abbrev cX2_landing : ByteArray := prog_4_method_10_code
def yX2_landing : MethodName := ⟨RX2, "landing", "(LMatchedFlows$Program;II)I"⟩
abbrev cX2_enter : ByteArray := prog_4_method_11_code
def yX2_enter : MethodName := ⟨RX2, "enter", "(LMatchedFlows$Program;II)V"⟩
abbrev cX2_noteSite : ByteArray := prog_4_method_12_code
def yX2_noteSite : MethodName := ⟨RX2, "noteSite", "(II)V"⟩
abbrev cX2_leaveAsKnown : ByteArray := prog_4_method_13_code
def yX2_leaveAsKnown : MethodName := ⟨RX2, "leaveAsKnown", "(LMatchedFlows$Program;III)V"⟩
abbrev cX2_returnToCallers : ByteArray := prog_4_method_14_code
def yX2_returnToCallers : MethodName := ⟨RX2, "returnToCallers", "(LMatchedFlows$Program;I)V"⟩
abbrev cX2_come : ByteArray := prog_4_method_15_code
def yX2_come : MethodName := ⟨RX2, "come", "(LMatchedFlows$Program;IIII)V"⟩
def RX3 : String := "MatchedFlows$Text"
def TX3 : u_T := fun k => match k with
  | 0 => ("MatchedFlows$Text", "length", "I", false)
  | 1 => ("MatchedFlows$Text", "orders", "I", false)
  | 2 => ("MatchedFlows$Text", "bytes", "[I", true)
  | 3 => ("MatchedFlows$Text", "parts", "[I", true)
  | _ => ("MatchedFlows$Text", "place", "I", false)
def tyX3 : Nat → FieldType := fun k => match k with
  | 0 => .int
  | 1 => .int
  | 2 => .array .int
  | 3 => .array .int
  | _ => .int
abbrev wsX30 : List Cond := u_ws RX3 TX3 5
theorem nmX3 : ∀ a, a < 5 → ∀ b, b < 5 → a ≠ b → (TX3 a).2.1 ≠ (TX3 b).2.1 := by decide +kernel
theorem tyX3_ok : ∀ k, k < 5 → parseFieldDescriptor (TX3 k).2.2.1 = some (tyX3 k) := by decide +kernel
abbrev cX3_init : ByteArray := prog_5_method_1_code
def yX3_init : MethodName := ⟨RX3, "<init>", "()V"⟩
abbrev cX3_append : ByteArray := prog_5_method_2_code
def yX3_append : MethodName := ⟨RX3, "append", "(I)Z"⟩
abbrev cX3_part : ByteArray := prog_5_method_3_code
def yX3_part : MethodName := ⟨RX3, "part", "(II)I"⟩
abbrev cX3_read : ByteArray := prog_5_method_4_code
def yX3_read : MethodName := ⟨RX3, "read", "()I"⟩
abbrev cX3_readOrder : ByteArray := prog_5_method_5_code
def yX3_readOrder : MethodName := ⟨RX3, "readOrder", "(I)Z"⟩
abbrev cX3_readNumber : ByteArray := prog_5_method_6_code
def yX3_readNumber : MethodName := ⟨RX3, "readNumber", "(I)Z"⟩
abbrev cX3_skipBlanks : ByteArray := prog_5_method_7_code
def yX3_skipBlanks : MethodName := ⟨RX3, "skipBlanks", "()V"⟩
abbrev cX3_isFigure : ByteArray := prog_5_method_8_code
def yX3_isFigure : MethodName := ⟨RX3, "isFigure", "()Z"⟩
abbrev cX3_numbersBehind : ByteArray := prog_5_method_9_code
def yX3_numbersBehind : MethodName := ⟨RX3, "numbersBehind", "(I)I"⟩
def RX4 : String := "MatchedFlows"
def TX4 : u_T := fun k => match k with
  | 0 => ("MatchedFlows", "rows", "[LMatchedFlows$Program;", true)
  | 1 => ("MatchedFlows", "now", "I", false)
  | 2 => ("MatchedFlows", "states", "I", false)
  | 3 => ("MatchedFlows", "table", "LMatchedFlows$Table;", true)
  | 4 => ("MatchedFlows", "spread", "LMatchedFlows$Spread;", true)
  | 5 => ("MatchedFlows", "text", "LMatchedFlows$Text;", true)
  | 6 => ("MatchedFlows", "timesBad", "I", false)
  | 7 => ("MatchedFlows", "timesNo", "I", false)
  | _ => ("MatchedFlows", "timesFull", "I", false)
def tyX4 : Nat → FieldType := fun k => match k with
  | 0 => .array (.object "MatchedFlows$Program")
  | 1 => .int
  | 2 => .int
  | 3 => .object "MatchedFlows$Table"
  | 4 => .object "MatchedFlows$Spread"
  | 5 => .object "MatchedFlows$Text"
  | 6 => .int
  | 7 => .int
  | _ => .int
abbrev wsX40 : List Cond := u_ws RX4 TX4 9
theorem nmX4 : ∀ a, a < 9 → ∀ b, b < 9 → a ≠ b → (TX4 a).2.1 ≠ (TX4 b).2.1 := by decide +kernel
theorem tyX4_ok : ∀ k, k < 9 → parseFieldDescriptor (TX4 k).2.2.1 = some (tyX4 k) := by decide +kernel
abbrev cX4_init : ByteArray := prog_1_method_1_code
def yX4_init : MethodName := ⟨RX4, "<init>", "()V"⟩
abbrev cX4_proc : ByteArray := prog_1_method_2_code
def yX4_proc : MethodName := ⟨RX4, "proc", "()I"⟩
abbrev cX4_node : ByteArray := prog_1_method_3_code
def yX4_node : MethodName := ⟨RX4, "node", "(I)I"⟩
abbrev cX4_edge : ByteArray := prog_1_method_4_code
def yX4_edge : MethodName := ⟨RX4, "edge", "(II)I"⟩
abbrev cX4_call : ByteArray := prog_1_method_5_code
def yX4_call : MethodName := ⟨RX4, "call", "(III)I"⟩
abbrev cX4_flows : ByteArray := prog_1_method_6_code
def yX4_flows : MethodName := ⟨RX4, "flows", "(IIII)I"⟩
abbrev cX4_starts : ByteArray := prog_1_method_7_code
def yX4_starts : MethodName := ⟨RX4, "starts", "(I)I"⟩
abbrev cX4_cuts : ByteArray := prog_1_method_8_code
def yX4_cuts : MethodName := ⟨RX4, "cuts", "(I)I"⟩
abbrev cX4_at : ByteArray := prog_1_method_9_code
def yX4_at : MethodName := ⟨RX4, "at", "(II)I"⟩
abbrev cX4_about : ByteArray := prog_1_method_10_code
def yX4_about : MethodName := ⟨RX4, "about", "(II)I"⟩
abbrev cX4_goes : ByteArray := prog_1_method_11_code
def yX4_goes : MethodName := ⟨RX4, "goes", "(III)I"⟩
abbrev cX4_count : ByteArray := prog_1_method_12_code
def yX4_count : MethodName := ⟨RX4, "count", "(I)I"⟩
abbrev cX4_holds : ByteArray := prog_1_method_13_code
def yX4_holds : MethodName := ⟨RX4, "holds", "(I)I"⟩
abbrev cX4_loose : ByteArray := prog_1_method_14_code
def yX4_loose : MethodName := ⟨RX4, "loose", "(I)I"⟩
abbrev cX4_origins : ByteArray := prog_1_method_15_code
def yX4_origins : MethodName := ⟨RX4, "origins", "(II)I"⟩
abbrev cX4_summary : ByteArray := prog_1_method_16_code
def yX4_summary : MethodName := ⟨RX4, "summary", "(II)I"⟩
abbrev cX4_entry : ByteArray := prog_1_method_17_code
def yX4_entry : MethodName := ⟨RX4, "entry", "(II)I"⟩
abbrev cX4_witness : ByteArray := prog_1_method_18_code
def yX4_witness : MethodName := ⟨RX4, "witness", "(III)I"⟩
abbrev cX4_type : ByteArray := prog_1_method_19_code
def yX4_type : MethodName := ⟨RX4, "type", "(I)I"⟩
abbrev cX4_clear : ByteArray := prog_1_method_20_code
def yX4_clear : MethodName := ⟨RX4, "clear", "()I"⟩
abbrev cX4_does : ByteArray := prog_1_method_21_code
def yX4_does : MethodName := ⟨RX4, "does", "()I"⟩
abbrev cX4_back : ByteArray := prog_1_method_22_code
def yX4_back : MethodName := ⟨RX4, "back", "()I"⟩
abbrev cX4_told : ByteArray := prog_1_method_23_code
def yX4_told : MethodName := ⟨RX4, "told", "(I)I"⟩
abbrev cX4_digest : ByteArray := prog_1_method_24_code
def yX4_digest : MethodName := ⟨RX4, "digest", "()J"⟩
abbrev cX4_isFact : ByteArray := prog_1_method_25_code
def yX4_isFact : MethodName := ⟨RX4, "isFact", "(I)Z"⟩
abbrev cX4_isFacts : ByteArray := prog_1_method_26_code
def yX4_isFacts : MethodName := ⟨RX4, "isFacts", "(I)Z"⟩
abbrev cX4_has : ByteArray := prog_1_method_27_code
def yX4_has : MethodName := ⟨RX4, "has", "(II)Z"⟩
abbrev cX4_cell : ByteArray := prog_1_method_28_code
def yX4_cell : MethodName := ⟨RX4, "cell", "(II)I"⟩
abbrev cX4_draft : ByteArray := prog_1_method_29_code
def yX4_draft : MethodName := ⟨RX4, "draft", "()LMatchedFlows$Program;"⟩
abbrev cX4_settled : ByteArray := prog_1_method_30_code
def yX4_settled : MethodName := ⟨RX4, "settled", "(I)I"⟩
abbrev cX4_moveTo : ByteArray := prog_1_method_31_code
def yX4_moveTo : MethodName := ⟨RX4, "moveTo", "(I)V"⟩
abbrev cX4_refused : ByteArray := prog_1_method_32_code
def yX4_refused : MethodName := ⟨RX4, "refused", "(I)I"⟩
abbrev cX4_partOfEdge : ByteArray := prog_1_method_33_code
def yX4_partOfEdge : MethodName := ⟨RX4, "partOfEdge", "(LMatchedFlows$Program;II)I"⟩
abbrev cX4_partOfEntry : ByteArray := prog_1_method_34_code
def yX4_partOfEntry : MethodName := ⟨RX4, "partOfEntry", "(LMatchedFlows$Program;II)I"⟩
abbrev cX4_counted : ByteArray := prog_1_method_35_code
def yX4_counted : MethodName := ⟨RX4, "counted", "(LMatchedFlows$Program;I)I"⟩
abbrev cX4_nodesReached : ByteArray := prog_1_method_36_code
def yX4_nodesReached : MethodName := ⟨RX4, "nodesReached", "(LMatchedFlows$Program;)I"⟩
abbrev cX4_tally : ByteArray := prog_1_method_37_code
def yX4_tally : MethodName := ⟨RX4, "tally", "(I)I"⟩
abbrev cX4_obeyed : ByteArray := prog_1_method_38_code
def yX4_obeyed : MethodName := ⟨RX4, "obeyed", "(LMatchedFlows$Program;I)I"⟩
abbrev cX4_digestOfNodes : ByteArray := prog_1_method_39_code
def yX4_digestOfNodes : MethodName := ⟨RX4, "digestOfNodes", "(LMatchedFlows$Program;J)J"⟩
abbrev cX4_digestOfEdges : ByteArray := prog_1_method_40_code
def yX4_digestOfEdges : MethodName := ⟨RX4, "digestOfEdges", "(LMatchedFlows$Program;J)J"⟩
def RX5 : String := "MatchedFlowsModel"
def TX5 : u_T := fun k => match k with
  | 0 => ("MatchedFlowsModel", "refused", "[I", true)
  | 1 => ("MatchedFlowsModel", "now", "[I", true)
  | 2 => ("MatchedFlowsModel", "kept", "[I", true)
  | 3 => ("MatchedFlowsModel", "states", "I", false)
  | 4 => ("MatchedFlowsModel", "place", "[I", true)
  | 5 => ("MatchedFlowsModel", "startFact", "[I", true)
  | 6 => ("MatchedFlowsModel", "node", "[I", true)
  | 7 => ("MatchedFlowsModel", "fact", "[I", true)
  | 8 => ("MatchedFlowsModel", "ahead", "[I", true)
  | 9 => ("MatchedFlowsModel", "inside", "[I", true)
  | 10 => ("MatchedFlowsModel", "entries", "I", false)
  | 11 => ("MatchedFlowsModel", "caller", "[I", true)
  | 12 => ("MatchedFlowsModel", "following", "[I", true)
  | 13 => ("MatchedFlowsModel", "firstCaller", "[I", true)
  | 14 => ("MatchedFlowsModel", "lastCaller", "[I", true)
  | 15 => ("MatchedFlowsModel", "callers", "I", false)
  | 16 => ("MatchedFlowsModel", "known", "Z", false)
  | 17 => ("MatchedFlowsModel", "loose", "[I", true)
  | 18 => ("MatchedFlowsModel", "stack", "[I", true)
  | 19 => ("MatchedFlowsModel", "high", "I", false)
  | 20 => ("MatchedFlowsModel", "pairs", "[I", true)
  | 21 => ("MatchedFlowsModel", "told", "I", false)
  | 22 => ("MatchedFlowsModel", "text", "[I", true)
  | 23 => ("MatchedFlowsModel", "typed", "I", false)
  | 24 => ("MatchedFlowsModel", "orders", "[I", true)
  | 25 => ("MatchedFlowsModel", "written", "I", false)
  | _ => ("MatchedFlowsModel", "look", "I", false)
def tyX5 : Nat → FieldType := fun k => match k with
  | 0 => .array .int
  | 1 => .array .int
  | 2 => .array .int
  | 3 => .int
  | 4 => .array .int
  | 5 => .array .int
  | 6 => .array .int
  | 7 => .array .int
  | 8 => .array .int
  | 9 => .array .int
  | 10 => .int
  | 11 => .array .int
  | 12 => .array .int
  | 13 => .array .int
  | 14 => .array .int
  | 15 => .int
  | 16 => .boolean
  | 17 => .array .int
  | 18 => .array .int
  | 19 => .int
  | 20 => .array .int
  | 21 => .int
  | 22 => .array .int
  | 23 => .int
  | 24 => .array .int
  | 25 => .int
  | _ => .int
abbrev wsX50 : List Cond := u_ws RX5 TX5 27
theorem nmX5 : ∀ a, a < 27 → ∀ b, b < 27 → a ≠ b → (TX5 a).2.1 ≠ (TX5 b).2.1 := by decide +kernel
theorem tyX5_ok : ∀ k, k < 27 → parseFieldDescriptor (TX5 k).2.2.1 = some (tyX5 k) := by decide +kernel
abbrev cX5_init : ByteArray := prog_7_method_1_code
def yX5_init : MethodName := ⟨RX5, "<init>", "()V"⟩
abbrev cX5_bad : ByteArray := prog_7_method_2_code
def yX5_bad : MethodName := ⟨RX5, "bad", "()I"⟩
abbrev cX5_no : ByteArray := prog_7_method_3_code
def yX5_no : MethodName := ⟨RX5, "no", "()I"⟩
abbrev cX5_full : ByteArray := prog_7_method_4_code
def yX5_full : MethodName := ⟨RX5, "full", "()I"⟩
abbrev cX5_counted : ByteArray := prog_7_method_5_code
def yX5_counted : MethodName := ⟨RX5, "counted", "(I)I"⟩
abbrev cX5_in : ByteArray := prog_7_method_6_code
def yX5_in : MethodName := ⟨RX5, "in", "(III)Z"⟩
abbrev cX5_puts : ByteArray := prog_7_method_7_code
def yX5_puts : MethodName := ⟨RX5, "puts", "(I)V"⟩
abbrev cX5_takes : ByteArray := prog_7_method_8_code
def yX5_takes : MethodName := ⟨RX5, "takes", "(I)V"⟩
abbrev cX5_leavesState : ByteArray := prog_7_method_9_code
def yX5_leavesState : MethodName := ⟨RX5, "leavesState", "()V"⟩
abbrev cX5_back : ByteArray := prog_7_method_10_code
def yX5_back : MethodName := ⟨RX5, "back", "()I"⟩
abbrev cX5_isProc : ByteArray := prog_7_method_11_code
def yX5_isProc : MethodName := ⟨RX5, "isProc", "(I)Z"⟩
abbrev cX5_isNode : ByteArray := prog_7_method_12_code
def yX5_isNode : MethodName := ⟨RX5, "isNode", "(I)Z"⟩
abbrev cX5_isEdge : ByteArray := prog_7_method_13_code
def yX5_isEdge : MethodName := ⟨RX5, "isEdge", "(I)Z"⟩
abbrev cX5_procOf : ByteArray := prog_7_method_14_code
def yX5_procOf : MethodName := ⟨RX5, "procOf", "(I)I"⟩
abbrev cX5_sortOf : ByteArray := prog_7_method_15_code
def yX5_sortOf : MethodName := ⟨RX5, "sortOf", "(I)I"⟩
abbrev cX5_edgeOf : ByteArray := prog_7_method_16_code
def yX5_edgeOf : MethodName := ⟨RX5, "edgeOf", "(II)I"⟩
abbrev cX5_flowOf : ByteArray := prog_7_method_17_code
def yX5_flowOf : MethodName := ⟨RX5, "flowOf", "(III)I"⟩
abbrev cX5_addNode : ByteArray := prog_7_method_18_code
def yX5_addNode : MethodName := ⟨RX5, "addNode", "(II)I"⟩
abbrev cX5_addProc : ByteArray := prog_7_method_19_code
def yX5_addProc : MethodName := ⟨RX5, "addProc", "()I"⟩
abbrev cX5_addAny : ByteArray := prog_7_method_20_code
def yX5_addAny : MethodName := ⟨RX5, "addAny", "(I)I"⟩
abbrev cX5_addEdge : ByteArray := prog_7_method_21_code
def yX5_addEdge : MethodName := ⟨RX5, "addEdge", "(III)I"⟩
abbrev cX5_addCall : ByteArray := prog_7_method_22_code
def yX5_addCall : MethodName := ⟨RX5, "addCall", "(III)I"⟩
abbrev cX5_isFlow : ByteArray := prog_7_method_23_code
def yX5_isFlow : MethodName := ⟨RX5, "isFlow", "(III)Z"⟩
abbrev cX5_setFlow : ByteArray := prog_7_method_24_code
def yX5_setFlow : MethodName := ⟨RX5, "setFlow", "(IIII)I"⟩
abbrev cX5_setStart : ByteArray := prog_7_method_25_code
def yX5_setStart : MethodName := ⟨RX5, "setStart", "(I)I"⟩
abbrev cX5_cutEdge : ByteArray := prog_7_method_26_code
def yX5_cutEdge : MethodName := ⟨RX5, "cutEdge", "(I)I"⟩
abbrev cX5_done : ByteArray := prog_7_method_27_code
def yX5_done : MethodName := ⟨RX5, "done", "(I)I"⟩
abbrev cX5_proc : ByteArray := prog_7_method_28_code
def yX5_proc : MethodName := ⟨RX5, "proc", "()I"⟩
abbrev cX5_node : ByteArray := prog_7_method_29_code
def yX5_node : MethodName := ⟨RX5, "node", "(I)I"⟩
abbrev cX5_edge : ByteArray := prog_7_method_30_code
def yX5_edge : MethodName := ⟨RX5, "edge", "(II)I"⟩
abbrev cX5_call : ByteArray := prog_7_method_31_code
def yX5_call : MethodName := ⟨RX5, "call", "(III)I"⟩
abbrev cX5_flows : ByteArray := prog_7_method_32_code
def yX5_flows : MethodName := ⟨RX5, "flows", "(IIII)I"⟩
abbrev cX5_starts : ByteArray := prog_7_method_33_code
def yX5_starts : MethodName := ⟨RX5, "starts", "(I)I"⟩
abbrev cX5_cuts : ByteArray := prog_7_method_34_code
def yX5_cuts : MethodName := ⟨RX5, "cuts", "(I)I"⟩
abbrev cX5_at : ByteArray := prog_7_method_35_code
def yX5_at : MethodName := ⟨RX5, "at", "(II)I"⟩
abbrev cX5_about : ByteArray := prog_7_method_36_code
def yX5_about : MethodName := ⟨RX5, "about", "(II)I"⟩
abbrev cX5_goes : ByteArray := prog_7_method_37_code
def yX5_goes : MethodName := ⟨RX5, "goes", "(III)I"⟩
abbrev cX5_key : ByteArray := prog_7_method_38_code
def yX5_key : MethodName := ⟨RX5, "key", "(III)I"⟩
abbrev cX5_clearTable : ByteArray := prog_7_method_39_code
def yX5_clearTable : MethodName := ⟨RX5, "clearTable", "()V"⟩
abbrev cX5_comes : ByteArray := prog_7_method_40_code
def yX5_comes : MethodName := ⟨RX5, "comes", "(IIIII)V"⟩
abbrev cX5_notes : ByteArray := prog_7_method_41_code
def yX5_notes : MethodName := ⟨RX5, "notes", "(IIII)V"⟩
abbrev cX5_allCome : ByteArray := prog_7_method_42_code
def yX5_allCome : MethodName := ⟨RX5, "allCome", "(IIIII)V"⟩
abbrev cX5_takesCall : ByteArray := prog_7_method_43_code
def yX5_takesCall : MethodName := ⟨RX5, "takesCall", "(II)V"⟩
abbrev cX5_takesEntry : ByteArray := prog_7_method_44_code
def yX5_takesEntry : MethodName := ⟨RX5, "takesEntry", "(I)V"⟩
abbrev cX5_fills : ByteArray := prog_7_method_45_code
def yX5_fills : MethodName := ⟨RX5, "fills", "()V"⟩
abbrev cX5_knows : ByteArray := prog_7_method_46_code
def yX5_knows : MethodName := ⟨RX5, "knows", "()V"⟩
abbrev cX5_held : ByteArray := prog_7_method_47_code
def yX5_held : MethodName := ⟨RX5, "held", "(I)I"⟩
abbrev cX5_countOf : ByteArray := prog_7_method_48_code
def yX5_countOf : MethodName := ⟨RX5, "countOf", "(I)I"⟩
abbrev cX5_count : ByteArray := prog_7_method_49_code
def yX5_count : MethodName := ⟨RX5, "count", "(I)I"⟩
abbrev cX5_holdsAt : ByteArray := prog_7_method_50_code
def yX5_holdsAt : MethodName := ⟨RX5, "holdsAt", "(I)I"⟩
abbrev cX5_holds : ByteArray := prog_7_method_51_code
def yX5_holds : MethodName := ⟨RX5, "holds", "(I)I"⟩
abbrev cX5_carried : ByteArray := prog_7_method_52_code
def yX5_carried : MethodName := ⟨RX5, "carried", "(III)I"⟩
abbrev cX5_loosens : ByteArray := prog_7_method_53_code
def yX5_loosens : MethodName := ⟨RX5, "loosens", "()V"⟩
abbrev cX5_looseAt : ByteArray := prog_7_method_54_code
def yX5_looseAt : MethodName := ⟨RX5, "looseAt", "(I)I"⟩
abbrev cX5_loose : ByteArray := prog_7_method_55_code
def yX5_loose : MethodName := ⟨RX5, "loose", "(I)I"⟩
abbrev cX5_origins : ByteArray := prog_7_method_56_code
def yX5_origins : MethodName := ⟨RX5, "origins", "(II)I"⟩
abbrev cX5_summary : ByteArray := prog_7_method_57_code
def yX5_summary : MethodName := ⟨RX5, "summary", "(II)I"⟩
abbrev cX5_entry : ByteArray := prog_7_method_58_code
def yX5_entry : MethodName := ⟨RX5, "entry", "(II)I"⟩
abbrev cX5_spells : ByteArray := prog_7_method_59_code
def yX5_spells : MethodName := ⟨RX5, "spells", "(I)V"⟩
abbrev cX5_witness : ByteArray := prog_7_method_60_code
def yX5_witness : MethodName := ⟨RX5, "witness", "(III)I"⟩
abbrev cX5_type : ByteArray := prog_7_method_61_code
def yX5_type : MethodName := ⟨RX5, "type", "(I)I"⟩
abbrev cX5_clear : ByteArray := prog_7_method_62_code
def yX5_clear : MethodName := ⟨RX5, "clear", "()I"⟩
abbrev cX5_byteAt : ByteArray := prog_7_method_63_code
def yX5_byteAt : MethodName := ⟨RX5, "byteAt", "(I)I"⟩
abbrev cX5_isFigure : ByteArray := prog_7_method_64_code
def yX5_isFigure : MethodName := ⟨RX5, "isFigure", "(I)Z"⟩
abbrev cX5_blanks : ByteArray := prog_7_method_65_code
def yX5_blanks : MethodName := ⟨RX5, "blanks", "()V"⟩
abbrev cX5_wants : ByteArray := prog_7_method_66_code
def yX5_wants : MethodName := ⟨RX5, "wants", "(I)I"⟩
abbrev cX5_number : ByteArray := prog_7_method_67_code
def yX5_number : MethodName := ⟨RX5, "number", "()I"⟩
abbrev cX5_reads : ByteArray := prog_7_method_68_code
def yX5_reads : MethodName := ⟨RX5, "reads", "()Z"⟩
abbrev cX5_acted : ByteArray := prog_7_method_69_code
def yX5_acted : MethodName := ⟨RX5, "acted", "(I)I"⟩
abbrev cX5_does : ByteArray := prog_7_method_70_code
def yX5_does : MethodName := ⟨RX5, "does", "()I"⟩
abbrev cX5_toldOf : ByteArray := prog_7_method_71_code
def yX5_toldOf : MethodName := ⟨RX5, "toldOf", "(I)I"⟩
abbrev cX5_told : ByteArray := prog_7_method_72_code
def yX5_told : MethodName := ⟨RX5, "told", "(I)I"⟩
abbrev cX5_digest : ByteArray := prog_7_method_73_code
def yX5_digest : MethodName := ⟨RX5, "digest", "()J"⟩
def RJ9 : String := "java/lang/Math"
def TJ9 : u_T := fun k => match k with
  | _ => ("", "", "", false)
def tyJ9 : Nat → FieldType := fun k => match k with
  | _ => .int
abbrev wsJ90 : List Cond := u_ws RJ9 TJ9 0
theorem nmJ9 : ∀ a, a < 0 → ∀ b, b < 0 → a ≠ b → (TJ9 a).2.1 ≠ (TJ9 b).2.1 := by decide +kernel
theorem tyJ9_ok : ∀ k, k < 0 → parseFieldDescriptor (TJ9 k).2.2.1 = some (tyJ9 k) := by decide +kernel
abbrev cJ9_min_7cf53 : ByteArray := prog_8_method_69_code
def yJ9_min_7cf53 : MethodName := ⟨RJ9, "min", "(II)I"⟩
def RJ10 : String := "java/lang/System"
def TJ10 : u_T := fun k => match k with
  | _ => ("", "", "", false)
def tyJ10 : Nat → FieldType := fun k => match k with
  | _ => .int
abbrev wsJ100 : List Cond := u_ws RJ10 TJ10 0
theorem nmJ10 : ∀ a, a < 0 → ∀ b, b < 0 → a ≠ b → (TJ10 a).2.1 ≠ (TJ10 b).2.1 := by decide +kernel
theorem tyJ10_ok : ∀ k, k < 0 → parseFieldDescriptor (TJ10 k).2.2.1 = some (tyJ10 k) := by decide +kernel
def RL : String := "MatchedFlowsLaw"
abbrev cL_law : ByteArray := code
def yL_law : MethodName := ⟨RL, "law", "([I)Z"⟩
abbrev vwCl : List vw_C := [(RX0, TX0, 12), (RX1, TX1, 2), (RX2, TX2, 13), (RX3, TX3, 5), (RX4, TX4, 9), (RX5, TX5, 27)]
end
section
theorem dX0_init_0 : decode cX0_init 0 = .ok (.aload_n 0, 1) := by decide +kernel
theorem dX0_init_1 : decode cX0_init 1 = .ok (.invokespecial 3, 3) := by decide +kernel
theorem dX0_init_4 : decode cX0_init 4 = .ok (.aload_n 0, 1) := by decide +kernel
theorem dX0_init_5 : decode cX0_init 5 = .ok (.iconst 0, 1) := by decide +kernel
theorem dX0_init_6 : decode cX0_init 6 = .ok (.putfield 9, 3) := by decide +kernel
theorem dX0_init_9 : decode cX0_init 9 = .ok (.aload_n 0, 1) := by decide +kernel
theorem dX0_init_10 : decode cX0_init 10 = .ok (.iconst 0, 1) := by decide +kernel
theorem dX0_init_11 : decode cX0_init 11 = .ok (.putfield 15, 3) := by decide +kernel
theorem dX0_init_14 : decode cX0_init 14 = .ok (.aload_n 0, 1) := by decide +kernel
theorem dX0_init_15 : decode cX0_init 15 = .ok (.iconst 0, 1) := by decide +kernel
theorem dX0_init_16 : decode cX0_init 16 = .ok (.putfield 18, 3) := by decide +kernel
theorem dX0_init_19 : decode cX0_init 19 = .ok (.aload_n 0, 1) := by decide +kernel
theorem dX0_init_20 : decode cX0_init 20 = .ok (.iconst 1, 1) := by decide +kernel
theorem dX0_init_21 : decode cX0_init 21 = .ok (.putfield 21, 3) := by decide +kernel
theorem dX0_init_24 : decode cX0_init 24 = .ok (.aload_n 0, 1) := by decide +kernel
theorem dX0_init_25 : decode cX0_init 25 = .ok (.iconst 5, 1) := by decide +kernel
theorem dX0_init_26 : decode cX0_init 26 = .ok (.newarray .int, 2) := by decide +kernel
theorem dX0_init_28 : decode cX0_init 28 = .ok (.putfield 24, 3) := by decide +kernel
theorem dX0_init_31 : decode cX0_init 31 = .ok (.aload_n 0, 1) := by decide +kernel
theorem dX0_init_32 : decode cX0_init 32 = .ok (.iconst 5, 1) := by decide +kernel
theorem dX0_init_33 : decode cX0_init 33 = .ok (.newarray .int, 2) := by decide +kernel
theorem dX0_init_35 : decode cX0_init 35 = .ok (.putfield 28, 3) := by decide +kernel
theorem dX0_init_38 : decode cX0_init 38 = .ok (.aload_n 0, 1) := by decide +kernel
theorem dX0_init_39 : decode cX0_init 39 = .ok (.bipush 24, 2) := by decide +kernel
theorem dX0_init_41 : decode cX0_init 41 = .ok (.newarray .int, 2) := by decide +kernel
theorem dX0_init_43 : decode cX0_init 43 = .ok (.putfield 31, 3) := by decide +kernel
theorem dX0_init_46 : decode cX0_init 46 = .ok (.aload_n 0, 1) := by decide +kernel
theorem dX0_init_47 : decode cX0_init 47 = .ok (.bipush 24, 2) := by decide +kernel
theorem dX0_init_49 : decode cX0_init 49 = .ok (.newarray .int, 2) := by decide +kernel
theorem dX0_init_51 : decode cX0_init 51 = .ok (.putfield 34, 3) := by decide +kernel
theorem dX0_init_54 : decode cX0_init 54 = .ok (.aload_n 0, 1) := by decide +kernel
theorem dX0_init_55 : decode cX0_init 55 = .ok (.bipush 32, 2) := by decide +kernel
theorem dX0_init_57 : decode cX0_init 57 = .ok (.newarray .int, 2) := by decide +kernel
theorem dX0_init_59 : decode cX0_init 59 = .ok (.putfield 37, 3) := by decide +kernel
theorem dX0_init_62 : decode cX0_init 62 = .ok (.aload_n 0, 1) := by decide +kernel
theorem dX0_init_63 : decode cX0_init 63 = .ok (.bipush 32, 2) := by decide +kernel
theorem dX0_init_65 : decode cX0_init 65 = .ok (.newarray .int, 2) := by decide +kernel
theorem dX0_init_67 : decode cX0_init 67 = .ok (.putfield 40, 3) := by decide +kernel
theorem dX0_init_70 : decode cX0_init 70 = .ok (.aload_n 0, 1) := by decide +kernel
theorem dX0_init_71 : decode cX0_init 71 = .ok (.bipush 32, 2) := by decide +kernel
theorem dX0_init_73 : decode cX0_init 73 = .ok (.newarray .int, 2) := by decide +kernel
theorem dX0_init_75 : decode cX0_init 75 = .ok (.putfield 43, 3) := by decide +kernel
theorem dX0_init_78 : decode cX0_init 78 = .ok (.aload_n 0, 1) := by decide +kernel
theorem dX0_init_79 : decode cX0_init 79 = .ok (.bipush 96, 2) := by decide +kernel
theorem dX0_init_81 : decode cX0_init 81 = .ok (.newarray .long, 2) := by decide +kernel
theorem dX0_init_83 : decode cX0_init 83 = .ok (.putfield 46, 3) := by decide +kernel
theorem dX0_init_86 : decode cX0_init 86 = .ok (.return_, 1) := by decide +kernel
theorem dX0_copy_0 : decode cX0_copy 0 = .ok (.aload_n 0, 1) := by decide +kernel
theorem dX0_copy_1 : decode cX0_copy 1 = .ok (.aload_n 1, 1) := by decide +kernel
theorem dX0_copy_2 : decode cX0_copy 2 = .ok (.getfield 9, 3) := by decide +kernel
theorem dX0_copy_5 : decode cX0_copy 5 = .ok (.putfield 9, 3) := by decide +kernel
theorem dX0_copy_8 : decode cX0_copy 8 = .ok (.aload_n 0, 1) := by decide +kernel
theorem dX0_copy_9 : decode cX0_copy 9 = .ok (.aload_n 1, 1) := by decide +kernel
theorem dX0_copy_10 : decode cX0_copy 10 = .ok (.getfield 15, 3) := by decide +kernel
theorem dX0_copy_13 : decode cX0_copy 13 = .ok (.putfield 15, 3) := by decide +kernel
theorem dX0_copy_16 : decode cX0_copy 16 = .ok (.aload_n 0, 1) := by decide +kernel
theorem dX0_copy_17 : decode cX0_copy 17 = .ok (.aload_n 1, 1) := by decide +kernel
theorem dX0_copy_18 : decode cX0_copy 18 = .ok (.getfield 18, 3) := by decide +kernel
theorem dX0_copy_21 : decode cX0_copy 21 = .ok (.putfield 18, 3) := by decide +kernel
theorem dX0_copy_24 : decode cX0_copy 24 = .ok (.aload_n 0, 1) := by decide +kernel
theorem dX0_copy_25 : decode cX0_copy 25 = .ok (.aload_n 1, 1) := by decide +kernel
theorem dX0_copy_26 : decode cX0_copy 26 = .ok (.getfield 21, 3) := by decide +kernel
theorem dX0_copy_29 : decode cX0_copy 29 = .ok (.putfield 21, 3) := by decide +kernel
theorem dX0_copy_32 : decode cX0_copy 32 = .ok (.aload_n 1, 1) := by decide +kernel
theorem dX0_copy_33 : decode cX0_copy 33 = .ok (.getfield 24, 3) := by decide +kernel
theorem dX0_copy_36 : decode cX0_copy 36 = .ok (.iconst 0, 1) := by decide +kernel
theorem dX0_copy_37 : decode cX0_copy 37 = .ok (.aload_n 0, 1) := by decide +kernel
theorem dX0_copy_38 : decode cX0_copy 38 = .ok (.getfield 24, 3) := by decide +kernel
theorem dX0_copy_41 : decode cX0_copy 41 = .ok (.iconst 0, 1) := by decide +kernel
theorem dX0_copy_42 : decode cX0_copy 42 = .ok (.aload_n 0, 1) := by decide +kernel
theorem dX0_copy_43 : decode cX0_copy 43 = .ok (.getfield 9, 3) := by decide +kernel
theorem dX0_copy_46 : decode cX0_copy 46 = .ok (.invokestatic 50, 3) := by decide +kernel
theorem dX0_copy_49 : decode cX0_copy 49 = .ok (.aload_n 1, 1) := by decide +kernel
theorem dX0_copy_50 : decode cX0_copy 50 = .ok (.getfield 28, 3) := by decide +kernel
theorem dX0_copy_53 : decode cX0_copy 53 = .ok (.iconst 0, 1) := by decide +kernel
theorem dX0_copy_54 : decode cX0_copy 54 = .ok (.aload_n 0, 1) := by decide +kernel
theorem dX0_copy_55 : decode cX0_copy 55 = .ok (.getfield 28, 3) := by decide +kernel
theorem dX0_copy_58 : decode cX0_copy 58 = .ok (.iconst 0, 1) := by decide +kernel
theorem dX0_copy_59 : decode cX0_copy 59 = .ok (.aload_n 0, 1) := by decide +kernel
theorem dX0_copy_60 : decode cX0_copy 60 = .ok (.getfield 9, 3) := by decide +kernel
theorem dX0_copy_63 : decode cX0_copy 63 = .ok (.invokestatic 50, 3) := by decide +kernel
theorem dX0_copy_66 : decode cX0_copy 66 = .ok (.aload_n 1, 1) := by decide +kernel
theorem dX0_copy_67 : decode cX0_copy 67 = .ok (.getfield 31, 3) := by decide +kernel
theorem dX0_copy_70 : decode cX0_copy 70 = .ok (.iconst 0, 1) := by decide +kernel
theorem dX0_copy_71 : decode cX0_copy 71 = .ok (.aload_n 0, 1) := by decide +kernel
theorem dX0_copy_72 : decode cX0_copy 72 = .ok (.getfield 31, 3) := by decide +kernel
theorem dX0_copy_75 : decode cX0_copy 75 = .ok (.iconst 0, 1) := by decide +kernel
theorem dX0_copy_76 : decode cX0_copy 76 = .ok (.aload_n 0, 1) := by decide +kernel
theorem dX0_copy_77 : decode cX0_copy 77 = .ok (.getfield 15, 3) := by decide +kernel
theorem dX0_copy_80 : decode cX0_copy 80 = .ok (.invokestatic 50, 3) := by decide +kernel
theorem dX0_copy_83 : decode cX0_copy 83 = .ok (.aload_n 1, 1) := by decide +kernel
theorem dX0_copy_84 : decode cX0_copy 84 = .ok (.getfield 34, 3) := by decide +kernel
theorem dX0_copy_87 : decode cX0_copy 87 = .ok (.iconst 0, 1) := by decide +kernel
theorem dX0_copy_88 : decode cX0_copy 88 = .ok (.aload_n 0, 1) := by decide +kernel
theorem dX0_copy_89 : decode cX0_copy 89 = .ok (.getfield 34, 3) := by decide +kernel
theorem dX0_copy_92 : decode cX0_copy 92 = .ok (.iconst 0, 1) := by decide +kernel
theorem dX0_copy_93 : decode cX0_copy 93 = .ok (.aload_n 0, 1) := by decide +kernel
theorem dX0_copy_94 : decode cX0_copy 94 = .ok (.getfield 15, 3) := by decide +kernel
theorem dX0_copy_97 : decode cX0_copy 97 = .ok (.invokestatic 50, 3) := by decide +kernel
theorem dX0_copy_100 : decode cX0_copy 100 = .ok (.aload_n 1, 1) := by decide +kernel
theorem dX0_copy_101 : decode cX0_copy 101 = .ok (.getfield 37, 3) := by decide +kernel
theorem dX0_copy_104 : decode cX0_copy 104 = .ok (.iconst 0, 1) := by decide +kernel
theorem dX0_copy_105 : decode cX0_copy 105 = .ok (.aload_n 0, 1) := by decide +kernel
theorem dX0_copy_106 : decode cX0_copy 106 = .ok (.getfield 37, 3) := by decide +kernel
theorem dX0_copy_109 : decode cX0_copy 109 = .ok (.iconst 0, 1) := by decide +kernel
theorem dX0_copy_110 : decode cX0_copy 110 = .ok (.aload_n 0, 1) := by decide +kernel
theorem dX0_copy_111 : decode cX0_copy 111 = .ok (.getfield 18, 3) := by decide +kernel
theorem dX0_copy_114 : decode cX0_copy 114 = .ok (.invokestatic 50, 3) := by decide +kernel
theorem dX0_copy_117 : decode cX0_copy 117 = .ok (.aload_n 1, 1) := by decide +kernel
theorem dX0_copy_118 : decode cX0_copy 118 = .ok (.getfield 40, 3) := by decide +kernel
theorem dX0_copy_121 : decode cX0_copy 121 = .ok (.iconst 0, 1) := by decide +kernel
theorem dX0_copy_122 : decode cX0_copy 122 = .ok (.aload_n 0, 1) := by decide +kernel
theorem dX0_copy_123 : decode cX0_copy 123 = .ok (.getfield 40, 3) := by decide +kernel
theorem dX0_copy_126 : decode cX0_copy 126 = .ok (.iconst 0, 1) := by decide +kernel
theorem dX0_copy_127 : decode cX0_copy 127 = .ok (.aload_n 0, 1) := by decide +kernel
theorem dX0_copy_128 : decode cX0_copy 128 = .ok (.getfield 18, 3) := by decide +kernel
theorem dX0_copy_131 : decode cX0_copy 131 = .ok (.invokestatic 50, 3) := by decide +kernel
theorem dX0_copy_134 : decode cX0_copy 134 = .ok (.aload_n 1, 1) := by decide +kernel
theorem dX0_copy_135 : decode cX0_copy 135 = .ok (.getfield 43, 3) := by decide +kernel
theorem dX0_copy_138 : decode cX0_copy 138 = .ok (.iconst 0, 1) := by decide +kernel
theorem dX0_copy_139 : decode cX0_copy 139 = .ok (.aload_n 0, 1) := by decide +kernel
theorem dX0_copy_140 : decode cX0_copy 140 = .ok (.getfield 43, 3) := by decide +kernel
theorem dX0_copy_143 : decode cX0_copy 143 = .ok (.iconst 0, 1) := by decide +kernel
theorem dX0_copy_144 : decode cX0_copy 144 = .ok (.aload_n 0, 1) := by decide +kernel
theorem dX0_copy_145 : decode cX0_copy 145 = .ok (.getfield 18, 3) := by decide +kernel
theorem dX0_copy_148 : decode cX0_copy 148 = .ok (.invokestatic 50, 3) := by decide +kernel
theorem dX0_copy_151 : decode cX0_copy 151 = .ok (.aload_n 1, 1) := by decide +kernel
theorem dX0_copy_152 : decode cX0_copy 152 = .ok (.getfield 46, 3) := by decide +kernel
theorem dX0_copy_155 : decode cX0_copy 155 = .ok (.iconst 0, 1) := by decide +kernel
theorem dX0_copy_156 : decode cX0_copy 156 = .ok (.aload_n 0, 1) := by decide +kernel
theorem dX0_copy_157 : decode cX0_copy 157 = .ok (.getfield 46, 3) := by decide +kernel
theorem dX0_copy_160 : decode cX0_copy 160 = .ok (.iconst 0, 1) := by decide +kernel
theorem dX0_copy_161 : decode cX0_copy 161 = .ok (.aload_n 0, 1) := by decide +kernel
theorem dX0_copy_162 : decode cX0_copy 162 = .ok (.getfield 18, 3) := by decide +kernel
theorem dX0_copy_165 : decode cX0_copy 165 = .ok (.iconst 3, 1) := by decide +kernel
theorem dX0_copy_166 : decode cX0_copy 166 = .ok (.imul, 1) := by decide +kernel
theorem dX0_copy_167 : decode cX0_copy 167 = .ok (.invokestatic 50, 3) := by decide +kernel
theorem dX0_copy_170 : decode cX0_copy 170 = .ok (.return_, 1) := by decide +kernel
theorem dX0_isProc_0 : decode cX0_isProc 0 = .ok (.iload_n 1, 1) := by decide +kernel
theorem dX0_isProc_1 : decode cX0_isProc 1 = .ok (.ifCond .lt 15, 3) := by decide +kernel
theorem dX0_isProc_4 : decode cX0_isProc 4 = .ok (.iload_n 1, 1) := by decide +kernel
theorem dX0_isProc_5 : decode cX0_isProc 5 = .ok (.aload_n 0, 1) := by decide +kernel
theorem dX0_isProc_6 : decode cX0_isProc 6 = .ok (.getfield 9, 3) := by decide +kernel
theorem dX0_isProc_9 : decode cX0_isProc 9 = .ok (.if_icmp .ge 7, 3) := by decide +kernel
theorem dX0_isProc_12 : decode cX0_isProc 12 = .ok (.iconst 1, 1) := by decide +kernel
theorem dX0_isProc_13 : decode cX0_isProc 13 = .ok (.goto 4, 3) := by decide +kernel
theorem dX0_isProc_16 : decode cX0_isProc 16 = .ok (.iconst 0, 1) := by decide +kernel
theorem dX0_isProc_17 : decode cX0_isProc 17 = .ok (.ireturn, 1) := by decide +kernel
theorem dX0_isNode_0 : decode cX0_isNode 0 = .ok (.iload_n 1, 1) := by decide +kernel
theorem dX0_isNode_1 : decode cX0_isNode 1 = .ok (.ifCond .lt 15, 3) := by decide +kernel
theorem dX0_isNode_4 : decode cX0_isNode 4 = .ok (.iload_n 1, 1) := by decide +kernel
theorem dX0_isNode_5 : decode cX0_isNode 5 = .ok (.aload_n 0, 1) := by decide +kernel
theorem dX0_isNode_6 : decode cX0_isNode 6 = .ok (.getfield 15, 3) := by decide +kernel
theorem dX0_isNode_9 : decode cX0_isNode 9 = .ok (.if_icmp .ge 7, 3) := by decide +kernel
theorem dX0_isNode_12 : decode cX0_isNode 12 = .ok (.iconst 1, 1) := by decide +kernel
theorem dX0_isNode_13 : decode cX0_isNode 13 = .ok (.goto 4, 3) := by decide +kernel
theorem dX0_isNode_16 : decode cX0_isNode 16 = .ok (.iconst 0, 1) := by decide +kernel
theorem dX0_isNode_17 : decode cX0_isNode 17 = .ok (.ireturn, 1) := by decide +kernel
theorem dX0_isEdge_0 : decode cX0_isEdge 0 = .ok (.iload_n 1, 1) := by decide +kernel
theorem dX0_isEdge_1 : decode cX0_isEdge 1 = .ok (.ifCond .lt 15, 3) := by decide +kernel
theorem dX0_isEdge_4 : decode cX0_isEdge 4 = .ok (.iload_n 1, 1) := by decide +kernel
theorem dX0_isEdge_5 : decode cX0_isEdge 5 = .ok (.aload_n 0, 1) := by decide +kernel
theorem dX0_isEdge_6 : decode cX0_isEdge 6 = .ok (.getfield 18, 3) := by decide +kernel
theorem dX0_isEdge_9 : decode cX0_isEdge 9 = .ok (.if_icmp .ge 7, 3) := by decide +kernel
theorem dX0_isEdge_12 : decode cX0_isEdge 12 = .ok (.iconst 1, 1) := by decide +kernel
theorem dX0_isEdge_13 : decode cX0_isEdge 13 = .ok (.goto 4, 3) := by decide +kernel
theorem dX0_isEdge_16 : decode cX0_isEdge 16 = .ok (.iconst 0, 1) := by decide +kernel
theorem dX0_isEdge_17 : decode cX0_isEdge 17 = .ok (.ireturn, 1) := by decide +kernel
theorem dX0_joins_0 : decode cX0_joins 0 = .ok (.aload_n 0, 1) := by decide +kernel
theorem dX0_joins_1 : decode cX0_joins 1 = .ok (.iload_n 1, 1) := by decide +kernel
theorem dX0_joins_2 : decode cX0_joins 2 = .ok (.invokevirtual 56, 3) := by decide +kernel
theorem dX0_joins_5 : decode cX0_joins 5 = .ok (.ifCond .eq 49, 3) := by decide +kernel
theorem dX0_joins_8 : decode cX0_joins 8 = .ok (.aload_n 0, 1) := by decide +kernel
theorem dX0_joins_9 : decode cX0_joins 9 = .ok (.iload_n 2, 1) := by decide +kernel
theorem dX0_joins_10 : decode cX0_joins 10 = .ok (.invokevirtual 56, 3) := by decide +kernel
theorem dX0_joins_13 : decode cX0_joins 13 = .ok (.ifCond .eq 41, 3) := by decide +kernel
theorem dX0_joins_16 : decode cX0_joins 16 = .ok (.aload_n 0, 1) := by decide +kernel
theorem dX0_joins_17 : decode cX0_joins 17 = .ok (.getfield 31, 3) := by decide +kernel
theorem dX0_joins_20 : decode cX0_joins 20 = .ok (.iload_n 1, 1) := by decide +kernel
theorem dX0_joins_21 : decode cX0_joins 21 = .ok (.iaload, 1) := by decide +kernel
theorem dX0_joins_22 : decode cX0_joins 22 = .ok (.aload_n 0, 1) := by decide +kernel
theorem dX0_joins_23 : decode cX0_joins 23 = .ok (.getfield 31, 3) := by decide +kernel
theorem dX0_joins_26 : decode cX0_joins 26 = .ok (.iload_n 2, 1) := by decide +kernel
theorem dX0_joins_27 : decode cX0_joins 27 = .ok (.iaload, 1) := by decide +kernel
theorem dX0_joins_28 : decode cX0_joins 28 = .ok (.if_icmp .ne 26, 3) := by decide +kernel
theorem dX0_joins_31 : decode cX0_joins 31 = .ok (.aload_n 0, 1) := by decide +kernel
theorem dX0_joins_32 : decode cX0_joins 32 = .ok (.getfield 34, 3) := by decide +kernel
theorem dX0_joins_35 : decode cX0_joins 35 = .ok (.iload_n 1, 1) := by decide +kernel
theorem dX0_joins_36 : decode cX0_joins 36 = .ok (.iaload, 1) := by decide +kernel
theorem dX0_joins_37 : decode cX0_joins 37 = .ok (.iconst 1, 1) := by decide +kernel
theorem dX0_joins_38 : decode cX0_joins 38 = .ok (.if_icmp .eq 16, 3) := by decide +kernel
theorem dX0_joins_41 : decode cX0_joins 41 = .ok (.aload_n 0, 1) := by decide +kernel
theorem dX0_joins_42 : decode cX0_joins 42 = .ok (.getfield 34, 3) := by decide +kernel
theorem dX0_joins_45 : decode cX0_joins 45 = .ok (.iload_n 2, 1) := by decide +kernel
theorem dX0_joins_46 : decode cX0_joins 46 = .ok (.iaload, 1) := by decide +kernel
theorem dX0_joins_47 : decode cX0_joins 47 = .ok (.ifCond .eq 7, 3) := by decide +kernel
theorem dX0_joins_50 : decode cX0_joins 50 = .ok (.iconst 1, 1) := by decide +kernel
theorem dX0_joins_51 : decode cX0_joins 51 = .ok (.goto 4, 3) := by decide +kernel
theorem dX0_joins_54 : decode cX0_joins 54 = .ok (.iconst 0, 1) := by decide +kernel
theorem dX0_joins_55 : decode cX0_joins 55 = .ok (.ireturn, 1) := by decide +kernel
theorem dX0_flowsOf_0 : decode cX0_flowsOf 0 = .ok (.aload_n 0, 1) := by decide +kernel
theorem dX0_flowsOf_1 : decode cX0_flowsOf 1 = .ok (.getfield 43, 3) := by decide +kernel
theorem dX0_flowsOf_4 : decode cX0_flowsOf 4 = .ok (.iload_n 1, 1) := by decide +kernel
theorem dX0_flowsOf_5 : decode cX0_flowsOf 5 = .ok (.iaload, 1) := by decide +kernel
theorem dX0_flowsOf_6 : decode cX0_flowsOf 6 = .ok (.iconst (-1), 1) := by decide +kernel
theorem dX0_flowsOf_7 : decode cX0_flowsOf 7 = .ok (.if_icmp .ne 7, 3) := by decide +kernel
theorem dX0_flowsOf_10 : decode cX0_flowsOf 10 = .ok (.iconst 1, 1) := by decide +kernel
theorem dX0_flowsOf_11 : decode cX0_flowsOf 11 = .ok (.goto 4, 3) := by decide +kernel
theorem dX0_flowsOf_14 : decode cX0_flowsOf 14 = .ok (.iconst 3, 1) := by decide +kernel
theorem dX0_flowsOf_15 : decode cX0_flowsOf 15 = .ok (.ireturn, 1) := by decide +kernel
theorem dX0_hasFlow_0 : decode cX0_hasFlow 0 = .ok (.aload_n 0, 1) := by decide +kernel
theorem dX0_hasFlow_1 : decode cX0_hasFlow 1 = .ok (.iload_n 1, 1) := by decide +kernel
theorem dX0_hasFlow_2 : decode cX0_hasFlow 2 = .ok (.invokevirtual 60, 3) := by decide +kernel
theorem dX0_hasFlow_5 : decode cX0_hasFlow 5 = .ok (.ifCond .eq 20, 3) := by decide +kernel
theorem dX0_hasFlow_8 : decode cX0_hasFlow 8 = .ok (.iload_n 2, 1) := by decide +kernel
theorem dX0_hasFlow_9 : decode cX0_hasFlow 9 = .ok (.ifCond .lt 16, 3) := by decide +kernel
theorem dX0_hasFlow_12 : decode cX0_hasFlow 12 = .ok (.iload_n 2, 1) := by decide +kernel
theorem dX0_hasFlow_13 : decode cX0_hasFlow 13 = .ok (.aload_n 0, 1) := by decide +kernel
theorem dX0_hasFlow_14 : decode cX0_hasFlow 14 = .ok (.iload_n 1, 1) := by decide +kernel
theorem dX0_hasFlow_15 : decode cX0_hasFlow 15 = .ok (.invokevirtual 63, 3) := by decide +kernel
theorem dX0_hasFlow_18 : decode cX0_hasFlow 18 = .ok (.if_icmp .ge 7, 3) := by decide +kernel
theorem dX0_hasFlow_21 : decode cX0_hasFlow 21 = .ok (.iconst 1, 1) := by decide +kernel
theorem dX0_hasFlow_22 : decode cX0_hasFlow 22 = .ok (.goto 4, 3) := by decide +kernel
theorem dX0_hasFlow_25 : decode cX0_hasFlow 25 = .ok (.iconst 0, 1) := by decide +kernel
theorem dX0_hasFlow_26 : decode cX0_hasFlow 26 = .ok (.ireturn, 1) := by decide +kernel
theorem dX0_reach_0 : decode cX0_reach 0 = .ok (.aload_n 0, 1) := by decide +kernel
theorem dX0_reach_1 : decode cX0_reach 1 = .ok (.getfield 46, 3) := by decide +kernel
theorem dX0_reach_4 : decode cX0_reach 4 = .ok (.iload_n 1, 1) := by decide +kernel
theorem dX0_reach_5 : decode cX0_reach 5 = .ok (.iconst 3, 1) := by decide +kernel
theorem dX0_reach_6 : decode cX0_reach 6 = .ok (.imul, 1) := by decide +kernel
theorem dX0_reach_7 : decode cX0_reach 7 = .ok (.iload_n 2, 1) := by decide +kernel
theorem dX0_reach_8 : decode cX0_reach 8 = .ok (.iadd, 1) := by decide +kernel
theorem dX0_reach_9 : decode cX0_reach 9 = .ok (.laload, 1) := by decide +kernel
theorem dX0_reach_10 : decode cX0_reach 10 = .ok (.iload_n 3, 1) := by decide +kernel
theorem dX0_reach_11 : decode cX0_reach 11 = .ok (.bipush 8, 2) := by decide +kernel
theorem dX0_reach_13 : decode cX0_reach 13 = .ok (.imul, 1) := by decide +kernel
theorem dX0_reach_14 : decode cX0_reach 14 = .ok (.lushr, 1) := by decide +kernel
theorem dX0_reach_15 : decode cX0_reach 15 = .ok (.l2i, 1) := by decide +kernel
theorem dX0_reach_16 : decode cX0_reach 16 = .ok (.sipush 255, 3) := by decide +kernel
theorem dX0_reach_19 : decode cX0_reach 19 = .ok (.iand, 1) := by decide +kernel
theorem dX0_reach_20 : decode cX0_reach 20 = .ok (.ireturn, 1) := by decide +kernel
theorem dX0_carry_0 : decode cX0_carry 0 = .ok (.iconst 0, 1) := by decide +kernel
theorem dX0_carry_1 : decode cX0_carry 1 = .ok (.istore 4, 2) := by decide +kernel
theorem dX0_carry_3 : decode cX0_carry 3 = .ok (.iconst 0, 1) := by decide +kernel
theorem dX0_carry_4 : decode cX0_carry 4 = .ok (.istore 5, 2) := by decide +kernel
theorem dX0_carry_6 : decode cX0_carry 6 = .ok (.iload 5, 2) := by decide +kernel
theorem dX0_carry_8 : decode cX0_carry 8 = .ok (.bipush 8, 2) := by decide +kernel
theorem dX0_carry_10 : decode cX0_carry 10 = .ok (.if_icmp .ge 31, 3) := by decide +kernel
theorem dX0_carry_13 : decode cX0_carry 13 = .ok (.iload_n 3, 1) := by decide +kernel
theorem dX0_carry_14 : decode cX0_carry 14 = .ok (.iload 5, 2) := by decide +kernel
theorem dX0_carry_16 : decode cX0_carry 16 = .ok (.invokestatic 67, 3) := by decide +kernel
theorem dX0_carry_19 : decode cX0_carry 19 = .ok (.ifCond .eq 16, 3) := by decide +kernel
theorem dX0_carry_22 : decode cX0_carry 22 = .ok (.iload 4, 2) := by decide +kernel
theorem dX0_carry_24 : decode cX0_carry 24 = .ok (.aload_n 0, 1) := by decide +kernel
theorem dX0_carry_25 : decode cX0_carry 25 = .ok (.iload_n 1, 1) := by decide +kernel
theorem dX0_carry_26 : decode cX0_carry 26 = .ok (.iload_n 2, 1) := by decide +kernel
theorem dX0_carry_27 : decode cX0_carry 27 = .ok (.iload 5, 2) := by decide +kernel
theorem dX0_carry_29 : decode cX0_carry 29 = .ok (.invokevirtual 71, 3) := by decide +kernel
theorem dX0_carry_32 : decode cX0_carry 32 = .ok (.ior, 1) := by decide +kernel
theorem dX0_carry_33 : decode cX0_carry 33 = .ok (.istore 4, 2) := by decide +kernel
theorem dX0_carry_35 : decode cX0_carry 35 = .ok (.iinc 5 1, 3) := by decide +kernel
theorem dX0_carry_38 : decode cX0_carry 38 = .ok (.goto (-32), 3) := by decide +kernel
theorem dX0_carry_41 : decode cX0_carry 41 = .ok (.iload 4, 2) := by decide +kernel
theorem dX0_carry_43 : decode cX0_carry 43 = .ok (.ireturn, 1) := by decide +kernel
theorem dX0_addProc_0 : decode cX0_addProc 0 = .ok (.aload_n 0, 1) := by decide +kernel
theorem dX0_addProc_1 : decode cX0_addProc 1 = .ok (.getfield 9, 3) := by decide +kernel
theorem dX0_addProc_4 : decode cX0_addProc 4 = .ok (.iconst 5, 1) := by decide +kernel
theorem dX0_addProc_5 : decode cX0_addProc 5 = .ok (.if_icmp .ge 14, 3) := by decide +kernel
theorem dX0_addProc_8 : decode cX0_addProc 8 = .ok (.aload_n 0, 1) := by decide +kernel
theorem dX0_addProc_9 : decode cX0_addProc 9 = .ok (.getfield 15, 3) := by decide +kernel
theorem dX0_addProc_12 : decode cX0_addProc 12 = .ok (.iconst 2, 1) := by decide +kernel
theorem dX0_addProc_13 : decode cX0_addProc 13 = .ok (.iadd, 1) := by decide +kernel
theorem dX0_addProc_14 : decode cX0_addProc 14 = .ok (.bipush 24, 2) := by decide +kernel
theorem dX0_addProc_16 : decode cX0_addProc 16 = .ok (.if_icmp .le 6, 3) := by decide +kernel
theorem dX0_addProc_19 : decode cX0_addProc 19 = .ok (.bipush (-4), 2) := by decide +kernel
theorem dX0_addProc_21 : decode cX0_addProc 21 = .ok (.ireturn, 1) := by decide +kernel
theorem dX0_addProc_22 : decode cX0_addProc 22 = .ok (.aload_n 0, 1) := by decide +kernel
theorem dX0_addProc_23 : decode cX0_addProc 23 = .ok (.getfield 24, 3) := by decide +kernel
theorem dX0_addProc_26 : decode cX0_addProc 26 = .ok (.aload_n 0, 1) := by decide +kernel
theorem dX0_addProc_27 : decode cX0_addProc 27 = .ok (.getfield 9, 3) := by decide +kernel
theorem dX0_addProc_30 : decode cX0_addProc 30 = .ok (.aload_n 0, 1) := by decide +kernel
theorem dX0_addProc_31 : decode cX0_addProc 31 = .ok (.getfield 15, 3) := by decide +kernel
theorem dX0_addProc_34 : decode cX0_addProc 34 = .ok (.iastore, 1) := by decide +kernel
theorem dX0_addProc_35 : decode cX0_addProc 35 = .ok (.aload_n 0, 1) := by decide +kernel
theorem dX0_addProc_36 : decode cX0_addProc 36 = .ok (.aload_n 0, 1) := by decide +kernel
theorem dX0_addProc_37 : decode cX0_addProc 37 = .ok (.getfield 9, 3) := by decide +kernel
theorem dX0_addProc_40 : decode cX0_addProc 40 = .ok (.iconst 0, 1) := by decide +kernel
theorem dX0_addProc_41 : decode cX0_addProc 41 = .ok (.invokevirtual 75, 3) := by decide +kernel
theorem dX0_addProc_44 : decode cX0_addProc 44 = .ok (.pop, 1) := by decide +kernel
theorem dX0_addProc_45 : decode cX0_addProc 45 = .ok (.aload_n 0, 1) := by decide +kernel
theorem dX0_addProc_46 : decode cX0_addProc 46 = .ok (.getfield 28, 3) := by decide +kernel
theorem dX0_addProc_49 : decode cX0_addProc 49 = .ok (.aload_n 0, 1) := by decide +kernel
theorem dX0_addProc_50 : decode cX0_addProc 50 = .ok (.getfield 9, 3) := by decide +kernel
theorem dX0_addProc_53 : decode cX0_addProc 53 = .ok (.aload_n 0, 1) := by decide +kernel
theorem dX0_addProc_54 : decode cX0_addProc 54 = .ok (.getfield 15, 3) := by decide +kernel
theorem dX0_addProc_57 : decode cX0_addProc 57 = .ok (.iastore, 1) := by decide +kernel
theorem dX0_addProc_58 : decode cX0_addProc 58 = .ok (.aload_n 0, 1) := by decide +kernel
theorem dX0_addProc_59 : decode cX0_addProc 59 = .ok (.aload_n 0, 1) := by decide +kernel
theorem dX0_addProc_60 : decode cX0_addProc 60 = .ok (.getfield 9, 3) := by decide +kernel
theorem dX0_addProc_63 : decode cX0_addProc 63 = .ok (.iconst 1, 1) := by decide +kernel
theorem dX0_addProc_64 : decode cX0_addProc 64 = .ok (.invokevirtual 75, 3) := by decide +kernel
theorem dX0_addProc_67 : decode cX0_addProc 67 = .ok (.pop, 1) := by decide +kernel
theorem dX0_addProc_68 : decode cX0_addProc 68 = .ok (.aload_n 0, 1) := by decide +kernel
theorem dX0_addProc_69 : decode cX0_addProc 69 = .ok (.dup, 1) := by decide +kernel
theorem dX0_addProc_70 : decode cX0_addProc 70 = .ok (.getfield 9, 3) := by decide +kernel
theorem dX0_addProc_73 : decode cX0_addProc 73 = .ok (.dup_x1, 1) := by decide +kernel
theorem dX0_addProc_74 : decode cX0_addProc 74 = .ok (.iconst 1, 1) := by decide +kernel
theorem dX0_addProc_75 : decode cX0_addProc 75 = .ok (.iadd, 1) := by decide +kernel
theorem dX0_addProc_76 : decode cX0_addProc 76 = .ok (.putfield 9, 3) := by decide +kernel
theorem dX0_addProc_79 : decode cX0_addProc 79 = .ok (.ireturn, 1) := by decide +kernel
theorem dX0_addNode_0 : decode cX0_addNode 0 = .ok (.aload_n 0, 1) := by decide +kernel
theorem dX0_addNode_1 : decode cX0_addNode 1 = .ok (.iload_n 1, 1) := by decide +kernel
theorem dX0_addNode_2 : decode cX0_addNode 2 = .ok (.invokevirtual 79, 3) := by decide +kernel
theorem dX0_addNode_5 : decode cX0_addNode 5 = .ok (.ifCond .ne 6, 3) := by decide +kernel
theorem dX0_addNode_8 : decode cX0_addNode 8 = .ok (.bipush (-2), 2) := by decide +kernel
theorem dX0_addNode_10 : decode cX0_addNode 10 = .ok (.ireturn, 1) := by decide +kernel
theorem dX0_addNode_11 : decode cX0_addNode 11 = .ok (.aload_n 0, 1) := by decide +kernel
theorem dX0_addNode_12 : decode cX0_addNode 12 = .ok (.getfield 15, 3) := by decide +kernel
theorem dX0_addNode_15 : decode cX0_addNode 15 = .ok (.bipush 24, 2) := by decide +kernel
theorem dX0_addNode_17 : decode cX0_addNode 17 = .ok (.if_icmp .lt 6, 3) := by decide +kernel
theorem dX0_addNode_20 : decode cX0_addNode 20 = .ok (.bipush (-4), 2) := by decide +kernel
theorem dX0_addNode_22 : decode cX0_addNode 22 = .ok (.ireturn, 1) := by decide +kernel
theorem dX0_addNode_23 : decode cX0_addNode 23 = .ok (.aload_n 0, 1) := by decide +kernel
theorem dX0_addNode_24 : decode cX0_addNode 24 = .ok (.iload_n 1, 1) := by decide +kernel
theorem dX0_addNode_25 : decode cX0_addNode 25 = .ok (.iconst 2, 1) := by decide +kernel
theorem dX0_addNode_26 : decode cX0_addNode 26 = .ok (.invokevirtual 75, 3) := by decide +kernel
theorem dX0_addNode_29 : decode cX0_addNode 29 = .ok (.ireturn, 1) := by decide +kernel
theorem dX0_placeNode_0 : decode cX0_placeNode 0 = .ok (.aload_n 0, 1) := by decide +kernel
theorem dX0_placeNode_1 : decode cX0_placeNode 1 = .ok (.getfield 31, 3) := by decide +kernel
theorem dX0_placeNode_4 : decode cX0_placeNode 4 = .ok (.aload_n 0, 1) := by decide +kernel
theorem dX0_placeNode_5 : decode cX0_placeNode 5 = .ok (.getfield 15, 3) := by decide +kernel
theorem dX0_placeNode_8 : decode cX0_placeNode 8 = .ok (.iload_n 1, 1) := by decide +kernel
theorem dX0_placeNode_9 : decode cX0_placeNode 9 = .ok (.iastore, 1) := by decide +kernel
theorem dX0_placeNode_10 : decode cX0_placeNode 10 = .ok (.aload_n 0, 1) := by decide +kernel
theorem dX0_placeNode_11 : decode cX0_placeNode 11 = .ok (.getfield 34, 3) := by decide +kernel
theorem dX0_placeNode_14 : decode cX0_placeNode 14 = .ok (.aload_n 0, 1) := by decide +kernel
theorem dX0_placeNode_15 : decode cX0_placeNode 15 = .ok (.getfield 15, 3) := by decide +kernel
theorem dX0_placeNode_18 : decode cX0_placeNode 18 = .ok (.iload_n 2, 1) := by decide +kernel
theorem dX0_placeNode_19 : decode cX0_placeNode 19 = .ok (.iastore, 1) := by decide +kernel
theorem dX0_placeNode_20 : decode cX0_placeNode 20 = .ok (.aload_n 0, 1) := by decide +kernel
theorem dX0_placeNode_21 : decode cX0_placeNode 21 = .ok (.dup, 1) := by decide +kernel
theorem dX0_placeNode_22 : decode cX0_placeNode 22 = .ok (.getfield 15, 3) := by decide +kernel
theorem dX0_placeNode_25 : decode cX0_placeNode 25 = .ok (.dup_x1, 1) := by decide +kernel
theorem dX0_placeNode_26 : decode cX0_placeNode 26 = .ok (.iconst 1, 1) := by decide +kernel
theorem dX0_placeNode_27 : decode cX0_placeNode 27 = .ok (.iadd, 1) := by decide +kernel
theorem dX0_placeNode_28 : decode cX0_placeNode 28 = .ok (.putfield 15, 3) := by decide +kernel
theorem dX0_placeNode_31 : decode cX0_placeNode 31 = .ok (.ireturn, 1) := by decide +kernel
theorem dX0_addPlain_0 : decode cX0_addPlain 0 = .ok (.aload_n 0, 1) := by decide +kernel
theorem dX0_addPlain_1 : decode cX0_addPlain 1 = .ok (.iload_n 1, 1) := by decide +kernel
theorem dX0_addPlain_2 : decode cX0_addPlain 2 = .ok (.iload_n 2, 1) := by decide +kernel
theorem dX0_addPlain_3 : decode cX0_addPlain 3 = .ok (.invokevirtual 82, 3) := by decide +kernel
theorem dX0_addPlain_6 : decode cX0_addPlain 6 = .ok (.ifCond .eq 13, 3) := by decide +kernel
theorem dX0_addPlain_9 : decode cX0_addPlain 9 = .ok (.aload_n 0, 1) := by decide +kernel
theorem dX0_addPlain_10 : decode cX0_addPlain 10 = .ok (.iload_n 1, 1) := by decide +kernel
theorem dX0_addPlain_11 : decode cX0_addPlain 11 = .ok (.iconst (-1), 1) := by decide +kernel
theorem dX0_addPlain_12 : decode cX0_addPlain 12 = .ok (.iload_n 2, 1) := by decide +kernel
theorem dX0_addPlain_13 : decode cX0_addPlain 13 = .ok (.invokevirtual 85, 3) := by decide +kernel
theorem dX0_addPlain_16 : decode cX0_addPlain 16 = .ok (.goto 5, 3) := by decide +kernel
theorem dX0_addPlain_19 : decode cX0_addPlain 19 = .ok (.bipush (-2), 2) := by decide +kernel
theorem dX0_addPlain_21 : decode cX0_addPlain 21 = .ok (.ireturn, 1) := by decide +kernel
theorem dX0_addCall_0 : decode cX0_addCall 0 = .ok (.aload_n 0, 1) := by decide +kernel
theorem dX0_addCall_1 : decode cX0_addCall 1 = .ok (.iload_n 2, 1) := by decide +kernel
theorem dX0_addCall_2 : decode cX0_addCall 2 = .ok (.invokevirtual 79, 3) := by decide +kernel
theorem dX0_addCall_5 : decode cX0_addCall 5 = .ok (.ifCond .eq 22, 3) := by decide +kernel
theorem dX0_addCall_8 : decode cX0_addCall 8 = .ok (.aload_n 0, 1) := by decide +kernel
theorem dX0_addCall_9 : decode cX0_addCall 9 = .ok (.iload_n 1, 1) := by decide +kernel
theorem dX0_addCall_10 : decode cX0_addCall 10 = .ok (.iload_n 3, 1) := by decide +kernel
theorem dX0_addCall_11 : decode cX0_addCall 11 = .ok (.invokevirtual 82, 3) := by decide +kernel
theorem dX0_addCall_14 : decode cX0_addCall 14 = .ok (.ifCond .eq 13, 3) := by decide +kernel
theorem dX0_addCall_17 : decode cX0_addCall 17 = .ok (.aload_n 0, 1) := by decide +kernel
theorem dX0_addCall_18 : decode cX0_addCall 18 = .ok (.iload_n 1, 1) := by decide +kernel
theorem dX0_addCall_19 : decode cX0_addCall 19 = .ok (.iload_n 2, 1) := by decide +kernel
theorem dX0_addCall_20 : decode cX0_addCall 20 = .ok (.iload_n 3, 1) := by decide +kernel
theorem dX0_addCall_21 : decode cX0_addCall 21 = .ok (.invokevirtual 85, 3) := by decide +kernel
theorem dX0_addCall_24 : decode cX0_addCall 24 = .ok (.goto 5, 3) := by decide +kernel
theorem dX0_addCall_27 : decode cX0_addCall 27 = .ok (.bipush (-2), 2) := by decide +kernel
theorem dX0_addCall_29 : decode cX0_addCall 29 = .ok (.ireturn, 1) := by decide +kernel
theorem dX0_addEdge_0 : decode cX0_addEdge 0 = .ok (.aload_n 0, 1) := by decide +kernel
theorem dX0_addEdge_1 : decode cX0_addEdge 1 = .ok (.getfield 18, 3) := by decide +kernel
theorem dX0_addEdge_4 : decode cX0_addEdge 4 = .ok (.bipush 32, 2) := by decide +kernel
theorem dX0_addEdge_6 : decode cX0_addEdge 6 = .ok (.if_icmp .lt 6, 3) := by decide +kernel
theorem dX0_addEdge_9 : decode cX0_addEdge 9 = .ok (.bipush (-4), 2) := by decide +kernel
theorem dX0_addEdge_11 : decode cX0_addEdge 11 = .ok (.ireturn, 1) := by decide +kernel
theorem dX0_addEdge_12 : decode cX0_addEdge 12 = .ok (.aload_n 0, 1) := by decide +kernel
theorem dX0_addEdge_13 : decode cX0_addEdge 13 = .ok (.getfield 37, 3) := by decide +kernel
theorem dX0_addEdge_16 : decode cX0_addEdge 16 = .ok (.aload_n 0, 1) := by decide +kernel
theorem dX0_addEdge_17 : decode cX0_addEdge 17 = .ok (.getfield 18, 3) := by decide +kernel
theorem dX0_addEdge_20 : decode cX0_addEdge 20 = .ok (.iload_n 1, 1) := by decide +kernel
theorem dX0_addEdge_21 : decode cX0_addEdge 21 = .ok (.iastore, 1) := by decide +kernel
theorem dX0_addEdge_22 : decode cX0_addEdge 22 = .ok (.aload_n 0, 1) := by decide +kernel
theorem dX0_addEdge_23 : decode cX0_addEdge 23 = .ok (.getfield 40, 3) := by decide +kernel
theorem dX0_addEdge_26 : decode cX0_addEdge 26 = .ok (.aload_n 0, 1) := by decide +kernel
theorem dX0_addEdge_27 : decode cX0_addEdge 27 = .ok (.getfield 18, 3) := by decide +kernel
theorem dX0_addEdge_30 : decode cX0_addEdge 30 = .ok (.iload_n 3, 1) := by decide +kernel
theorem dX0_addEdge_31 : decode cX0_addEdge 31 = .ok (.iastore, 1) := by decide +kernel
theorem dX0_addEdge_32 : decode cX0_addEdge 32 = .ok (.aload_n 0, 1) := by decide +kernel
theorem dX0_addEdge_33 : decode cX0_addEdge 33 = .ok (.getfield 43, 3) := by decide +kernel
theorem dX0_addEdge_36 : decode cX0_addEdge 36 = .ok (.aload_n 0, 1) := by decide +kernel
theorem dX0_addEdge_37 : decode cX0_addEdge 37 = .ok (.getfield 18, 3) := by decide +kernel
theorem dX0_addEdge_40 : decode cX0_addEdge 40 = .ok (.iload_n 2, 1) := by decide +kernel
theorem dX0_addEdge_41 : decode cX0_addEdge 41 = .ok (.iastore, 1) := by decide +kernel
theorem dX0_addEdge_42 : decode cX0_addEdge 42 = .ok (.iconst 0, 1) := by decide +kernel
theorem dX0_addEdge_43 : decode cX0_addEdge 43 = .ok (.istore 4, 2) := by decide +kernel
theorem dX0_addEdge_45 : decode cX0_addEdge 45 = .ok (.iload 4, 2) := by decide +kernel
theorem dX0_addEdge_47 : decode cX0_addEdge 47 = .ok (.iconst 3, 1) := by decide +kernel
theorem dX0_addEdge_48 : decode cX0_addEdge 48 = .ok (.if_icmp .ge 26, 3) := by decide +kernel
theorem dX0_addEdge_51 : decode cX0_addEdge 51 = .ok (.aload_n 0, 1) := by decide +kernel
theorem dX0_addEdge_52 : decode cX0_addEdge 52 = .ok (.getfield 46, 3) := by decide +kernel
theorem dX0_addEdge_55 : decode cX0_addEdge 55 = .ok (.aload_n 0, 1) := by decide +kernel
theorem dX0_addEdge_56 : decode cX0_addEdge 56 = .ok (.getfield 18, 3) := by decide +kernel
theorem dX0_addEdge_59 : decode cX0_addEdge 59 = .ok (.iconst 3, 1) := by decide +kernel
theorem dX0_addEdge_60 : decode cX0_addEdge 60 = .ok (.imul, 1) := by decide +kernel
theorem dX0_addEdge_61 : decode cX0_addEdge 61 = .ok (.iload 4, 2) := by decide +kernel
theorem dX0_addEdge_63 : decode cX0_addEdge 63 = .ok (.iadd, 1) := by decide +kernel
theorem dX0_addEdge_64 : decode cX0_addEdge 64 = .ok (.ldc2_w 88, 3) := by decide +kernel
theorem dX0_addEdge_67 : decode cX0_addEdge 67 = .ok (.lastore, 1) := by decide +kernel
theorem dX0_addEdge_68 : decode cX0_addEdge 68 = .ok (.iinc 4 1, 3) := by decide +kernel
theorem dX0_addEdge_71 : decode cX0_addEdge 71 = .ok (.goto (-26), 3) := by decide +kernel
theorem dX0_addEdge_74 : decode cX0_addEdge 74 = .ok (.aload_n 0, 1) := by decide +kernel
theorem dX0_addEdge_75 : decode cX0_addEdge 75 = .ok (.dup, 1) := by decide +kernel
theorem dX0_addEdge_76 : decode cX0_addEdge 76 = .ok (.getfield 18, 3) := by decide +kernel
theorem dX0_addEdge_79 : decode cX0_addEdge 79 = .ok (.dup_x1, 1) := by decide +kernel
theorem dX0_addEdge_80 : decode cX0_addEdge 80 = .ok (.iconst 1, 1) := by decide +kernel
theorem dX0_addEdge_81 : decode cX0_addEdge 81 = .ok (.iadd, 1) := by decide +kernel
theorem dX0_addEdge_82 : decode cX0_addEdge 82 = .ok (.putfield 18, 3) := by decide +kernel
theorem dX0_addEdge_85 : decode cX0_addEdge 85 = .ok (.ireturn, 1) := by decide +kernel
theorem dX0_setFlow_0 : decode cX0_setFlow 0 = .ok (.aload_n 0, 1) := by decide +kernel
theorem dX0_setFlow_1 : decode cX0_setFlow 1 = .ok (.iload_n 1, 1) := by decide +kernel
theorem dX0_setFlow_2 : decode cX0_setFlow 2 = .ok (.iload_n 2, 1) := by decide +kernel
theorem dX0_setFlow_3 : decode cX0_setFlow 3 = .ok (.invokevirtual 90, 3) := by decide +kernel
theorem dX0_setFlow_6 : decode cX0_setFlow 6 = .ok (.ifCond .eq 36, 3) := by decide +kernel
theorem dX0_setFlow_9 : decode cX0_setFlow 9 = .ok (.iload_n 3, 1) := by decide +kernel
theorem dX0_setFlow_10 : decode cX0_setFlow 10 = .ok (.invokestatic 93, 3) := by decide +kernel
theorem dX0_setFlow_13 : decode cX0_setFlow 13 = .ok (.ifCond .eq 29, 3) := by decide +kernel
theorem dX0_setFlow_16 : decode cX0_setFlow 16 = .ok (.iload 4, 2) := by decide +kernel
theorem dX0_setFlow_18 : decode cX0_setFlow 18 = .ok (.invokestatic 96, 3) := by decide +kernel
theorem dX0_setFlow_21 : decode cX0_setFlow 21 = .ok (.ifCond .eq 21, 3) := by decide +kernel
theorem dX0_setFlow_24 : decode cX0_setFlow 24 = .ok (.iload 4, 2) := by decide +kernel
theorem dX0_setFlow_26 : decode cX0_setFlow 26 = .ok (.iconst 0, 1) := by decide +kernel
theorem dX0_setFlow_27 : decode cX0_setFlow 27 = .ok (.invokestatic 67, 3) := by decide +kernel
theorem dX0_setFlow_30 : decode cX0_setFlow 30 = .ok (.iload_n 3, 1) := by decide +kernel
theorem dX0_setFlow_31 : decode cX0_setFlow 31 = .ok (.ifCond .ne 7, 3) := by decide +kernel
theorem dX0_setFlow_34 : decode cX0_setFlow 34 = .ok (.iconst 1, 1) := by decide +kernel
theorem dX0_setFlow_35 : decode cX0_setFlow 35 = .ok (.goto 4, 3) := by decide +kernel
theorem dX0_setFlow_38 : decode cX0_setFlow 38 = .ok (.iconst 0, 1) := by decide +kernel
theorem dX0_setFlow_39 : decode cX0_setFlow 39 = .ok (.if_icmp .eq 6, 3) := by decide +kernel
theorem dX0_setFlow_42 : decode cX0_setFlow 42 = .ok (.bipush (-2), 2) := by decide +kernel
theorem dX0_setFlow_44 : decode cX0_setFlow 44 = .ok (.ireturn, 1) := by decide +kernel
theorem dX0_setFlow_45 : decode cX0_setFlow 45 = .ok (.aload_n 0, 1) := by decide +kernel
theorem dX0_setFlow_46 : decode cX0_setFlow 46 = .ok (.iload_n 1, 1) := by decide +kernel
theorem dX0_setFlow_47 : decode cX0_setFlow 47 = .ok (.iload_n 2, 1) := by decide +kernel
theorem dX0_setFlow_48 : decode cX0_setFlow 48 = .ok (.iload_n 3, 1) := by decide +kernel
theorem dX0_setFlow_49 : decode cX0_setFlow 49 = .ok (.invokevirtual 71, 3) := by decide +kernel
theorem dX0_setFlow_52 : decode cX0_setFlow 52 = .ok (.istore 5, 2) := by decide +kernel
theorem dX0_setFlow_54 : decode cX0_setFlow 54 = .ok (.iload_n 3, 1) := by decide +kernel
theorem dX0_setFlow_55 : decode cX0_setFlow 55 = .ok (.bipush 8, 2) := by decide +kernel
theorem dX0_setFlow_57 : decode cX0_setFlow 57 = .ok (.imul, 1) := by decide +kernel
theorem dX0_setFlow_58 : decode cX0_setFlow 58 = .ok (.istore 6, 2) := by decide +kernel
theorem dX0_setFlow_60 : decode cX0_setFlow 60 = .ok (.aload_n 0, 1) := by decide +kernel
theorem dX0_setFlow_61 : decode cX0_setFlow 61 = .ok (.getfield 46, 3) := by decide +kernel
theorem dX0_setFlow_64 : decode cX0_setFlow 64 = .ok (.iload_n 1, 1) := by decide +kernel
theorem dX0_setFlow_65 : decode cX0_setFlow 65 = .ok (.iconst 3, 1) := by decide +kernel
theorem dX0_setFlow_66 : decode cX0_setFlow 66 = .ok (.imul, 1) := by decide +kernel
theorem dX0_setFlow_67 : decode cX0_setFlow 67 = .ok (.iload_n 2, 1) := by decide +kernel
theorem dX0_setFlow_68 : decode cX0_setFlow 68 = .ok (.iadd, 1) := by decide +kernel
theorem dX0_setFlow_69 : decode cX0_setFlow 69 = .ok (.laload, 1) := by decide +kernel
theorem dX0_setFlow_70 : decode cX0_setFlow 70 = .ok (.ldc2_w 99, 3) := by decide +kernel
theorem dX0_setFlow_73 : decode cX0_setFlow 73 = .ok (.iload 6, 2) := by decide +kernel
theorem dX0_setFlow_75 : decode cX0_setFlow 75 = .ok (.lshl, 1) := by decide +kernel
theorem dX0_setFlow_76 : decode cX0_setFlow 76 = .ok (.ldc2_w 101, 3) := by decide +kernel
theorem dX0_setFlow_79 : decode cX0_setFlow 79 = .ok (.lxor, 1) := by decide +kernel
theorem dX0_setFlow_80 : decode cX0_setFlow 80 = .ok (.land, 1) := by decide +kernel
theorem dX0_setFlow_81 : decode cX0_setFlow 81 = .ok (.lstore 7, 2) := by decide +kernel
theorem dX0_setFlow_83 : decode cX0_setFlow 83 = .ok (.aload_n 0, 1) := by decide +kernel
theorem dX0_setFlow_84 : decode cX0_setFlow 84 = .ok (.getfield 46, 3) := by decide +kernel
theorem dX0_setFlow_87 : decode cX0_setFlow 87 = .ok (.iload_n 1, 1) := by decide +kernel
theorem dX0_setFlow_88 : decode cX0_setFlow 88 = .ok (.iconst 3, 1) := by decide +kernel
theorem dX0_setFlow_89 : decode cX0_setFlow 89 = .ok (.imul, 1) := by decide +kernel
theorem dX0_setFlow_90 : decode cX0_setFlow 90 = .ok (.iload_n 2, 1) := by decide +kernel
theorem dX0_setFlow_91 : decode cX0_setFlow 91 = .ok (.iadd, 1) := by decide +kernel
theorem dX0_setFlow_92 : decode cX0_setFlow 92 = .ok (.lload 7, 2) := by decide +kernel
theorem dX0_setFlow_94 : decode cX0_setFlow 94 = .ok (.iload 4, 2) := by decide +kernel
theorem dX0_setFlow_96 : decode cX0_setFlow 96 = .ok (.i2l, 1) := by decide +kernel
theorem dX0_setFlow_97 : decode cX0_setFlow 97 = .ok (.iload 6, 2) := by decide +kernel
theorem dX0_setFlow_99 : decode cX0_setFlow 99 = .ok (.lshl, 1) := by decide +kernel
theorem dX0_setFlow_100 : decode cX0_setFlow 100 = .ok (.lor, 1) := by decide +kernel
theorem dX0_setFlow_101 : decode cX0_setFlow 101 = .ok (.lastore, 1) := by decide +kernel
theorem dX0_setFlow_102 : decode cX0_setFlow 102 = .ok (.iload 5, 2) := by decide +kernel
theorem dX0_setFlow_104 : decode cX0_setFlow 104 = .ok (.ireturn, 1) := by decide +kernel
theorem dX0_setStart_0 : decode cX0_setStart 0 = .ok (.iload_n 1, 1) := by decide +kernel
theorem dX0_setStart_1 : decode cX0_setStart 1 = .ok (.invokestatic 96, 3) := by decide +kernel
theorem dX0_setStart_4 : decode cX0_setStart 4 = .ok (.ifCond .eq 11, 3) := by decide +kernel
theorem dX0_setStart_7 : decode cX0_setStart 7 = .ok (.iload_n 1, 1) := by decide +kernel
theorem dX0_setStart_8 : decode cX0_setStart 8 = .ok (.iconst 0, 1) := by decide +kernel
theorem dX0_setStart_9 : decode cX0_setStart 9 = .ok (.invokestatic 67, 3) := by decide +kernel
theorem dX0_setStart_12 : decode cX0_setStart 12 = .ok (.ifCond .ne 6, 3) := by decide +kernel
theorem dX0_setStart_15 : decode cX0_setStart 15 = .ok (.bipush (-2), 2) := by decide +kernel
theorem dX0_setStart_17 : decode cX0_setStart 17 = .ok (.ireturn, 1) := by decide +kernel
theorem dX0_setStart_18 : decode cX0_setStart 18 = .ok (.aload_n 0, 1) := by decide +kernel
theorem dX0_setStart_19 : decode cX0_setStart 19 = .ok (.getfield 21, 3) := by decide +kernel
theorem dX0_setStart_22 : decode cX0_setStart 22 = .ok (.istore_n 2, 1) := by decide +kernel
theorem dX0_setStart_23 : decode cX0_setStart 23 = .ok (.aload_n 0, 1) := by decide +kernel
theorem dX0_setStart_24 : decode cX0_setStart 24 = .ok (.iload_n 1, 1) := by decide +kernel
theorem dX0_setStart_25 : decode cX0_setStart 25 = .ok (.putfield 21, 3) := by decide +kernel
theorem dX0_setStart_28 : decode cX0_setStart 28 = .ok (.iload_n 2, 1) := by decide +kernel
theorem dX0_setStart_29 : decode cX0_setStart 29 = .ok (.ireturn, 1) := by decide +kernel
theorem dX0_cutEdge_0 : decode cX0_cutEdge 0 = .ok (.aload_n 0, 1) := by decide +kernel
theorem dX0_cutEdge_1 : decode cX0_cutEdge 1 = .ok (.iload_n 1, 1) := by decide +kernel
theorem dX0_cutEdge_2 : decode cX0_cutEdge 2 = .ok (.invokevirtual 60, 3) := by decide +kernel
theorem dX0_cutEdge_5 : decode cX0_cutEdge 5 = .ok (.ifCond .ne 6, 3) := by decide +kernel
theorem dX0_cutEdge_8 : decode cX0_cutEdge 8 = .ok (.bipush (-2), 2) := by decide +kernel
theorem dX0_cutEdge_10 : decode cX0_cutEdge 10 = .ok (.ireturn, 1) := by decide +kernel
theorem dX0_cutEdge_11 : decode cX0_cutEdge 11 = .ok (.aload_n 0, 1) := by decide +kernel
theorem dX0_cutEdge_12 : decode cX0_cutEdge 12 = .ok (.dup, 1) := by decide +kernel
theorem dX0_cutEdge_13 : decode cX0_cutEdge 13 = .ok (.getfield 18, 3) := by decide +kernel
theorem dX0_cutEdge_16 : decode cX0_cutEdge 16 = .ok (.iconst 1, 1) := by decide +kernel
theorem dX0_cutEdge_17 : decode cX0_cutEdge 17 = .ok (.isub, 1) := by decide +kernel
theorem dX0_cutEdge_18 : decode cX0_cutEdge 18 = .ok (.putfield 18, 3) := by decide +kernel
theorem dX0_cutEdge_21 : decode cX0_cutEdge 21 = .ok (.iload_n 1, 1) := by decide +kernel
theorem dX0_cutEdge_22 : decode cX0_cutEdge 22 = .ok (.istore_n 2, 1) := by decide +kernel
theorem dX0_cutEdge_23 : decode cX0_cutEdge 23 = .ok (.iload_n 2, 1) := by decide +kernel
theorem dX0_cutEdge_24 : decode cX0_cutEdge 24 = .ok (.aload_n 0, 1) := by decide +kernel
theorem dX0_cutEdge_25 : decode cX0_cutEdge 25 = .ok (.getfield 18, 3) := by decide +kernel
theorem dX0_cutEdge_28 : decode cX0_cutEdge 28 = .ok (.if_icmp .ge 86, 3) := by decide +kernel
theorem dX0_cutEdge_31 : decode cX0_cutEdge 31 = .ok (.aload_n 0, 1) := by decide +kernel
theorem dX0_cutEdge_32 : decode cX0_cutEdge 32 = .ok (.getfield 37, 3) := by decide +kernel
theorem dX0_cutEdge_35 : decode cX0_cutEdge 35 = .ok (.iload_n 2, 1) := by decide +kernel
theorem dX0_cutEdge_36 : decode cX0_cutEdge 36 = .ok (.aload_n 0, 1) := by decide +kernel
theorem dX0_cutEdge_37 : decode cX0_cutEdge 37 = .ok (.getfield 37, 3) := by decide +kernel
theorem dX0_cutEdge_40 : decode cX0_cutEdge 40 = .ok (.iload_n 2, 1) := by decide +kernel
theorem dX0_cutEdge_41 : decode cX0_cutEdge 41 = .ok (.iconst 1, 1) := by decide +kernel
theorem dX0_cutEdge_42 : decode cX0_cutEdge 42 = .ok (.iadd, 1) := by decide +kernel
theorem dX0_cutEdge_43 : decode cX0_cutEdge 43 = .ok (.iaload, 1) := by decide +kernel
theorem dX0_cutEdge_44 : decode cX0_cutEdge 44 = .ok (.iastore, 1) := by decide +kernel
theorem dX0_cutEdge_45 : decode cX0_cutEdge 45 = .ok (.aload_n 0, 1) := by decide +kernel
theorem dX0_cutEdge_46 : decode cX0_cutEdge 46 = .ok (.getfield 40, 3) := by decide +kernel
theorem dX0_cutEdge_49 : decode cX0_cutEdge 49 = .ok (.iload_n 2, 1) := by decide +kernel
theorem dX0_cutEdge_50 : decode cX0_cutEdge 50 = .ok (.aload_n 0, 1) := by decide +kernel
theorem dX0_cutEdge_51 : decode cX0_cutEdge 51 = .ok (.getfield 40, 3) := by decide +kernel
theorem dX0_cutEdge_54 : decode cX0_cutEdge 54 = .ok (.iload_n 2, 1) := by decide +kernel
theorem dX0_cutEdge_55 : decode cX0_cutEdge 55 = .ok (.iconst 1, 1) := by decide +kernel
theorem dX0_cutEdge_56 : decode cX0_cutEdge 56 = .ok (.iadd, 1) := by decide +kernel
theorem dX0_cutEdge_57 : decode cX0_cutEdge 57 = .ok (.iaload, 1) := by decide +kernel
theorem dX0_cutEdge_58 : decode cX0_cutEdge 58 = .ok (.iastore, 1) := by decide +kernel
theorem dX0_cutEdge_59 : decode cX0_cutEdge 59 = .ok (.aload_n 0, 1) := by decide +kernel
theorem dX0_cutEdge_60 : decode cX0_cutEdge 60 = .ok (.getfield 43, 3) := by decide +kernel
theorem dX0_cutEdge_63 : decode cX0_cutEdge 63 = .ok (.iload_n 2, 1) := by decide +kernel
theorem dX0_cutEdge_64 : decode cX0_cutEdge 64 = .ok (.aload_n 0, 1) := by decide +kernel
theorem dX0_cutEdge_65 : decode cX0_cutEdge 65 = .ok (.getfield 43, 3) := by decide +kernel
theorem dX0_cutEdge_68 : decode cX0_cutEdge 68 = .ok (.iload_n 2, 1) := by decide +kernel
theorem dX0_cutEdge_69 : decode cX0_cutEdge 69 = .ok (.iconst 1, 1) := by decide +kernel
theorem dX0_cutEdge_70 : decode cX0_cutEdge 70 = .ok (.iadd, 1) := by decide +kernel
theorem dX0_cutEdge_71 : decode cX0_cutEdge 71 = .ok (.iaload, 1) := by decide +kernel
theorem dX0_cutEdge_72 : decode cX0_cutEdge 72 = .ok (.iastore, 1) := by decide +kernel
theorem dX0_cutEdge_73 : decode cX0_cutEdge 73 = .ok (.iconst 0, 1) := by decide +kernel
theorem dX0_cutEdge_74 : decode cX0_cutEdge 74 = .ok (.istore_n 3, 1) := by decide +kernel
theorem dX0_cutEdge_75 : decode cX0_cutEdge 75 = .ok (.iload_n 3, 1) := by decide +kernel
theorem dX0_cutEdge_76 : decode cX0_cutEdge 76 = .ok (.iconst 3, 1) := by decide +kernel
theorem dX0_cutEdge_77 : decode cX0_cutEdge 77 = .ok (.if_icmp .ge 31, 3) := by decide +kernel
theorem dX0_cutEdge_80 : decode cX0_cutEdge 80 = .ok (.aload_n 0, 1) := by decide +kernel
theorem dX0_cutEdge_81 : decode cX0_cutEdge 81 = .ok (.getfield 46, 3) := by decide +kernel
theorem dX0_cutEdge_84 : decode cX0_cutEdge 84 = .ok (.iload_n 2, 1) := by decide +kernel
theorem dX0_cutEdge_85 : decode cX0_cutEdge 85 = .ok (.iconst 3, 1) := by decide +kernel
theorem dX0_cutEdge_86 : decode cX0_cutEdge 86 = .ok (.imul, 1) := by decide +kernel
theorem dX0_cutEdge_87 : decode cX0_cutEdge 87 = .ok (.iload_n 3, 1) := by decide +kernel
theorem dX0_cutEdge_88 : decode cX0_cutEdge 88 = .ok (.iadd, 1) := by decide +kernel
theorem dX0_cutEdge_89 : decode cX0_cutEdge 89 = .ok (.aload_n 0, 1) := by decide +kernel
theorem dX0_cutEdge_90 : decode cX0_cutEdge 90 = .ok (.getfield 46, 3) := by decide +kernel
theorem dX0_cutEdge_93 : decode cX0_cutEdge 93 = .ok (.iload_n 2, 1) := by decide +kernel
theorem dX0_cutEdge_94 : decode cX0_cutEdge 94 = .ok (.iconst 1, 1) := by decide +kernel
theorem dX0_cutEdge_95 : decode cX0_cutEdge 95 = .ok (.iadd, 1) := by decide +kernel
theorem dX0_cutEdge_96 : decode cX0_cutEdge 96 = .ok (.iconst 3, 1) := by decide +kernel
theorem dX0_cutEdge_97 : decode cX0_cutEdge 97 = .ok (.imul, 1) := by decide +kernel
theorem dX0_cutEdge_98 : decode cX0_cutEdge 98 = .ok (.iload_n 3, 1) := by decide +kernel
theorem dX0_cutEdge_99 : decode cX0_cutEdge 99 = .ok (.iadd, 1) := by decide +kernel
theorem dX0_cutEdge_100 : decode cX0_cutEdge 100 = .ok (.laload, 1) := by decide +kernel
theorem dX0_cutEdge_101 : decode cX0_cutEdge 101 = .ok (.lastore, 1) := by decide +kernel
theorem dX0_cutEdge_102 : decode cX0_cutEdge 102 = .ok (.iinc 3 1, 3) := by decide +kernel
theorem dX0_cutEdge_105 : decode cX0_cutEdge 105 = .ok (.goto (-30), 3) := by decide +kernel
theorem dX0_cutEdge_108 : decode cX0_cutEdge 108 = .ok (.iinc 2 1, 3) := by decide +kernel
theorem dX0_cutEdge_111 : decode cX0_cutEdge 111 = .ok (.goto (-88), 3) := by decide +kernel
theorem dX0_cutEdge_114 : decode cX0_cutEdge 114 = .ok (.aload_n 0, 1) := by decide +kernel
theorem dX0_cutEdge_115 : decode cX0_cutEdge 115 = .ok (.getfield 18, 3) := by decide +kernel
theorem dX0_cutEdge_118 : decode cX0_cutEdge 118 = .ok (.ireturn, 1) := by decide +kernel
theorem dX1_init_0 : decode cX1_init 0 = .ok (.aload_n 0, 1) := by decide +kernel
theorem dX1_init_1 : decode cX1_init 1 = .ok (.invokespecial 3, 3) := by decide +kernel
theorem dX1_init_4 : decode cX1_init 4 = .ok (.aload_n 0, 1) := by decide +kernel
theorem dX1_init_5 : decode cX1_init 5 = .ok (.iconst 0, 1) := by decide +kernel
theorem dX1_init_6 : decode cX1_init 6 = .ok (.putfield 9, 3) := by decide +kernel
theorem dX1_init_9 : decode cX1_init 9 = .ok (.aload_n 0, 1) := by decide +kernel
theorem dX1_init_10 : decode cX1_init 10 = .ok (.bipush 24, 2) := by decide +kernel
theorem dX1_init_12 : decode cX1_init 12 = .ok (.newarray .int, 2) := by decide +kernel
theorem dX1_init_14 : decode cX1_init 14 = .ok (.putfield 15, 3) := by decide +kernel
theorem dX1_init_17 : decode cX1_init 17 = .ok (.return_, 1) := by decide +kernel
theorem dX1_fill_0 : decode cX1_fill 0 = .ok (.aload_n 0, 1) := by decide +kernel
theorem dX1_fill_1 : decode cX1_fill 1 = .ok (.getfield 9, 3) := by decide +kernel
theorem dX1_fill_4 : decode cX1_fill 4 = .ok (.ifCond .eq 4, 3) := by decide +kernel
theorem dX1_fill_7 : decode cX1_fill 7 = .ok (.return_, 1) := by decide +kernel
theorem dX1_fill_8 : decode cX1_fill 8 = .ok (.aload_n 0, 1) := by decide +kernel
theorem dX1_fill_9 : decode cX1_fill 9 = .ok (.iconst 1, 1) := by decide +kernel
theorem dX1_fill_10 : decode cX1_fill 10 = .ok (.putfield 9, 3) := by decide +kernel
theorem dX1_fill_13 : decode cX1_fill 13 = .ok (.iconst 0, 1) := by decide +kernel
theorem dX1_fill_14 : decode cX1_fill 14 = .ok (.istore_n 2, 1) := by decide +kernel
theorem dX1_fill_15 : decode cX1_fill 15 = .ok (.iload_n 2, 1) := by decide +kernel
theorem dX1_fill_16 : decode cX1_fill 16 = .ok (.bipush 24, 2) := by decide +kernel
theorem dX1_fill_18 : decode cX1_fill 18 = .ok (.if_icmp .ge 16, 3) := by decide +kernel
theorem dX1_fill_21 : decode cX1_fill 21 = .ok (.aload_n 0, 1) := by decide +kernel
theorem dX1_fill_22 : decode cX1_fill 22 = .ok (.getfield 15, 3) := by decide +kernel
theorem dX1_fill_25 : decode cX1_fill 25 = .ok (.iload_n 2, 1) := by decide +kernel
theorem dX1_fill_26 : decode cX1_fill 26 = .ok (.iconst 0, 1) := by decide +kernel
theorem dX1_fill_27 : decode cX1_fill 27 = .ok (.iastore, 1) := by decide +kernel
theorem dX1_fill_28 : decode cX1_fill 28 = .ok (.iinc 2 1, 3) := by decide +kernel
theorem dX1_fill_31 : decode cX1_fill 31 = .ok (.goto (-16), 3) := by decide +kernel
theorem dX1_fill_34 : decode cX1_fill 34 = .ok (.aload_n 0, 1) := by decide +kernel
theorem dX1_fill_35 : decode cX1_fill 35 = .ok (.getfield 15, 3) := by decide +kernel
theorem dX1_fill_38 : decode cX1_fill 38 = .ok (.aload_n 1, 1) := by decide +kernel
theorem dX1_fill_39 : decode cX1_fill 39 = .ok (.getfield 19, 3) := by decide +kernel
theorem dX1_fill_42 : decode cX1_fill 42 = .ok (.iconst 0, 1) := by decide +kernel
theorem dX1_fill_43 : decode cX1_fill 43 = .ok (.iaload, 1) := by decide +kernel
theorem dX1_fill_44 : decode cX1_fill 44 = .ok (.aload_n 1, 1) := by decide +kernel
theorem dX1_fill_45 : decode cX1_fill 45 = .ok (.getfield 24, 3) := by decide +kernel
theorem dX1_fill_48 : decode cX1_fill 48 = .ok (.iastore, 1) := by decide +kernel
theorem dX1_fill_49 : decode cX1_fill 49 = .ok (.iconst 1, 1) := by decide +kernel
theorem dX1_fill_50 : decode cX1_fill 50 = .ok (.istore_n 2, 1) := by decide +kernel
theorem dX1_fill_51 : decode cX1_fill 51 = .ok (.iconst 0, 1) := by decide +kernel
theorem dX1_fill_52 : decode cX1_fill 52 = .ok (.istore_n 3, 1) := by decide +kernel
theorem dX1_fill_53 : decode cX1_fill 53 = .ok (.iload_n 2, 1) := by decide +kernel
theorem dX1_fill_54 : decode cX1_fill 54 = .ok (.ifCond .eq 46, 3) := by decide +kernel
theorem dX1_fill_57 : decode cX1_fill 57 = .ok (.iload_n 3, 1) := by decide +kernel
theorem dX1_fill_58 : decode cX1_fill 58 = .ok (.sipush 192, 3) := by decide +kernel
theorem dX1_fill_61 : decode cX1_fill 61 = .ok (.if_icmp .gt 39, 3) := by decide +kernel
theorem dX1_fill_64 : decode cX1_fill 64 = .ok (.iconst 0, 1) := by decide +kernel
theorem dX1_fill_65 : decode cX1_fill 65 = .ok (.istore_n 2, 1) := by decide +kernel
theorem dX1_fill_66 : decode cX1_fill 66 = .ok (.iconst 0, 1) := by decide +kernel
theorem dX1_fill_67 : decode cX1_fill 67 = .ok (.istore 4, 2) := by decide +kernel
theorem dX1_fill_69 : decode cX1_fill 69 = .ok (.iload 4, 2) := by decide +kernel
theorem dX1_fill_71 : decode cX1_fill 71 = .ok (.aload_n 1, 1) := by decide +kernel
theorem dX1_fill_72 : decode cX1_fill 72 = .ok (.getfield 28, 3) := by decide +kernel
theorem dX1_fill_75 : decode cX1_fill 75 = .ok (.if_icmp .ge 19, 3) := by decide +kernel
theorem dX1_fill_78 : decode cX1_fill 78 = .ok (.iload_n 2, 1) := by decide +kernel
theorem dX1_fill_79 : decode cX1_fill 79 = .ok (.aload_n 0, 1) := by decide +kernel
theorem dX1_fill_80 : decode cX1_fill 80 = .ok (.aload_n 1, 1) := by decide +kernel
theorem dX1_fill_81 : decode cX1_fill 81 = .ok (.iload 4, 2) := by decide +kernel
theorem dX1_fill_83 : decode cX1_fill 83 = .ok (.invokevirtual 31, 3) := by decide +kernel
theorem dX1_fill_86 : decode cX1_fill 86 = .ok (.ior, 1) := by decide +kernel
theorem dX1_fill_87 : decode cX1_fill 87 = .ok (.istore_n 2, 1) := by decide +kernel
theorem dX1_fill_88 : decode cX1_fill 88 = .ok (.iinc 4 1, 3) := by decide +kernel
theorem dX1_fill_91 : decode cX1_fill 91 = .ok (.goto (-22), 3) := by decide +kernel
theorem dX1_fill_94 : decode cX1_fill 94 = .ok (.iinc 3 1, 3) := by decide +kernel
theorem dX1_fill_97 : decode cX1_fill 97 = .ok (.goto (-44), 3) := by decide +kernel
theorem dX1_fill_100 : decode cX1_fill 100 = .ok (.return_, 1) := by decide +kernel
theorem dX1_stepAlong_0 : decode cX1_stepAlong 0 = .ok (.aload_n 1, 1) := by decide +kernel
theorem dX1_stepAlong_1 : decode cX1_stepAlong 1 = .ok (.getfield 35, 3) := by decide +kernel
theorem dX1_stepAlong_4 : decode cX1_stepAlong 4 = .ok (.iload_n 2, 1) := by decide +kernel
theorem dX1_stepAlong_5 : decode cX1_stepAlong 5 = .ok (.iaload, 1) := by decide +kernel
theorem dX1_stepAlong_6 : decode cX1_stepAlong 6 = .ok (.istore_n 3, 1) := by decide +kernel
theorem dX1_stepAlong_7 : decode cX1_stepAlong 7 = .ok (.aload_n 1, 1) := by decide +kernel
theorem dX1_stepAlong_8 : decode cX1_stepAlong 8 = .ok (.getfield 38, 3) := by decide +kernel
theorem dX1_stepAlong_11 : decode cX1_stepAlong 11 = .ok (.iload_n 2, 1) := by decide +kernel
theorem dX1_stepAlong_12 : decode cX1_stepAlong 12 = .ok (.iaload, 1) := by decide +kernel
theorem dX1_stepAlong_13 : decode cX1_stepAlong 13 = .ok (.istore 4, 2) := by decide +kernel
theorem dX1_stepAlong_15 : decode cX1_stepAlong 15 = .ok (.aload_n 1, 1) := by decide +kernel
theorem dX1_stepAlong_16 : decode cX1_stepAlong 16 = .ok (.getfield 41, 3) := by decide +kernel
theorem dX1_stepAlong_19 : decode cX1_stepAlong 19 = .ok (.iload_n 2, 1) := by decide +kernel
theorem dX1_stepAlong_20 : decode cX1_stepAlong 20 = .ok (.iaload, 1) := by decide +kernel
theorem dX1_stepAlong_21 : decode cX1_stepAlong 21 = .ok (.istore 5, 2) := by decide +kernel
theorem dX1_stepAlong_23 : decode cX1_stepAlong 23 = .ok (.aload_n 0, 1) := by decide +kernel
theorem dX1_stepAlong_24 : decode cX1_stepAlong 24 = .ok (.iload 4, 2) := by decide +kernel
theorem dX1_stepAlong_26 : decode cX1_stepAlong 26 = .ok (.aload_n 1, 1) := by decide +kernel
theorem dX1_stepAlong_27 : decode cX1_stepAlong 27 = .ok (.iload_n 2, 1) := by decide +kernel
theorem dX1_stepAlong_28 : decode cX1_stepAlong 28 = .ok (.iconst 0, 1) := by decide +kernel
theorem dX1_stepAlong_29 : decode cX1_stepAlong 29 = .ok (.aload_n 0, 1) := by decide +kernel
theorem dX1_stepAlong_30 : decode cX1_stepAlong 30 = .ok (.getfield 15, 3) := by decide +kernel
theorem dX1_stepAlong_33 : decode cX1_stepAlong 33 = .ok (.iload_n 3, 1) := by decide +kernel
theorem dX1_stepAlong_34 : decode cX1_stepAlong 34 = .ok (.iaload, 1) := by decide +kernel
theorem dX1_stepAlong_35 : decode cX1_stepAlong 35 = .ok (.invokevirtual 44, 3) := by decide +kernel
theorem dX1_stepAlong_38 : decode cX1_stepAlong 38 = .ok (.invokevirtual 48, 3) := by decide +kernel
theorem dX1_stepAlong_41 : decode cX1_stepAlong 41 = .ok (.istore 6, 2) := by decide +kernel
theorem dX1_stepAlong_43 : decode cX1_stepAlong 43 = .ok (.iload 5, 2) := by decide +kernel
theorem dX1_stepAlong_45 : decode cX1_stepAlong 45 = .ok (.iconst (-1), 1) := by decide +kernel
theorem dX1_stepAlong_46 : decode cX1_stepAlong 46 = .ok (.if_icmp .eq 60, 3) := by decide +kernel
theorem dX1_stepAlong_49 : decode cX1_stepAlong 49 = .ok (.iload 6, 2) := by decide +kernel
theorem dX1_stepAlong_51 : decode cX1_stepAlong 51 = .ok (.aload_n 0, 1) := by decide +kernel
theorem dX1_stepAlong_52 : decode cX1_stepAlong 52 = .ok (.aload_n 1, 1) := by decide +kernel
theorem dX1_stepAlong_53 : decode cX1_stepAlong 53 = .ok (.getfield 19, 3) := by decide +kernel
theorem dX1_stepAlong_56 : decode cX1_stepAlong 56 = .ok (.iload 5, 2) := by decide +kernel
theorem dX1_stepAlong_58 : decode cX1_stepAlong 58 = .ok (.iaload, 1) := by decide +kernel
theorem dX1_stepAlong_59 : decode cX1_stepAlong 59 = .ok (.aload_n 1, 1) := by decide +kernel
theorem dX1_stepAlong_60 : decode cX1_stepAlong 60 = .ok (.iload_n 2, 1) := by decide +kernel
theorem dX1_stepAlong_61 : decode cX1_stepAlong 61 = .ok (.iconst 1, 1) := by decide +kernel
theorem dX1_stepAlong_62 : decode cX1_stepAlong 62 = .ok (.aload_n 0, 1) := by decide +kernel
theorem dX1_stepAlong_63 : decode cX1_stepAlong 63 = .ok (.getfield 15, 3) := by decide +kernel
theorem dX1_stepAlong_66 : decode cX1_stepAlong 66 = .ok (.iload_n 3, 1) := by decide +kernel
theorem dX1_stepAlong_67 : decode cX1_stepAlong 67 = .ok (.iaload, 1) := by decide +kernel
theorem dX1_stepAlong_68 : decode cX1_stepAlong 68 = .ok (.invokevirtual 44, 3) := by decide +kernel
theorem dX1_stepAlong_71 : decode cX1_stepAlong 71 = .ok (.invokevirtual 48, 3) := by decide +kernel
theorem dX1_stepAlong_74 : decode cX1_stepAlong 74 = .ok (.ior, 1) := by decide +kernel
theorem dX1_stepAlong_75 : decode cX1_stepAlong 75 = .ok (.istore 6, 2) := by decide +kernel
theorem dX1_stepAlong_77 : decode cX1_stepAlong 77 = .ok (.iload 6, 2) := by decide +kernel
theorem dX1_stepAlong_79 : decode cX1_stepAlong 79 = .ok (.aload_n 0, 1) := by decide +kernel
theorem dX1_stepAlong_80 : decode cX1_stepAlong 80 = .ok (.iload 4, 2) := by decide +kernel
theorem dX1_stepAlong_82 : decode cX1_stepAlong 82 = .ok (.aload_n 1, 1) := by decide +kernel
theorem dX1_stepAlong_83 : decode cX1_stepAlong 83 = .ok (.iload_n 2, 1) := by decide +kernel
theorem dX1_stepAlong_84 : decode cX1_stepAlong 84 = .ok (.iconst 2, 1) := by decide +kernel
theorem dX1_stepAlong_85 : decode cX1_stepAlong 85 = .ok (.aload_n 0, 1) := by decide +kernel
theorem dX1_stepAlong_86 : decode cX1_stepAlong 86 = .ok (.getfield 15, 3) := by decide +kernel
theorem dX1_stepAlong_89 : decode cX1_stepAlong 89 = .ok (.aload_n 1, 1) := by decide +kernel
theorem dX1_stepAlong_90 : decode cX1_stepAlong 90 = .ok (.getfield 52, 3) := by decide +kernel
theorem dX1_stepAlong_93 : decode cX1_stepAlong 93 = .ok (.iload 5, 2) := by decide +kernel
theorem dX1_stepAlong_95 : decode cX1_stepAlong 95 = .ok (.iaload, 1) := by decide +kernel
theorem dX1_stepAlong_96 : decode cX1_stepAlong 96 = .ok (.iaload, 1) := by decide +kernel
theorem dX1_stepAlong_97 : decode cX1_stepAlong 97 = .ok (.invokevirtual 44, 3) := by decide +kernel
theorem dX1_stepAlong_100 : decode cX1_stepAlong 100 = .ok (.invokevirtual 48, 3) := by decide +kernel
theorem dX1_stepAlong_103 : decode cX1_stepAlong 103 = .ok (.ior, 1) := by decide +kernel
theorem dX1_stepAlong_104 : decode cX1_stepAlong 104 = .ok (.istore 6, 2) := by decide +kernel
theorem dX1_stepAlong_106 : decode cX1_stepAlong 106 = .ok (.iload 6, 2) := by decide +kernel
theorem dX1_stepAlong_108 : decode cX1_stepAlong 108 = .ok (.ireturn, 1) := by decide +kernel
theorem dX1_addTo_0 : decode cX1_addTo 0 = .ok (.aload_n 0, 1) := by decide +kernel
theorem dX1_addTo_1 : decode cX1_addTo 1 = .ok (.getfield 15, 3) := by decide +kernel
theorem dX1_addTo_4 : decode cX1_addTo 4 = .ok (.iload_n 1, 1) := by decide +kernel
theorem dX1_addTo_5 : decode cX1_addTo 5 = .ok (.iaload, 1) := by decide +kernel
theorem dX1_addTo_6 : decode cX1_addTo 6 = .ok (.istore_n 3, 1) := by decide +kernel
theorem dX1_addTo_7 : decode cX1_addTo 7 = .ok (.aload_n 0, 1) := by decide +kernel
theorem dX1_addTo_8 : decode cX1_addTo 8 = .ok (.getfield 15, 3) := by decide +kernel
theorem dX1_addTo_11 : decode cX1_addTo 11 = .ok (.iload_n 1, 1) := by decide +kernel
theorem dX1_addTo_12 : decode cX1_addTo 12 = .ok (.iload_n 3, 1) := by decide +kernel
theorem dX1_addTo_13 : decode cX1_addTo 13 = .ok (.iload_n 2, 1) := by decide +kernel
theorem dX1_addTo_14 : decode cX1_addTo 14 = .ok (.ior, 1) := by decide +kernel
theorem dX1_addTo_15 : decode cX1_addTo 15 = .ok (.iastore, 1) := by decide +kernel
theorem dX1_addTo_16 : decode cX1_addTo 16 = .ok (.aload_n 0, 1) := by decide +kernel
theorem dX1_addTo_17 : decode cX1_addTo 17 = .ok (.getfield 15, 3) := by decide +kernel
theorem dX1_addTo_20 : decode cX1_addTo 20 = .ok (.iload_n 1, 1) := by decide +kernel
theorem dX1_addTo_21 : decode cX1_addTo 21 = .ok (.iaload, 1) := by decide +kernel
theorem dX1_addTo_22 : decode cX1_addTo 22 = .ok (.iload_n 3, 1) := by decide +kernel
theorem dX1_addTo_23 : decode cX1_addTo 23 = .ok (.if_icmp .eq 7, 3) := by decide +kernel
theorem dX1_addTo_26 : decode cX1_addTo 26 = .ok (.iconst 1, 1) := by decide +kernel
theorem dX1_addTo_27 : decode cX1_addTo 27 = .ok (.goto 4, 3) := by decide +kernel
theorem dX1_addTo_30 : decode cX1_addTo 30 = .ok (.iconst 0, 1) := by decide +kernel
theorem dX1_addTo_31 : decode cX1_addTo 31 = .ok (.ireturn, 1) := by decide +kernel
theorem dX2_init_0 : decode cX2_init 0 = .ok (.aload_n 0, 1) := by decide +kernel
theorem dX2_init_1 : decode cX2_init 1 = .ok (.invokespecial 5, 3) := by decide +kernel
theorem dX2_init_4 : decode cX2_init 4 = .ok (.aload_n 0, 1) := by decide +kernel
theorem dX2_init_5 : decode cX2_init 5 = .ok (.iconst 0, 1) := by decide +kernel
theorem dX2_init_6 : decode cX2_init 6 = .ok (.putfield 11, 3) := by decide +kernel
theorem dX2_init_9 : decode cX2_init 9 = .ok (.aload_n 0, 1) := by decide +kernel
theorem dX2_init_10 : decode cX2_init 10 = .ok (.iconst 0, 1) := by decide +kernel
theorem dX2_init_11 : decode cX2_init 11 = .ok (.putfield 15, 3) := by decide +kernel
theorem dX2_init_14 : decode cX2_init 14 = .ok (.aload_n 0, 1) := by decide +kernel
theorem dX2_init_15 : decode cX2_init 15 = .ok (.iconst 0, 1) := by decide +kernel
theorem dX2_init_16 : decode cX2_init 16 = .ok (.putfield 19, 3) := by decide +kernel
theorem dX2_init_19 : decode cX2_init 19 = .ok (.aload_n 0, 1) := by decide +kernel
theorem dX2_init_20 : decode cX2_init 20 = .ok (.iconst 0, 1) := by decide +kernel
theorem dX2_init_21 : decode cX2_init 21 = .ok (.putfield 22, 3) := by decide +kernel
theorem dX2_init_24 : decode cX2_init 24 = .ok (.aload_n 0, 1) := by decide +kernel
theorem dX2_init_25 : decode cX2_init 25 = .ok (.sipush 192, 3) := by decide +kernel
theorem dX2_init_28 : decode cX2_init 28 = .ok (.newarray .int, 2) := by decide +kernel
theorem dX2_init_30 : decode cX2_init 30 = .ok (.putfield 25, 3) := by decide +kernel
theorem dX2_init_33 : decode cX2_init 33 = .ok (.aload_n 0, 1) := by decide +kernel
theorem dX2_init_34 : decode cX2_init 34 = .ok (.sipush 1536, 3) := by decide +kernel
theorem dX2_init_37 : decode cX2_init 37 = .ok (.newarray .int, 2) := by decide +kernel
theorem dX2_init_39 : decode cX2_init 39 = .ok (.putfield 29, 3) := by decide +kernel
theorem dX2_init_42 : decode cX2_init 42 = .ok (.aload_n 0, 1) := by decide +kernel
theorem dX2_init_43 : decode cX2_init 43 = .ok (.sipush 1536, 3) := by decide +kernel
theorem dX2_init_46 : decode cX2_init 46 = .ok (.newarray .int, 2) := by decide +kernel
theorem dX2_init_48 : decode cX2_init 48 = .ok (.putfield 32, 3) := by decide +kernel
theorem dX2_init_51 : decode cX2_init 51 = .ok (.aload_n 0, 1) := by decide +kernel
theorem dX2_init_52 : decode cX2_init 52 = .ok (.sipush 1536, 3) := by decide +kernel
theorem dX2_init_55 : decode cX2_init 55 = .ok (.newarray .int, 2) := by decide +kernel
theorem dX2_init_57 : decode cX2_init 57 = .ok (.putfield 35, 3) := by decide +kernel
theorem dX2_init_60 : decode cX2_init 60 = .ok (.aload_n 0, 1) := by decide +kernel
theorem dX2_init_61 : decode cX2_init 61 = .ok (.sipush 1536, 3) := by decide +kernel
theorem dX2_init_64 : decode cX2_init 64 = .ok (.newarray .int, 2) := by decide +kernel
theorem dX2_init_66 : decode cX2_init 66 = .ok (.putfield 38, 3) := by decide +kernel
theorem dX2_init_69 : decode cX2_init 69 = .ok (.aload_n 0, 1) := by decide +kernel
theorem dX2_init_70 : decode cX2_init 70 = .ok (.sipush 1536, 3) := by decide +kernel
theorem dX2_init_73 : decode cX2_init 73 = .ok (.newarray .int, 2) := by decide +kernel
theorem dX2_init_75 : decode cX2_init 75 = .ok (.putfield 41, 3) := by decide +kernel
theorem dX2_init_78 : decode cX2_init 78 = .ok (.aload_n 0, 1) := by decide +kernel
theorem dX2_init_79 : decode cX2_init 79 = .ok (.sipush 1536, 3) := by decide +kernel
theorem dX2_init_82 : decode cX2_init 82 = .ok (.newarray .int, 2) := by decide +kernel
theorem dX2_init_84 : decode cX2_init 84 = .ok (.putfield 44, 3) := by decide +kernel
theorem dX2_init_87 : decode cX2_init 87 = .ok (.aload_n 0, 1) := by decide +kernel
theorem dX2_init_88 : decode cX2_init 88 = .ok (.sipush 2048, 3) := by decide +kernel
theorem dX2_init_91 : decode cX2_init 91 = .ok (.newarray .int, 2) := by decide +kernel
theorem dX2_init_93 : decode cX2_init 93 = .ok (.putfield 47, 3) := by decide +kernel
theorem dX2_init_96 : decode cX2_init 96 = .ok (.aload_n 0, 1) := by decide +kernel
theorem dX2_init_97 : decode cX2_init 97 = .ok (.iconst 0, 1) := by decide +kernel
theorem dX2_init_98 : decode cX2_init 98 = .ok (.putfield 50, 3) := by decide +kernel
theorem dX2_init_101 : decode cX2_init 101 = .ok (.return_, 1) := by decide +kernel
theorem dX2_fill_0 : decode cX2_fill 0 = .ok (.aload_n 0, 1) := by decide +kernel
theorem dX2_fill_1 : decode cX2_fill 1 = .ok (.getfield 11, 3) := by decide +kernel
theorem dX2_fill_4 : decode cX2_fill 4 = .ok (.ifCond .eq 20, 3) := by decide +kernel
theorem dX2_fill_7 : decode cX2_fill 7 = .ok (.aload_n 0, 1) := by decide +kernel
theorem dX2_fill_8 : decode cX2_fill 8 = .ok (.getfield 15, 3) := by decide +kernel
theorem dX2_fill_11 : decode cX2_fill 11 = .ok (.iload_n 2, 1) := by decide +kernel
theorem dX2_fill_12 : decode cX2_fill 12 = .ok (.if_icmp .ne 12, 3) := by decide +kernel
theorem dX2_fill_15 : decode cX2_fill 15 = .ok (.aload_n 0, 1) := by decide +kernel
theorem dX2_fill_16 : decode cX2_fill 16 = .ok (.getfield 19, 3) := by decide +kernel
theorem dX2_fill_19 : decode cX2_fill 19 = .ok (.iload_n 3, 1) := by decide +kernel
theorem dX2_fill_20 : decode cX2_fill 20 = .ok (.if_icmp .ne 4, 3) := by decide +kernel
theorem dX2_fill_23 : decode cX2_fill 23 = .ok (.return_, 1) := by decide +kernel
theorem dX2_fill_24 : decode cX2_fill 24 = .ok (.aload_n 0, 1) := by decide +kernel
theorem dX2_fill_25 : decode cX2_fill 25 = .ok (.iconst 1, 1) := by decide +kernel
theorem dX2_fill_26 : decode cX2_fill 26 = .ok (.putfield 11, 3) := by decide +kernel
theorem dX2_fill_29 : decode cX2_fill 29 = .ok (.aload_n 0, 1) := by decide +kernel
theorem dX2_fill_30 : decode cX2_fill 30 = .ok (.iload_n 2, 1) := by decide +kernel
theorem dX2_fill_31 : decode cX2_fill 31 = .ok (.putfield 15, 3) := by decide +kernel
theorem dX2_fill_34 : decode cX2_fill 34 = .ok (.aload_n 0, 1) := by decide +kernel
theorem dX2_fill_35 : decode cX2_fill 35 = .ok (.iload_n 3, 1) := by decide +kernel
theorem dX2_fill_36 : decode cX2_fill 36 = .ok (.putfield 19, 3) := by decide +kernel
theorem dX2_fill_39 : decode cX2_fill 39 = .ok (.aload_n 0, 1) := by decide +kernel
theorem dX2_fill_40 : decode cX2_fill 40 = .ok (.iconst 0, 1) := by decide +kernel
theorem dX2_fill_41 : decode cX2_fill 41 = .ok (.putfield 22, 3) := by decide +kernel
theorem dX2_fill_44 : decode cX2_fill 44 = .ok (.aload_n 0, 1) := by decide +kernel
theorem dX2_fill_45 : decode cX2_fill 45 = .ok (.iconst 0, 1) := by decide +kernel
theorem dX2_fill_46 : decode cX2_fill 46 = .ok (.putfield 50, 3) := by decide +kernel
theorem dX2_fill_49 : decode cX2_fill 49 = .ok (.iconst 0, 1) := by decide +kernel
theorem dX2_fill_50 : decode cX2_fill 50 = .ok (.istore 4, 2) := by decide +kernel
theorem dX2_fill_52 : decode cX2_fill 52 = .ok (.iload 4, 2) := by decide +kernel
theorem dX2_fill_54 : decode cX2_fill 54 = .ok (.sipush 192, 3) := by decide +kernel
theorem dX2_fill_57 : decode cX2_fill 57 = .ok (.if_icmp .ge 17, 3) := by decide +kernel
theorem dX2_fill_60 : decode cX2_fill 60 = .ok (.aload_n 0, 1) := by decide +kernel
theorem dX2_fill_61 : decode cX2_fill 61 = .ok (.getfield 25, 3) := by decide +kernel
theorem dX2_fill_64 : decode cX2_fill 64 = .ok (.iload 4, 2) := by decide +kernel
theorem dX2_fill_66 : decode cX2_fill 66 = .ok (.iconst 0, 1) := by decide +kernel
theorem dX2_fill_67 : decode cX2_fill 67 = .ok (.iastore, 1) := by decide +kernel
theorem dX2_fill_68 : decode cX2_fill 68 = .ok (.iinc 4 1, 3) := by decide +kernel
theorem dX2_fill_71 : decode cX2_fill 71 = .ok (.goto (-19), 3) := by decide +kernel
theorem dX2_fill_74 : decode cX2_fill 74 = .ok (.iconst 0, 1) := by decide +kernel
theorem dX2_fill_75 : decode cX2_fill 75 = .ok (.istore 4, 2) := by decide +kernel
theorem dX2_fill_77 : decode cX2_fill 77 = .ok (.iload 4, 2) := by decide +kernel
theorem dX2_fill_79 : decode cX2_fill 79 = .ok (.bipush 8, 2) := by decide +kernel
theorem dX2_fill_81 : decode cX2_fill 81 = .ok (.if_icmp .ge 40, 3) := by decide +kernel
theorem dX2_fill_84 : decode cX2_fill 84 = .ok (.iload_n 3, 1) := by decide +kernel
theorem dX2_fill_85 : decode cX2_fill 85 = .ok (.iload 4, 2) := by decide +kernel
theorem dX2_fill_87 : decode cX2_fill 87 = .ok (.invokestatic 53, 3) := by decide +kernel
theorem dX2_fill_90 : decode cX2_fill 90 = .ok (.ifCond .eq 25, 3) := by decide +kernel
theorem dX2_fill_93 : decode cX2_fill 93 = .ok (.aload_n 0, 1) := by decide +kernel
theorem dX2_fill_94 : decode cX2_fill 94 = .ok (.aload_n 1, 1) := by decide +kernel
theorem dX2_fill_95 : decode cX2_fill 95 = .ok (.aload_n 1, 1) := by decide +kernel
theorem dX2_fill_96 : decode cX2_fill 96 = .ok (.getfield 57, 3) := by decide +kernel
theorem dX2_fill_99 : decode cX2_fill 99 = .ok (.iload_n 2, 1) := by decide +kernel
theorem dX2_fill_100 : decode cX2_fill 100 = .ok (.iaload, 1) := by decide +kernel
theorem dX2_fill_101 : decode cX2_fill 101 = .ok (.iload 4, 2) := by decide +kernel
theorem dX2_fill_103 : decode cX2_fill 103 = .ok (.invokestatic 62, 3) := by decide +kernel
theorem dX2_fill_106 : decode cX2_fill 106 = .ok (.iconst 1, 1) := by decide +kernel
theorem dX2_fill_107 : decode cX2_fill 107 = .ok (.iload 4, 2) := by decide +kernel
theorem dX2_fill_109 : decode cX2_fill 109 = .ok (.ishl, 1) := by decide +kernel
theorem dX2_fill_110 : decode cX2_fill 110 = .ok (.iconst (-1), 1) := by decide +kernel
theorem dX2_fill_111 : decode cX2_fill 111 = .ok (.iconst (-1), 1) := by decide +kernel
theorem dX2_fill_112 : decode cX2_fill 112 = .ok (.invokevirtual 66, 3) := by decide +kernel
theorem dX2_fill_115 : decode cX2_fill 115 = .ok (.iinc 4 1, 3) := by decide +kernel
theorem dX2_fill_118 : decode cX2_fill 118 = .ok (.goto (-41), 3) := by decide +kernel
theorem dX2_fill_121 : decode cX2_fill 121 = .ok (.iconst 0, 1) := by decide +kernel
theorem dX2_fill_122 : decode cX2_fill 122 = .ok (.istore 4, 2) := by decide +kernel
theorem dX2_fill_124 : decode cX2_fill 124 = .ok (.iload 4, 2) := by decide +kernel
theorem dX2_fill_126 : decode cX2_fill 126 = .ok (.aload_n 0, 1) := by decide +kernel
theorem dX2_fill_127 : decode cX2_fill 127 = .ok (.getfield 22, 3) := by decide +kernel
theorem dX2_fill_130 : decode cX2_fill 130 = .ok (.if_icmp .ge 24, 3) := by decide +kernel
theorem dX2_fill_133 : decode cX2_fill 133 = .ok (.iload 4, 2) := by decide +kernel
theorem dX2_fill_135 : decode cX2_fill 135 = .ok (.sipush 1536, 3) := by decide +kernel
theorem dX2_fill_138 : decode cX2_fill 138 = .ok (.if_icmp .ge 16, 3) := by decide +kernel
theorem dX2_fill_141 : decode cX2_fill 141 = .ok (.aload_n 0, 1) := by decide +kernel
theorem dX2_fill_142 : decode cX2_fill 142 = .ok (.aload_n 1, 1) := by decide +kernel
theorem dX2_fill_143 : decode cX2_fill 143 = .ok (.iload 4, 2) := by decide +kernel
theorem dX2_fill_145 : decode cX2_fill 145 = .ok (.invokevirtual 70, 3) := by decide +kernel
theorem dX2_fill_148 : decode cX2_fill 148 = .ok (.iinc 4 1, 3) := by decide +kernel
theorem dX2_fill_151 : decode cX2_fill 151 = .ok (.goto (-27), 3) := by decide +kernel
theorem dX2_fill_154 : decode cX2_fill 154 = .ok (.return_, 1) := by decide +kernel
theorem dX2_factsAt_0 : decode cX2_factsAt 0 = .ok (.iconst 0, 1) := by decide +kernel
theorem dX2_factsAt_1 : decode cX2_factsAt 1 = .ok (.istore_n 2, 1) := by decide +kernel
theorem dX2_factsAt_2 : decode cX2_factsAt 2 = .ok (.iconst 0, 1) := by decide +kernel
theorem dX2_factsAt_3 : decode cX2_factsAt 3 = .ok (.istore_n 3, 1) := by decide +kernel
theorem dX2_factsAt_4 : decode cX2_factsAt 4 = .ok (.iload_n 3, 1) := by decide +kernel
theorem dX2_factsAt_5 : decode cX2_factsAt 5 = .ok (.bipush 8, 2) := by decide +kernel
theorem dX2_factsAt_7 : decode cX2_factsAt 7 = .ok (.if_icmp .ge 22, 3) := by decide +kernel
theorem dX2_factsAt_10 : decode cX2_factsAt 10 = .ok (.iload_n 2, 1) := by decide +kernel
theorem dX2_factsAt_11 : decode cX2_factsAt 11 = .ok (.aload_n 0, 1) := by decide +kernel
theorem dX2_factsAt_12 : decode cX2_factsAt 12 = .ok (.getfield 25, 3) := by decide +kernel
theorem dX2_factsAt_15 : decode cX2_factsAt 15 = .ok (.iload_n 1, 1) := by decide +kernel
theorem dX2_factsAt_16 : decode cX2_factsAt 16 = .ok (.iload_n 3, 1) := by decide +kernel
theorem dX2_factsAt_17 : decode cX2_factsAt 17 = .ok (.invokestatic 62, 3) := by decide +kernel
theorem dX2_factsAt_20 : decode cX2_factsAt 20 = .ok (.iaload, 1) := by decide +kernel
theorem dX2_factsAt_21 : decode cX2_factsAt 21 = .ok (.ior, 1) := by decide +kernel
theorem dX2_factsAt_22 : decode cX2_factsAt 22 = .ok (.istore_n 2, 1) := by decide +kernel
theorem dX2_factsAt_23 : decode cX2_factsAt 23 = .ok (.iinc 3 1, 3) := by decide +kernel
theorem dX2_factsAt_26 : decode cX2_factsAt 26 = .ok (.goto (-22), 3) := by decide +kernel
theorem dX2_factsAt_29 : decode cX2_factsAt 29 = .ok (.iload_n 2, 1) := by decide +kernel
theorem dX2_factsAt_30 : decode cX2_factsAt 30 = .ok (.ireturn, 1) := by decide +kernel
theorem dX2_nodeOf_0 : decode cX2_nodeOf 0 = .ok (.aload_n 0, 1) := by decide +kernel
theorem dX2_nodeOf_1 : decode cX2_nodeOf 1 = .ok (.getfield 29, 3) := by decide +kernel
theorem dX2_nodeOf_4 : decode cX2_nodeOf 4 = .ok (.iload_n 1, 1) := by decide +kernel
theorem dX2_nodeOf_5 : decode cX2_nodeOf 5 = .ok (.iaload, 1) := by decide +kernel
theorem dX2_nodeOf_6 : decode cX2_nodeOf 6 = .ok (.bipush 64, 2) := by decide +kernel
theorem dX2_nodeOf_8 : decode cX2_nodeOf 8 = .ok (.idiv, 1) := by decide +kernel
theorem dX2_nodeOf_9 : decode cX2_nodeOf 9 = .ok (.ireturn, 1) := by decide +kernel
theorem dX2_factAtEntry_0 : decode cX2_factAtEntry 0 = .ok (.aload_n 0, 1) := by decide +kernel
theorem dX2_factAtEntry_1 : decode cX2_factAtEntry 1 = .ok (.getfield 29, 3) := by decide +kernel
theorem dX2_factAtEntry_4 : decode cX2_factAtEntry 4 = .ok (.iload_n 1, 1) := by decide +kernel
theorem dX2_factAtEntry_5 : decode cX2_factAtEntry 5 = .ok (.iaload, 1) := by decide +kernel
theorem dX2_factAtEntry_6 : decode cX2_factAtEntry 6 = .ok (.bipush 8, 2) := by decide +kernel
theorem dX2_factAtEntry_8 : decode cX2_factAtEntry 8 = .ok (.idiv, 1) := by decide +kernel
theorem dX2_factAtEntry_9 : decode cX2_factAtEntry 9 = .ok (.bipush 8, 2) := by decide +kernel
theorem dX2_factAtEntry_11 : decode cX2_factAtEntry 11 = .ok (.irem, 1) := by decide +kernel
theorem dX2_factAtEntry_12 : decode cX2_factAtEntry 12 = .ok (.ireturn, 1) := by decide +kernel
theorem dX2_factOf_0 : decode cX2_factOf 0 = .ok (.aload_n 0, 1) := by decide +kernel
theorem dX2_factOf_1 : decode cX2_factOf 1 = .ok (.getfield 29, 3) := by decide +kernel
theorem dX2_factOf_4 : decode cX2_factOf 4 = .ok (.iload_n 1, 1) := by decide +kernel
theorem dX2_factOf_5 : decode cX2_factOf 5 = .ok (.iaload, 1) := by decide +kernel
theorem dX2_factOf_6 : decode cX2_factOf 6 = .ok (.bipush 8, 2) := by decide +kernel
theorem dX2_factOf_8 : decode cX2_factOf 8 = .ok (.irem, 1) := by decide +kernel
theorem dX2_factOf_9 : decode cX2_factOf 9 = .ok (.ireturn, 1) := by decide +kernel
theorem dX2_firstWith_0 : decode cX2_firstWith 0 = .ok (.iconst (-1), 1) := by decide +kernel
theorem dX2_firstWith_1 : decode cX2_firstWith 1 = .ok (.istore_n 3, 1) := by decide +kernel
theorem dX2_firstWith_2 : decode cX2_firstWith 2 = .ok (.iconst 0, 1) := by decide +kernel
theorem dX2_firstWith_3 : decode cX2_firstWith 3 = .ok (.istore 4, 2) := by decide +kernel
theorem dX2_firstWith_5 : decode cX2_firstWith 5 = .ok (.iload 4, 2) := by decide +kernel
theorem dX2_firstWith_7 : decode cX2_firstWith 7 = .ok (.bipush 8, 2) := by decide +kernel
theorem dX2_firstWith_9 : decode cX2_firstWith 9 = .ok (.if_icmp .ge 62, 3) := by decide +kernel
theorem dX2_firstWith_12 : decode cX2_firstWith 12 = .ok (.aload_n 0, 1) := by decide +kernel
theorem dX2_firstWith_13 : decode cX2_firstWith 13 = .ok (.getfield 25, 3) := by decide +kernel
theorem dX2_firstWith_16 : decode cX2_firstWith 16 = .ok (.iload_n 1, 1) := by decide +kernel
theorem dX2_firstWith_17 : decode cX2_firstWith 17 = .ok (.iload 4, 2) := by decide +kernel
theorem dX2_firstWith_19 : decode cX2_firstWith 19 = .ok (.invokestatic 62, 3) := by decide +kernel
theorem dX2_firstWith_22 : decode cX2_firstWith 22 = .ok (.iaload, 1) := by decide +kernel
theorem dX2_firstWith_23 : decode cX2_firstWith 23 = .ok (.iload_n 2, 1) := by decide +kernel
theorem dX2_firstWith_24 : decode cX2_firstWith 24 = .ok (.invokestatic 53, 3) := by decide +kernel
theorem dX2_firstWith_27 : decode cX2_firstWith 27 = .ok (.ifCond .eq 38, 3) := by decide +kernel
theorem dX2_firstWith_30 : decode cX2_firstWith 30 = .ok (.aload_n 0, 1) := by decide +kernel
theorem dX2_firstWith_31 : decode cX2_firstWith 31 = .ok (.getfield 32, 3) := by decide +kernel
theorem dX2_firstWith_34 : decode cX2_firstWith 34 = .ok (.iload_n 1, 1) := by decide +kernel
theorem dX2_firstWith_35 : decode cX2_firstWith 35 = .ok (.iload 4, 2) := by decide +kernel
theorem dX2_firstWith_37 : decode cX2_firstWith 37 = .ok (.invokestatic 62, 3) := by decide +kernel
theorem dX2_firstWith_40 : decode cX2_firstWith 40 = .ok (.bipush 8, 2) := by decide +kernel
theorem dX2_firstWith_42 : decode cX2_firstWith 42 = .ok (.imul, 1) := by decide +kernel
theorem dX2_firstWith_43 : decode cX2_firstWith 43 = .ok (.iload_n 2, 1) := by decide +kernel
theorem dX2_firstWith_44 : decode cX2_firstWith 44 = .ok (.iadd, 1) := by decide +kernel
theorem dX2_firstWith_45 : decode cX2_firstWith 45 = .ok (.iaload, 1) := by decide +kernel
theorem dX2_firstWith_46 : decode cX2_firstWith 46 = .ok (.istore 5, 2) := by decide +kernel
theorem dX2_firstWith_48 : decode cX2_firstWith 48 = .ok (.iload_n 3, 1) := by decide +kernel
theorem dX2_firstWith_49 : decode cX2_firstWith 49 = .ok (.iconst (-1), 1) := by decide +kernel
theorem dX2_firstWith_50 : decode cX2_firstWith 50 = .ok (.if_icmp .ne 8, 3) := by decide +kernel
theorem dX2_firstWith_53 : decode cX2_firstWith 53 = .ok (.iload 5, 2) := by decide +kernel
theorem dX2_firstWith_55 : decode cX2_firstWith 55 = .ok (.goto 9, 3) := by decide +kernel
theorem dX2_firstWith_58 : decode cX2_firstWith 58 = .ok (.iload_n 3, 1) := by decide +kernel
theorem dX2_firstWith_59 : decode cX2_firstWith 59 = .ok (.iload 5, 2) := by decide +kernel
theorem dX2_firstWith_61 : decode cX2_firstWith 61 = .ok (.invokestatic 74, 3) := by decide +kernel
theorem dX2_firstWith_64 : decode cX2_firstWith 64 = .ok (.istore_n 3, 1) := by decide +kernel
theorem dX2_firstWith_65 : decode cX2_firstWith 65 = .ok (.iinc 4 1, 3) := by decide +kernel
theorem dX2_firstWith_68 : decode cX2_firstWith 68 = .ok (.goto (-63), 3) := by decide +kernel
theorem dX2_firstWith_71 : decode cX2_firstWith 71 = .ok (.iload_n 3, 1) := by decide +kernel
theorem dX2_firstWith_72 : decode cX2_firstWith 72 = .ok (.ireturn, 1) := by decide +kernel
theorem dX2_pairOfWay_0 : decode cX2_pairOfWay 0 = .ok (.iload_n 1, 1) := by decide +kernel
theorem dX2_pairOfWay_1 : decode cX2_pairOfWay 1 = .ok (.istore_n 3, 1) := by decide +kernel
theorem dX2_pairOfWay_2 : decode cX2_pairOfWay 2 = .ok (.iload_n 2, 1) := by decide +kernel
theorem dX2_pairOfWay_3 : decode cX2_pairOfWay 3 = .ok (.istore 4, 2) := by decide +kernel
theorem dX2_pairOfWay_5 : decode cX2_pairOfWay 5 = .ok (.aload_n 0, 1) := by decide +kernel
theorem dX2_pairOfWay_6 : decode cX2_pairOfWay 6 = .ok (.getfield 41, 3) := by decide +kernel
theorem dX2_pairOfWay_9 : decode cX2_pairOfWay 9 = .ok (.astore 5, 2) := by decide +kernel
theorem dX2_pairOfWay_11 : decode cX2_pairOfWay 11 = .ok (.iconst 0, 1) := by decide +kernel
theorem dX2_pairOfWay_12 : decode cX2_pairOfWay 12 = .ok (.istore 6, 2) := by decide +kernel
theorem dX2_pairOfWay_14 : decode cX2_pairOfWay 14 = .ok (.iload 6, 2) := by decide +kernel
theorem dX2_pairOfWay_16 : decode cX2_pairOfWay 16 = .ok (.sipush 1536, 3) := by decide +kernel
theorem dX2_pairOfWay_19 : decode cX2_pairOfWay 19 = .ok (.if_icmp .ge 100, 3) := by decide +kernel
theorem dX2_pairOfWay_22 : decode cX2_pairOfWay 22 = .ok (.aload 5, 2) := by decide +kernel
theorem dX2_pairOfWay_24 : decode cX2_pairOfWay 24 = .ok (.iload_n 3, 1) := by decide +kernel
theorem dX2_pairOfWay_25 : decode cX2_pairOfWay 25 = .ok (.iaload, 1) := by decide +kernel
theorem dX2_pairOfWay_26 : decode cX2_pairOfWay 26 = .ok (.iconst 1, 1) := by decide +kernel
theorem dX2_pairOfWay_27 : decode cX2_pairOfWay 27 = .ok (.if_icmp .le 92, 3) := by decide +kernel
theorem dX2_pairOfWay_30 : decode cX2_pairOfWay 30 = .ok (.aload_n 0, 1) := by decide +kernel
theorem dX2_pairOfWay_31 : decode cX2_pairOfWay 31 = .ok (.getfield 35, 3) := by decide +kernel
theorem dX2_pairOfWay_34 : decode cX2_pairOfWay 34 = .ok (.iload_n 3, 1) := by decide +kernel
theorem dX2_pairOfWay_35 : decode cX2_pairOfWay 35 = .ok (.iaload, 1) := by decide +kernel
theorem dX2_pairOfWay_36 : decode cX2_pairOfWay 36 = .ok (.iconst (-1), 1) := by decide +kernel
theorem dX2_pairOfWay_37 : decode cX2_pairOfWay 37 = .ok (.if_icmp .eq 82, 3) := by decide +kernel
theorem dX2_pairOfWay_40 : decode cX2_pairOfWay 40 = .ok (.aload 5, 2) := by decide +kernel
theorem dX2_pairOfWay_42 : decode cX2_pairOfWay 42 = .ok (.aload_n 0, 1) := by decide +kernel
theorem dX2_pairOfWay_43 : decode cX2_pairOfWay 43 = .ok (.getfield 35, 3) := by decide +kernel
theorem dX2_pairOfWay_46 : decode cX2_pairOfWay 46 = .ok (.iload_n 3, 1) := by decide +kernel
theorem dX2_pairOfWay_47 : decode cX2_pairOfWay 47 = .ok (.iaload, 1) := by decide +kernel
theorem dX2_pairOfWay_48 : decode cX2_pairOfWay 48 = .ok (.iaload, 1) := by decide +kernel
theorem dX2_pairOfWay_49 : decode cX2_pairOfWay 49 = .ok (.istore 7, 2) := by decide +kernel
theorem dX2_pairOfWay_51 : decode cX2_pairOfWay 51 = .ok (.aload_n 0, 1) := by decide +kernel
theorem dX2_pairOfWay_52 : decode cX2_pairOfWay 52 = .ok (.getfield 38, 3) := by decide +kernel
theorem dX2_pairOfWay_55 : decode cX2_pairOfWay 55 = .ok (.iload_n 3, 1) := by decide +kernel
theorem dX2_pairOfWay_56 : decode cX2_pairOfWay 56 = .ok (.iaload, 1) := by decide +kernel
theorem dX2_pairOfWay_57 : decode cX2_pairOfWay 57 = .ok (.istore 8, 2) := by decide +kernel
theorem dX2_pairOfWay_59 : decode cX2_pairOfWay 59 = .ok (.iload 4, 2) := by decide +kernel
theorem dX2_pairOfWay_61 : decode cX2_pairOfWay 61 = .ok (.iload 7, 2) := by decide +kernel
theorem dX2_pairOfWay_63 : decode cX2_pairOfWay 63 = .ok (.if_icmp .ge 13, 3) := by decide +kernel
theorem dX2_pairOfWay_66 : decode cX2_pairOfWay 66 = .ok (.aload_n 0, 1) := by decide +kernel
theorem dX2_pairOfWay_67 : decode cX2_pairOfWay 67 = .ok (.getfield 35, 3) := by decide +kernel
theorem dX2_pairOfWay_70 : decode cX2_pairOfWay 70 = .ok (.iload_n 3, 1) := by decide +kernel
theorem dX2_pairOfWay_71 : decode cX2_pairOfWay 71 = .ok (.iaload, 1) := by decide +kernel
theorem dX2_pairOfWay_72 : decode cX2_pairOfWay 72 = .ok (.istore_n 3, 1) := by decide +kernel
theorem dX2_pairOfWay_73 : decode cX2_pairOfWay 73 = .ok (.goto 40, 3) := by decide +kernel
theorem dX2_pairOfWay_76 : decode cX2_pairOfWay 76 = .ok (.iload 8, 2) := by decide +kernel
theorem dX2_pairOfWay_78 : decode cX2_pairOfWay 78 = .ok (.iconst (-1), 1) := by decide +kernel
theorem dX2_pairOfWay_79 : decode cX2_pairOfWay 79 = .ok (.if_icmp .eq 40, 3) := by decide +kernel
theorem dX2_pairOfWay_82 : decode cX2_pairOfWay 82 = .ok (.iload 4, 2) := by decide +kernel
theorem dX2_pairOfWay_84 : decode cX2_pairOfWay 84 = .ok (.iload 7, 2) := by decide +kernel
theorem dX2_pairOfWay_86 : decode cX2_pairOfWay 86 = .ok (.isub, 1) := by decide +kernel
theorem dX2_pairOfWay_87 : decode cX2_pairOfWay 87 = .ok (.aload_n 0, 1) := by decide +kernel
theorem dX2_pairOfWay_88 : decode cX2_pairOfWay 88 = .ok (.getfield 44, 3) := by decide +kernel
theorem dX2_pairOfWay_91 : decode cX2_pairOfWay 91 = .ok (.iload 8, 2) := by decide +kernel
theorem dX2_pairOfWay_93 : decode cX2_pairOfWay 93 = .ok (.iaload, 1) := by decide +kernel
theorem dX2_pairOfWay_94 : decode cX2_pairOfWay 94 = .ok (.if_icmp .ge 25, 3) := by decide +kernel
theorem dX2_pairOfWay_97 : decode cX2_pairOfWay 97 = .ok (.iload 4, 2) := by decide +kernel
theorem dX2_pairOfWay_99 : decode cX2_pairOfWay 99 = .ok (.iload 7, 2) := by decide +kernel
theorem dX2_pairOfWay_101 : decode cX2_pairOfWay 101 = .ok (.isub, 1) := by decide +kernel
theorem dX2_pairOfWay_102 : decode cX2_pairOfWay 102 = .ok (.istore 4, 2) := by decide +kernel
theorem dX2_pairOfWay_104 : decode cX2_pairOfWay 104 = .ok (.iload 8, 2) := by decide +kernel
theorem dX2_pairOfWay_106 : decode cX2_pairOfWay 106 = .ok (.istore_n 3, 1) := by decide +kernel
theorem dX2_pairOfWay_107 : decode cX2_pairOfWay 107 = .ok (.aload_n 0, 1) := by decide +kernel
theorem dX2_pairOfWay_108 : decode cX2_pairOfWay 108 = .ok (.getfield 44, 3) := by decide +kernel
theorem dX2_pairOfWay_111 : decode cX2_pairOfWay 111 = .ok (.astore 5, 2) := by decide +kernel
theorem dX2_pairOfWay_113 : decode cX2_pairOfWay 113 = .ok (.iinc 6 1, 3) := by decide +kernel
theorem dX2_pairOfWay_116 : decode cX2_pairOfWay 116 = .ok (.goto (-102), 3) := by decide +kernel
theorem dX2_pairOfWay_119 : decode cX2_pairOfWay 119 = .ok (.bipush 10, 2) := by decide +kernel
theorem dX2_pairOfWay_121 : decode cX2_pairOfWay 121 = .ok (.aload_n 0, 1) := by decide +kernel
theorem dX2_pairOfWay_122 : decode cX2_pairOfWay 122 = .ok (.iload_n 3, 1) := by decide +kernel
theorem dX2_pairOfWay_123 : decode cX2_pairOfWay 123 = .ok (.invokevirtual 79, 3) := by decide +kernel
theorem dX2_pairOfWay_126 : decode cX2_pairOfWay 126 = .ok (.imul, 1) := by decide +kernel
theorem dX2_pairOfWay_127 : decode cX2_pairOfWay 127 = .ok (.aload_n 0, 1) := by decide +kernel
theorem dX2_pairOfWay_128 : decode cX2_pairOfWay 128 = .ok (.iload_n 3, 1) := by decide +kernel
theorem dX2_pairOfWay_129 : decode cX2_pairOfWay 129 = .ok (.invokevirtual 83, 3) := by decide +kernel
theorem dX2_pairOfWay_132 : decode cX2_pairOfWay 132 = .ok (.iadd, 1) := by decide +kernel
theorem dX2_pairOfWay_133 : decode cX2_pairOfWay 133 = .ok (.ireturn, 1) := by decide +kernel
theorem dX2_take_0 : decode cX2_take 0 = .ok (.aload_n 0, 1) := by decide +kernel
theorem dX2_take_1 : decode cX2_take 1 = .ok (.iload_n 2, 1) := by decide +kernel
theorem dX2_take_2 : decode cX2_take 2 = .ok (.invokevirtual 79, 3) := by decide +kernel
theorem dX2_take_5 : decode cX2_take 5 = .ok (.istore_n 3, 1) := by decide +kernel
theorem dX2_take_6 : decode cX2_take 6 = .ok (.aload_n 1, 1) := by decide +kernel
theorem dX2_take_7 : decode cX2_take 7 = .ok (.getfield 86, 3) := by decide +kernel
theorem dX2_take_10 : decode cX2_take 10 = .ok (.iload_n 3, 1) := by decide +kernel
theorem dX2_take_11 : decode cX2_take 11 = .ok (.iaload, 1) := by decide +kernel
theorem dX2_take_12 : decode cX2_take 12 = .ok (.iconst 1, 1) := by decide +kernel
theorem dX2_take_13 : decode cX2_take 13 = .ok (.if_icmp .ne 10, 3) := by decide +kernel
theorem dX2_take_16 : decode cX2_take 16 = .ok (.aload_n 0, 1) := by decide +kernel
theorem dX2_take_17 : decode cX2_take 17 = .ok (.aload_n 1, 1) := by decide +kernel
theorem dX2_take_18 : decode cX2_take 18 = .ok (.iload_n 2, 1) := by decide +kernel
theorem dX2_take_19 : decode cX2_take 19 = .ok (.invokevirtual 89, 3) := by decide +kernel
theorem dX2_take_22 : decode cX2_take 22 = .ok (.return_, 1) := by decide +kernel
theorem dX2_take_23 : decode cX2_take 23 = .ok (.iconst 0, 1) := by decide +kernel
theorem dX2_take_24 : decode cX2_take 24 = .ok (.istore 4, 2) := by decide +kernel
theorem dX2_take_26 : decode cX2_take 26 = .ok (.iload 4, 2) := by decide +kernel
theorem dX2_take_28 : decode cX2_take 28 = .ok (.aload_n 1, 1) := by decide +kernel
theorem dX2_take_29 : decode cX2_take 29 = .ok (.getfield 92, 3) := by decide +kernel
theorem dX2_take_32 : decode cX2_take 32 = .ok (.if_icmp .ge 66, 3) := by decide +kernel
theorem dX2_take_35 : decode cX2_take 35 = .ok (.aload_n 1, 1) := by decide +kernel
theorem dX2_take_36 : decode cX2_take 36 = .ok (.getfield 95, 3) := by decide +kernel
theorem dX2_take_39 : decode cX2_take 39 = .ok (.iload 4, 2) := by decide +kernel
theorem dX2_take_41 : decode cX2_take 41 = .ok (.iaload, 1) := by decide +kernel
theorem dX2_take_42 : decode cX2_take 42 = .ok (.iload_n 3, 1) := by decide +kernel
theorem dX2_take_43 : decode cX2_take 43 = .ok (.if_icmp .ne 49, 3) := by decide +kernel
theorem dX2_take_46 : decode cX2_take 46 = .ok (.aload_n 1, 1) := by decide +kernel
theorem dX2_take_47 : decode cX2_take 47 = .ok (.getfield 98, 3) := by decide +kernel
theorem dX2_take_50 : decode cX2_take 50 = .ok (.iload 4, 2) := by decide +kernel
theorem dX2_take_52 : decode cX2_take 52 = .ok (.iaload, 1) := by decide +kernel
theorem dX2_take_53 : decode cX2_take 53 = .ok (.iconst (-1), 1) := by decide +kernel
theorem dX2_take_54 : decode cX2_take 54 = .ok (.if_icmp .eq 11, 3) := by decide +kernel
theorem dX2_take_57 : decode cX2_take 57 = .ok (.aload_n 0, 1) := by decide +kernel
theorem dX2_take_58 : decode cX2_take 58 = .ok (.aload_n 1, 1) := by decide +kernel
theorem dX2_take_59 : decode cX2_take 59 = .ok (.iload_n 2, 1) := by decide +kernel
theorem dX2_take_60 : decode cX2_take 60 = .ok (.iload 4, 2) := by decide +kernel
theorem dX2_take_62 : decode cX2_take 62 = .ok (.invokevirtual 101, 3) := by decide +kernel
theorem dX2_take_65 : decode cX2_take 65 = .ok (.aload_n 0, 1) := by decide +kernel
theorem dX2_take_66 : decode cX2_take 66 = .ok (.aload_n 1, 1) := by decide +kernel
theorem dX2_take_67 : decode cX2_take 67 = .ok (.aload_n 0, 1) := by decide +kernel
theorem dX2_take_68 : decode cX2_take 68 = .ok (.aload_n 1, 1) := by decide +kernel
theorem dX2_take_69 : decode cX2_take 69 = .ok (.iload_n 2, 1) := by decide +kernel
theorem dX2_take_70 : decode cX2_take 70 = .ok (.iload 4, 2) := by decide +kernel
theorem dX2_take_72 : decode cX2_take 72 = .ok (.invokevirtual 105, 3) := by decide +kernel
theorem dX2_take_75 : decode cX2_take 75 = .ok (.aload_n 1, 1) := by decide +kernel
theorem dX2_take_76 : decode cX2_take 76 = .ok (.iload 4, 2) := by decide +kernel
theorem dX2_take_78 : decode cX2_take 78 = .ok (.iconst 0, 1) := by decide +kernel
theorem dX2_take_79 : decode cX2_take 79 = .ok (.aload_n 0, 1) := by decide +kernel
theorem dX2_take_80 : decode cX2_take 80 = .ok (.iload_n 2, 1) := by decide +kernel
theorem dX2_take_81 : decode cX2_take 81 = .ok (.invokevirtual 83, 3) := by decide +kernel
theorem dX2_take_84 : decode cX2_take 84 = .ok (.invokevirtual 109, 3) := by decide +kernel
theorem dX2_take_87 : decode cX2_take 87 = .ok (.iload_n 2, 1) := by decide +kernel
theorem dX2_take_88 : decode cX2_take 88 = .ok (.iconst (-1), 1) := by decide +kernel
theorem dX2_take_89 : decode cX2_take 89 = .ok (.invokevirtual 66, 3) := by decide +kernel
theorem dX2_take_92 : decode cX2_take 92 = .ok (.iinc 4 1, 3) := by decide +kernel
theorem dX2_take_95 : decode cX2_take 95 = .ok (.goto (-69), 3) := by decide +kernel
theorem dX2_take_98 : decode cX2_take 98 = .ok (.return_, 1) := by decide +kernel
theorem dX2_landing_0 : decode cX2_landing 0 = .ok (.aload_n 1, 1) := by decide +kernel
theorem dX2_landing_1 : decode cX2_landing 1 = .ok (.getfield 113, 3) := by decide +kernel
theorem dX2_landing_4 : decode cX2_landing 4 = .ok (.iload_n 3, 1) := by decide +kernel
theorem dX2_landing_5 : decode cX2_landing 5 = .ok (.iaload, 1) := by decide +kernel
theorem dX2_landing_6 : decode cX2_landing 6 = .ok (.aload_n 0, 1) := by decide +kernel
theorem dX2_landing_7 : decode cX2_landing 7 = .ok (.iload_n 2, 1) := by decide +kernel
theorem dX2_landing_8 : decode cX2_landing 8 = .ok (.invokevirtual 116, 3) := by decide +kernel
theorem dX2_landing_11 : decode cX2_landing 11 = .ok (.invokestatic 62, 3) := by decide +kernel
theorem dX2_landing_14 : decode cX2_landing 14 = .ok (.ireturn, 1) := by decide +kernel
theorem dX2_enter_0 : decode cX2_enter 0 = .ok (.aload_n 0, 1) := by decide +kernel
theorem dX2_enter_1 : decode cX2_enter 1 = .ok (.iload_n 2, 1) := by decide +kernel
theorem dX2_enter_2 : decode cX2_enter 2 = .ok (.iload_n 3, 1) := by decide +kernel
theorem dX2_enter_3 : decode cX2_enter 3 = .ok (.invokevirtual 119, 3) := by decide +kernel
theorem dX2_enter_6 : decode cX2_enter 6 = .ok (.aload_n 1, 1) := by decide +kernel
theorem dX2_enter_7 : decode cX2_enter 7 = .ok (.iload_n 3, 1) := by decide +kernel
theorem dX2_enter_8 : decode cX2_enter 8 = .ok (.iconst 1, 1) := by decide +kernel
theorem dX2_enter_9 : decode cX2_enter 9 = .ok (.aload_n 0, 1) := by decide +kernel
theorem dX2_enter_10 : decode cX2_enter 10 = .ok (.iload_n 2, 1) := by decide +kernel
theorem dX2_enter_11 : decode cX2_enter 11 = .ok (.invokevirtual 83, 3) := by decide +kernel
theorem dX2_enter_14 : decode cX2_enter 14 = .ok (.invokevirtual 109, 3) := by decide +kernel
theorem dX2_enter_17 : decode cX2_enter 17 = .ok (.istore 4, 2) := by decide +kernel
theorem dX2_enter_19 : decode cX2_enter 19 = .ok (.aload_n 1, 1) := by decide +kernel
theorem dX2_enter_20 : decode cX2_enter 20 = .ok (.getfield 98, 3) := by decide +kernel
theorem dX2_enter_23 : decode cX2_enter 23 = .ok (.iload_n 3, 1) := by decide +kernel
theorem dX2_enter_24 : decode cX2_enter 24 = .ok (.iaload, 1) := by decide +kernel
theorem dX2_enter_25 : decode cX2_enter 25 = .ok (.istore 5, 2) := by decide +kernel
theorem dX2_enter_27 : decode cX2_enter 27 = .ok (.iconst 0, 1) := by decide +kernel
theorem dX2_enter_28 : decode cX2_enter 28 = .ok (.istore 6, 2) := by decide +kernel
theorem dX2_enter_30 : decode cX2_enter 30 = .ok (.iload 6, 2) := by decide +kernel
theorem dX2_enter_32 : decode cX2_enter 32 = .ok (.bipush 8, 2) := by decide +kernel
theorem dX2_enter_34 : decode cX2_enter 34 = .ok (.if_icmp .ge 61, 3) := by decide +kernel
theorem dX2_enter_37 : decode cX2_enter 37 = .ok (.iload 4, 2) := by decide +kernel
theorem dX2_enter_39 : decode cX2_enter 39 = .ok (.iload 6, 2) := by decide +kernel
theorem dX2_enter_41 : decode cX2_enter 41 = .ok (.invokestatic 53, 3) := by decide +kernel
theorem dX2_enter_44 : decode cX2_enter 44 = .ok (.ifCond .eq 45, 3) := by decide +kernel
theorem dX2_enter_47 : decode cX2_enter 47 = .ok (.aload_n 0, 1) := by decide +kernel
theorem dX2_enter_48 : decode cX2_enter 48 = .ok (.aload_n 1, 1) := by decide +kernel
theorem dX2_enter_49 : decode cX2_enter 49 = .ok (.aload_n 1, 1) := by decide +kernel
theorem dX2_enter_50 : decode cX2_enter 50 = .ok (.getfield 57, 3) := by decide +kernel
theorem dX2_enter_53 : decode cX2_enter 53 = .ok (.iload 5, 2) := by decide +kernel
theorem dX2_enter_55 : decode cX2_enter 55 = .ok (.iaload, 1) := by decide +kernel
theorem dX2_enter_56 : decode cX2_enter 56 = .ok (.iload 6, 2) := by decide +kernel
theorem dX2_enter_58 : decode cX2_enter 58 = .ok (.invokestatic 62, 3) := by decide +kernel
theorem dX2_enter_61 : decode cX2_enter 61 = .ok (.iconst 1, 1) := by decide +kernel
theorem dX2_enter_62 : decode cX2_enter 62 = .ok (.iload 6, 2) := by decide +kernel
theorem dX2_enter_64 : decode cX2_enter 64 = .ok (.ishl, 1) := by decide +kernel
theorem dX2_enter_65 : decode cX2_enter 65 = .ok (.iload_n 2, 1) := by decide +kernel
theorem dX2_enter_66 : decode cX2_enter 66 = .ok (.iconst (-1), 1) := by decide +kernel
theorem dX2_enter_67 : decode cX2_enter 67 = .ok (.invokevirtual 66, 3) := by decide +kernel
theorem dX2_enter_70 : decode cX2_enter 70 = .ok (.aload_n 0, 1) := by decide +kernel
theorem dX2_enter_71 : decode cX2_enter 71 = .ok (.aload_n 1, 1) := by decide +kernel
theorem dX2_enter_72 : decode cX2_enter 72 = .ok (.iload_n 2, 1) := by decide +kernel
theorem dX2_enter_73 : decode cX2_enter 73 = .ok (.iload_n 3, 1) := by decide +kernel
theorem dX2_enter_74 : decode cX2_enter 74 = .ok (.aload_n 1, 1) := by decide +kernel
theorem dX2_enter_75 : decode cX2_enter 75 = .ok (.getfield 123, 3) := by decide +kernel
theorem dX2_enter_78 : decode cX2_enter 78 = .ok (.iload 5, 2) := by decide +kernel
theorem dX2_enter_80 : decode cX2_enter 80 = .ok (.iaload, 1) := by decide +kernel
theorem dX2_enter_81 : decode cX2_enter 81 = .ok (.iload 6, 2) := by decide +kernel
theorem dX2_enter_83 : decode cX2_enter 83 = .ok (.invokestatic 62, 3) := by decide +kernel
theorem dX2_enter_86 : decode cX2_enter 86 = .ok (.invokevirtual 126, 3) := by decide +kernel
theorem dX2_enter_89 : decode cX2_enter 89 = .ok (.iinc 6 1, 3) := by decide +kernel
theorem dX2_enter_92 : decode cX2_enter 92 = .ok (.goto (-62), 3) := by decide +kernel
theorem dX2_enter_95 : decode cX2_enter 95 = .ok (.return_, 1) := by decide +kernel
theorem dX2_noteSite_0 : decode cX2_noteSite 0 = .ok (.aload_n 0, 1) := by decide +kernel
theorem dX2_noteSite_1 : decode cX2_noteSite 1 = .ok (.getfield 50, 3) := by decide +kernel
theorem dX2_noteSite_4 : decode cX2_noteSite 4 = .ok (.sipush 2048, 3) := by decide +kernel
theorem dX2_noteSite_7 : decode cX2_noteSite 7 = .ok (.if_icmp .ge 28, 3) := by decide +kernel
theorem dX2_noteSite_10 : decode cX2_noteSite 10 = .ok (.aload_n 0, 1) := by decide +kernel
theorem dX2_noteSite_11 : decode cX2_noteSite 11 = .ok (.getfield 47, 3) := by decide +kernel
theorem dX2_noteSite_14 : decode cX2_noteSite 14 = .ok (.aload_n 0, 1) := by decide +kernel
theorem dX2_noteSite_15 : decode cX2_noteSite 15 = .ok (.getfield 50, 3) := by decide +kernel
theorem dX2_noteSite_18 : decode cX2_noteSite 18 = .ok (.iload_n 1, 1) := by decide +kernel
theorem dX2_noteSite_19 : decode cX2_noteSite 19 = .ok (.bipush 32, 2) := by decide +kernel
theorem dX2_noteSite_21 : decode cX2_noteSite 21 = .ok (.imul, 1) := by decide +kernel
theorem dX2_noteSite_22 : decode cX2_noteSite 22 = .ok (.iload_n 2, 1) := by decide +kernel
theorem dX2_noteSite_23 : decode cX2_noteSite 23 = .ok (.iadd, 1) := by decide +kernel
theorem dX2_noteSite_24 : decode cX2_noteSite 24 = .ok (.iastore, 1) := by decide +kernel
theorem dX2_noteSite_25 : decode cX2_noteSite 25 = .ok (.aload_n 0, 1) := by decide +kernel
theorem dX2_noteSite_26 : decode cX2_noteSite 26 = .ok (.dup, 1) := by decide +kernel
theorem dX2_noteSite_27 : decode cX2_noteSite 27 = .ok (.getfield 50, 3) := by decide +kernel
theorem dX2_noteSite_30 : decode cX2_noteSite 30 = .ok (.iconst 1, 1) := by decide +kernel
theorem dX2_noteSite_31 : decode cX2_noteSite 31 = .ok (.iadd, 1) := by decide +kernel
theorem dX2_noteSite_32 : decode cX2_noteSite 32 = .ok (.putfield 50, 3) := by decide +kernel
theorem dX2_noteSite_35 : decode cX2_noteSite 35 = .ok (.return_, 1) := by decide +kernel
theorem dX2_leaveAsKnown_0 : decode cX2_leaveAsKnown 0 = .ok (.iconst 0, 1) := by decide +kernel
theorem dX2_leaveAsKnown_1 : decode cX2_leaveAsKnown 1 = .ok (.istore 5, 2) := by decide +kernel
theorem dX2_leaveAsKnown_3 : decode cX2_leaveAsKnown 3 = .ok (.iload 5, 2) := by decide +kernel
theorem dX2_leaveAsKnown_5 : decode cX2_leaveAsKnown 5 = .ok (.bipush 8, 2) := by decide +kernel
theorem dX2_leaveAsKnown_7 : decode cX2_leaveAsKnown 7 = .ok (.if_icmp .ge 62, 3) := by decide +kernel
theorem dX2_leaveAsKnown_10 : decode cX2_leaveAsKnown 10 = .ok (.aload_n 0, 1) := by decide +kernel
theorem dX2_leaveAsKnown_11 : decode cX2_leaveAsKnown 11 = .ok (.getfield 25, 3) := by decide +kernel
theorem dX2_leaveAsKnown_14 : decode cX2_leaveAsKnown 14 = .ok (.iload 4, 2) := by decide +kernel
theorem dX2_leaveAsKnown_16 : decode cX2_leaveAsKnown 16 = .ok (.iaload, 1) := by decide +kernel
theorem dX2_leaveAsKnown_17 : decode cX2_leaveAsKnown 17 = .ok (.iload 5, 2) := by decide +kernel
theorem dX2_leaveAsKnown_19 : decode cX2_leaveAsKnown 19 = .ok (.invokestatic 53, 3) := by decide +kernel
theorem dX2_leaveAsKnown_22 : decode cX2_leaveAsKnown 22 = .ok (.ifCond .eq 41, 3) := by decide +kernel
theorem dX2_leaveAsKnown_25 : decode cX2_leaveAsKnown 25 = .ok (.aload_n 0, 1) := by decide +kernel
theorem dX2_leaveAsKnown_26 : decode cX2_leaveAsKnown 26 = .ok (.getfield 32, 3) := by decide +kernel
theorem dX2_leaveAsKnown_29 : decode cX2_leaveAsKnown 29 = .ok (.iload 4, 2) := by decide +kernel
theorem dX2_leaveAsKnown_31 : decode cX2_leaveAsKnown 31 = .ok (.bipush 8, 2) := by decide +kernel
theorem dX2_leaveAsKnown_33 : decode cX2_leaveAsKnown 33 = .ok (.imul, 1) := by decide +kernel
theorem dX2_leaveAsKnown_34 : decode cX2_leaveAsKnown 34 = .ok (.iload 5, 2) := by decide +kernel
theorem dX2_leaveAsKnown_36 : decode cX2_leaveAsKnown 36 = .ok (.iadd, 1) := by decide +kernel
theorem dX2_leaveAsKnown_37 : decode cX2_leaveAsKnown 37 = .ok (.iaload, 1) := by decide +kernel
theorem dX2_leaveAsKnown_38 : decode cX2_leaveAsKnown 38 = .ok (.istore 6, 2) := by decide +kernel
theorem dX2_leaveAsKnown_40 : decode cX2_leaveAsKnown 40 = .ok (.aload_n 0, 1) := by decide +kernel
theorem dX2_leaveAsKnown_41 : decode cX2_leaveAsKnown 41 = .ok (.aload_n 1, 1) := by decide +kernel
theorem dX2_leaveAsKnown_42 : decode cX2_leaveAsKnown 42 = .ok (.aload_n 0, 1) := by decide +kernel
theorem dX2_leaveAsKnown_43 : decode cX2_leaveAsKnown 43 = .ok (.aload_n 1, 1) := by decide +kernel
theorem dX2_leaveAsKnown_44 : decode cX2_leaveAsKnown 44 = .ok (.iload_n 2, 1) := by decide +kernel
theorem dX2_leaveAsKnown_45 : decode cX2_leaveAsKnown 45 = .ok (.iload_n 3, 1) := by decide +kernel
theorem dX2_leaveAsKnown_46 : decode cX2_leaveAsKnown 46 = .ok (.invokevirtual 105, 3) := by decide +kernel
theorem dX2_leaveAsKnown_49 : decode cX2_leaveAsKnown 49 = .ok (.aload_n 1, 1) := by decide +kernel
theorem dX2_leaveAsKnown_50 : decode cX2_leaveAsKnown 50 = .ok (.iload_n 3, 1) := by decide +kernel
theorem dX2_leaveAsKnown_51 : decode cX2_leaveAsKnown 51 = .ok (.iconst 2, 1) := by decide +kernel
theorem dX2_leaveAsKnown_52 : decode cX2_leaveAsKnown 52 = .ok (.iload 5, 2) := by decide +kernel
theorem dX2_leaveAsKnown_54 : decode cX2_leaveAsKnown 54 = .ok (.invokevirtual 109, 3) := by decide +kernel
theorem dX2_leaveAsKnown_57 : decode cX2_leaveAsKnown 57 = .ok (.iload_n 2, 1) := by decide +kernel
theorem dX2_leaveAsKnown_58 : decode cX2_leaveAsKnown 58 = .ok (.iload 6, 2) := by decide +kernel
theorem dX2_leaveAsKnown_60 : decode cX2_leaveAsKnown 60 = .ok (.invokevirtual 66, 3) := by decide +kernel
theorem dX2_leaveAsKnown_63 : decode cX2_leaveAsKnown 63 = .ok (.iinc 5 1, 3) := by decide +kernel
theorem dX2_leaveAsKnown_66 : decode cX2_leaveAsKnown 66 = .ok (.goto (-63), 3) := by decide +kernel
theorem dX2_leaveAsKnown_69 : decode cX2_leaveAsKnown 69 = .ok (.return_, 1) := by decide +kernel
theorem dX2_returnToCallers_0 : decode cX2_returnToCallers 0 = .ok (.aload_n 1, 1) := by decide +kernel
theorem dX2_returnToCallers_1 : decode cX2_returnToCallers 1 = .ok (.getfield 130, 3) := by decide +kernel
theorem dX2_returnToCallers_4 : decode cX2_returnToCallers 4 = .ok (.aload_n 0, 1) := by decide +kernel
theorem dX2_returnToCallers_5 : decode cX2_returnToCallers 5 = .ok (.iload_n 2, 1) := by decide +kernel
theorem dX2_returnToCallers_6 : decode cX2_returnToCallers 6 = .ok (.invokevirtual 79, 3) := by decide +kernel
theorem dX2_returnToCallers_9 : decode cX2_returnToCallers 9 = .ok (.iaload, 1) := by decide +kernel
theorem dX2_returnToCallers_10 : decode cX2_returnToCallers 10 = .ok (.istore_n 3, 1) := by decide +kernel
theorem dX2_returnToCallers_11 : decode cX2_returnToCallers 11 = .ok (.aload_n 0, 1) := by decide +kernel
theorem dX2_returnToCallers_12 : decode cX2_returnToCallers 12 = .ok (.iload_n 2, 1) := by decide +kernel
theorem dX2_returnToCallers_13 : decode cX2_returnToCallers 13 = .ok (.invokevirtual 116, 3) := by decide +kernel
theorem dX2_returnToCallers_16 : decode cX2_returnToCallers 16 = .ok (.istore 4, 2) := by decide +kernel
theorem dX2_returnToCallers_18 : decode cX2_returnToCallers 18 = .ok (.iconst 0, 1) := by decide +kernel
theorem dX2_returnToCallers_19 : decode cX2_returnToCallers 19 = .ok (.istore 5, 2) := by decide +kernel
theorem dX2_returnToCallers_21 : decode cX2_returnToCallers 21 = .ok (.iload 5, 2) := by decide +kernel
theorem dX2_returnToCallers_23 : decode cX2_returnToCallers 23 = .ok (.aload_n 0, 1) := by decide +kernel
theorem dX2_returnToCallers_24 : decode cX2_returnToCallers 24 = .ok (.getfield 50, 3) := by decide +kernel
theorem dX2_returnToCallers_27 : decode cX2_returnToCallers 27 = .ok (.if_icmp .ge 94, 3) := by decide +kernel
theorem dX2_returnToCallers_30 : decode cX2_returnToCallers 30 = .ok (.aload_n 0, 1) := by decide +kernel
theorem dX2_returnToCallers_31 : decode cX2_returnToCallers 31 = .ok (.getfield 47, 3) := by decide +kernel
theorem dX2_returnToCallers_34 : decode cX2_returnToCallers 34 = .ok (.iload 5, 2) := by decide +kernel
theorem dX2_returnToCallers_36 : decode cX2_returnToCallers 36 = .ok (.iaload, 1) := by decide +kernel
theorem dX2_returnToCallers_37 : decode cX2_returnToCallers 37 = .ok (.bipush 32, 2) := by decide +kernel
theorem dX2_returnToCallers_39 : decode cX2_returnToCallers 39 = .ok (.idiv, 1) := by decide +kernel
theorem dX2_returnToCallers_40 : decode cX2_returnToCallers 40 = .ok (.istore 6, 2) := by decide +kernel
theorem dX2_returnToCallers_42 : decode cX2_returnToCallers 42 = .ok (.aload_n 0, 1) := by decide +kernel
theorem dX2_returnToCallers_43 : decode cX2_returnToCallers 43 = .ok (.getfield 47, 3) := by decide +kernel
theorem dX2_returnToCallers_46 : decode cX2_returnToCallers 46 = .ok (.iload 5, 2) := by decide +kernel
theorem dX2_returnToCallers_48 : decode cX2_returnToCallers 48 = .ok (.iaload, 1) := by decide +kernel
theorem dX2_returnToCallers_49 : decode cX2_returnToCallers 49 = .ok (.bipush 32, 2) := by decide +kernel
theorem dX2_returnToCallers_51 : decode cX2_returnToCallers 51 = .ok (.irem, 1) := by decide +kernel
theorem dX2_returnToCallers_52 : decode cX2_returnToCallers 52 = .ok (.istore 7, 2) := by decide +kernel
theorem dX2_returnToCallers_54 : decode cX2_returnToCallers 54 = .ok (.aload_n 1, 1) := by decide +kernel
theorem dX2_returnToCallers_55 : decode cX2_returnToCallers 55 = .ok (.getfield 98, 3) := by decide +kernel
theorem dX2_returnToCallers_58 : decode cX2_returnToCallers 58 = .ok (.iload 7, 2) := by decide +kernel
theorem dX2_returnToCallers_60 : decode cX2_returnToCallers 60 = .ok (.iaload, 1) := by decide +kernel
theorem dX2_returnToCallers_61 : decode cX2_returnToCallers 61 = .ok (.iload_n 3, 1) := by decide +kernel
theorem dX2_returnToCallers_62 : decode cX2_returnToCallers 62 = .ok (.if_icmp .ne 53, 3) := by decide +kernel
theorem dX2_returnToCallers_65 : decode cX2_returnToCallers 65 = .ok (.aload_n 1, 1) := by decide +kernel
theorem dX2_returnToCallers_66 : decode cX2_returnToCallers 66 = .ok (.iload 7, 2) := by decide +kernel
theorem dX2_returnToCallers_68 : decode cX2_returnToCallers 68 = .ok (.iconst 1, 1) := by decide +kernel
theorem dX2_returnToCallers_69 : decode cX2_returnToCallers 69 = .ok (.aload_n 0, 1) := by decide +kernel
theorem dX2_returnToCallers_70 : decode cX2_returnToCallers 70 = .ok (.iload 6, 2) := by decide +kernel
theorem dX2_returnToCallers_72 : decode cX2_returnToCallers 72 = .ok (.invokevirtual 83, 3) := by decide +kernel
theorem dX2_returnToCallers_75 : decode cX2_returnToCallers 75 = .ok (.invokevirtual 109, 3) := by decide +kernel
theorem dX2_returnToCallers_78 : decode cX2_returnToCallers 78 = .ok (.iload 4, 2) := by decide +kernel
theorem dX2_returnToCallers_80 : decode cX2_returnToCallers 80 = .ok (.invokestatic 53, 3) := by decide +kernel
theorem dX2_returnToCallers_83 : decode cX2_returnToCallers 83 = .ok (.ifCond .eq 32, 3) := by decide +kernel
theorem dX2_returnToCallers_86 : decode cX2_returnToCallers 86 = .ok (.aload_n 0, 1) := by decide +kernel
theorem dX2_returnToCallers_87 : decode cX2_returnToCallers 87 = .ok (.aload_n 1, 1) := by decide +kernel
theorem dX2_returnToCallers_88 : decode cX2_returnToCallers 88 = .ok (.aload_n 0, 1) := by decide +kernel
theorem dX2_returnToCallers_89 : decode cX2_returnToCallers 89 = .ok (.aload_n 1, 1) := by decide +kernel
theorem dX2_returnToCallers_90 : decode cX2_returnToCallers 90 = .ok (.iload 6, 2) := by decide +kernel
theorem dX2_returnToCallers_92 : decode cX2_returnToCallers 92 = .ok (.iload 7, 2) := by decide +kernel
theorem dX2_returnToCallers_94 : decode cX2_returnToCallers 94 = .ok (.invokevirtual 105, 3) := by decide +kernel
theorem dX2_returnToCallers_97 : decode cX2_returnToCallers 97 = .ok (.aload_n 1, 1) := by decide +kernel
theorem dX2_returnToCallers_98 : decode cX2_returnToCallers 98 = .ok (.iload 7, 2) := by decide +kernel
theorem dX2_returnToCallers_100 : decode cX2_returnToCallers 100 = .ok (.iconst 2, 1) := by decide +kernel
theorem dX2_returnToCallers_101 : decode cX2_returnToCallers 101 = .ok (.aload_n 0, 1) := by decide +kernel
theorem dX2_returnToCallers_102 : decode cX2_returnToCallers 102 = .ok (.iload_n 2, 1) := by decide +kernel
theorem dX2_returnToCallers_103 : decode cX2_returnToCallers 103 = .ok (.invokevirtual 83, 3) := by decide +kernel
theorem dX2_returnToCallers_106 : decode cX2_returnToCallers 106 = .ok (.invokevirtual 109, 3) := by decide +kernel
theorem dX2_returnToCallers_109 : decode cX2_returnToCallers 109 = .ok (.iload 6, 2) := by decide +kernel
theorem dX2_returnToCallers_111 : decode cX2_returnToCallers 111 = .ok (.iload_n 2, 1) := by decide +kernel
theorem dX2_returnToCallers_112 : decode cX2_returnToCallers 112 = .ok (.invokevirtual 66, 3) := by decide +kernel
theorem dX2_returnToCallers_115 : decode cX2_returnToCallers 115 = .ok (.iinc 5 1, 3) := by decide +kernel
theorem dX2_returnToCallers_118 : decode cX2_returnToCallers 118 = .ok (.goto (-97), 3) := by decide +kernel
theorem dX2_returnToCallers_121 : decode cX2_returnToCallers 121 = .ok (.return_, 1) := by decide +kernel
theorem dX2_come_0 : decode cX2_come 0 = .ok (.iload_n 3, 1) := by decide +kernel
theorem dX2_come_1 : decode cX2_come 1 = .ok (.aload_n 0, 1) := by decide +kernel
theorem dX2_come_2 : decode cX2_come 2 = .ok (.getfield 25, 3) := by decide +kernel
theorem dX2_come_5 : decode cX2_come 5 = .ok (.iload_n 2, 1) := by decide +kernel
theorem dX2_come_6 : decode cX2_come 6 = .ok (.iaload, 1) := by decide +kernel
theorem dX2_come_7 : decode cX2_come 7 = .ok (.iconst (-1), 1) := by decide +kernel
theorem dX2_come_8 : decode cX2_come 8 = .ok (.ixor, 1) := by decide +kernel
theorem dX2_come_9 : decode cX2_come 9 = .ok (.iand, 1) := by decide +kernel
theorem dX2_come_10 : decode cX2_come 10 = .ok (.istore 6, 2) := by decide +kernel
theorem dX2_come_12 : decode cX2_come 12 = .ok (.iload 6, 2) := by decide +kernel
theorem dX2_come_14 : decode cX2_come 14 = .ok (.ifCond .ne 4, 3) := by decide +kernel
theorem dX2_come_17 : decode cX2_come 17 = .ok (.return_, 1) := by decide +kernel
theorem dX2_come_18 : decode cX2_come 18 = .ok (.iload 4, 2) := by decide +kernel
theorem dX2_come_20 : decode cX2_come 20 = .ok (.iconst (-1), 1) := by decide +kernel
theorem dX2_come_21 : decode cX2_come 21 = .ok (.if_icmp .ne 7, 3) := by decide +kernel
theorem dX2_come_24 : decode cX2_come 24 = .ok (.iconst 1, 1) := by decide +kernel
theorem dX2_come_25 : decode cX2_come 25 = .ok (.goto 4, 3) := by decide +kernel
theorem dX2_come_28 : decode cX2_come 28 = .ok (.iconst 0, 1) := by decide +kernel
theorem dX2_come_29 : decode cX2_come 29 = .ok (.istore 7, 2) := by decide +kernel
theorem dX2_come_31 : decode cX2_come 31 = .ok (.iload 7, 2) := by decide +kernel
theorem dX2_come_33 : decode cX2_come 33 = .ok (.ifCond .ne 15, 3) := by decide +kernel
theorem dX2_come_36 : decode cX2_come 36 = .ok (.aload_n 1, 1) := by decide +kernel
theorem dX2_come_37 : decode cX2_come 37 = .ok (.getfield 86, 3) := by decide +kernel
theorem dX2_come_40 : decode cX2_come 40 = .ok (.iload_n 2, 1) := by decide +kernel
theorem dX2_come_41 : decode cX2_come 41 = .ok (.bipush 8, 2) := by decide +kernel
theorem dX2_come_43 : decode cX2_come 43 = .ok (.idiv, 1) := by decide +kernel
theorem dX2_come_44 : decode cX2_come 44 = .ok (.iaload, 1) := by decide +kernel
theorem dX2_come_45 : decode cX2_come 45 = .ok (.ifCond .ne 7, 3) := by decide +kernel
theorem dX2_come_48 : decode cX2_come 48 = .ok (.iconst 1, 1) := by decide +kernel
theorem dX2_come_49 : decode cX2_come 49 = .ok (.goto 4, 3) := by decide +kernel
theorem dX2_come_52 : decode cX2_come 52 = .ok (.iconst 0, 1) := by decide +kernel
theorem dX2_come_53 : decode cX2_come 53 = .ok (.istore 8, 2) := by decide +kernel
theorem dX2_come_55 : decode cX2_come 55 = .ok (.iconst 1, 1) := by decide +kernel
theorem dX2_come_56 : decode cX2_come 56 = .ok (.iload 5, 2) := by decide +kernel
theorem dX2_come_58 : decode cX2_come 58 = .ok (.iconst (-1), 1) := by decide +kernel
theorem dX2_come_59 : decode cX2_come 59 = .ok (.if_icmp .ne 7, 3) := by decide +kernel
theorem dX2_come_62 : decode cX2_come 62 = .ok (.iconst 0, 1) := by decide +kernel
theorem dX2_come_63 : decode cX2_come 63 = .ok (.goto 10, 3) := by decide +kernel
theorem dX2_come_66 : decode cX2_come 66 = .ok (.aload_n 0, 1) := by decide +kernel
theorem dX2_come_67 : decode cX2_come 67 = .ok (.getfield 44, 3) := by decide +kernel
theorem dX2_come_70 : decode cX2_come 70 = .ok (.iload 5, 2) := by decide +kernel
theorem dX2_come_72 : decode cX2_come 72 = .ok (.iaload, 1) := by decide +kernel
theorem dX2_come_73 : decode cX2_come 73 = .ok (.iadd, 1) := by decide +kernel
theorem dX2_come_74 : decode cX2_come 74 = .ok (.istore 9, 2) := by decide +kernel
theorem dX2_come_76 : decode cX2_come 76 = .ok (.iload 7, 2) := by decide +kernel
theorem dX2_come_78 : decode cX2_come 78 = .ok (.ifCond .eq 7, 3) := by decide +kernel
theorem dX2_come_81 : decode cX2_come 81 = .ok (.iconst 1, 1) := by decide +kernel
theorem dX2_come_82 : decode cX2_come 82 = .ok (.goto 19, 3) := by decide +kernel
theorem dX2_come_85 : decode cX2_come 85 = .ok (.aload_n 0, 1) := by decide +kernel
theorem dX2_come_86 : decode cX2_come 86 = .ok (.getfield 41, 3) := by decide +kernel
theorem dX2_come_89 : decode cX2_come 89 = .ok (.iload 4, 2) := by decide +kernel
theorem dX2_come_91 : decode cX2_come 91 = .ok (.iaload, 1) := by decide +kernel
theorem dX2_come_92 : decode cX2_come 92 = .ok (.iload 9, 2) := by decide +kernel
theorem dX2_come_94 : decode cX2_come 94 = .ok (.iadd, 1) := by decide +kernel
theorem dX2_come_95 : decode cX2_come 95 = .ok (.sipush 1000, 3) := by decide +kernel
theorem dX2_come_98 : decode cX2_come 98 = .ok (.invokestatic 74, 3) := by decide +kernel
theorem dX2_come_101 : decode cX2_come 101 = .ok (.istore 10, 2) := by decide +kernel
theorem dX2_come_103 : decode cX2_come 103 = .ok (.iload 8, 2) := by decide +kernel
theorem dX2_come_105 : decode cX2_come 105 = .ok (.ifCond .eq 7, 3) := by decide +kernel
theorem dX2_come_108 : decode cX2_come 108 = .ok (.iconst 1, 1) := by decide +kernel
theorem dX2_come_109 : decode cX2_come 109 = .ok (.goto 19, 3) := by decide +kernel
theorem dX2_come_112 : decode cX2_come 112 = .ok (.aload_n 0, 1) := by decide +kernel
theorem dX2_come_113 : decode cX2_come 113 = .ok (.getfield 44, 3) := by decide +kernel
theorem dX2_come_116 : decode cX2_come 116 = .ok (.iload 4, 2) := by decide +kernel
theorem dX2_come_118 : decode cX2_come 118 = .ok (.iaload, 1) := by decide +kernel
theorem dX2_come_119 : decode cX2_come 119 = .ok (.iload 9, 2) := by decide +kernel
theorem dX2_come_121 : decode cX2_come 121 = .ok (.iadd, 1) := by decide +kernel
theorem dX2_come_122 : decode cX2_come 122 = .ok (.sipush 1000, 3) := by decide +kernel
theorem dX2_come_125 : decode cX2_come 125 = .ok (.invokestatic 74, 3) := by decide +kernel
theorem dX2_come_128 : decode cX2_come 128 = .ok (.istore 11, 2) := by decide +kernel
theorem dX2_come_130 : decode cX2_come 130 = .ok (.aload_n 0, 1) := by decide +kernel
theorem dX2_come_131 : decode cX2_come 131 = .ok (.getfield 25, 3) := by decide +kernel
theorem dX2_come_134 : decode cX2_come 134 = .ok (.iload_n 2, 1) := by decide +kernel
theorem dX2_come_135 : decode cX2_come 135 = .ok (.dup2, 1) := by decide +kernel
theorem dX2_come_136 : decode cX2_come 136 = .ok (.iaload, 1) := by decide +kernel
theorem dX2_come_137 : decode cX2_come 137 = .ok (.iload 6, 2) := by decide +kernel
theorem dX2_come_139 : decode cX2_come 139 = .ok (.ior, 1) := by decide +kernel
theorem dX2_come_140 : decode cX2_come 140 = .ok (.iastore, 1) := by decide +kernel
theorem dX2_come_141 : decode cX2_come 141 = .ok (.iconst 0, 1) := by decide +kernel
theorem dX2_come_142 : decode cX2_come 142 = .ok (.istore 12, 2) := by decide +kernel
theorem dX2_come_144 : decode cX2_come 144 = .ok (.iload 12, 2) := by decide +kernel
theorem dX2_come_146 : decode cX2_come 146 = .ok (.bipush 8, 2) := by decide +kernel
theorem dX2_come_148 : decode cX2_come 148 = .ok (.if_icmp .ge 115, 3) := by decide +kernel
theorem dX2_come_151 : decode cX2_come 151 = .ok (.iload 6, 2) := by decide +kernel
theorem dX2_come_153 : decode cX2_come 153 = .ok (.iload 12, 2) := by decide +kernel
theorem dX2_come_155 : decode cX2_come 155 = .ok (.invokestatic 53, 3) := by decide +kernel
theorem dX2_come_158 : decode cX2_come 158 = .ok (.ifCond .eq 99, 3) := by decide +kernel
theorem dX2_come_161 : decode cX2_come 161 = .ok (.aload_n 0, 1) := by decide +kernel
theorem dX2_come_162 : decode cX2_come 162 = .ok (.getfield 22, 3) := by decide +kernel
theorem dX2_come_165 : decode cX2_come 165 = .ok (.sipush 1536, 3) := by decide +kernel
theorem dX2_come_168 : decode cX2_come 168 = .ok (.if_icmp .ge 89, 3) := by decide +kernel
theorem dX2_come_171 : decode cX2_come 171 = .ok (.aload_n 0, 1) := by decide +kernel
theorem dX2_come_172 : decode cX2_come 172 = .ok (.getfield 29, 3) := by decide +kernel
theorem dX2_come_175 : decode cX2_come 175 = .ok (.aload_n 0, 1) := by decide +kernel
theorem dX2_come_176 : decode cX2_come 176 = .ok (.getfield 22, 3) := by decide +kernel
theorem dX2_come_179 : decode cX2_come 179 = .ok (.iload_n 2, 1) := by decide +kernel
theorem dX2_come_180 : decode cX2_come 180 = .ok (.bipush 8, 2) := by decide +kernel
theorem dX2_come_182 : decode cX2_come 182 = .ok (.imul, 1) := by decide +kernel
theorem dX2_come_183 : decode cX2_come 183 = .ok (.iload 12, 2) := by decide +kernel
theorem dX2_come_185 : decode cX2_come 185 = .ok (.iadd, 1) := by decide +kernel
theorem dX2_come_186 : decode cX2_come 186 = .ok (.iastore, 1) := by decide +kernel
theorem dX2_come_187 : decode cX2_come 187 = .ok (.aload_n 0, 1) := by decide +kernel
theorem dX2_come_188 : decode cX2_come 188 = .ok (.getfield 32, 3) := by decide +kernel
theorem dX2_come_191 : decode cX2_come 191 = .ok (.iload_n 2, 1) := by decide +kernel
theorem dX2_come_192 : decode cX2_come 192 = .ok (.bipush 8, 2) := by decide +kernel
theorem dX2_come_194 : decode cX2_come 194 = .ok (.imul, 1) := by decide +kernel
theorem dX2_come_195 : decode cX2_come 195 = .ok (.iload 12, 2) := by decide +kernel
theorem dX2_come_197 : decode cX2_come 197 = .ok (.iadd, 1) := by decide +kernel
theorem dX2_come_198 : decode cX2_come 198 = .ok (.aload_n 0, 1) := by decide +kernel
theorem dX2_come_199 : decode cX2_come 199 = .ok (.getfield 22, 3) := by decide +kernel
theorem dX2_come_202 : decode cX2_come 202 = .ok (.iastore, 1) := by decide +kernel
theorem dX2_come_203 : decode cX2_come 203 = .ok (.aload_n 0, 1) := by decide +kernel
theorem dX2_come_204 : decode cX2_come 204 = .ok (.getfield 35, 3) := by decide +kernel
theorem dX2_come_207 : decode cX2_come 207 = .ok (.aload_n 0, 1) := by decide +kernel
theorem dX2_come_208 : decode cX2_come 208 = .ok (.getfield 22, 3) := by decide +kernel
theorem dX2_come_211 : decode cX2_come 211 = .ok (.iload 4, 2) := by decide +kernel
theorem dX2_come_213 : decode cX2_come 213 = .ok (.iastore, 1) := by decide +kernel
theorem dX2_come_214 : decode cX2_come 214 = .ok (.aload_n 0, 1) := by decide +kernel
theorem dX2_come_215 : decode cX2_come 215 = .ok (.getfield 38, 3) := by decide +kernel
theorem dX2_come_218 : decode cX2_come 218 = .ok (.aload_n 0, 1) := by decide +kernel
theorem dX2_come_219 : decode cX2_come 219 = .ok (.getfield 22, 3) := by decide +kernel
theorem dX2_come_222 : decode cX2_come 222 = .ok (.iload 5, 2) := by decide +kernel
theorem dX2_come_224 : decode cX2_come 224 = .ok (.iastore, 1) := by decide +kernel
theorem dX2_come_225 : decode cX2_come 225 = .ok (.aload_n 0, 1) := by decide +kernel
theorem dX2_come_226 : decode cX2_come 226 = .ok (.getfield 41, 3) := by decide +kernel
theorem dX2_come_229 : decode cX2_come 229 = .ok (.aload_n 0, 1) := by decide +kernel
theorem dX2_come_230 : decode cX2_come 230 = .ok (.getfield 22, 3) := by decide +kernel
theorem dX2_come_233 : decode cX2_come 233 = .ok (.iload 10, 2) := by decide +kernel
theorem dX2_come_235 : decode cX2_come 235 = .ok (.iastore, 1) := by decide +kernel
theorem dX2_come_236 : decode cX2_come 236 = .ok (.aload_n 0, 1) := by decide +kernel
theorem dX2_come_237 : decode cX2_come 237 = .ok (.getfield 44, 3) := by decide +kernel
theorem dX2_come_240 : decode cX2_come 240 = .ok (.aload_n 0, 1) := by decide +kernel
theorem dX2_come_241 : decode cX2_come 241 = .ok (.getfield 22, 3) := by decide +kernel
theorem dX2_come_244 : decode cX2_come 244 = .ok (.iload 11, 2) := by decide +kernel
theorem dX2_come_246 : decode cX2_come 246 = .ok (.iastore, 1) := by decide +kernel
theorem dX2_come_247 : decode cX2_come 247 = .ok (.aload_n 0, 1) := by decide +kernel
theorem dX2_come_248 : decode cX2_come 248 = .ok (.dup, 1) := by decide +kernel
theorem dX2_come_249 : decode cX2_come 249 = .ok (.getfield 22, 3) := by decide +kernel
theorem dX2_come_252 : decode cX2_come 252 = .ok (.iconst 1, 1) := by decide +kernel
theorem dX2_come_253 : decode cX2_come 253 = .ok (.iadd, 1) := by decide +kernel
theorem dX2_come_254 : decode cX2_come 254 = .ok (.putfield 22, 3) := by decide +kernel
theorem dX2_come_257 : decode cX2_come 257 = .ok (.iinc 12 1, 3) := by decide +kernel
theorem dX2_come_260 : decode cX2_come 260 = .ok (.goto (-116), 3) := by decide +kernel
theorem dX2_come_263 : decode cX2_come 263 = .ok (.return_, 1) := by decide +kernel
theorem dX3_init_0 : decode cX3_init 0 = .ok (.aload_n 0, 1) := by decide +kernel
theorem dX3_init_1 : decode cX3_init 1 = .ok (.invokespecial 3, 3) := by decide +kernel
theorem dX3_init_4 : decode cX3_init 4 = .ok (.aload_n 0, 1) := by decide +kernel
theorem dX3_init_5 : decode cX3_init 5 = .ok (.iconst 0, 1) := by decide +kernel
theorem dX3_init_6 : decode cX3_init 6 = .ok (.putfield 9, 3) := by decide +kernel
theorem dX3_init_9 : decode cX3_init 9 = .ok (.aload_n 0, 1) := by decide +kernel
theorem dX3_init_10 : decode cX3_init 10 = .ok (.iconst 0, 1) := by decide +kernel
theorem dX3_init_11 : decode cX3_init 11 = .ok (.putfield 15, 3) := by decide +kernel
theorem dX3_init_14 : decode cX3_init 14 = .ok (.aload_n 0, 1) := by decide +kernel
theorem dX3_init_15 : decode cX3_init 15 = .ok (.bipush 120, 2) := by decide +kernel
theorem dX3_init_17 : decode cX3_init 17 = .ok (.newarray .int, 2) := by decide +kernel
theorem dX3_init_19 : decode cX3_init 19 = .ok (.putfield 18, 3) := by decide +kernel
theorem dX3_init_22 : decode cX3_init 22 = .ok (.aload_n 0, 1) := by decide +kernel
theorem dX3_init_23 : decode cX3_init 23 = .ok (.sipush 300, 3) := by decide +kernel
theorem dX3_init_26 : decode cX3_init 26 = .ok (.newarray .int, 2) := by decide +kernel
theorem dX3_init_28 : decode cX3_init 28 = .ok (.putfield 22, 3) := by decide +kernel
theorem dX3_init_31 : decode cX3_init 31 = .ok (.aload_n 0, 1) := by decide +kernel
theorem dX3_init_32 : decode cX3_init 32 = .ok (.iconst 0, 1) := by decide +kernel
theorem dX3_init_33 : decode cX3_init 33 = .ok (.putfield 25, 3) := by decide +kernel
theorem dX3_init_36 : decode cX3_init 36 = .ok (.return_, 1) := by decide +kernel
theorem dX3_append_0 : decode cX3_append 0 = .ok (.aload_n 0, 1) := by decide +kernel
theorem dX3_append_1 : decode cX3_append 1 = .ok (.getfield 9, 3) := by decide +kernel
theorem dX3_append_4 : decode cX3_append 4 = .ok (.bipush 120, 2) := by decide +kernel
theorem dX3_append_6 : decode cX3_append 6 = .ok (.if_icmp .lt 5, 3) := by decide +kernel
theorem dX3_append_9 : decode cX3_append 9 = .ok (.iconst 0, 1) := by decide +kernel
theorem dX3_append_10 : decode cX3_append 10 = .ok (.ireturn, 1) := by decide +kernel
theorem dX3_append_11 : decode cX3_append 11 = .ok (.aload_n 0, 1) := by decide +kernel
theorem dX3_append_12 : decode cX3_append 12 = .ok (.getfield 18, 3) := by decide +kernel
theorem dX3_append_15 : decode cX3_append 15 = .ok (.aload_n 0, 1) := by decide +kernel
theorem dX3_append_16 : decode cX3_append 16 = .ok (.getfield 9, 3) := by decide +kernel
theorem dX3_append_19 : decode cX3_append 19 = .ok (.iload_n 1, 1) := by decide +kernel
theorem dX3_append_20 : decode cX3_append 20 = .ok (.iastore, 1) := by decide +kernel
theorem dX3_append_21 : decode cX3_append 21 = .ok (.aload_n 0, 1) := by decide +kernel
theorem dX3_append_22 : decode cX3_append 22 = .ok (.dup, 1) := by decide +kernel
theorem dX3_append_23 : decode cX3_append 23 = .ok (.getfield 9, 3) := by decide +kernel
theorem dX3_append_26 : decode cX3_append 26 = .ok (.iconst 1, 1) := by decide +kernel
theorem dX3_append_27 : decode cX3_append 27 = .ok (.iadd, 1) := by decide +kernel
theorem dX3_append_28 : decode cX3_append 28 = .ok (.putfield 9, 3) := by decide +kernel
theorem dX3_append_31 : decode cX3_append 31 = .ok (.iconst 1, 1) := by decide +kernel
theorem dX3_append_32 : decode cX3_append 32 = .ok (.ireturn, 1) := by decide +kernel
theorem dX3_part_0 : decode cX3_part 0 = .ok (.aload_n 0, 1) := by decide +kernel
theorem dX3_part_1 : decode cX3_part 1 = .ok (.getfield 22, 3) := by decide +kernel
theorem dX3_part_4 : decode cX3_part 4 = .ok (.iload_n 1, 1) := by decide +kernel
theorem dX3_part_5 : decode cX3_part 5 = .ok (.iconst 5, 1) := by decide +kernel
theorem dX3_part_6 : decode cX3_part 6 = .ok (.imul, 1) := by decide +kernel
theorem dX3_part_7 : decode cX3_part 7 = .ok (.iload_n 2, 1) := by decide +kernel
theorem dX3_part_8 : decode cX3_part 8 = .ok (.iadd, 1) := by decide +kernel
theorem dX3_part_9 : decode cX3_part 9 = .ok (.iaload, 1) := by decide +kernel
theorem dX3_part_10 : decode cX3_part 10 = .ok (.ireturn, 1) := by decide +kernel
theorem dX3_read_0 : decode cX3_read 0 = .ok (.aload_n 0, 1) := by decide +kernel
theorem dX3_read_1 : decode cX3_read 1 = .ok (.iconst 0, 1) := by decide +kernel
theorem dX3_read_2 : decode cX3_read 2 = .ok (.putfield 25, 3) := by decide +kernel
theorem dX3_read_5 : decode cX3_read 5 = .ok (.aload_n 0, 1) := by decide +kernel
theorem dX3_read_6 : decode cX3_read 6 = .ok (.invokevirtual 28, 3) := by decide +kernel
theorem dX3_read_9 : decode cX3_read 9 = .ok (.aload_n 0, 1) := by decide +kernel
theorem dX3_read_10 : decode cX3_read 10 = .ok (.getfield 25, 3) := by decide +kernel
theorem dX3_read_13 : decode cX3_read 13 = .ok (.aload_n 0, 1) := by decide +kernel
theorem dX3_read_14 : decode cX3_read 14 = .ok (.getfield 9, 3) := by decide +kernel
theorem dX3_read_17 : decode cX3_read 17 = .ok (.if_icmp .lt 7, 3) := by decide +kernel
theorem dX3_read_20 : decode cX3_read 20 = .ok (.iconst 1, 1) := by decide +kernel
theorem dX3_read_21 : decode cX3_read 21 = .ok (.goto 4, 3) := by decide +kernel
theorem dX3_read_24 : decode cX3_read 24 = .ok (.iconst 0, 1) := by decide +kernel
theorem dX3_read_25 : decode cX3_read 25 = .ok (.istore_n 1, 1) := by decide +kernel
theorem dX3_read_26 : decode cX3_read 26 = .ok (.aload_n 0, 1) := by decide +kernel
theorem dX3_read_27 : decode cX3_read 27 = .ok (.iconst 0, 1) := by decide +kernel
theorem dX3_read_28 : decode cX3_read 28 = .ok (.putfield 15, 3) := by decide +kernel
theorem dX3_read_31 : decode cX3_read 31 = .ok (.aload_n 0, 1) := by decide +kernel
theorem dX3_read_32 : decode cX3_read 32 = .ok (.getfield 15, 3) := by decide +kernel
theorem dX3_read_35 : decode cX3_read 35 = .ok (.bipush 60, 2) := by decide +kernel
theorem dX3_read_37 : decode cX3_read 37 = .ok (.if_icmp .ge 49, 3) := by decide +kernel
theorem dX3_read_40 : decode cX3_read 40 = .ok (.aload_n 0, 1) := by decide +kernel
theorem dX3_read_41 : decode cX3_read 41 = .ok (.getfield 25, 3) := by decide +kernel
theorem dX3_read_44 : decode cX3_read 44 = .ok (.aload_n 0, 1) := by decide +kernel
theorem dX3_read_45 : decode cX3_read 45 = .ok (.getfield 9, 3) := by decide +kernel
theorem dX3_read_48 : decode cX3_read 48 = .ok (.if_icmp .ge 38, 3) := by decide +kernel
theorem dX3_read_51 : decode cX3_read 51 = .ok (.aload_n 0, 1) := by decide +kernel
theorem dX3_read_52 : decode cX3_read 52 = .ok (.aload_n 0, 1) := by decide +kernel
theorem dX3_read_53 : decode cX3_read 53 = .ok (.getfield 15, 3) := by decide +kernel
theorem dX3_read_56 : decode cX3_read 56 = .ok (.iconst 5, 1) := by decide +kernel
theorem dX3_read_57 : decode cX3_read 57 = .ok (.imul, 1) := by decide +kernel
theorem dX3_read_58 : decode cX3_read 58 = .ok (.invokevirtual 31, 3) := by decide +kernel
theorem dX3_read_61 : decode cX3_read 61 = .ok (.ifCond .ne 8, 3) := by decide +kernel
theorem dX3_read_64 : decode cX3_read 64 = .ok (.aload_n 0, 1) := by decide +kernel
theorem dX3_read_65 : decode cX3_read 65 = .ok (.getfield 25, 3) := by decide +kernel
theorem dX3_read_68 : decode cX3_read 68 = .ok (.ireturn, 1) := by decide +kernel
theorem dX3_read_69 : decode cX3_read 69 = .ok (.aload_n 0, 1) := by decide +kernel
theorem dX3_read_70 : decode cX3_read 70 = .ok (.invokevirtual 28, 3) := by decide +kernel
theorem dX3_read_73 : decode cX3_read 73 = .ok (.aload_n 0, 1) := by decide +kernel
theorem dX3_read_74 : decode cX3_read 74 = .ok (.dup, 1) := by decide +kernel
theorem dX3_read_75 : decode cX3_read 75 = .ok (.getfield 15, 3) := by decide +kernel
theorem dX3_read_78 : decode cX3_read 78 = .ok (.iconst 1, 1) := by decide +kernel
theorem dX3_read_79 : decode cX3_read 79 = .ok (.iadd, 1) := by decide +kernel
theorem dX3_read_80 : decode cX3_read 80 = .ok (.putfield 15, 3) := by decide +kernel
theorem dX3_read_83 : decode cX3_read 83 = .ok (.goto (-52), 3) := by decide +kernel
theorem dX3_read_86 : decode cX3_read 86 = .ok (.iload_n 1, 1) := by decide +kernel
theorem dX3_read_87 : decode cX3_read 87 = .ok (.ifCond .eq 10, 3) := by decide +kernel
theorem dX3_read_90 : decode cX3_read 90 = .ok (.aload_n 0, 1) := by decide +kernel
theorem dX3_read_91 : decode cX3_read 91 = .ok (.getfield 9, 3) := by decide +kernel
theorem dX3_read_94 : decode cX3_read 94 = .ok (.goto 4, 3) := by decide +kernel
theorem dX3_read_97 : decode cX3_read 97 = .ok (.iconst (-1), 1) := by decide +kernel
theorem dX3_read_98 : decode cX3_read 98 = .ok (.ireturn, 1) := by decide +kernel
theorem dX3_readOrder_0 : decode cX3_readOrder 0 = .ok (.aload_n 0, 1) := by decide +kernel
theorem dX3_readOrder_1 : decode cX3_readOrder 1 = .ok (.getfield 18, 3) := by decide +kernel
theorem dX3_readOrder_4 : decode cX3_readOrder 4 = .ok (.aload_n 0, 1) := by decide +kernel
theorem dX3_readOrder_5 : decode cX3_readOrder 5 = .ok (.getfield 25, 3) := by decide +kernel
theorem dX3_readOrder_8 : decode cX3_readOrder 8 = .ok (.iaload, 1) := by decide +kernel
theorem dX3_readOrder_9 : decode cX3_readOrder 9 = .ok (.istore_n 2, 1) := by decide +kernel
theorem dX3_readOrder_10 : decode cX3_readOrder 10 = .ok (.iload_n 2, 1) := by decide +kernel
theorem dX3_readOrder_11 : decode cX3_readOrder 11 = .ok (.invokestatic 35, 3) := by decide +kernel
theorem dX3_readOrder_14 : decode cX3_readOrder 14 = .ok (.istore_n 3, 1) := by decide +kernel
theorem dX3_readOrder_15 : decode cX3_readOrder 15 = .ok (.iload_n 3, 1) := by decide +kernel
theorem dX3_readOrder_16 : decode cX3_readOrder 16 = .ok (.iconst (-1), 1) := by decide +kernel
theorem dX3_readOrder_17 : decode cX3_readOrder 17 = .ok (.if_icmp .ne 5, 3) := by decide +kernel
theorem dX3_readOrder_20 : decode cX3_readOrder 20 = .ok (.iconst 0, 1) := by decide +kernel
theorem dX3_readOrder_21 : decode cX3_readOrder 21 = .ok (.ireturn, 1) := by decide +kernel
theorem dX3_readOrder_22 : decode cX3_readOrder 22 = .ok (.aload_n 0, 1) := by decide +kernel
theorem dX3_readOrder_23 : decode cX3_readOrder 23 = .ok (.getfield 22, 3) := by decide +kernel
theorem dX3_readOrder_26 : decode cX3_readOrder 26 = .ok (.iload_n 1, 1) := by decide +kernel
theorem dX3_readOrder_27 : decode cX3_readOrder 27 = .ok (.iload_n 2, 1) := by decide +kernel
theorem dX3_readOrder_28 : decode cX3_readOrder 28 = .ok (.iastore, 1) := by decide +kernel
theorem dX3_readOrder_29 : decode cX3_readOrder 29 = .ok (.aload_n 0, 1) := by decide +kernel
theorem dX3_readOrder_30 : decode cX3_readOrder 30 = .ok (.dup, 1) := by decide +kernel
theorem dX3_readOrder_31 : decode cX3_readOrder 31 = .ok (.getfield 25, 3) := by decide +kernel
theorem dX3_readOrder_34 : decode cX3_readOrder 34 = .ok (.iconst 1, 1) := by decide +kernel
theorem dX3_readOrder_35 : decode cX3_readOrder 35 = .ok (.iadd, 1) := by decide +kernel
theorem dX3_readOrder_36 : decode cX3_readOrder 36 = .ok (.putfield 25, 3) := by decide +kernel
theorem dX3_readOrder_39 : decode cX3_readOrder 39 = .ok (.iconst 1, 1) := by decide +kernel
theorem dX3_readOrder_40 : decode cX3_readOrder 40 = .ok (.istore 4, 2) := by decide +kernel
theorem dX3_readOrder_42 : decode cX3_readOrder 42 = .ok (.iload 4, 2) := by decide +kernel
theorem dX3_readOrder_44 : decode cX3_readOrder 44 = .ok (.iload_n 3, 1) := by decide +kernel
theorem dX3_readOrder_45 : decode cX3_readOrder 45 = .ok (.if_icmp .gt 26, 3) := by decide +kernel
theorem dX3_readOrder_48 : decode cX3_readOrder 48 = .ok (.aload_n 0, 1) := by decide +kernel
theorem dX3_readOrder_49 : decode cX3_readOrder 49 = .ok (.invokevirtual 28, 3) := by decide +kernel
theorem dX3_readOrder_52 : decode cX3_readOrder 52 = .ok (.aload_n 0, 1) := by decide +kernel
theorem dX3_readOrder_53 : decode cX3_readOrder 53 = .ok (.iload_n 1, 1) := by decide +kernel
theorem dX3_readOrder_54 : decode cX3_readOrder 54 = .ok (.iload 4, 2) := by decide +kernel
theorem dX3_readOrder_56 : decode cX3_readOrder 56 = .ok (.iadd, 1) := by decide +kernel
theorem dX3_readOrder_57 : decode cX3_readOrder 57 = .ok (.invokevirtual 39, 3) := by decide +kernel
theorem dX3_readOrder_60 : decode cX3_readOrder 60 = .ok (.ifCond .ne 5, 3) := by decide +kernel
theorem dX3_readOrder_63 : decode cX3_readOrder 63 = .ok (.iconst 0, 1) := by decide +kernel
theorem dX3_readOrder_64 : decode cX3_readOrder 64 = .ok (.ireturn, 1) := by decide +kernel
theorem dX3_readOrder_65 : decode cX3_readOrder 65 = .ok (.iinc 4 1, 3) := by decide +kernel
theorem dX3_readOrder_68 : decode cX3_readOrder 68 = .ok (.goto (-26), 3) := by decide +kernel
theorem dX3_readOrder_71 : decode cX3_readOrder 71 = .ok (.aload_n 0, 1) := by decide +kernel
theorem dX3_readOrder_72 : decode cX3_readOrder 72 = .ok (.invokevirtual 28, 3) := by decide +kernel
theorem dX3_readOrder_75 : decode cX3_readOrder 75 = .ok (.aload_n 0, 1) := by decide +kernel
theorem dX3_readOrder_76 : decode cX3_readOrder 76 = .ok (.getfield 25, 3) := by decide +kernel
theorem dX3_readOrder_79 : decode cX3_readOrder 79 = .ok (.aload_n 0, 1) := by decide +kernel
theorem dX3_readOrder_80 : decode cX3_readOrder 80 = .ok (.getfield 9, 3) := by decide +kernel
theorem dX3_readOrder_83 : decode cX3_readOrder 83 = .ok (.if_icmp .ge 17, 3) := by decide +kernel
theorem dX3_readOrder_86 : decode cX3_readOrder 86 = .ok (.aload_n 0, 1) := by decide +kernel
theorem dX3_readOrder_87 : decode cX3_readOrder 87 = .ok (.getfield 18, 3) := by decide +kernel
theorem dX3_readOrder_90 : decode cX3_readOrder 90 = .ok (.aload_n 0, 1) := by decide +kernel
theorem dX3_readOrder_91 : decode cX3_readOrder 91 = .ok (.getfield 25, 3) := by decide +kernel
theorem dX3_readOrder_94 : decode cX3_readOrder 94 = .ok (.iaload, 1) := by decide +kernel
theorem dX3_readOrder_95 : decode cX3_readOrder 95 = .ok (.bipush 59, 2) := by decide +kernel
theorem dX3_readOrder_97 : decode cX3_readOrder 97 = .ok (.if_icmp .eq 5, 3) := by decide +kernel
theorem dX3_readOrder_100 : decode cX3_readOrder 100 = .ok (.iconst 0, 1) := by decide +kernel
theorem dX3_readOrder_101 : decode cX3_readOrder 101 = .ok (.ireturn, 1) := by decide +kernel
theorem dX3_readOrder_102 : decode cX3_readOrder 102 = .ok (.aload_n 0, 1) := by decide +kernel
theorem dX3_readOrder_103 : decode cX3_readOrder 103 = .ok (.dup, 1) := by decide +kernel
theorem dX3_readOrder_104 : decode cX3_readOrder 104 = .ok (.getfield 25, 3) := by decide +kernel
theorem dX3_readOrder_107 : decode cX3_readOrder 107 = .ok (.iconst 1, 1) := by decide +kernel
theorem dX3_readOrder_108 : decode cX3_readOrder 108 = .ok (.iadd, 1) := by decide +kernel
theorem dX3_readOrder_109 : decode cX3_readOrder 109 = .ok (.putfield 25, 3) := by decide +kernel
theorem dX3_readOrder_112 : decode cX3_readOrder 112 = .ok (.iconst 1, 1) := by decide +kernel
theorem dX3_readOrder_113 : decode cX3_readOrder 113 = .ok (.ireturn, 1) := by decide +kernel
theorem dX3_readNumber_0 : decode cX3_readNumber 0 = .ok (.iconst 0, 1) := by decide +kernel
theorem dX3_readNumber_1 : decode cX3_readNumber 1 = .ok (.istore_n 2, 1) := by decide +kernel
theorem dX3_readNumber_2 : decode cX3_readNumber 2 = .ok (.iconst 0, 1) := by decide +kernel
theorem dX3_readNumber_3 : decode cX3_readNumber 3 = .ok (.istore_n 3, 1) := by decide +kernel
theorem dX3_readNumber_4 : decode cX3_readNumber 4 = .ok (.iload_n 3, 1) := by decide +kernel
theorem dX3_readNumber_5 : decode cX3_readNumber 5 = .ok (.iconst 3, 1) := by decide +kernel
theorem dX3_readNumber_6 : decode cX3_readNumber 6 = .ok (.if_icmp .ge 44, 3) := by decide +kernel
theorem dX3_readNumber_9 : decode cX3_readNumber 9 = .ok (.aload_n 0, 1) := by decide +kernel
theorem dX3_readNumber_10 : decode cX3_readNumber 10 = .ok (.invokevirtual 42, 3) := by decide +kernel
theorem dX3_readNumber_13 : decode cX3_readNumber 13 = .ok (.ifCond .eq 37, 3) := by decide +kernel
theorem dX3_readNumber_16 : decode cX3_readNumber 16 = .ok (.bipush 10, 2) := by decide +kernel
theorem dX3_readNumber_18 : decode cX3_readNumber 18 = .ok (.iload_n 2, 1) := by decide +kernel
theorem dX3_readNumber_19 : decode cX3_readNumber 19 = .ok (.imul, 1) := by decide +kernel
theorem dX3_readNumber_20 : decode cX3_readNumber 20 = .ok (.aload_n 0, 1) := by decide +kernel
theorem dX3_readNumber_21 : decode cX3_readNumber 21 = .ok (.getfield 18, 3) := by decide +kernel
theorem dX3_readNumber_24 : decode cX3_readNumber 24 = .ok (.aload_n 0, 1) := by decide +kernel
theorem dX3_readNumber_25 : decode cX3_readNumber 25 = .ok (.getfield 25, 3) := by decide +kernel
theorem dX3_readNumber_28 : decode cX3_readNumber 28 = .ok (.iaload, 1) := by decide +kernel
theorem dX3_readNumber_29 : decode cX3_readNumber 29 = .ok (.iadd, 1) := by decide +kernel
theorem dX3_readNumber_30 : decode cX3_readNumber 30 = .ok (.bipush 48, 2) := by decide +kernel
theorem dX3_readNumber_32 : decode cX3_readNumber 32 = .ok (.isub, 1) := by decide +kernel
theorem dX3_readNumber_33 : decode cX3_readNumber 33 = .ok (.istore_n 2, 1) := by decide +kernel
theorem dX3_readNumber_34 : decode cX3_readNumber 34 = .ok (.aload_n 0, 1) := by decide +kernel
theorem dX3_readNumber_35 : decode cX3_readNumber 35 = .ok (.dup, 1) := by decide +kernel
theorem dX3_readNumber_36 : decode cX3_readNumber 36 = .ok (.getfield 25, 3) := by decide +kernel
theorem dX3_readNumber_39 : decode cX3_readNumber 39 = .ok (.iconst 1, 1) := by decide +kernel
theorem dX3_readNumber_40 : decode cX3_readNumber 40 = .ok (.iadd, 1) := by decide +kernel
theorem dX3_readNumber_41 : decode cX3_readNumber 41 = .ok (.putfield 25, 3) := by decide +kernel
theorem dX3_readNumber_44 : decode cX3_readNumber 44 = .ok (.iinc 3 1, 3) := by decide +kernel
theorem dX3_readNumber_47 : decode cX3_readNumber 47 = .ok (.goto (-43), 3) := by decide +kernel
theorem dX3_readNumber_50 : decode cX3_readNumber 50 = .ok (.aload_n 0, 1) := by decide +kernel
theorem dX3_readNumber_51 : decode cX3_readNumber 51 = .ok (.getfield 22, 3) := by decide +kernel
theorem dX3_readNumber_54 : decode cX3_readNumber 54 = .ok (.iload_n 1, 1) := by decide +kernel
theorem dX3_readNumber_55 : decode cX3_readNumber 55 = .ok (.iload_n 2, 1) := by decide +kernel
theorem dX3_readNumber_56 : decode cX3_readNumber 56 = .ok (.iastore, 1) := by decide +kernel
theorem dX3_readNumber_57 : decode cX3_readNumber 57 = .ok (.iload_n 3, 1) := by decide +kernel
theorem dX3_readNumber_58 : decode cX3_readNumber 58 = .ok (.ifCond .le 14, 3) := by decide +kernel
theorem dX3_readNumber_61 : decode cX3_readNumber 61 = .ok (.aload_n 0, 1) := by decide +kernel
theorem dX3_readNumber_62 : decode cX3_readNumber 62 = .ok (.invokevirtual 42, 3) := by decide +kernel
theorem dX3_readNumber_65 : decode cX3_readNumber 65 = .ok (.ifCond .ne 7, 3) := by decide +kernel
theorem dX3_readNumber_68 : decode cX3_readNumber 68 = .ok (.iconst 1, 1) := by decide +kernel
theorem dX3_readNumber_69 : decode cX3_readNumber 69 = .ok (.goto 4, 3) := by decide +kernel
theorem dX3_readNumber_72 : decode cX3_readNumber 72 = .ok (.iconst 0, 1) := by decide +kernel
theorem dX3_readNumber_73 : decode cX3_readNumber 73 = .ok (.ireturn, 1) := by decide +kernel
theorem dX3_skipBlanks_0 : decode cX3_skipBlanks 0 = .ok (.aload_n 0, 1) := by decide +kernel
theorem dX3_skipBlanks_1 : decode cX3_skipBlanks 1 = .ok (.getfield 25, 3) := by decide +kernel
theorem dX3_skipBlanks_4 : decode cX3_skipBlanks 4 = .ok (.aload_n 0, 1) := by decide +kernel
theorem dX3_skipBlanks_5 : decode cX3_skipBlanks 5 = .ok (.getfield 9, 3) := by decide +kernel
theorem dX3_skipBlanks_8 : decode cX3_skipBlanks 8 = .ok (.if_icmp .ge 30, 3) := by decide +kernel
theorem dX3_skipBlanks_11 : decode cX3_skipBlanks 11 = .ok (.aload_n 0, 1) := by decide +kernel
theorem dX3_skipBlanks_12 : decode cX3_skipBlanks 12 = .ok (.getfield 18, 3) := by decide +kernel
theorem dX3_skipBlanks_15 : decode cX3_skipBlanks 15 = .ok (.aload_n 0, 1) := by decide +kernel
theorem dX3_skipBlanks_16 : decode cX3_skipBlanks 16 = .ok (.getfield 25, 3) := by decide +kernel
theorem dX3_skipBlanks_19 : decode cX3_skipBlanks 19 = .ok (.iaload, 1) := by decide +kernel
theorem dX3_skipBlanks_20 : decode cX3_skipBlanks 20 = .ok (.bipush 32, 2) := by decide +kernel
theorem dX3_skipBlanks_22 : decode cX3_skipBlanks 22 = .ok (.if_icmp .ne 16, 3) := by decide +kernel
theorem dX3_skipBlanks_25 : decode cX3_skipBlanks 25 = .ok (.aload_n 0, 1) := by decide +kernel
theorem dX3_skipBlanks_26 : decode cX3_skipBlanks 26 = .ok (.dup, 1) := by decide +kernel
theorem dX3_skipBlanks_27 : decode cX3_skipBlanks 27 = .ok (.getfield 25, 3) := by decide +kernel
theorem dX3_skipBlanks_30 : decode cX3_skipBlanks 30 = .ok (.iconst 1, 1) := by decide +kernel
theorem dX3_skipBlanks_31 : decode cX3_skipBlanks 31 = .ok (.iadd, 1) := by decide +kernel
theorem dX3_skipBlanks_32 : decode cX3_skipBlanks 32 = .ok (.putfield 25, 3) := by decide +kernel
theorem dX3_skipBlanks_35 : decode cX3_skipBlanks 35 = .ok (.goto (-35), 3) := by decide +kernel
theorem dX3_skipBlanks_38 : decode cX3_skipBlanks 38 = .ok (.return_, 1) := by decide +kernel
theorem dX3_isFigure_0 : decode cX3_isFigure 0 = .ok (.aload_n 0, 1) := by decide +kernel
theorem dX3_isFigure_1 : decode cX3_isFigure 1 = .ok (.getfield 25, 3) := by decide +kernel
theorem dX3_isFigure_4 : decode cX3_isFigure 4 = .ok (.aload_n 0, 1) := by decide +kernel
theorem dX3_isFigure_5 : decode cX3_isFigure 5 = .ok (.getfield 9, 3) := by decide +kernel
theorem dX3_isFigure_8 : decode cX3_isFigure 8 = .ok (.if_icmp .ge 35, 3) := by decide +kernel
theorem dX3_isFigure_11 : decode cX3_isFigure 11 = .ok (.aload_n 0, 1) := by decide +kernel
theorem dX3_isFigure_12 : decode cX3_isFigure 12 = .ok (.getfield 18, 3) := by decide +kernel
theorem dX3_isFigure_15 : decode cX3_isFigure 15 = .ok (.aload_n 0, 1) := by decide +kernel
theorem dX3_isFigure_16 : decode cX3_isFigure 16 = .ok (.getfield 25, 3) := by decide +kernel
theorem dX3_isFigure_19 : decode cX3_isFigure 19 = .ok (.iaload, 1) := by decide +kernel
theorem dX3_isFigure_20 : decode cX3_isFigure 20 = .ok (.bipush 48, 2) := by decide +kernel
theorem dX3_isFigure_22 : decode cX3_isFigure 22 = .ok (.if_icmp .lt 21, 3) := by decide +kernel
theorem dX3_isFigure_25 : decode cX3_isFigure 25 = .ok (.aload_n 0, 1) := by decide +kernel
theorem dX3_isFigure_26 : decode cX3_isFigure 26 = .ok (.getfield 18, 3) := by decide +kernel
theorem dX3_isFigure_29 : decode cX3_isFigure 29 = .ok (.aload_n 0, 1) := by decide +kernel
theorem dX3_isFigure_30 : decode cX3_isFigure 30 = .ok (.getfield 25, 3) := by decide +kernel
theorem dX3_isFigure_33 : decode cX3_isFigure 33 = .ok (.iaload, 1) := by decide +kernel
theorem dX3_isFigure_34 : decode cX3_isFigure 34 = .ok (.bipush 57, 2) := by decide +kernel
theorem dX3_isFigure_36 : decode cX3_isFigure 36 = .ok (.if_icmp .gt 7, 3) := by decide +kernel
theorem dX3_isFigure_39 : decode cX3_isFigure 39 = .ok (.iconst 1, 1) := by decide +kernel
theorem dX3_isFigure_40 : decode cX3_isFigure 40 = .ok (.goto 4, 3) := by decide +kernel
theorem dX3_isFigure_43 : decode cX3_isFigure 43 = .ok (.iconst 0, 1) := by decide +kernel
theorem dX3_isFigure_44 : decode cX3_isFigure 44 = .ok (.ireturn, 1) := by decide +kernel
theorem dX3_numbersBehind_0 : decode cX3_numbersBehind 0 = .ok (.iload_n 0, 1) := by decide +kernel
theorem dX3_numbersBehind_1 : decode cX3_numbersBehind 1 = .ok (.tableswitch 113 99 120 #[109, 113, 107, 111, 113, 113, 113, 113, 113, 113, 113, 105, 113, 103, 113, 113, 105, 113, 113, 113, 113, 105], 103) := by decide +kernel
theorem dX3_numbersBehind_104 : decode cX3_numbersBehind 104 = .ok (.iconst 0, 1) := by decide +kernel
theorem dX3_numbersBehind_105 : decode cX3_numbersBehind 105 = .ok (.ireturn, 1) := by decide +kernel
theorem dX3_numbersBehind_106 : decode cX3_numbersBehind 106 = .ok (.iconst 1, 1) := by decide +kernel
theorem dX3_numbersBehind_107 : decode cX3_numbersBehind 107 = .ok (.ireturn, 1) := by decide +kernel
theorem dX3_numbersBehind_108 : decode cX3_numbersBehind 108 = .ok (.iconst 2, 1) := by decide +kernel
theorem dX3_numbersBehind_109 : decode cX3_numbersBehind 109 = .ok (.ireturn, 1) := by decide +kernel
theorem dX3_numbersBehind_110 : decode cX3_numbersBehind 110 = .ok (.iconst 3, 1) := by decide +kernel
theorem dX3_numbersBehind_111 : decode cX3_numbersBehind 111 = .ok (.ireturn, 1) := by decide +kernel
theorem dX3_numbersBehind_112 : decode cX3_numbersBehind 112 = .ok (.iconst 4, 1) := by decide +kernel
theorem dX3_numbersBehind_113 : decode cX3_numbersBehind 113 = .ok (.ireturn, 1) := by decide +kernel
theorem dX3_numbersBehind_114 : decode cX3_numbersBehind 114 = .ok (.iconst (-1), 1) := by decide +kernel
theorem dX3_numbersBehind_115 : decode cX3_numbersBehind 115 = .ok (.ireturn, 1) := by decide +kernel
theorem dX4_init_0 : decode cX4_init 0 = .ok (.aload_n 0, 1) := by decide +kernel
theorem dX4_init_1 : decode cX4_init 1 = .ok (.invokespecial 3, 3) := by decide +kernel
theorem dX4_init_4 : decode cX4_init 4 = .ok (.aload_n 0, 1) := by decide +kernel
theorem dX4_init_5 : decode cX4_init 5 = .ok (.bipush 7, 2) := by decide +kernel
theorem dX4_init_7 : decode cX4_init 7 = .ok (.anewarray 9, 3) := by decide +kernel
theorem dX4_init_10 : decode cX4_init 10 = .ok (.putfield 11, 3) := by decide +kernel
theorem dX4_init_13 : decode cX4_init 13 = .ok (.aload_n 0, 1) := by decide +kernel
theorem dX4_init_14 : decode cX4_init 14 = .ok (.iconst 0, 1) := by decide +kernel
theorem dX4_init_15 : decode cX4_init 15 = .ok (.putfield 15, 3) := by decide +kernel
theorem dX4_init_18 : decode cX4_init 18 = .ok (.aload_n 0, 1) := by decide +kernel
theorem dX4_init_19 : decode cX4_init 19 = .ok (.iconst 0, 1) := by decide +kernel
theorem dX4_init_20 : decode cX4_init 20 = .ok (.putfield 19, 3) := by decide +kernel
theorem dX4_init_23 : decode cX4_init 23 = .ok (.aload_n 0, 1) := by decide +kernel
theorem dX4_init_24 : decode cX4_init 24 = .ok (.new 22, 3) := by decide +kernel
theorem dX4_init_27 : decode cX4_init 27 = .ok (.dup, 1) := by decide +kernel
theorem dX4_init_28 : decode cX4_init 28 = .ok (.invokespecial 24, 3) := by decide +kernel
theorem dX4_init_31 : decode cX4_init 31 = .ok (.putfield 25, 3) := by decide +kernel
theorem dX4_init_34 : decode cX4_init 34 = .ok (.aload_n 0, 1) := by decide +kernel
theorem dX4_init_35 : decode cX4_init 35 = .ok (.new 29, 3) := by decide +kernel
theorem dX4_init_38 : decode cX4_init 38 = .ok (.dup, 1) := by decide +kernel
theorem dX4_init_39 : decode cX4_init 39 = .ok (.invokespecial 31, 3) := by decide +kernel
theorem dX4_init_42 : decode cX4_init 42 = .ok (.putfield 32, 3) := by decide +kernel
theorem dX4_init_45 : decode cX4_init 45 = .ok (.aload_n 0, 1) := by decide +kernel
theorem dX4_init_46 : decode cX4_init 46 = .ok (.new 36, 3) := by decide +kernel
theorem dX4_init_49 : decode cX4_init 49 = .ok (.dup, 1) := by decide +kernel
theorem dX4_init_50 : decode cX4_init 50 = .ok (.invokespecial 38, 3) := by decide +kernel
theorem dX4_init_53 : decode cX4_init 53 = .ok (.putfield 39, 3) := by decide +kernel
theorem dX4_init_56 : decode cX4_init 56 = .ok (.aload_n 0, 1) := by decide +kernel
theorem dX4_init_57 : decode cX4_init 57 = .ok (.iconst 0, 1) := by decide +kernel
theorem dX4_init_58 : decode cX4_init 58 = .ok (.putfield 43, 3) := by decide +kernel
theorem dX4_init_61 : decode cX4_init 61 = .ok (.aload_n 0, 1) := by decide +kernel
theorem dX4_init_62 : decode cX4_init 62 = .ok (.iconst 0, 1) := by decide +kernel
theorem dX4_init_63 : decode cX4_init 63 = .ok (.putfield 46, 3) := by decide +kernel
theorem dX4_init_66 : decode cX4_init 66 = .ok (.aload_n 0, 1) := by decide +kernel
theorem dX4_init_67 : decode cX4_init 67 = .ok (.iconst 0, 1) := by decide +kernel
theorem dX4_init_68 : decode cX4_init 68 = .ok (.putfield 49, 3) := by decide +kernel
theorem dX4_init_71 : decode cX4_init 71 = .ok (.iconst 0, 1) := by decide +kernel
theorem dX4_init_72 : decode cX4_init 72 = .ok (.istore_n 1, 1) := by decide +kernel
theorem dX4_init_73 : decode cX4_init 73 = .ok (.iload_n 1, 1) := by decide +kernel
theorem dX4_init_74 : decode cX4_init 74 = .ok (.bipush 7, 2) := by decide +kernel
theorem dX4_init_76 : decode cX4_init 76 = .ok (.if_icmp .ge 22, 3) := by decide +kernel
theorem dX4_init_79 : decode cX4_init 79 = .ok (.aload_n 0, 1) := by decide +kernel
theorem dX4_init_80 : decode cX4_init 80 = .ok (.getfield 11, 3) := by decide +kernel
theorem dX4_init_83 : decode cX4_init 83 = .ok (.iload_n 1, 1) := by decide +kernel
theorem dX4_init_84 : decode cX4_init 84 = .ok (.new 9, 3) := by decide +kernel
theorem dX4_init_87 : decode cX4_init 87 = .ok (.dup, 1) := by decide +kernel
theorem dX4_init_88 : decode cX4_init 88 = .ok (.invokespecial 52, 3) := by decide +kernel
theorem dX4_init_91 : decode cX4_init 91 = .ok (.aastore, 1) := by decide +kernel
theorem dX4_init_92 : decode cX4_init 92 = .ok (.iinc 1 1, 3) := by decide +kernel
theorem dX4_init_95 : decode cX4_init 95 = .ok (.goto (-22), 3) := by decide +kernel
theorem dX4_init_98 : decode cX4_init 98 = .ok (.aload_n 0, 1) := by decide +kernel
theorem dX4_init_99 : decode cX4_init 99 = .ok (.getfield 11, 3) := by decide +kernel
theorem dX4_init_102 : decode cX4_init 102 = .ok (.aload_n 0, 1) := by decide +kernel
theorem dX4_init_103 : decode cX4_init 103 = .ok (.getfield 15, 3) := by decide +kernel
theorem dX4_init_106 : decode cX4_init 106 = .ok (.aaload, 1) := by decide +kernel
theorem dX4_init_107 : decode cX4_init 107 = .ok (.invokevirtual 53, 3) := by decide +kernel
theorem dX4_init_110 : decode cX4_init 110 = .ok (.pop, 1) := by decide +kernel
theorem dX4_init_111 : decode cX4_init 111 = .ok (.return_, 1) := by decide +kernel
theorem dX4_proc_0 : decode cX4_proc 0 = .ok (.aload_n 0, 1) := by decide +kernel
theorem dX4_proc_1 : decode cX4_proc 1 = .ok (.aload_n 0, 1) := by decide +kernel
theorem dX4_proc_2 : decode cX4_proc 2 = .ok (.invokevirtual 57, 3) := by decide +kernel
theorem dX4_proc_5 : decode cX4_proc 5 = .ok (.invokevirtual 53, 3) := by decide +kernel
theorem dX4_proc_8 : decode cX4_proc 8 = .ok (.invokevirtual 61, 3) := by decide +kernel
theorem dX4_proc_11 : decode cX4_proc 11 = .ok (.ireturn, 1) := by decide +kernel
theorem dX4_node_0 : decode cX4_node 0 = .ok (.aload_n 0, 1) := by decide +kernel
theorem dX4_node_1 : decode cX4_node 1 = .ok (.aload_n 0, 1) := by decide +kernel
theorem dX4_node_2 : decode cX4_node 2 = .ok (.invokevirtual 57, 3) := by decide +kernel
theorem dX4_node_5 : decode cX4_node 5 = .ok (.iload_n 1, 1) := by decide +kernel
theorem dX4_node_6 : decode cX4_node 6 = .ok (.invokevirtual 65, 3) := by decide +kernel
theorem dX4_node_9 : decode cX4_node 9 = .ok (.invokevirtual 61, 3) := by decide +kernel
theorem dX4_node_12 : decode cX4_node 12 = .ok (.ireturn, 1) := by decide +kernel
theorem dX4_edge_0 : decode cX4_edge 0 = .ok (.aload_n 0, 1) := by decide +kernel
theorem dX4_edge_1 : decode cX4_edge 1 = .ok (.aload_n 0, 1) := by decide +kernel
theorem dX4_edge_2 : decode cX4_edge 2 = .ok (.invokevirtual 57, 3) := by decide +kernel
theorem dX4_edge_5 : decode cX4_edge 5 = .ok (.iload_n 1, 1) := by decide +kernel
theorem dX4_edge_6 : decode cX4_edge 6 = .ok (.iload_n 2, 1) := by decide +kernel
theorem dX4_edge_7 : decode cX4_edge 7 = .ok (.invokevirtual 68, 3) := by decide +kernel
theorem dX4_edge_10 : decode cX4_edge 10 = .ok (.invokevirtual 61, 3) := by decide +kernel
theorem dX4_edge_13 : decode cX4_edge 13 = .ok (.ireturn, 1) := by decide +kernel
theorem dX4_call_0 : decode cX4_call 0 = .ok (.aload_n 0, 1) := by decide +kernel
theorem dX4_call_1 : decode cX4_call 1 = .ok (.aload_n 0, 1) := by decide +kernel
theorem dX4_call_2 : decode cX4_call 2 = .ok (.invokevirtual 57, 3) := by decide +kernel
theorem dX4_call_5 : decode cX4_call 5 = .ok (.iload_n 1, 1) := by decide +kernel
theorem dX4_call_6 : decode cX4_call 6 = .ok (.iload_n 2, 1) := by decide +kernel
theorem dX4_call_7 : decode cX4_call 7 = .ok (.iload_n 3, 1) := by decide +kernel
theorem dX4_call_8 : decode cX4_call 8 = .ok (.invokevirtual 72, 3) := by decide +kernel
theorem dX4_call_11 : decode cX4_call 11 = .ok (.invokevirtual 61, 3) := by decide +kernel
theorem dX4_call_14 : decode cX4_call 14 = .ok (.ireturn, 1) := by decide +kernel
theorem dX4_flows_0 : decode cX4_flows 0 = .ok (.aload_n 0, 1) := by decide +kernel
theorem dX4_flows_1 : decode cX4_flows 1 = .ok (.aload_n 0, 1) := by decide +kernel
theorem dX4_flows_2 : decode cX4_flows 2 = .ok (.invokevirtual 57, 3) := by decide +kernel
theorem dX4_flows_5 : decode cX4_flows 5 = .ok (.iload_n 1, 1) := by decide +kernel
theorem dX4_flows_6 : decode cX4_flows 6 = .ok (.iload_n 2, 1) := by decide +kernel
theorem dX4_flows_7 : decode cX4_flows 7 = .ok (.iload_n 3, 1) := by decide +kernel
theorem dX4_flows_8 : decode cX4_flows 8 = .ok (.iload 4, 2) := by decide +kernel
theorem dX4_flows_10 : decode cX4_flows 10 = .ok (.invokevirtual 76, 3) := by decide +kernel
theorem dX4_flows_13 : decode cX4_flows 13 = .ok (.invokevirtual 61, 3) := by decide +kernel
theorem dX4_flows_16 : decode cX4_flows 16 = .ok (.ireturn, 1) := by decide +kernel
theorem dX4_starts_0 : decode cX4_starts 0 = .ok (.aload_n 0, 1) := by decide +kernel
theorem dX4_starts_1 : decode cX4_starts 1 = .ok (.aload_n 0, 1) := by decide +kernel
theorem dX4_starts_2 : decode cX4_starts 2 = .ok (.invokevirtual 57, 3) := by decide +kernel
theorem dX4_starts_5 : decode cX4_starts 5 = .ok (.iload_n 1, 1) := by decide +kernel
theorem dX4_starts_6 : decode cX4_starts 6 = .ok (.invokevirtual 80, 3) := by decide +kernel
theorem dX4_starts_9 : decode cX4_starts 9 = .ok (.invokevirtual 61, 3) := by decide +kernel
theorem dX4_starts_12 : decode cX4_starts 12 = .ok (.ireturn, 1) := by decide +kernel
theorem dX4_cuts_0 : decode cX4_cuts 0 = .ok (.aload_n 0, 1) := by decide +kernel
theorem dX4_cuts_1 : decode cX4_cuts 1 = .ok (.aload_n 0, 1) := by decide +kernel
theorem dX4_cuts_2 : decode cX4_cuts 2 = .ok (.invokevirtual 57, 3) := by decide +kernel
theorem dX4_cuts_5 : decode cX4_cuts 5 = .ok (.iload_n 1, 1) := by decide +kernel
theorem dX4_cuts_6 : decode cX4_cuts 6 = .ok (.invokevirtual 83, 3) := by decide +kernel
theorem dX4_cuts_9 : decode cX4_cuts 9 = .ok (.invokevirtual 61, 3) := by decide +kernel
theorem dX4_cuts_12 : decode cX4_cuts 12 = .ok (.ireturn, 1) := by decide +kernel
theorem dX4_at_0 : decode cX4_at 0 = .ok (.aload_n 0, 1) := by decide +kernel
theorem dX4_at_1 : decode cX4_at 1 = .ok (.getfield 11, 3) := by decide +kernel
theorem dX4_at_4 : decode cX4_at 4 = .ok (.aload_n 0, 1) := by decide +kernel
theorem dX4_at_5 : decode cX4_at 5 = .ok (.getfield 15, 3) := by decide +kernel
theorem dX4_at_8 : decode cX4_at 8 = .ok (.aaload, 1) := by decide +kernel
theorem dX4_at_9 : decode cX4_at 9 = .ok (.astore_n 3, 1) := by decide +kernel
theorem dX4_at_10 : decode cX4_at 10 = .ok (.aload_n 3, 1) := by decide +kernel
theorem dX4_at_11 : decode cX4_at 11 = .ok (.iload_n 1, 1) := by decide +kernel
theorem dX4_at_12 : decode cX4_at 12 = .ok (.invokevirtual 86, 3) := by decide +kernel
theorem dX4_at_15 : decode cX4_at 15 = .ok (.ifCond .eq 12, 3) := by decide +kernel
theorem dX4_at_18 : decode cX4_at 18 = .ok (.iload_n 2, 1) := by decide +kernel
theorem dX4_at_19 : decode cX4_at 19 = .ok (.ifCond .lt 8, 3) := by decide +kernel
theorem dX4_at_22 : decode cX4_at 22 = .ok (.iload_n 2, 1) := by decide +kernel
theorem dX4_at_23 : decode cX4_at 23 = .ok (.iconst 1, 1) := by decide +kernel
theorem dX4_at_24 : decode cX4_at 24 = .ok (.if_icmp .le 10, 3) := by decide +kernel
theorem dX4_at_27 : decode cX4_at 27 = .ok (.aload_n 0, 1) := by decide +kernel
theorem dX4_at_28 : decode cX4_at 28 = .ok (.bipush (-2), 2) := by decide +kernel
theorem dX4_at_30 : decode cX4_at 30 = .ok (.invokevirtual 90, 3) := by decide +kernel
theorem dX4_at_33 : decode cX4_at 33 = .ok (.ireturn, 1) := by decide +kernel
theorem dX4_at_34 : decode cX4_at 34 = .ok (.iload_n 2, 1) := by decide +kernel
theorem dX4_at_35 : decode cX4_at 35 = .ok (.ifCond .ne 12, 3) := by decide +kernel
theorem dX4_at_38 : decode cX4_at 38 = .ok (.aload_n 3, 1) := by decide +kernel
theorem dX4_at_39 : decode cX4_at 39 = .ok (.getfield 93, 3) := by decide +kernel
theorem dX4_at_42 : decode cX4_at 42 = .ok (.iload_n 1, 1) := by decide +kernel
theorem dX4_at_43 : decode cX4_at 43 = .ok (.iaload, 1) := by decide +kernel
theorem dX4_at_44 : decode cX4_at 44 = .ok (.goto 9, 3) := by decide +kernel
theorem dX4_at_47 : decode cX4_at 47 = .ok (.aload_n 3, 1) := by decide +kernel
theorem dX4_at_48 : decode cX4_at 48 = .ok (.getfield 97, 3) := by decide +kernel
theorem dX4_at_51 : decode cX4_at 51 = .ok (.iload_n 1, 1) := by decide +kernel
theorem dX4_at_52 : decode cX4_at 52 = .ok (.iaload, 1) := by decide +kernel
theorem dX4_at_53 : decode cX4_at 53 = .ok (.ireturn, 1) := by decide +kernel
theorem dX4_about_0 : decode cX4_about 0 = .ok (.aload_n 0, 1) := by decide +kernel
theorem dX4_about_1 : decode cX4_about 1 = .ok (.getfield 11, 3) := by decide +kernel
theorem dX4_about_4 : decode cX4_about 4 = .ok (.aload_n 0, 1) := by decide +kernel
theorem dX4_about_5 : decode cX4_about 5 = .ok (.getfield 15, 3) := by decide +kernel
theorem dX4_about_8 : decode cX4_about 8 = .ok (.aaload, 1) := by decide +kernel
theorem dX4_about_9 : decode cX4_about 9 = .ok (.astore_n 3, 1) := by decide +kernel
theorem dX4_about_10 : decode cX4_about 10 = .ok (.aload_n 3, 1) := by decide +kernel
theorem dX4_about_11 : decode cX4_about 11 = .ok (.iload_n 1, 1) := by decide +kernel
theorem dX4_about_12 : decode cX4_about 12 = .ok (.invokevirtual 100, 3) := by decide +kernel
theorem dX4_about_15 : decode cX4_about 15 = .ok (.ifCond .eq 12, 3) := by decide +kernel
theorem dX4_about_18 : decode cX4_about 18 = .ok (.iload_n 2, 1) := by decide +kernel
theorem dX4_about_19 : decode cX4_about 19 = .ok (.ifCond .lt 8, 3) := by decide +kernel
theorem dX4_about_22 : decode cX4_about 22 = .ok (.iload_n 2, 1) := by decide +kernel
theorem dX4_about_23 : decode cX4_about 23 = .ok (.iconst 2, 1) := by decide +kernel
theorem dX4_about_24 : decode cX4_about 24 = .ok (.if_icmp .le 10, 3) := by decide +kernel
theorem dX4_about_27 : decode cX4_about 27 = .ok (.aload_n 0, 1) := by decide +kernel
theorem dX4_about_28 : decode cX4_about 28 = .ok (.bipush (-2), 2) := by decide +kernel
theorem dX4_about_30 : decode cX4_about 30 = .ok (.invokevirtual 90, 3) := by decide +kernel
theorem dX4_about_33 : decode cX4_about 33 = .ok (.ireturn, 1) := by decide +kernel
theorem dX4_about_34 : decode cX4_about 34 = .ok (.aload_n 0, 1) := by decide +kernel
theorem dX4_about_35 : decode cX4_about 35 = .ok (.aload_n 3, 1) := by decide +kernel
theorem dX4_about_36 : decode cX4_about 36 = .ok (.iload_n 1, 1) := by decide +kernel
theorem dX4_about_37 : decode cX4_about 37 = .ok (.iload_n 2, 1) := by decide +kernel
theorem dX4_about_38 : decode cX4_about 38 = .ok (.invokevirtual 103, 3) := by decide +kernel
theorem dX4_about_41 : decode cX4_about 41 = .ok (.ireturn, 1) := by decide +kernel
theorem dX4_goes_0 : decode cX4_goes 0 = .ok (.aload_n 0, 1) := by decide +kernel
theorem dX4_goes_1 : decode cX4_goes 1 = .ok (.getfield 11, 3) := by decide +kernel
theorem dX4_goes_4 : decode cX4_goes 4 = .ok (.aload_n 0, 1) := by decide +kernel
theorem dX4_goes_5 : decode cX4_goes 5 = .ok (.getfield 15, 3) := by decide +kernel
theorem dX4_goes_8 : decode cX4_goes 8 = .ok (.aaload, 1) := by decide +kernel
theorem dX4_goes_9 : decode cX4_goes 9 = .ok (.astore 4, 2) := by decide +kernel
theorem dX4_goes_11 : decode cX4_goes 11 = .ok (.aload 4, 2) := by decide +kernel
theorem dX4_goes_13 : decode cX4_goes 13 = .ok (.iload_n 1, 1) := by decide +kernel
theorem dX4_goes_14 : decode cX4_goes 14 = .ok (.iload_n 2, 1) := by decide +kernel
theorem dX4_goes_15 : decode cX4_goes 15 = .ok (.invokevirtual 107, 3) := by decide +kernel
theorem dX4_goes_18 : decode cX4_goes 18 = .ok (.ifCond .eq 10, 3) := by decide +kernel
theorem dX4_goes_21 : decode cX4_goes 21 = .ok (.iload_n 3, 1) := by decide +kernel
theorem dX4_goes_22 : decode cX4_goes 22 = .ok (.invokestatic 111, 3) := by decide +kernel
theorem dX4_goes_25 : decode cX4_goes 25 = .ok (.ifCond .ne 10, 3) := by decide +kernel
theorem dX4_goes_28 : decode cX4_goes 28 = .ok (.aload_n 0, 1) := by decide +kernel
theorem dX4_goes_29 : decode cX4_goes 29 = .ok (.bipush (-2), 2) := by decide +kernel
theorem dX4_goes_31 : decode cX4_goes 31 = .ok (.invokevirtual 90, 3) := by decide +kernel
theorem dX4_goes_34 : decode cX4_goes 34 = .ok (.ireturn, 1) := by decide +kernel
theorem dX4_goes_35 : decode cX4_goes 35 = .ok (.aload 4, 2) := by decide +kernel
theorem dX4_goes_37 : decode cX4_goes 37 = .ok (.iload_n 1, 1) := by decide +kernel
theorem dX4_goes_38 : decode cX4_goes 38 = .ok (.iload_n 2, 1) := by decide +kernel
theorem dX4_goes_39 : decode cX4_goes 39 = .ok (.iload_n 3, 1) := by decide +kernel
theorem dX4_goes_40 : decode cX4_goes 40 = .ok (.invokevirtual 114, 3) := by decide +kernel
theorem dX4_goes_43 : decode cX4_goes 43 = .ok (.ireturn, 1) := by decide +kernel
theorem dX4_count_0 : decode cX4_count 0 = .ok (.iload_n 1, 1) := by decide +kernel
theorem dX4_count_1 : decode cX4_count 1 = .ok (.ifCond .lt 8, 3) := by decide +kernel
theorem dX4_count_4 : decode cX4_count 4 = .ok (.iload_n 1, 1) := by decide +kernel
theorem dX4_count_5 : decode cX4_count 5 = .ok (.iconst 5, 1) := by decide +kernel
theorem dX4_count_6 : decode cX4_count 6 = .ok (.if_icmp .le 10, 3) := by decide +kernel
theorem dX4_count_9 : decode cX4_count 9 = .ok (.aload_n 0, 1) := by decide +kernel
theorem dX4_count_10 : decode cX4_count 10 = .ok (.bipush (-2), 2) := by decide +kernel
theorem dX4_count_12 : decode cX4_count 12 = .ok (.invokevirtual 90, 3) := by decide +kernel
theorem dX4_count_15 : decode cX4_count 15 = .ok (.ireturn, 1) := by decide +kernel
theorem dX4_count_16 : decode cX4_count 16 = .ok (.aload_n 0, 1) := by decide +kernel
theorem dX4_count_17 : decode cX4_count 17 = .ok (.getfield 11, 3) := by decide +kernel
theorem dX4_count_20 : decode cX4_count 20 = .ok (.aload_n 0, 1) := by decide +kernel
theorem dX4_count_21 : decode cX4_count 21 = .ok (.getfield 15, 3) := by decide +kernel
theorem dX4_count_24 : decode cX4_count 24 = .ok (.aaload, 1) := by decide +kernel
theorem dX4_count_25 : decode cX4_count 25 = .ok (.astore_n 2, 1) := by decide +kernel
theorem dX4_count_26 : decode cX4_count 26 = .ok (.iload_n 1, 1) := by decide +kernel
theorem dX4_count_27 : decode cX4_count 27 = .ok (.iconst 4, 1) := by decide +kernel
theorem dX4_count_28 : decode cX4_count 28 = .ok (.if_icmp .lt 16, 3) := by decide +kernel
theorem dX4_count_31 : decode cX4_count 31 = .ok (.aload_n 0, 1) := by decide +kernel
theorem dX4_count_32 : decode cX4_count 32 = .ok (.getfield 25, 3) := by decide +kernel
theorem dX4_count_35 : decode cX4_count 35 = .ok (.aload_n 2, 1) := by decide +kernel
theorem dX4_count_36 : decode cX4_count 36 = .ok (.iconst 0, 1) := by decide +kernel
theorem dX4_count_37 : decode cX4_count 37 = .ok (.aload_n 2, 1) := by decide +kernel
theorem dX4_count_38 : decode cX4_count 38 = .ok (.getfield 117, 3) := by decide +kernel
theorem dX4_count_41 : decode cX4_count 41 = .ok (.invokevirtual 120, 3) := by decide +kernel
theorem dX4_count_44 : decode cX4_count 44 = .ok (.aload_n 0, 1) := by decide +kernel
theorem dX4_count_45 : decode cX4_count 45 = .ok (.aload_n 2, 1) := by decide +kernel
theorem dX4_count_46 : decode cX4_count 46 = .ok (.iload_n 1, 1) := by decide +kernel
theorem dX4_count_47 : decode cX4_count 47 = .ok (.invokevirtual 124, 3) := by decide +kernel
theorem dX4_count_50 : decode cX4_count 50 = .ok (.ireturn, 1) := by decide +kernel
theorem dX4_holds_0 : decode cX4_holds 0 = .ok (.aload_n 0, 1) := by decide +kernel
theorem dX4_holds_1 : decode cX4_holds 1 = .ok (.getfield 11, 3) := by decide +kernel
theorem dX4_holds_4 : decode cX4_holds 4 = .ok (.aload_n 0, 1) := by decide +kernel
theorem dX4_holds_5 : decode cX4_holds 5 = .ok (.getfield 15, 3) := by decide +kernel
theorem dX4_holds_8 : decode cX4_holds 8 = .ok (.aaload, 1) := by decide +kernel
theorem dX4_holds_9 : decode cX4_holds 9 = .ok (.astore_n 2, 1) := by decide +kernel
theorem dX4_holds_10 : decode cX4_holds 10 = .ok (.aload_n 2, 1) := by decide +kernel
theorem dX4_holds_11 : decode cX4_holds 11 = .ok (.iload_n 1, 1) := by decide +kernel
theorem dX4_holds_12 : decode cX4_holds 12 = .ok (.invokevirtual 86, 3) := by decide +kernel
theorem dX4_holds_15 : decode cX4_holds 15 = .ok (.ifCond .ne 10, 3) := by decide +kernel
theorem dX4_holds_18 : decode cX4_holds 18 = .ok (.aload_n 0, 1) := by decide +kernel
theorem dX4_holds_19 : decode cX4_holds 19 = .ok (.bipush (-2), 2) := by decide +kernel
theorem dX4_holds_21 : decode cX4_holds 21 = .ok (.invokevirtual 90, 3) := by decide +kernel
theorem dX4_holds_24 : decode cX4_holds 24 = .ok (.ireturn, 1) := by decide +kernel
theorem dX4_holds_25 : decode cX4_holds 25 = .ok (.aload_n 0, 1) := by decide +kernel
theorem dX4_holds_26 : decode cX4_holds 26 = .ok (.getfield 25, 3) := by decide +kernel
theorem dX4_holds_29 : decode cX4_holds 29 = .ok (.aload_n 2, 1) := by decide +kernel
theorem dX4_holds_30 : decode cX4_holds 30 = .ok (.iconst 0, 1) := by decide +kernel
theorem dX4_holds_31 : decode cX4_holds 31 = .ok (.aload_n 2, 1) := by decide +kernel
theorem dX4_holds_32 : decode cX4_holds 32 = .ok (.getfield 117, 3) := by decide +kernel
theorem dX4_holds_35 : decode cX4_holds 35 = .ok (.invokevirtual 120, 3) := by decide +kernel
theorem dX4_holds_38 : decode cX4_holds 38 = .ok (.aload_n 0, 1) := by decide +kernel
theorem dX4_holds_39 : decode cX4_holds 39 = .ok (.getfield 25, 3) := by decide +kernel
theorem dX4_holds_42 : decode cX4_holds 42 = .ok (.iload_n 1, 1) := by decide +kernel
theorem dX4_holds_43 : decode cX4_holds 43 = .ok (.invokevirtual 128, 3) := by decide +kernel
theorem dX4_holds_46 : decode cX4_holds 46 = .ok (.ireturn, 1) := by decide +kernel
theorem dX4_loose_0 : decode cX4_loose 0 = .ok (.aload_n 0, 1) := by decide +kernel
theorem dX4_loose_1 : decode cX4_loose 1 = .ok (.getfield 11, 3) := by decide +kernel
theorem dX4_loose_4 : decode cX4_loose 4 = .ok (.aload_n 0, 1) := by decide +kernel
theorem dX4_loose_5 : decode cX4_loose 5 = .ok (.getfield 15, 3) := by decide +kernel
theorem dX4_loose_8 : decode cX4_loose 8 = .ok (.aaload, 1) := by decide +kernel
theorem dX4_loose_9 : decode cX4_loose 9 = .ok (.astore_n 2, 1) := by decide +kernel
theorem dX4_loose_10 : decode cX4_loose 10 = .ok (.aload_n 2, 1) := by decide +kernel
theorem dX4_loose_11 : decode cX4_loose 11 = .ok (.iload_n 1, 1) := by decide +kernel
theorem dX4_loose_12 : decode cX4_loose 12 = .ok (.invokevirtual 86, 3) := by decide +kernel
theorem dX4_loose_15 : decode cX4_loose 15 = .ok (.ifCond .ne 10, 3) := by decide +kernel
theorem dX4_loose_18 : decode cX4_loose 18 = .ok (.aload_n 0, 1) := by decide +kernel
theorem dX4_loose_19 : decode cX4_loose 19 = .ok (.bipush (-2), 2) := by decide +kernel
theorem dX4_loose_21 : decode cX4_loose 21 = .ok (.invokevirtual 90, 3) := by decide +kernel
theorem dX4_loose_24 : decode cX4_loose 24 = .ok (.ireturn, 1) := by decide +kernel
theorem dX4_loose_25 : decode cX4_loose 25 = .ok (.aload_n 0, 1) := by decide +kernel
theorem dX4_loose_26 : decode cX4_loose 26 = .ok (.getfield 32, 3) := by decide +kernel
theorem dX4_loose_29 : decode cX4_loose 29 = .ok (.aload_n 2, 1) := by decide +kernel
theorem dX4_loose_30 : decode cX4_loose 30 = .ok (.invokevirtual 131, 3) := by decide +kernel
theorem dX4_loose_33 : decode cX4_loose 33 = .ok (.aload_n 0, 1) := by decide +kernel
theorem dX4_loose_34 : decode cX4_loose 34 = .ok (.getfield 32, 3) := by decide +kernel
theorem dX4_loose_37 : decode cX4_loose 37 = .ok (.getfield 134, 3) := by decide +kernel
end
section
theorem dX4_loose_40 : decode cX4_loose 40 = .ok (.iload_n 1, 1) := by decide +kernel
theorem dX4_loose_41 : decode cX4_loose 41 = .ok (.iaload, 1) := by decide +kernel
theorem dX4_loose_42 : decode cX4_loose 42 = .ok (.ireturn, 1) := by decide +kernel
theorem dX4_origins_0 : decode cX4_origins 0 = .ok (.aload_n 0, 1) := by decide +kernel
theorem dX4_origins_1 : decode cX4_origins 1 = .ok (.getfield 11, 3) := by decide +kernel
theorem dX4_origins_4 : decode cX4_origins 4 = .ok (.aload_n 0, 1) := by decide +kernel
theorem dX4_origins_5 : decode cX4_origins 5 = .ok (.getfield 15, 3) := by decide +kernel
theorem dX4_origins_8 : decode cX4_origins 8 = .ok (.aaload, 1) := by decide +kernel
theorem dX4_origins_9 : decode cX4_origins 9 = .ok (.astore_n 3, 1) := by decide +kernel
theorem dX4_origins_10 : decode cX4_origins 10 = .ok (.aload_n 3, 1) := by decide +kernel
theorem dX4_origins_11 : decode cX4_origins 11 = .ok (.iload_n 1, 1) := by decide +kernel
theorem dX4_origins_12 : decode cX4_origins 12 = .ok (.invokevirtual 86, 3) := by decide +kernel
theorem dX4_origins_15 : decode cX4_origins 15 = .ok (.ifCond .eq 10, 3) := by decide +kernel
theorem dX4_origins_18 : decode cX4_origins 18 = .ok (.iload_n 2, 1) := by decide +kernel
theorem dX4_origins_19 : decode cX4_origins 19 = .ok (.invokestatic 111, 3) := by decide +kernel
theorem dX4_origins_22 : decode cX4_origins 22 = .ok (.ifCond .ne 10, 3) := by decide +kernel
theorem dX4_origins_25 : decode cX4_origins 25 = .ok (.aload_n 0, 1) := by decide +kernel
theorem dX4_origins_26 : decode cX4_origins 26 = .ok (.bipush (-2), 2) := by decide +kernel
theorem dX4_origins_28 : decode cX4_origins 28 = .ok (.invokevirtual 90, 3) := by decide +kernel
theorem dX4_origins_31 : decode cX4_origins 31 = .ok (.ireturn, 1) := by decide +kernel
theorem dX4_origins_32 : decode cX4_origins 32 = .ok (.iconst 0, 1) := by decide +kernel
theorem dX4_origins_33 : decode cX4_origins 33 = .ok (.istore 4, 2) := by decide +kernel
theorem dX4_origins_35 : decode cX4_origins 35 = .ok (.iconst 0, 1) := by decide +kernel
theorem dX4_origins_36 : decode cX4_origins 36 = .ok (.istore 5, 2) := by decide +kernel
theorem dX4_origins_38 : decode cX4_origins 38 = .ok (.iload 5, 2) := by decide +kernel
theorem dX4_origins_40 : decode cX4_origins 40 = .ok (.bipush 8, 2) := by decide +kernel
theorem dX4_origins_42 : decode cX4_origins 42 = .ok (.if_icmp .ge 46, 3) := by decide +kernel
theorem dX4_origins_45 : decode cX4_origins 45 = .ok (.aload_n 0, 1) := by decide +kernel
theorem dX4_origins_46 : decode cX4_origins 46 = .ok (.getfield 25, 3) := by decide +kernel
theorem dX4_origins_49 : decode cX4_origins 49 = .ok (.aload_n 3, 1) := by decide +kernel
theorem dX4_origins_50 : decode cX4_origins 50 = .ok (.iconst 0, 1) := by decide +kernel
theorem dX4_origins_51 : decode cX4_origins 51 = .ok (.iconst 1, 1) := by decide +kernel
theorem dX4_origins_52 : decode cX4_origins 52 = .ok (.iload 5, 2) := by decide +kernel
theorem dX4_origins_54 : decode cX4_origins 54 = .ok (.ishl, 1) := by decide +kernel
theorem dX4_origins_55 : decode cX4_origins 55 = .ok (.invokevirtual 120, 3) := by decide +kernel
theorem dX4_origins_58 : decode cX4_origins 58 = .ok (.aload_n 0, 1) := by decide +kernel
theorem dX4_origins_59 : decode cX4_origins 59 = .ok (.getfield 25, 3) := by decide +kernel
theorem dX4_origins_62 : decode cX4_origins 62 = .ok (.iload_n 1, 1) := by decide +kernel
theorem dX4_origins_63 : decode cX4_origins 63 = .ok (.invokevirtual 128, 3) := by decide +kernel
theorem dX4_origins_66 : decode cX4_origins 66 = .ok (.iload_n 2, 1) := by decide +kernel
theorem dX4_origins_67 : decode cX4_origins 67 = .ok (.invokestatic 137, 3) := by decide +kernel
theorem dX4_origins_70 : decode cX4_origins 70 = .ok (.ifCond .eq 12, 3) := by decide +kernel
theorem dX4_origins_73 : decode cX4_origins 73 = .ok (.iload 4, 2) := by decide +kernel
theorem dX4_origins_75 : decode cX4_origins 75 = .ok (.iconst 1, 1) := by decide +kernel
theorem dX4_origins_76 : decode cX4_origins 76 = .ok (.iload 5, 2) := by decide +kernel
theorem dX4_origins_78 : decode cX4_origins 78 = .ok (.ishl, 1) := by decide +kernel
theorem dX4_origins_79 : decode cX4_origins 79 = .ok (.ior, 1) := by decide +kernel
theorem dX4_origins_80 : decode cX4_origins 80 = .ok (.istore 4, 2) := by decide +kernel
theorem dX4_origins_82 : decode cX4_origins 82 = .ok (.iinc 5 1, 3) := by decide +kernel
theorem dX4_origins_85 : decode cX4_origins 85 = .ok (.goto (-47), 3) := by decide +kernel
theorem dX4_origins_88 : decode cX4_origins 88 = .ok (.iload 4, 2) := by decide +kernel
theorem dX4_origins_90 : decode cX4_origins 90 = .ok (.ireturn, 1) := by decide +kernel
theorem dX4_summary_0 : decode cX4_summary 0 = .ok (.aload_n 0, 1) := by decide +kernel
theorem dX4_summary_1 : decode cX4_summary 1 = .ok (.getfield 11, 3) := by decide +kernel
theorem dX4_summary_4 : decode cX4_summary 4 = .ok (.aload_n 0, 1) := by decide +kernel
theorem dX4_summary_5 : decode cX4_summary 5 = .ok (.getfield 15, 3) := by decide +kernel
theorem dX4_summary_8 : decode cX4_summary 8 = .ok (.aaload, 1) := by decide +kernel
theorem dX4_summary_9 : decode cX4_summary 9 = .ok (.astore_n 3, 1) := by decide +kernel
theorem dX4_summary_10 : decode cX4_summary 10 = .ok (.aload_n 3, 1) := by decide +kernel
theorem dX4_summary_11 : decode cX4_summary 11 = .ok (.iload_n 1, 1) := by decide +kernel
theorem dX4_summary_12 : decode cX4_summary 12 = .ok (.invokevirtual 100, 3) := by decide +kernel
theorem dX4_summary_15 : decode cX4_summary 15 = .ok (.ifCond .eq 10, 3) := by decide +kernel
theorem dX4_summary_18 : decode cX4_summary 18 = .ok (.iload_n 2, 1) := by decide +kernel
theorem dX4_summary_19 : decode cX4_summary 19 = .ok (.invokestatic 111, 3) := by decide +kernel
theorem dX4_summary_22 : decode cX4_summary 22 = .ok (.ifCond .ne 10, 3) := by decide +kernel
theorem dX4_summary_25 : decode cX4_summary 25 = .ok (.aload_n 0, 1) := by decide +kernel
theorem dX4_summary_26 : decode cX4_summary 26 = .ok (.bipush (-2), 2) := by decide +kernel
theorem dX4_summary_28 : decode cX4_summary 28 = .ok (.invokevirtual 90, 3) := by decide +kernel
theorem dX4_summary_31 : decode cX4_summary 31 = .ok (.ireturn, 1) := by decide +kernel
theorem dX4_summary_32 : decode cX4_summary 32 = .ok (.aload_n 3, 1) := by decide +kernel
theorem dX4_summary_33 : decode cX4_summary 33 = .ok (.getfield 140, 3) := by decide +kernel
theorem dX4_summary_36 : decode cX4_summary 36 = .ok (.iload_n 1, 1) := by decide +kernel
theorem dX4_summary_37 : decode cX4_summary 37 = .ok (.iaload, 1) := by decide +kernel
theorem dX4_summary_38 : decode cX4_summary 38 = .ok (.istore 4, 2) := by decide +kernel
theorem dX4_summary_40 : decode cX4_summary 40 = .ok (.iload 4, 2) := by decide +kernel
theorem dX4_summary_42 : decode cX4_summary 42 = .ok (.iconst (-1), 1) := by decide +kernel
theorem dX4_summary_43 : decode cX4_summary 43 = .ok (.if_icmp .ne 10, 3) := by decide +kernel
theorem dX4_summary_46 : decode cX4_summary 46 = .ok (.aload_n 0, 1) := by decide +kernel
theorem dX4_summary_47 : decode cX4_summary 47 = .ok (.bipush (-3), 2) := by decide +kernel
theorem dX4_summary_49 : decode cX4_summary 49 = .ok (.invokevirtual 90, 3) := by decide +kernel
theorem dX4_summary_52 : decode cX4_summary 52 = .ok (.ireturn, 1) := by decide +kernel
theorem dX4_summary_53 : decode cX4_summary 53 = .ok (.aload_n 3, 1) := by decide +kernel
theorem dX4_summary_54 : decode cX4_summary 54 = .ok (.iload_n 1, 1) := by decide +kernel
theorem dX4_summary_55 : decode cX4_summary 55 = .ok (.iconst 1, 1) := by decide +kernel
theorem dX4_summary_56 : decode cX4_summary 56 = .ok (.iload_n 2, 1) := by decide +kernel
theorem dX4_summary_57 : decode cX4_summary 57 = .ok (.invokevirtual 114, 3) := by decide +kernel
theorem dX4_summary_60 : decode cX4_summary 60 = .ok (.istore 5, 2) := by decide +kernel
theorem dX4_summary_62 : decode cX4_summary 62 = .ok (.aload_n 0, 1) := by decide +kernel
theorem dX4_summary_63 : decode cX4_summary 63 = .ok (.getfield 25, 3) := by decide +kernel
theorem dX4_summary_66 : decode cX4_summary 66 = .ok (.aload_n 3, 1) := by decide +kernel
theorem dX4_summary_67 : decode cX4_summary 67 = .ok (.iload 4, 2) := by decide +kernel
theorem dX4_summary_69 : decode cX4_summary 69 = .ok (.iload 5, 2) := by decide +kernel
theorem dX4_summary_71 : decode cX4_summary 71 = .ok (.invokevirtual 120, 3) := by decide +kernel
theorem dX4_summary_74 : decode cX4_summary 74 = .ok (.iconst 0, 1) := by decide +kernel
theorem dX4_summary_75 : decode cX4_summary 75 = .ok (.istore 6, 2) := by decide +kernel
theorem dX4_summary_77 : decode cX4_summary 77 = .ok (.iconst 0, 1) := by decide +kernel
theorem dX4_summary_78 : decode cX4_summary 78 = .ok (.istore 7, 2) := by decide +kernel
theorem dX4_summary_80 : decode cX4_summary 80 = .ok (.iload 7, 2) := by decide +kernel
theorem dX4_summary_82 : decode cX4_summary 82 = .ok (.bipush 8, 2) := by decide +kernel
theorem dX4_summary_84 : decode cX4_summary 84 = .ok (.if_icmp .ge 50, 3) := by decide +kernel
theorem dX4_summary_87 : decode cX4_summary 87 = .ok (.iload 5, 2) := by decide +kernel
theorem dX4_summary_89 : decode cX4_summary 89 = .ok (.iload 7, 2) := by decide +kernel
theorem dX4_summary_91 : decode cX4_summary 91 = .ok (.invokestatic 137, 3) := by decide +kernel
theorem dX4_summary_94 : decode cX4_summary 94 = .ok (.ifCond .eq 34, 3) := by decide +kernel
theorem dX4_summary_97 : decode cX4_summary 97 = .ok (.iload 6, 2) := by decide +kernel
theorem dX4_summary_99 : decode cX4_summary 99 = .ok (.aload_n 3, 1) := by decide +kernel
theorem dX4_summary_100 : decode cX4_summary 100 = .ok (.iload_n 1, 1) := by decide +kernel
theorem dX4_summary_101 : decode cX4_summary 101 = .ok (.iconst 2, 1) := by decide +kernel
theorem dX4_summary_102 : decode cX4_summary 102 = .ok (.aload_n 0, 1) := by decide +kernel
theorem dX4_summary_103 : decode cX4_summary 103 = .ok (.getfield 25, 3) := by decide +kernel
theorem dX4_summary_106 : decode cX4_summary 106 = .ok (.getfield 143, 3) := by decide +kernel
theorem dX4_summary_109 : decode cX4_summary 109 = .ok (.aload_n 3, 1) := by decide +kernel
theorem dX4_summary_110 : decode cX4_summary 110 = .ok (.getfield 146, 3) := by decide +kernel
theorem dX4_summary_113 : decode cX4_summary 113 = .ok (.iload 4, 2) := by decide +kernel
theorem dX4_summary_115 : decode cX4_summary 115 = .ok (.iaload, 1) := by decide +kernel
theorem dX4_summary_116 : decode cX4_summary 116 = .ok (.iload 7, 2) := by decide +kernel
theorem dX4_summary_118 : decode cX4_summary 118 = .ok (.invokestatic 149, 3) := by decide +kernel
theorem dX4_summary_121 : decode cX4_summary 121 = .ok (.iaload, 1) := by decide +kernel
theorem dX4_summary_122 : decode cX4_summary 122 = .ok (.invokevirtual 152, 3) := by decide +kernel
theorem dX4_summary_125 : decode cX4_summary 125 = .ok (.ior, 1) := by decide +kernel
theorem dX4_summary_126 : decode cX4_summary 126 = .ok (.istore 6, 2) := by decide +kernel
theorem dX4_summary_128 : decode cX4_summary 128 = .ok (.iinc 7 1, 3) := by decide +kernel
theorem dX4_summary_131 : decode cX4_summary 131 = .ok (.goto (-51), 3) := by decide +kernel
theorem dX4_summary_134 : decode cX4_summary 134 = .ok (.iload 6, 2) := by decide +kernel
theorem dX4_summary_136 : decode cX4_summary 136 = .ok (.ireturn, 1) := by decide +kernel
theorem dX4_entry_0 : decode cX4_entry 0 = .ok (.iload_n 1, 1) := by decide +kernel
theorem dX4_entry_1 : decode cX4_entry 1 = .ok (.ifCond .lt 12, 3) := by decide +kernel
theorem dX4_entry_4 : decode cX4_entry 4 = .ok (.iload_n 2, 1) := by decide +kernel
theorem dX4_entry_5 : decode cX4_entry 5 = .ok (.ifCond .lt 8, 3) := by decide +kernel
theorem dX4_entry_8 : decode cX4_entry 8 = .ok (.iload_n 2, 1) := by decide +kernel
theorem dX4_entry_9 : decode cX4_entry 9 = .ok (.iconst 3, 1) := by decide +kernel
theorem dX4_entry_10 : decode cX4_entry 10 = .ok (.if_icmp .le 10, 3) := by decide +kernel
theorem dX4_entry_13 : decode cX4_entry 13 = .ok (.aload_n 0, 1) := by decide +kernel
theorem dX4_entry_14 : decode cX4_entry 14 = .ok (.bipush (-2), 2) := by decide +kernel
theorem dX4_entry_16 : decode cX4_entry 16 = .ok (.invokevirtual 90, 3) := by decide +kernel
theorem dX4_entry_19 : decode cX4_entry 19 = .ok (.ireturn, 1) := by decide +kernel
theorem dX4_entry_20 : decode cX4_entry 20 = .ok (.aload_n 0, 1) := by decide +kernel
theorem dX4_entry_21 : decode cX4_entry 21 = .ok (.getfield 11, 3) := by decide +kernel
theorem dX4_entry_24 : decode cX4_entry 24 = .ok (.aload_n 0, 1) := by decide +kernel
theorem dX4_entry_25 : decode cX4_entry 25 = .ok (.getfield 15, 3) := by decide +kernel
theorem dX4_entry_28 : decode cX4_entry 28 = .ok (.aaload, 1) := by decide +kernel
theorem dX4_entry_29 : decode cX4_entry 29 = .ok (.astore_n 3, 1) := by decide +kernel
theorem dX4_entry_30 : decode cX4_entry 30 = .ok (.aload_n 0, 1) := by decide +kernel
theorem dX4_entry_31 : decode cX4_entry 31 = .ok (.getfield 25, 3) := by decide +kernel
theorem dX4_entry_34 : decode cX4_entry 34 = .ok (.aload_n 3, 1) := by decide +kernel
theorem dX4_entry_35 : decode cX4_entry 35 = .ok (.iconst 0, 1) := by decide +kernel
theorem dX4_entry_36 : decode cX4_entry 36 = .ok (.aload_n 3, 1) := by decide +kernel
theorem dX4_entry_37 : decode cX4_entry 37 = .ok (.getfield 117, 3) := by decide +kernel
theorem dX4_entry_40 : decode cX4_entry 40 = .ok (.invokevirtual 120, 3) := by decide +kernel
theorem dX4_entry_43 : decode cX4_entry 43 = .ok (.iload_n 1, 1) := by decide +kernel
theorem dX4_entry_44 : decode cX4_entry 44 = .ok (.aload_n 0, 1) := by decide +kernel
theorem dX4_entry_45 : decode cX4_entry 45 = .ok (.getfield 25, 3) := by decide +kernel
theorem dX4_entry_48 : decode cX4_entry 48 = .ok (.getfield 155, 3) := by decide +kernel
theorem dX4_entry_51 : decode cX4_entry 51 = .ok (.if_icmp .ge 13, 3) := by decide +kernel
theorem dX4_entry_54 : decode cX4_entry 54 = .ok (.aload_n 0, 1) := by decide +kernel
theorem dX4_entry_55 : decode cX4_entry 55 = .ok (.aload_n 3, 1) := by decide +kernel
theorem dX4_entry_56 : decode cX4_entry 56 = .ok (.iload_n 1, 1) := by decide +kernel
theorem dX4_entry_57 : decode cX4_entry 57 = .ok (.iload_n 2, 1) := by decide +kernel
theorem dX4_entry_58 : decode cX4_entry 58 = .ok (.invokevirtual 158, 3) := by decide +kernel
theorem dX4_entry_61 : decode cX4_entry 61 = .ok (.goto 4, 3) := by decide +kernel
theorem dX4_entry_64 : decode cX4_entry 64 = .ok (.iconst (-1), 1) := by decide +kernel
theorem dX4_entry_65 : decode cX4_entry 65 = .ok (.ireturn, 1) := by decide +kernel
theorem dX4_witness_0 : decode cX4_witness 0 = .ok (.aload_n 0, 1) := by decide +kernel
theorem dX4_witness_1 : decode cX4_witness 1 = .ok (.getfield 11, 3) := by decide +kernel
theorem dX4_witness_4 : decode cX4_witness 4 = .ok (.aload_n 0, 1) := by decide +kernel
theorem dX4_witness_5 : decode cX4_witness 5 = .ok (.getfield 15, 3) := by decide +kernel
theorem dX4_witness_8 : decode cX4_witness 8 = .ok (.aaload, 1) := by decide +kernel
theorem dX4_witness_9 : decode cX4_witness 9 = .ok (.astore 4, 2) := by decide +kernel
theorem dX4_witness_11 : decode cX4_witness 11 = .ok (.aload 4, 2) := by decide +kernel
theorem dX4_witness_13 : decode cX4_witness 13 = .ok (.iload_n 1, 1) := by decide +kernel
theorem dX4_witness_14 : decode cX4_witness 14 = .ok (.invokevirtual 86, 3) := by decide +kernel
theorem dX4_witness_17 : decode cX4_witness 17 = .ok (.ifCond .eq 15, 3) := by decide +kernel
theorem dX4_witness_20 : decode cX4_witness 20 = .ok (.iload_n 2, 1) := by decide +kernel
theorem dX4_witness_21 : decode cX4_witness 21 = .ok (.invokestatic 111, 3) := by decide +kernel
theorem dX4_witness_24 : decode cX4_witness 24 = .ok (.ifCond .eq 8, 3) := by decide +kernel
theorem dX4_witness_27 : decode cX4_witness 27 = .ok (.iload_n 3, 1) := by decide +kernel
theorem dX4_witness_28 : decode cX4_witness 28 = .ok (.iconst (-1), 1) := by decide +kernel
theorem dX4_witness_29 : decode cX4_witness 29 = .ok (.if_icmp .ge 10, 3) := by decide +kernel
theorem dX4_witness_32 : decode cX4_witness 32 = .ok (.aload_n 0, 1) := by decide +kernel
theorem dX4_witness_33 : decode cX4_witness 33 = .ok (.bipush (-2), 2) := by decide +kernel
theorem dX4_witness_35 : decode cX4_witness 35 = .ok (.invokevirtual 90, 3) := by decide +kernel
theorem dX4_witness_38 : decode cX4_witness 38 = .ok (.ireturn, 1) := by decide +kernel
theorem dX4_witness_39 : decode cX4_witness 39 = .ok (.aload_n 0, 1) := by decide +kernel
theorem dX4_witness_40 : decode cX4_witness 40 = .ok (.getfield 25, 3) := by decide +kernel
theorem dX4_witness_43 : decode cX4_witness 43 = .ok (.aload 4, 2) := by decide +kernel
theorem dX4_witness_45 : decode cX4_witness 45 = .ok (.iconst 0, 1) := by decide +kernel
theorem dX4_witness_46 : decode cX4_witness 46 = .ok (.aload 4, 2) := by decide +kernel
theorem dX4_witness_48 : decode cX4_witness 48 = .ok (.getfield 117, 3) := by decide +kernel
theorem dX4_witness_51 : decode cX4_witness 51 = .ok (.invokevirtual 120, 3) := by decide +kernel
theorem dX4_witness_54 : decode cX4_witness 54 = .ok (.aload_n 0, 1) := by decide +kernel
theorem dX4_witness_55 : decode cX4_witness 55 = .ok (.getfield 25, 3) := by decide +kernel
theorem dX4_witness_58 : decode cX4_witness 58 = .ok (.iload_n 1, 1) := by decide +kernel
theorem dX4_witness_59 : decode cX4_witness 59 = .ok (.iload_n 2, 1) := by decide +kernel
theorem dX4_witness_60 : decode cX4_witness 60 = .ok (.invokevirtual 161, 3) := by decide +kernel
theorem dX4_witness_63 : decode cX4_witness 63 = .ok (.istore 5, 2) := by decide +kernel
theorem dX4_witness_65 : decode cX4_witness 65 = .ok (.iload 5, 2) := by decide +kernel
theorem dX4_witness_67 : decode cX4_witness 67 = .ok (.iconst (-1), 1) := by decide +kernel
theorem dX4_witness_68 : decode cX4_witness 68 = .ok (.if_icmp .ne 5, 3) := by decide +kernel
theorem dX4_witness_71 : decode cX4_witness 71 = .ok (.iconst (-1), 1) := by decide +kernel
theorem dX4_witness_72 : decode cX4_witness 72 = .ok (.ireturn, 1) := by decide +kernel
theorem dX4_witness_73 : decode cX4_witness 73 = .ok (.iload_n 3, 1) := by decide +kernel
theorem dX4_witness_74 : decode cX4_witness 74 = .ok (.iconst (-1), 1) := by decide +kernel
theorem dX4_witness_75 : decode cX4_witness 75 = .ok (.if_icmp .ne 14, 3) := by decide +kernel
theorem dX4_witness_78 : decode cX4_witness 78 = .ok (.aload_n 0, 1) := by decide +kernel
theorem dX4_witness_79 : decode cX4_witness 79 = .ok (.getfield 25, 3) := by decide +kernel
theorem dX4_witness_82 : decode cX4_witness 82 = .ok (.getfield 164, 3) := by decide +kernel
theorem dX4_witness_85 : decode cX4_witness 85 = .ok (.iload 5, 2) := by decide +kernel
theorem dX4_witness_87 : decode cX4_witness 87 = .ok (.iaload, 1) := by decide +kernel
theorem dX4_witness_88 : decode cX4_witness 88 = .ok (.ireturn, 1) := by decide +kernel
theorem dX4_witness_89 : decode cX4_witness 89 = .ok (.iload_n 3, 1) := by decide +kernel
theorem dX4_witness_90 : decode cX4_witness 90 = .ok (.aload_n 0, 1) := by decide +kernel
theorem dX4_witness_91 : decode cX4_witness 91 = .ok (.getfield 25, 3) := by decide +kernel
theorem dX4_witness_94 : decode cX4_witness 94 = .ok (.getfield 164, 3) := by decide +kernel
theorem dX4_witness_97 : decode cX4_witness 97 = .ok (.iload 5, 2) := by decide +kernel
theorem dX4_witness_99 : decode cX4_witness 99 = .ok (.iaload, 1) := by decide +kernel
theorem dX4_witness_100 : decode cX4_witness 100 = .ok (.if_icmp .ge 16, 3) := by decide +kernel
theorem dX4_witness_103 : decode cX4_witness 103 = .ok (.aload_n 0, 1) := by decide +kernel
theorem dX4_witness_104 : decode cX4_witness 104 = .ok (.getfield 25, 3) := by decide +kernel
theorem dX4_witness_107 : decode cX4_witness 107 = .ok (.iload 5, 2) := by decide +kernel
theorem dX4_witness_109 : decode cX4_witness 109 = .ok (.iload_n 3, 1) := by decide +kernel
theorem dX4_witness_110 : decode cX4_witness 110 = .ok (.invokevirtual 167, 3) := by decide +kernel
theorem dX4_witness_113 : decode cX4_witness 113 = .ok (.goto 4, 3) := by decide +kernel
theorem dX4_witness_116 : decode cX4_witness 116 = .ok (.iconst (-1), 1) := by decide +kernel
theorem dX4_witness_117 : decode cX4_witness 117 = .ok (.ireturn, 1) := by decide +kernel
theorem dX4_type_0 : decode cX4_type 0 = .ok (.iload_n 1, 1) := by decide +kernel
theorem dX4_type_1 : decode cX4_type 1 = .ok (.ifCond .lt 9, 3) := by decide +kernel
theorem dX4_type_4 : decode cX4_type 4 = .ok (.iload_n 1, 1) := by decide +kernel
theorem dX4_type_5 : decode cX4_type 5 = .ok (.bipush 127, 2) := by decide +kernel
theorem dX4_type_7 : decode cX4_type 7 = .ok (.if_icmp .le 10, 3) := by decide +kernel
theorem dX4_type_10 : decode cX4_type 10 = .ok (.aload_n 0, 1) := by decide +kernel
theorem dX4_type_11 : decode cX4_type 11 = .ok (.bipush (-2), 2) := by decide +kernel
theorem dX4_type_13 : decode cX4_type 13 = .ok (.invokevirtual 90, 3) := by decide +kernel
theorem dX4_type_16 : decode cX4_type 16 = .ok (.ireturn, 1) := by decide +kernel
theorem dX4_type_17 : decode cX4_type 17 = .ok (.aload_n 0, 1) := by decide +kernel
theorem dX4_type_18 : decode cX4_type 18 = .ok (.getfield 39, 3) := by decide +kernel
theorem dX4_type_21 : decode cX4_type 21 = .ok (.iload_n 1, 1) := by decide +kernel
theorem dX4_type_22 : decode cX4_type 22 = .ok (.invokevirtual 170, 3) := by decide +kernel
theorem dX4_type_25 : decode cX4_type 25 = .ok (.ifCond .eq 13, 3) := by decide +kernel
theorem dX4_type_28 : decode cX4_type 28 = .ok (.aload_n 0, 1) := by decide +kernel
theorem dX4_type_29 : decode cX4_type 29 = .ok (.getfield 39, 3) := by decide +kernel
theorem dX4_type_32 : decode cX4_type 32 = .ok (.getfield 173, 3) := by decide +kernel
theorem dX4_type_35 : decode cX4_type 35 = .ok (.goto 9, 3) := by decide +kernel
theorem dX4_type_38 : decode cX4_type 38 = .ok (.aload_n 0, 1) := by decide +kernel
theorem dX4_type_39 : decode cX4_type 39 = .ok (.bipush (-4), 2) := by decide +kernel
theorem dX4_type_41 : decode cX4_type 41 = .ok (.invokevirtual 90, 3) := by decide +kernel
theorem dX4_type_44 : decode cX4_type 44 = .ok (.ireturn, 1) := by decide +kernel
theorem dX4_clear_0 : decode cX4_clear 0 = .ok (.aload_n 0, 1) := by decide +kernel
theorem dX4_clear_1 : decode cX4_clear 1 = .ok (.getfield 39, 3) := by decide +kernel
theorem dX4_clear_4 : decode cX4_clear 4 = .ok (.getfield 173, 3) := by decide +kernel
theorem dX4_clear_7 : decode cX4_clear 7 = .ok (.istore_n 1, 1) := by decide +kernel
theorem dX4_clear_8 : decode cX4_clear 8 = .ok (.aload_n 0, 1) := by decide +kernel
theorem dX4_clear_9 : decode cX4_clear 9 = .ok (.getfield 39, 3) := by decide +kernel
theorem dX4_clear_12 : decode cX4_clear 12 = .ok (.iconst 0, 1) := by decide +kernel
theorem dX4_clear_13 : decode cX4_clear 13 = .ok (.putfield 173, 3) := by decide +kernel
theorem dX4_clear_16 : decode cX4_clear 16 = .ok (.iload_n 1, 1) := by decide +kernel
theorem dX4_clear_17 : decode cX4_clear 17 = .ok (.ireturn, 1) := by decide +kernel
theorem dX4_does_0 : decode cX4_does 0 = .ok (.aload_n 0, 1) := by decide +kernel
theorem dX4_does_1 : decode cX4_does 1 = .ok (.getfield 39, 3) := by decide +kernel
theorem dX4_does_4 : decode cX4_does 4 = .ok (.invokevirtual 176, 3) := by decide +kernel
theorem dX4_does_7 : decode cX4_does 7 = .ok (.istore_n 1, 1) := by decide +kernel
theorem dX4_does_8 : decode cX4_does 8 = .ok (.iload_n 1, 1) := by decide +kernel
theorem dX4_does_9 : decode cX4_does 9 = .ok (.iconst (-1), 1) := by decide +kernel
theorem dX4_does_10 : decode cX4_does 10 = .ok (.if_icmp .eq 8, 3) := by decide +kernel
theorem dX4_does_13 : decode cX4_does 13 = .ok (.bipush (-10), 2) := by decide +kernel
theorem dX4_does_15 : decode cX4_does 15 = .ok (.iload_n 1, 1) := by decide +kernel
theorem dX4_does_16 : decode cX4_does 16 = .ok (.isub, 1) := by decide +kernel
theorem dX4_does_17 : decode cX4_does 17 = .ok (.ireturn, 1) := by decide +kernel
theorem dX4_does_18 : decode cX4_does 18 = .ok (.aload_n 0, 1) := by decide +kernel
theorem dX4_does_19 : decode cX4_does 19 = .ok (.invokevirtual 57, 3) := by decide +kernel
theorem dX4_does_22 : decode cX4_does 22 = .ok (.astore_n 2, 1) := by decide +kernel
theorem dX4_does_23 : decode cX4_does 23 = .ok (.iconst 0, 1) := by decide +kernel
theorem dX4_does_24 : decode cX4_does 24 = .ok (.istore_n 3, 1) := by decide +kernel
theorem dX4_does_25 : decode cX4_does 25 = .ok (.iload_n 3, 1) := by decide +kernel
theorem dX4_does_26 : decode cX4_does 26 = .ok (.aload_n 0, 1) := by decide +kernel
theorem dX4_does_27 : decode cX4_does 27 = .ok (.getfield 39, 3) := by decide +kernel
theorem dX4_does_30 : decode cX4_does 30 = .ok (.getfield 179, 3) := by decide +kernel
theorem dX4_does_33 : decode cX4_does 33 = .ok (.if_icmp .ge 24, 3) := by decide +kernel
theorem dX4_does_36 : decode cX4_does 36 = .ok (.aload_n 0, 1) := by decide +kernel
theorem dX4_does_37 : decode cX4_does 37 = .ok (.aload_n 2, 1) := by decide +kernel
theorem dX4_does_38 : decode cX4_does 38 = .ok (.iload_n 3, 1) := by decide +kernel
theorem dX4_does_39 : decode cX4_does 39 = .ok (.invokevirtual 182, 3) := by decide +kernel
theorem dX4_does_42 : decode cX4_does 42 = .ok (.ifCond .ge 9, 3) := by decide +kernel
theorem dX4_does_45 : decode cX4_does 45 = .ok (.sipush (-1000), 3) := by decide +kernel
theorem dX4_does_48 : decode cX4_does 48 = .ok (.iload_n 3, 1) := by decide +kernel
theorem dX4_does_49 : decode cX4_does 49 = .ok (.isub, 1) := by decide +kernel
theorem dX4_does_50 : decode cX4_does 50 = .ok (.ireturn, 1) := by decide +kernel
theorem dX4_does_51 : decode cX4_does 51 = .ok (.iinc 3 1, 3) := by decide +kernel
theorem dX4_does_54 : decode cX4_does 54 = .ok (.goto (-29), 3) := by decide +kernel
theorem dX4_does_57 : decode cX4_does 57 = .ok (.aload_n 0, 1) := by decide +kernel
theorem dX4_does_58 : decode cX4_does 58 = .ok (.aload_n 0, 1) := by decide +kernel
theorem dX4_does_59 : decode cX4_does 59 = .ok (.getfield 39, 3) := by decide +kernel
theorem dX4_does_62 : decode cX4_does 62 = .ok (.getfield 179, 3) := by decide +kernel
theorem dX4_does_65 : decode cX4_does 65 = .ok (.invokevirtual 61, 3) := by decide +kernel
theorem dX4_does_68 : decode cX4_does 68 = .ok (.ireturn, 1) := by decide +kernel
theorem dX4_back_0 : decode cX4_back 0 = .ok (.aload_n 0, 1) := by decide +kernel
theorem dX4_back_1 : decode cX4_back 1 = .ok (.getfield 19, 3) := by decide +kernel
theorem dX4_back_4 : decode cX4_back 4 = .ok (.ifCond .ne 10, 3) := by decide +kernel
theorem dX4_back_7 : decode cX4_back 7 = .ok (.aload_n 0, 1) := by decide +kernel
theorem dX4_back_8 : decode cX4_back 8 = .ok (.bipush (-3), 2) := by decide +kernel
theorem dX4_back_10 : decode cX4_back 10 = .ok (.invokevirtual 90, 3) := by decide +kernel
theorem dX4_back_13 : decode cX4_back 13 = .ok (.ireturn, 1) := by decide +kernel
theorem dX4_back_14 : decode cX4_back 14 = .ok (.aload_n 0, 1) := by decide +kernel
theorem dX4_back_15 : decode cX4_back 15 = .ok (.dup, 1) := by decide +kernel
theorem dX4_back_16 : decode cX4_back 16 = .ok (.getfield 19, 3) := by decide +kernel
theorem dX4_back_19 : decode cX4_back 19 = .ok (.iconst 1, 1) := by decide +kernel
theorem dX4_back_20 : decode cX4_back 20 = .ok (.isub, 1) := by decide +kernel
theorem dX4_back_21 : decode cX4_back 21 = .ok (.putfield 19, 3) := by decide +kernel
theorem dX4_back_24 : decode cX4_back 24 = .ok (.aload_n 0, 1) := by decide +kernel
theorem dX4_back_25 : decode cX4_back 25 = .ok (.aload_n 0, 1) := by decide +kernel
theorem dX4_back_26 : decode cX4_back 26 = .ok (.getfield 15, 3) := by decide +kernel
theorem dX4_back_29 : decode cX4_back 29 = .ok (.bipush 7, 2) := by decide +kernel
theorem dX4_back_31 : decode cX4_back 31 = .ok (.iadd, 1) := by decide +kernel
theorem dX4_back_32 : decode cX4_back 32 = .ok (.iconst 1, 1) := by decide +kernel
theorem dX4_back_33 : decode cX4_back 33 = .ok (.isub, 1) := by decide +kernel
theorem dX4_back_34 : decode cX4_back 34 = .ok (.bipush 7, 2) := by decide +kernel
theorem dX4_back_36 : decode cX4_back 36 = .ok (.irem, 1) := by decide +kernel
theorem dX4_back_37 : decode cX4_back 37 = .ok (.invokevirtual 185, 3) := by decide +kernel
theorem dX4_back_40 : decode cX4_back 40 = .ok (.aload_n 0, 1) := by decide +kernel
theorem dX4_back_41 : decode cX4_back 41 = .ok (.getfield 19, 3) := by decide +kernel
theorem dX4_back_44 : decode cX4_back 44 = .ok (.ireturn, 1) := by decide +kernel
theorem dX4_told_0 : decode cX4_told 0 = .ok (.iload_n 1, 1) := by decide +kernel
theorem dX4_told_1 : decode cX4_told 1 = .ok (.ifCond .lt 8, 3) := by decide +kernel
theorem dX4_told_4 : decode cX4_told 4 = .ok (.iload_n 1, 1) := by decide +kernel
theorem dX4_told_5 : decode cX4_told 5 = .ok (.iconst 4, 1) := by decide +kernel
theorem dX4_told_6 : decode cX4_told 6 = .ok (.if_icmp .le 10, 3) := by decide +kernel
theorem dX4_told_9 : decode cX4_told 9 = .ok (.aload_n 0, 1) := by decide +kernel
theorem dX4_told_10 : decode cX4_told 10 = .ok (.bipush (-2), 2) := by decide +kernel
theorem dX4_told_12 : decode cX4_told 12 = .ok (.invokevirtual 90, 3) := by decide +kernel
theorem dX4_told_15 : decode cX4_told 15 = .ok (.ireturn, 1) := by decide +kernel
theorem dX4_told_16 : decode cX4_told 16 = .ok (.aload_n 0, 1) := by decide +kernel
theorem dX4_told_17 : decode cX4_told 17 = .ok (.iload_n 1, 1) := by decide +kernel
theorem dX4_told_18 : decode cX4_told 18 = .ok (.invokevirtual 189, 3) := by decide +kernel
theorem dX4_told_21 : decode cX4_told 21 = .ok (.ireturn, 1) := by decide +kernel
theorem dX4_digest_0 : decode cX4_digest 0 = .ok (.aload_n 0, 1) := by decide +kernel
theorem dX4_digest_1 : decode cX4_digest 1 = .ok (.getfield 11, 3) := by decide +kernel
theorem dX4_digest_4 : decode cX4_digest 4 = .ok (.aload_n 0, 1) := by decide +kernel
theorem dX4_digest_5 : decode cX4_digest 5 = .ok (.getfield 15, 3) := by decide +kernel
theorem dX4_digest_8 : decode cX4_digest 8 = .ok (.aaload, 1) := by decide +kernel
theorem dX4_digest_9 : decode cX4_digest 9 = .ok (.astore_n 1, 1) := by decide +kernel
theorem dX4_digest_10 : decode cX4_digest 10 = .ok (.aload_n 0, 1) := by decide +kernel
theorem dX4_digest_11 : decode cX4_digest 11 = .ok (.getfield 25, 3) := by decide +kernel
theorem dX4_digest_14 : decode cX4_digest 14 = .ok (.aload_n 1, 1) := by decide +kernel
theorem dX4_digest_15 : decode cX4_digest 15 = .ok (.iconst 0, 1) := by decide +kernel
theorem dX4_digest_16 : decode cX4_digest 16 = .ok (.aload_n 1, 1) := by decide +kernel
theorem dX4_digest_17 : decode cX4_digest 17 = .ok (.getfield 117, 3) := by decide +kernel
theorem dX4_digest_20 : decode cX4_digest 20 = .ok (.invokevirtual 120, 3) := by decide +kernel
theorem dX4_digest_23 : decode cX4_digest 23 = .ok (.aload_n 0, 1) := by decide +kernel
theorem dX4_digest_24 : decode cX4_digest 24 = .ok (.getfield 32, 3) := by decide +kernel
theorem dX4_digest_27 : decode cX4_digest 27 = .ok (.aload_n 1, 1) := by decide +kernel
theorem dX4_digest_28 : decode cX4_digest 28 = .ok (.invokevirtual 131, 3) := by decide +kernel
theorem dX4_digest_31 : decode cX4_digest 31 = .ok (.ldc2_w 192, 3) := by decide +kernel
theorem dX4_digest_34 : decode cX4_digest 34 = .ok (.lstore_n 2, 1) := by decide +kernel
theorem dX4_digest_35 : decode cX4_digest 35 = .ok (.iconst 0, 1) := by decide +kernel
theorem dX4_digest_36 : decode cX4_digest 36 = .ok (.istore 4, 2) := by decide +kernel
theorem dX4_digest_38 : decode cX4_digest 38 = .ok (.iload 4, 2) := by decide +kernel
theorem dX4_digest_40 : decode cX4_digest 40 = .ok (.iconst 4, 1) := by decide +kernel
theorem dX4_digest_41 : decode cX4_digest 41 = .ok (.if_icmp .gt 23, 3) := by decide +kernel
theorem dX4_digest_44 : decode cX4_digest 44 = .ok (.ldc2_w 194, 3) := by decide +kernel
theorem dX4_digest_47 : decode cX4_digest 47 = .ok (.lload_n 2, 1) := by decide +kernel
theorem dX4_digest_48 : decode cX4_digest 48 = .ok (.lmul, 1) := by decide +kernel
theorem dX4_digest_49 : decode cX4_digest 49 = .ok (.aload_n 0, 1) := by decide +kernel
theorem dX4_digest_50 : decode cX4_digest 50 = .ok (.iload 4, 2) := by decide +kernel
theorem dX4_digest_52 : decode cX4_digest 52 = .ok (.invokevirtual 189, 3) := by decide +kernel
theorem dX4_digest_55 : decode cX4_digest 55 = .ok (.i2l, 1) := by decide +kernel
theorem dX4_digest_56 : decode cX4_digest 56 = .ok (.ladd, 1) := by decide +kernel
theorem dX4_digest_57 : decode cX4_digest 57 = .ok (.lstore_n 2, 1) := by decide +kernel
theorem dX4_digest_58 : decode cX4_digest 58 = .ok (.iinc 4 1, 3) := by decide +kernel
theorem dX4_digest_61 : decode cX4_digest 61 = .ok (.goto (-23), 3) := by decide +kernel
theorem dX4_digest_64 : decode cX4_digest 64 = .ok (.iconst 0, 1) := by decide +kernel
theorem dX4_digest_65 : decode cX4_digest 65 = .ok (.istore 4, 2) := by decide +kernel
theorem dX4_digest_67 : decode cX4_digest 67 = .ok (.iload 4, 2) := by decide +kernel
theorem dX4_digest_69 : decode cX4_digest 69 = .ok (.iconst 5, 1) := by decide +kernel
theorem dX4_digest_70 : decode cX4_digest 70 = .ok (.if_icmp .gt 24, 3) := by decide +kernel
theorem dX4_digest_73 : decode cX4_digest 73 = .ok (.ldc2_w 194, 3) := by decide +kernel
theorem dX4_digest_76 : decode cX4_digest 76 = .ok (.lload_n 2, 1) := by decide +kernel
theorem dX4_digest_77 : decode cX4_digest 77 = .ok (.lmul, 1) := by decide +kernel
theorem dX4_digest_78 : decode cX4_digest 78 = .ok (.aload_n 0, 1) := by decide +kernel
theorem dX4_digest_79 : decode cX4_digest 79 = .ok (.aload_n 1, 1) := by decide +kernel
theorem dX4_digest_80 : decode cX4_digest 80 = .ok (.iload 4, 2) := by decide +kernel
theorem dX4_digest_82 : decode cX4_digest 82 = .ok (.invokevirtual 124, 3) := by decide +kernel
theorem dX4_digest_85 : decode cX4_digest 85 = .ok (.i2l, 1) := by decide +kernel
theorem dX4_digest_86 : decode cX4_digest 86 = .ok (.ladd, 1) := by decide +kernel
theorem dX4_digest_87 : decode cX4_digest 87 = .ok (.lstore_n 2, 1) := by decide +kernel
theorem dX4_digest_88 : decode cX4_digest 88 = .ok (.iinc 4 1, 3) := by decide +kernel
theorem dX4_digest_91 : decode cX4_digest 91 = .ok (.goto (-24), 3) := by decide +kernel
theorem dX4_digest_94 : decode cX4_digest 94 = .ok (.aload_n 0, 1) := by decide +kernel
theorem dX4_digest_95 : decode cX4_digest 95 = .ok (.aload_n 1, 1) := by decide +kernel
theorem dX4_digest_96 : decode cX4_digest 96 = .ok (.aload_n 0, 1) := by decide +kernel
theorem dX4_digest_97 : decode cX4_digest 97 = .ok (.aload_n 1, 1) := by decide +kernel
theorem dX4_digest_98 : decode cX4_digest 98 = .ok (.lload_n 2, 1) := by decide +kernel
theorem dX4_digest_99 : decode cX4_digest 99 = .ok (.invokevirtual 196, 3) := by decide +kernel
theorem dX4_digest_102 : decode cX4_digest 102 = .ok (.invokevirtual 200, 3) := by decide +kernel
theorem dX4_digest_105 : decode cX4_digest 105 = .ok (.lreturn, 1) := by decide +kernel
theorem dX4_isFact_0 : decode cX4_isFact 0 = .ok (.iload_n 0, 1) := by decide +kernel
theorem dX4_isFact_1 : decode cX4_isFact 1 = .ok (.ifCond .lt 13, 3) := by decide +kernel
theorem dX4_isFact_4 : decode cX4_isFact 4 = .ok (.iload_n 0, 1) := by decide +kernel
theorem dX4_isFact_5 : decode cX4_isFact 5 = .ok (.bipush 8, 2) := by decide +kernel
theorem dX4_isFact_7 : decode cX4_isFact 7 = .ok (.if_icmp .ge 7, 3) := by decide +kernel
theorem dX4_isFact_10 : decode cX4_isFact 10 = .ok (.iconst 1, 1) := by decide +kernel
theorem dX4_isFact_11 : decode cX4_isFact 11 = .ok (.goto 4, 3) := by decide +kernel
theorem dX4_isFact_14 : decode cX4_isFact 14 = .ok (.iconst 0, 1) := by decide +kernel
theorem dX4_isFact_15 : decode cX4_isFact 15 = .ok (.ireturn, 1) := by decide +kernel
theorem dX4_isFacts_0 : decode cX4_isFacts 0 = .ok (.iload_n 0, 1) := by decide +kernel
theorem dX4_isFacts_1 : decode cX4_isFacts 1 = .ok (.ifCond .lt 14, 3) := by decide +kernel
theorem dX4_isFacts_4 : decode cX4_isFacts 4 = .ok (.iload_n 0, 1) := by decide +kernel
theorem dX4_isFacts_5 : decode cX4_isFacts 5 = .ok (.sipush 255, 3) := by decide +kernel
theorem dX4_isFacts_8 : decode cX4_isFacts 8 = .ok (.if_icmp .gt 7, 3) := by decide +kernel
theorem dX4_isFacts_11 : decode cX4_isFacts 11 = .ok (.iconst 1, 1) := by decide +kernel
theorem dX4_isFacts_12 : decode cX4_isFacts 12 = .ok (.goto 4, 3) := by decide +kernel
theorem dX4_isFacts_15 : decode cX4_isFacts 15 = .ok (.iconst 0, 1) := by decide +kernel
theorem dX4_isFacts_16 : decode cX4_isFacts 16 = .ok (.ireturn, 1) := by decide +kernel
theorem dX4_has_0 : decode cX4_has 0 = .ok (.iload_n 0, 1) := by decide +kernel
theorem dX4_has_1 : decode cX4_has 1 = .ok (.iload_n 1, 1) := by decide +kernel
theorem dX4_has_2 : decode cX4_has 2 = .ok (.ishr, 1) := by decide +kernel
theorem dX4_has_3 : decode cX4_has 3 = .ok (.iconst 1, 1) := by decide +kernel
theorem dX4_has_4 : decode cX4_has 4 = .ok (.iand, 1) := by decide +kernel
theorem dX4_has_5 : decode cX4_has 5 = .ok (.ifCond .eq 7, 3) := by decide +kernel
theorem dX4_has_8 : decode cX4_has 8 = .ok (.iconst 1, 1) := by decide +kernel
theorem dX4_has_9 : decode cX4_has 9 = .ok (.goto 4, 3) := by decide +kernel
theorem dX4_has_12 : decode cX4_has 12 = .ok (.iconst 0, 1) := by decide +kernel
theorem dX4_has_13 : decode cX4_has 13 = .ok (.ireturn, 1) := by decide +kernel
theorem dX4_cell_0 : decode cX4_cell 0 = .ok (.iload_n 0, 1) := by decide +kernel
theorem dX4_cell_1 : decode cX4_cell 1 = .ok (.bipush 8, 2) := by decide +kernel
theorem dX4_cell_3 : decode cX4_cell 3 = .ok (.imul, 1) := by decide +kernel
theorem dX4_cell_4 : decode cX4_cell 4 = .ok (.iload_n 1, 1) := by decide +kernel
theorem dX4_cell_5 : decode cX4_cell 5 = .ok (.iadd, 1) := by decide +kernel
theorem dX4_cell_6 : decode cX4_cell 6 = .ok (.ireturn, 1) := by decide +kernel
theorem dX4_draft_0 : decode cX4_draft 0 = .ok (.aload_n 0, 1) := by decide +kernel
theorem dX4_draft_1 : decode cX4_draft 1 = .ok (.getfield 11, 3) := by decide +kernel
theorem dX4_draft_4 : decode cX4_draft 4 = .ok (.aload_n 0, 1) := by decide +kernel
theorem dX4_draft_5 : decode cX4_draft 5 = .ok (.getfield 15, 3) := by decide +kernel
theorem dX4_draft_8 : decode cX4_draft 8 = .ok (.iconst 1, 1) := by decide +kernel
theorem dX4_draft_9 : decode cX4_draft 9 = .ok (.iadd, 1) := by decide +kernel
theorem dX4_draft_10 : decode cX4_draft 10 = .ok (.bipush 7, 2) := by decide +kernel
theorem dX4_draft_12 : decode cX4_draft 12 = .ok (.irem, 1) := by decide +kernel
theorem dX4_draft_13 : decode cX4_draft 13 = .ok (.aaload, 1) := by decide +kernel
theorem dX4_draft_14 : decode cX4_draft 14 = .ok (.astore_n 1, 1) := by decide +kernel
theorem dX4_draft_15 : decode cX4_draft 15 = .ok (.aload_n 1, 1) := by decide +kernel
theorem dX4_draft_16 : decode cX4_draft 16 = .ok (.aload_n 0, 1) := by decide +kernel
theorem dX4_draft_17 : decode cX4_draft 17 = .ok (.getfield 11, 3) := by decide +kernel
theorem dX4_draft_20 : decode cX4_draft 20 = .ok (.aload_n 0, 1) := by decide +kernel
theorem dX4_draft_21 : decode cX4_draft 21 = .ok (.getfield 15, 3) := by decide +kernel
theorem dX4_draft_24 : decode cX4_draft 24 = .ok (.aaload, 1) := by decide +kernel
theorem dX4_draft_25 : decode cX4_draft 25 = .ok (.invokevirtual 203, 3) := by decide +kernel
theorem dX4_draft_28 : decode cX4_draft 28 = .ok (.aload_n 1, 1) := by decide +kernel
theorem dX4_draft_29 : decode cX4_draft 29 = .ok (.areturn, 1) := by decide +kernel
theorem dX4_settled_0 : decode cX4_settled 0 = .ok (.iload_n 1, 1) := by decide +kernel
theorem dX4_settled_1 : decode cX4_settled 1 = .ok (.ifCond .ge 9, 3) := by decide +kernel
theorem dX4_settled_4 : decode cX4_settled 4 = .ok (.aload_n 0, 1) := by decide +kernel
theorem dX4_settled_5 : decode cX4_settled 5 = .ok (.iload_n 1, 1) := by decide +kernel
theorem dX4_settled_6 : decode cX4_settled 6 = .ok (.invokevirtual 90, 3) := by decide +kernel
theorem dX4_settled_9 : decode cX4_settled 9 = .ok (.ireturn, 1) := by decide +kernel
theorem dX4_settled_10 : decode cX4_settled 10 = .ok (.aload_n 0, 1) := by decide +kernel
theorem dX4_settled_11 : decode cX4_settled 11 = .ok (.aload_n 0, 1) := by decide +kernel
theorem dX4_settled_12 : decode cX4_settled 12 = .ok (.getfield 19, 3) := by decide +kernel
theorem dX4_settled_15 : decode cX4_settled 15 = .ok (.iconst 1, 1) := by decide +kernel
theorem dX4_settled_16 : decode cX4_settled 16 = .ok (.iadd, 1) := by decide +kernel
theorem dX4_settled_17 : decode cX4_settled 17 = .ok (.iconst 5, 1) := by decide +kernel
theorem dX4_settled_18 : decode cX4_settled 18 = .ok (.invokestatic 206, 3) := by decide +kernel
theorem dX4_settled_21 : decode cX4_settled 21 = .ok (.putfield 19, 3) := by decide +kernel
theorem dX4_settled_24 : decode cX4_settled 24 = .ok (.aload_n 0, 1) := by decide +kernel
theorem dX4_settled_25 : decode cX4_settled 25 = .ok (.aload_n 0, 1) := by decide +kernel
theorem dX4_settled_26 : decode cX4_settled 26 = .ok (.getfield 15, 3) := by decide +kernel
theorem dX4_settled_29 : decode cX4_settled 29 = .ok (.iconst 1, 1) := by decide +kernel
theorem dX4_settled_30 : decode cX4_settled 30 = .ok (.iadd, 1) := by decide +kernel
theorem dX4_settled_31 : decode cX4_settled 31 = .ok (.bipush 7, 2) := by decide +kernel
theorem dX4_settled_33 : decode cX4_settled 33 = .ok (.irem, 1) := by decide +kernel
theorem dX4_settled_34 : decode cX4_settled 34 = .ok (.invokevirtual 185, 3) := by decide +kernel
theorem dX4_settled_37 : decode cX4_settled 37 = .ok (.iload_n 1, 1) := by decide +kernel
theorem dX4_settled_38 : decode cX4_settled 38 = .ok (.ireturn, 1) := by decide +kernel
theorem dX4_moveTo_0 : decode cX4_moveTo 0 = .ok (.aload_n 0, 1) := by decide +kernel
theorem dX4_moveTo_1 : decode cX4_moveTo 1 = .ok (.iload_n 1, 1) := by decide +kernel
theorem dX4_moveTo_2 : decode cX4_moveTo 2 = .ok (.putfield 15, 3) := by decide +kernel
theorem dX4_moveTo_5 : decode cX4_moveTo 5 = .ok (.aload_n 0, 1) := by decide +kernel
theorem dX4_moveTo_6 : decode cX4_moveTo 6 = .ok (.getfield 25, 3) := by decide +kernel
theorem dX4_moveTo_9 : decode cX4_moveTo 9 = .ok (.iconst 0, 1) := by decide +kernel
theorem dX4_moveTo_10 : decode cX4_moveTo 10 = .ok (.putfield 211, 3) := by decide +kernel
theorem dX4_moveTo_13 : decode cX4_moveTo 13 = .ok (.aload_n 0, 1) := by decide +kernel
theorem dX4_moveTo_14 : decode cX4_moveTo 14 = .ok (.getfield 32, 3) := by decide +kernel
theorem dX4_moveTo_17 : decode cX4_moveTo 17 = .ok (.iconst 0, 1) := by decide +kernel
theorem dX4_moveTo_18 : decode cX4_moveTo 18 = .ok (.putfield 215, 3) := by decide +kernel
theorem dX4_moveTo_21 : decode cX4_moveTo 21 = .ok (.return_, 1) := by decide +kernel
theorem dX4_refused_0 : decode cX4_refused 0 = .ok (.iload_n 1, 1) := by decide +kernel
theorem dX4_refused_1 : decode cX4_refused 1 = .ok (.bipush (-2), 2) := by decide +kernel
theorem dX4_refused_3 : decode cX4_refused 3 = .ok (.if_icmp .ne 16, 3) := by decide +kernel
theorem dX4_refused_6 : decode cX4_refused 6 = .ok (.aload_n 0, 1) := by decide +kernel
theorem dX4_refused_7 : decode cX4_refused 7 = .ok (.dup, 1) := by decide +kernel
theorem dX4_refused_8 : decode cX4_refused 8 = .ok (.getfield 43, 3) := by decide +kernel
theorem dX4_refused_11 : decode cX4_refused 11 = .ok (.iconst 1, 1) := by decide +kernel
theorem dX4_refused_12 : decode cX4_refused 12 = .ok (.iadd, 1) := by decide +kernel
theorem dX4_refused_13 : decode cX4_refused 13 = .ok (.putfield 43, 3) := by decide +kernel
theorem dX4_refused_16 : decode cX4_refused 16 = .ok (.goto 32, 3) := by decide +kernel
theorem dX4_refused_19 : decode cX4_refused 19 = .ok (.iload_n 1, 1) := by decide +kernel
theorem dX4_refused_20 : decode cX4_refused 20 = .ok (.bipush (-3), 2) := by decide +kernel
theorem dX4_refused_22 : decode cX4_refused 22 = .ok (.if_icmp .ne 16, 3) := by decide +kernel
theorem dX4_refused_25 : decode cX4_refused 25 = .ok (.aload_n 0, 1) := by decide +kernel
theorem dX4_refused_26 : decode cX4_refused 26 = .ok (.dup, 1) := by decide +kernel
theorem dX4_refused_27 : decode cX4_refused 27 = .ok (.getfield 46, 3) := by decide +kernel
theorem dX4_refused_30 : decode cX4_refused 30 = .ok (.iconst 1, 1) := by decide +kernel
theorem dX4_refused_31 : decode cX4_refused 31 = .ok (.iadd, 1) := by decide +kernel
theorem dX4_refused_32 : decode cX4_refused 32 = .ok (.putfield 46, 3) := by decide +kernel
theorem dX4_refused_35 : decode cX4_refused 35 = .ok (.goto 13, 3) := by decide +kernel
theorem dX4_refused_38 : decode cX4_refused 38 = .ok (.aload_n 0, 1) := by decide +kernel
theorem dX4_refused_39 : decode cX4_refused 39 = .ok (.dup, 1) := by decide +kernel
theorem dX4_refused_40 : decode cX4_refused 40 = .ok (.getfield 49, 3) := by decide +kernel
theorem dX4_refused_43 : decode cX4_refused 43 = .ok (.iconst 1, 1) := by decide +kernel
theorem dX4_refused_44 : decode cX4_refused 44 = .ok (.iadd, 1) := by decide +kernel
theorem dX4_refused_45 : decode cX4_refused 45 = .ok (.putfield 49, 3) := by decide +kernel
theorem dX4_refused_48 : decode cX4_refused 48 = .ok (.iload_n 1, 1) := by decide +kernel
theorem dX4_refused_49 : decode cX4_refused 49 = .ok (.ireturn, 1) := by decide +kernel
theorem dX4_partOfEdge_0 : decode cX4_partOfEdge 0 = .ok (.iload_n 3, 1) := by decide +kernel
theorem dX4_partOfEdge_1 : decode cX4_partOfEdge 1 = .ok (.lookupswitch 41 #[(0, 27), (1, 34)], 27) := by decide +kernel
theorem dX4_partOfEdge_28 : decode cX4_partOfEdge 28 = .ok (.aload_n 1, 1) := by decide +kernel
theorem dX4_partOfEdge_29 : decode cX4_partOfEdge 29 = .ok (.getfield 216, 3) := by decide +kernel
theorem dX4_partOfEdge_32 : decode cX4_partOfEdge 32 = .ok (.iload_n 2, 1) := by decide +kernel
theorem dX4_partOfEdge_33 : decode cX4_partOfEdge 33 = .ok (.iaload, 1) := by decide +kernel
theorem dX4_partOfEdge_34 : decode cX4_partOfEdge 34 = .ok (.ireturn, 1) := by decide +kernel
theorem dX4_partOfEdge_35 : decode cX4_partOfEdge 35 = .ok (.aload_n 1, 1) := by decide +kernel
theorem dX4_partOfEdge_36 : decode cX4_partOfEdge 36 = .ok (.getfield 219, 3) := by decide +kernel
theorem dX4_partOfEdge_39 : decode cX4_partOfEdge 39 = .ok (.iload_n 2, 1) := by decide +kernel
theorem dX4_partOfEdge_40 : decode cX4_partOfEdge 40 = .ok (.iaload, 1) := by decide +kernel
theorem dX4_partOfEdge_41 : decode cX4_partOfEdge 41 = .ok (.ireturn, 1) := by decide +kernel
theorem dX4_partOfEdge_42 : decode cX4_partOfEdge 42 = .ok (.aload_n 1, 1) := by decide +kernel
theorem dX4_partOfEdge_43 : decode cX4_partOfEdge 43 = .ok (.getfield 140, 3) := by decide +kernel
theorem dX4_partOfEdge_46 : decode cX4_partOfEdge 46 = .ok (.iload_n 2, 1) := by decide +kernel
theorem dX4_partOfEdge_47 : decode cX4_partOfEdge 47 = .ok (.iaload, 1) := by decide +kernel
theorem dX4_partOfEdge_48 : decode cX4_partOfEdge 48 = .ok (.ireturn, 1) := by decide +kernel
theorem dX4_partOfEntry_0 : decode cX4_partOfEntry 0 = .ok (.iload_n 3, 1) := by decide +kernel
theorem dX4_partOfEntry_1 : decode cX4_partOfEntry 1 = .ok (.tableswitch 59 0 2 #[27, 41, 50], 27) := by decide +kernel
theorem dX4_partOfEntry_28 : decode cX4_partOfEntry 28 = .ok (.aload_n 1, 1) := by decide +kernel
theorem dX4_partOfEntry_29 : decode cX4_partOfEntry 29 = .ok (.getfield 93, 3) := by decide +kernel
theorem dX4_partOfEntry_32 : decode cX4_partOfEntry 32 = .ok (.aload_n 0, 1) := by decide +kernel
theorem dX4_partOfEntry_33 : decode cX4_partOfEntry 33 = .ok (.getfield 25, 3) := by decide +kernel
theorem dX4_partOfEntry_36 : decode cX4_partOfEntry 36 = .ok (.iload_n 2, 1) := by decide +kernel
theorem dX4_partOfEntry_37 : decode cX4_partOfEntry 37 = .ok (.invokevirtual 222, 3) := by decide +kernel
theorem dX4_partOfEntry_40 : decode cX4_partOfEntry 40 = .ok (.iaload, 1) := by decide +kernel
theorem dX4_partOfEntry_41 : decode cX4_partOfEntry 41 = .ok (.ireturn, 1) := by decide +kernel
theorem dX4_partOfEntry_42 : decode cX4_partOfEntry 42 = .ok (.aload_n 0, 1) := by decide +kernel
theorem dX4_partOfEntry_43 : decode cX4_partOfEntry 43 = .ok (.getfield 25, 3) := by decide +kernel
theorem dX4_partOfEntry_46 : decode cX4_partOfEntry 46 = .ok (.iload_n 2, 1) := by decide +kernel
theorem dX4_partOfEntry_47 : decode cX4_partOfEntry 47 = .ok (.invokevirtual 225, 3) := by decide +kernel
theorem dX4_partOfEntry_50 : decode cX4_partOfEntry 50 = .ok (.ireturn, 1) := by decide +kernel
theorem dX4_partOfEntry_51 : decode cX4_partOfEntry 51 = .ok (.aload_n 0, 1) := by decide +kernel
theorem dX4_partOfEntry_52 : decode cX4_partOfEntry 52 = .ok (.getfield 25, 3) := by decide +kernel
theorem dX4_partOfEntry_55 : decode cX4_partOfEntry 55 = .ok (.iload_n 2, 1) := by decide +kernel
theorem dX4_partOfEntry_56 : decode cX4_partOfEntry 56 = .ok (.invokevirtual 222, 3) := by decide +kernel
theorem dX4_partOfEntry_59 : decode cX4_partOfEntry 59 = .ok (.ireturn, 1) := by decide +kernel
theorem dX4_partOfEntry_60 : decode cX4_partOfEntry 60 = .ok (.aload_n 0, 1) := by decide +kernel
theorem dX4_partOfEntry_61 : decode cX4_partOfEntry 61 = .ok (.getfield 25, 3) := by decide +kernel
theorem dX4_partOfEntry_64 : decode cX4_partOfEntry 64 = .ok (.iload_n 2, 1) := by decide +kernel
theorem dX4_partOfEntry_65 : decode cX4_partOfEntry 65 = .ok (.invokevirtual 228, 3) := by decide +kernel
theorem dX4_partOfEntry_68 : decode cX4_partOfEntry 68 = .ok (.ireturn, 1) := by decide +kernel
theorem dX4_counted_0 : decode cX4_counted 0 = .ok (.iload_n 2, 1) := by decide +kernel
theorem dX4_counted_1 : decode cX4_counted 1 = .ok (.tableswitch 63 0 4 #[35, 40, 45, 50, 55], 35) := by decide +kernel
theorem dX4_counted_36 : decode cX4_counted 36 = .ok (.aload_n 1, 1) := by decide +kernel
theorem dX4_counted_37 : decode cX4_counted 37 = .ok (.getfield 231, 3) := by decide +kernel
theorem dX4_counted_40 : decode cX4_counted 40 = .ok (.ireturn, 1) := by decide +kernel
theorem dX4_counted_41 : decode cX4_counted 41 = .ok (.aload_n 1, 1) := by decide +kernel
theorem dX4_counted_42 : decode cX4_counted 42 = .ok (.getfield 234, 3) := by decide +kernel
theorem dX4_counted_45 : decode cX4_counted 45 = .ok (.ireturn, 1) := by decide +kernel
theorem dX4_counted_46 : decode cX4_counted 46 = .ok (.aload_n 1, 1) := by decide +kernel
theorem dX4_counted_47 : decode cX4_counted 47 = .ok (.getfield 237, 3) := by decide +kernel
theorem dX4_counted_50 : decode cX4_counted 50 = .ok (.ireturn, 1) := by decide +kernel
theorem dX4_counted_51 : decode cX4_counted 51 = .ok (.aload_n 1, 1) := by decide +kernel
theorem dX4_counted_52 : decode cX4_counted 52 = .ok (.getfield 117, 3) := by decide +kernel
theorem dX4_counted_55 : decode cX4_counted 55 = .ok (.ireturn, 1) := by decide +kernel
theorem dX4_counted_56 : decode cX4_counted 56 = .ok (.aload_n 0, 1) := by decide +kernel
theorem dX4_counted_57 : decode cX4_counted 57 = .ok (.getfield 25, 3) := by decide +kernel
theorem dX4_counted_60 : decode cX4_counted 60 = .ok (.getfield 155, 3) := by decide +kernel
theorem dX4_counted_63 : decode cX4_counted 63 = .ok (.ireturn, 1) := by decide +kernel
theorem dX4_counted_64 : decode cX4_counted 64 = .ok (.aload_n 0, 1) := by decide +kernel
theorem dX4_counted_65 : decode cX4_counted 65 = .ok (.aload_n 1, 1) := by decide +kernel
theorem dX4_counted_66 : decode cX4_counted 66 = .ok (.invokevirtual 240, 3) := by decide +kernel
theorem dX4_counted_69 : decode cX4_counted 69 = .ok (.ireturn, 1) := by decide +kernel
theorem dX4_nodesReached_0 : decode cX4_nodesReached 0 = .ok (.iconst 0, 1) := by decide +kernel
theorem dX4_nodesReached_1 : decode cX4_nodesReached 1 = .ok (.istore_n 2, 1) := by decide +kernel
theorem dX4_nodesReached_2 : decode cX4_nodesReached 2 = .ok (.iconst 0, 1) := by decide +kernel
theorem dX4_nodesReached_3 : decode cX4_nodesReached 3 = .ok (.istore_n 3, 1) := by decide +kernel
theorem dX4_nodesReached_4 : decode cX4_nodesReached 4 = .ok (.iload_n 3, 1) := by decide +kernel
theorem dX4_nodesReached_5 : decode cX4_nodesReached 5 = .ok (.aload_n 1, 1) := by decide +kernel
theorem dX4_nodesReached_6 : decode cX4_nodesReached 6 = .ok (.getfield 234, 3) := by decide +kernel
theorem dX4_nodesReached_9 : decode cX4_nodesReached 9 = .ok (.if_icmp .ge 22, 3) := by decide +kernel
theorem dX4_nodesReached_12 : decode cX4_nodesReached 12 = .ok (.iload_n 2, 1) := by decide +kernel
theorem dX4_nodesReached_13 : decode cX4_nodesReached 13 = .ok (.aload_n 0, 1) := by decide +kernel
theorem dX4_nodesReached_14 : decode cX4_nodesReached 14 = .ok (.getfield 25, 3) := by decide +kernel
theorem dX4_nodesReached_17 : decode cX4_nodesReached 17 = .ok (.iload_n 3, 1) := by decide +kernel
theorem dX4_nodesReached_18 : decode cX4_nodesReached 18 = .ok (.invokevirtual 128, 3) := by decide +kernel
theorem dX4_nodesReached_21 : decode cX4_nodesReached 21 = .ok (.iconst 1, 1) := by decide +kernel
theorem dX4_nodesReached_22 : decode cX4_nodesReached 22 = .ok (.iand, 1) := by decide +kernel
theorem dX4_nodesReached_23 : decode cX4_nodesReached 23 = .ok (.iadd, 1) := by decide +kernel
theorem dX4_nodesReached_24 : decode cX4_nodesReached 24 = .ok (.istore_n 2, 1) := by decide +kernel
theorem dX4_nodesReached_25 : decode cX4_nodesReached 25 = .ok (.iinc 3 1, 3) := by decide +kernel
theorem dX4_nodesReached_28 : decode cX4_nodesReached 28 = .ok (.goto (-24), 3) := by decide +kernel
theorem dX4_nodesReached_31 : decode cX4_nodesReached 31 = .ok (.iload_n 2, 1) := by decide +kernel
theorem dX4_nodesReached_32 : decode cX4_nodesReached 32 = .ok (.ireturn, 1) := by decide +kernel
theorem dX4_tally_0 : decode cX4_tally 0 = .ok (.iload_n 1, 1) := by decide +kernel
theorem dX4_tally_1 : decode cX4_tally 1 = .ok (.tableswitch 54 0 3 #[31, 36, 41, 46], 31) := by decide +kernel
theorem dX4_tally_32 : decode cX4_tally 32 = .ok (.aload_n 0, 1) := by decide +kernel
theorem dX4_tally_33 : decode cX4_tally 33 = .ok (.getfield 43, 3) := by decide +kernel
theorem dX4_tally_36 : decode cX4_tally 36 = .ok (.ireturn, 1) := by decide +kernel
theorem dX4_tally_37 : decode cX4_tally 37 = .ok (.aload_n 0, 1) := by decide +kernel
theorem dX4_tally_38 : decode cX4_tally 38 = .ok (.getfield 46, 3) := by decide +kernel
theorem dX4_tally_41 : decode cX4_tally 41 = .ok (.ireturn, 1) := by decide +kernel
theorem dX4_tally_42 : decode cX4_tally 42 = .ok (.aload_n 0, 1) := by decide +kernel
theorem dX4_tally_43 : decode cX4_tally 43 = .ok (.getfield 49, 3) := by decide +kernel
theorem dX4_tally_46 : decode cX4_tally 46 = .ok (.ireturn, 1) := by decide +kernel
theorem dX4_tally_47 : decode cX4_tally 47 = .ok (.aload_n 0, 1) := by decide +kernel
theorem dX4_tally_48 : decode cX4_tally 48 = .ok (.getfield 39, 3) := by decide +kernel
theorem dX4_tally_51 : decode cX4_tally 51 = .ok (.getfield 173, 3) := by decide +kernel
theorem dX4_tally_54 : decode cX4_tally 54 = .ok (.ireturn, 1) := by decide +kernel
theorem dX4_tally_55 : decode cX4_tally 55 = .ok (.aload_n 0, 1) := by decide +kernel
theorem dX4_tally_56 : decode cX4_tally 56 = .ok (.getfield 19, 3) := by decide +kernel
theorem dX4_tally_59 : decode cX4_tally 59 = .ok (.ireturn, 1) := by decide +kernel
theorem dX4_obeyed_0 : decode cX4_obeyed 0 = .ok (.aload_n 0, 1) := by decide +kernel
theorem dX4_obeyed_1 : decode cX4_obeyed 1 = .ok (.getfield 39, 3) := by decide +kernel
theorem dX4_obeyed_4 : decode cX4_obeyed 4 = .ok (.iload_n 2, 1) := by decide +kernel
theorem dX4_obeyed_5 : decode cX4_obeyed 5 = .ok (.iconst 1, 1) := by decide +kernel
theorem dX4_obeyed_6 : decode cX4_obeyed 6 = .ok (.invokevirtual 244, 3) := by decide +kernel
theorem dX4_obeyed_9 : decode cX4_obeyed 9 = .ok (.istore_n 3, 1) := by decide +kernel
theorem dX4_obeyed_10 : decode cX4_obeyed 10 = .ok (.aload_n 0, 1) := by decide +kernel
theorem dX4_obeyed_11 : decode cX4_obeyed 11 = .ok (.getfield 39, 3) := by decide +kernel
theorem dX4_obeyed_14 : decode cX4_obeyed 14 = .ok (.iload_n 2, 1) := by decide +kernel
theorem dX4_obeyed_15 : decode cX4_obeyed 15 = .ok (.iconst 2, 1) := by decide +kernel
theorem dX4_obeyed_16 : decode cX4_obeyed 16 = .ok (.invokevirtual 244, 3) := by decide +kernel
theorem dX4_obeyed_19 : decode cX4_obeyed 19 = .ok (.istore 4, 2) := by decide +kernel
theorem dX4_obeyed_21 : decode cX4_obeyed 21 = .ok (.aload_n 0, 1) := by decide +kernel
theorem dX4_obeyed_22 : decode cX4_obeyed 22 = .ok (.getfield 39, 3) := by decide +kernel
theorem dX4_obeyed_25 : decode cX4_obeyed 25 = .ok (.iload_n 2, 1) := by decide +kernel
theorem dX4_obeyed_26 : decode cX4_obeyed 26 = .ok (.iconst 3, 1) := by decide +kernel
theorem dX4_obeyed_27 : decode cX4_obeyed 27 = .ok (.invokevirtual 244, 3) := by decide +kernel
theorem dX4_obeyed_30 : decode cX4_obeyed 30 = .ok (.istore 5, 2) := by decide +kernel
theorem dX4_obeyed_32 : decode cX4_obeyed 32 = .ok (.aload_n 0, 1) := by decide +kernel
theorem dX4_obeyed_33 : decode cX4_obeyed 33 = .ok (.getfield 39, 3) := by decide +kernel
theorem dX4_obeyed_36 : decode cX4_obeyed 36 = .ok (.iload_n 2, 1) := by decide +kernel
theorem dX4_obeyed_37 : decode cX4_obeyed 37 = .ok (.iconst 0, 1) := by decide +kernel
theorem dX4_obeyed_38 : decode cX4_obeyed 38 = .ok (.invokevirtual 244, 3) := by decide +kernel
theorem dX4_obeyed_41 : decode cX4_obeyed 41 = .ok (.tableswitch 137 99 115 #[102, 137, 94, 112, 137, 137, 137, 137, 137, 137, 137, 88, 137, 83, 137, 137, 131], 83) := by decide +kernel
theorem dX4_obeyed_124 : decode cX4_obeyed 124 = .ok (.aload_n 1, 1) := by decide +kernel
theorem dX4_obeyed_125 : decode cX4_obeyed 125 = .ok (.invokevirtual 53, 3) := by decide +kernel
theorem dX4_obeyed_128 : decode cX4_obeyed 128 = .ok (.ireturn, 1) := by decide +kernel
theorem dX4_obeyed_129 : decode cX4_obeyed 129 = .ok (.aload_n 1, 1) := by decide +kernel
theorem dX4_obeyed_130 : decode cX4_obeyed 130 = .ok (.iload_n 3, 1) := by decide +kernel
theorem dX4_obeyed_131 : decode cX4_obeyed 131 = .ok (.invokevirtual 65, 3) := by decide +kernel
theorem dX4_obeyed_134 : decode cX4_obeyed 134 = .ok (.ireturn, 1) := by decide +kernel
theorem dX4_obeyed_135 : decode cX4_obeyed 135 = .ok (.aload_n 1, 1) := by decide +kernel
theorem dX4_obeyed_136 : decode cX4_obeyed 136 = .ok (.iload_n 3, 1) := by decide +kernel
theorem dX4_obeyed_137 : decode cX4_obeyed 137 = .ok (.iload 4, 2) := by decide +kernel
theorem dX4_obeyed_139 : decode cX4_obeyed 139 = .ok (.invokevirtual 68, 3) := by decide +kernel
theorem dX4_obeyed_142 : decode cX4_obeyed 142 = .ok (.ireturn, 1) := by decide +kernel
theorem dX4_obeyed_143 : decode cX4_obeyed 143 = .ok (.aload_n 1, 1) := by decide +kernel
theorem dX4_obeyed_144 : decode cX4_obeyed 144 = .ok (.iload_n 3, 1) := by decide +kernel
theorem dX4_obeyed_145 : decode cX4_obeyed 145 = .ok (.iload 4, 2) := by decide +kernel
theorem dX4_obeyed_147 : decode cX4_obeyed 147 = .ok (.iload 5, 2) := by decide +kernel
theorem dX4_obeyed_149 : decode cX4_obeyed 149 = .ok (.invokevirtual 72, 3) := by decide +kernel
theorem dX4_obeyed_152 : decode cX4_obeyed 152 = .ok (.ireturn, 1) := by decide +kernel
theorem dX4_obeyed_153 : decode cX4_obeyed 153 = .ok (.aload_n 1, 1) := by decide +kernel
theorem dX4_obeyed_154 : decode cX4_obeyed 154 = .ok (.iload_n 3, 1) := by decide +kernel
theorem dX4_obeyed_155 : decode cX4_obeyed 155 = .ok (.iload 4, 2) := by decide +kernel
theorem dX4_obeyed_157 : decode cX4_obeyed 157 = .ok (.iload 5, 2) := by decide +kernel
theorem dX4_obeyed_159 : decode cX4_obeyed 159 = .ok (.aload_n 0, 1) := by decide +kernel
theorem dX4_obeyed_160 : decode cX4_obeyed 160 = .ok (.getfield 39, 3) := by decide +kernel
theorem dX4_obeyed_163 : decode cX4_obeyed 163 = .ok (.iload_n 2, 1) := by decide +kernel
theorem dX4_obeyed_164 : decode cX4_obeyed 164 = .ok (.iconst 4, 1) := by decide +kernel
theorem dX4_obeyed_165 : decode cX4_obeyed 165 = .ok (.invokevirtual 244, 3) := by decide +kernel
theorem dX4_obeyed_168 : decode cX4_obeyed 168 = .ok (.invokevirtual 76, 3) := by decide +kernel
theorem dX4_obeyed_171 : decode cX4_obeyed 171 = .ok (.ireturn, 1) := by decide +kernel
theorem dX4_obeyed_172 : decode cX4_obeyed 172 = .ok (.aload_n 1, 1) := by decide +kernel
theorem dX4_obeyed_173 : decode cX4_obeyed 173 = .ok (.iload_n 3, 1) := by decide +kernel
theorem dX4_obeyed_174 : decode cX4_obeyed 174 = .ok (.invokevirtual 80, 3) := by decide +kernel
theorem dX4_obeyed_177 : decode cX4_obeyed 177 = .ok (.ireturn, 1) := by decide +kernel
theorem dX4_obeyed_178 : decode cX4_obeyed 178 = .ok (.aload_n 1, 1) := by decide +kernel
theorem dX4_obeyed_179 : decode cX4_obeyed 179 = .ok (.iload_n 3, 1) := by decide +kernel
theorem dX4_obeyed_180 : decode cX4_obeyed 180 = .ok (.invokevirtual 83, 3) := by decide +kernel
theorem dX4_obeyed_183 : decode cX4_obeyed 183 = .ok (.ireturn, 1) := by decide +kernel
theorem dX4_digestOfNodes_0 : decode cX4_digestOfNodes 0 = .ok (.lload_n 2, 1) := by decide +kernel
theorem dX4_digestOfNodes_1 : decode cX4_digestOfNodes 1 = .ok (.lstore 4, 2) := by decide +kernel
theorem dX4_digestOfNodes_3 : decode cX4_digestOfNodes 3 = .ok (.iconst 0, 1) := by decide +kernel
theorem dX4_digestOfNodes_4 : decode cX4_digestOfNodes 4 = .ok (.istore 6, 2) := by decide +kernel
theorem dX4_digestOfNodes_6 : decode cX4_digestOfNodes 6 = .ok (.iload 6, 2) := by decide +kernel
theorem dX4_digestOfNodes_8 : decode cX4_digestOfNodes 8 = .ok (.aload_n 1, 1) := by decide +kernel
theorem dX4_digestOfNodes_9 : decode cX4_digestOfNodes 9 = .ok (.getfield 234, 3) := by decide +kernel
theorem dX4_digestOfNodes_12 : decode cX4_digestOfNodes 12 = .ok (.if_icmp .ge 82, 3) := by decide +kernel
theorem dX4_digestOfNodes_15 : decode cX4_digestOfNodes 15 = .ok (.ldc2_w 194, 3) := by decide +kernel
theorem dX4_digestOfNodes_18 : decode cX4_digestOfNodes 18 = .ok (.lload 4, 2) := by decide +kernel
theorem dX4_digestOfNodes_20 : decode cX4_digestOfNodes 20 = .ok (.lmul, 1) := by decide +kernel
theorem dX4_digestOfNodes_21 : decode cX4_digestOfNodes 21 = .ok (.aload_n 1, 1) := by decide +kernel
theorem dX4_digestOfNodes_22 : decode cX4_digestOfNodes 22 = .ok (.getfield 93, 3) := by decide +kernel
theorem dX4_digestOfNodes_25 : decode cX4_digestOfNodes 25 = .ok (.iload 6, 2) := by decide +kernel
theorem dX4_digestOfNodes_27 : decode cX4_digestOfNodes 27 = .ok (.iaload, 1) := by decide +kernel
theorem dX4_digestOfNodes_28 : decode cX4_digestOfNodes 28 = .ok (.i2l, 1) := by decide +kernel
theorem dX4_digestOfNodes_29 : decode cX4_digestOfNodes 29 = .ok (.ladd, 1) := by decide +kernel
theorem dX4_digestOfNodes_30 : decode cX4_digestOfNodes 30 = .ok (.lstore 4, 2) := by decide +kernel
theorem dX4_digestOfNodes_32 : decode cX4_digestOfNodes 32 = .ok (.ldc2_w 194, 3) := by decide +kernel
theorem dX4_digestOfNodes_35 : decode cX4_digestOfNodes 35 = .ok (.lload 4, 2) := by decide +kernel
theorem dX4_digestOfNodes_37 : decode cX4_digestOfNodes 37 = .ok (.lmul, 1) := by decide +kernel
theorem dX4_digestOfNodes_38 : decode cX4_digestOfNodes 38 = .ok (.aload_n 1, 1) := by decide +kernel
theorem dX4_digestOfNodes_39 : decode cX4_digestOfNodes 39 = .ok (.getfield 97, 3) := by decide +kernel
theorem dX4_digestOfNodes_42 : decode cX4_digestOfNodes 42 = .ok (.iload 6, 2) := by decide +kernel
theorem dX4_digestOfNodes_44 : decode cX4_digestOfNodes 44 = .ok (.iaload, 1) := by decide +kernel
theorem dX4_digestOfNodes_45 : decode cX4_digestOfNodes 45 = .ok (.i2l, 1) := by decide +kernel
theorem dX4_digestOfNodes_46 : decode cX4_digestOfNodes 46 = .ok (.ladd, 1) := by decide +kernel
theorem dX4_digestOfNodes_47 : decode cX4_digestOfNodes 47 = .ok (.lstore 4, 2) := by decide +kernel
theorem dX4_digestOfNodes_49 : decode cX4_digestOfNodes 49 = .ok (.ldc2_w 194, 3) := by decide +kernel
theorem dX4_digestOfNodes_52 : decode cX4_digestOfNodes 52 = .ok (.lload 4, 2) := by decide +kernel
theorem dX4_digestOfNodes_54 : decode cX4_digestOfNodes 54 = .ok (.lmul, 1) := by decide +kernel
theorem dX4_digestOfNodes_55 : decode cX4_digestOfNodes 55 = .ok (.aload_n 0, 1) := by decide +kernel
theorem dX4_digestOfNodes_56 : decode cX4_digestOfNodes 56 = .ok (.getfield 25, 3) := by decide +kernel
theorem dX4_digestOfNodes_59 : decode cX4_digestOfNodes 59 = .ok (.iload 6, 2) := by decide +kernel
theorem dX4_digestOfNodes_61 : decode cX4_digestOfNodes 61 = .ok (.invokevirtual 128, 3) := by decide +kernel
theorem dX4_digestOfNodes_64 : decode cX4_digestOfNodes 64 = .ok (.i2l, 1) := by decide +kernel
theorem dX4_digestOfNodes_65 : decode cX4_digestOfNodes 65 = .ok (.ladd, 1) := by decide +kernel
theorem dX4_digestOfNodes_66 : decode cX4_digestOfNodes 66 = .ok (.lstore 4, 2) := by decide +kernel
theorem dX4_digestOfNodes_68 : decode cX4_digestOfNodes 68 = .ok (.ldc2_w 194, 3) := by decide +kernel
theorem dX4_digestOfNodes_71 : decode cX4_digestOfNodes 71 = .ok (.lload 4, 2) := by decide +kernel
theorem dX4_digestOfNodes_73 : decode cX4_digestOfNodes 73 = .ok (.lmul, 1) := by decide +kernel
theorem dX4_digestOfNodes_74 : decode cX4_digestOfNodes 74 = .ok (.aload_n 0, 1) := by decide +kernel
theorem dX4_digestOfNodes_75 : decode cX4_digestOfNodes 75 = .ok (.getfield 32, 3) := by decide +kernel
theorem dX4_digestOfNodes_78 : decode cX4_digestOfNodes 78 = .ok (.getfield 134, 3) := by decide +kernel
theorem dX4_digestOfNodes_81 : decode cX4_digestOfNodes 81 = .ok (.iload 6, 2) := by decide +kernel
theorem dX4_digestOfNodes_83 : decode cX4_digestOfNodes 83 = .ok (.iaload, 1) := by decide +kernel
theorem dX4_digestOfNodes_84 : decode cX4_digestOfNodes 84 = .ok (.i2l, 1) := by decide +kernel
theorem dX4_digestOfNodes_85 : decode cX4_digestOfNodes 85 = .ok (.ladd, 1) := by decide +kernel
theorem dX4_digestOfNodes_86 : decode cX4_digestOfNodes 86 = .ok (.lstore 4, 2) := by decide +kernel
theorem dX4_digestOfNodes_88 : decode cX4_digestOfNodes 88 = .ok (.iinc 6 1, 3) := by decide +kernel
theorem dX4_digestOfNodes_91 : decode cX4_digestOfNodes 91 = .ok (.goto (-85), 3) := by decide +kernel
theorem dX4_digestOfNodes_94 : decode cX4_digestOfNodes 94 = .ok (.lload 4, 2) := by decide +kernel
theorem dX4_digestOfNodes_96 : decode cX4_digestOfNodes 96 = .ok (.lreturn, 1) := by decide +kernel
theorem dX4_digestOfEdges_0 : decode cX4_digestOfEdges 0 = .ok (.lload_n 2, 1) := by decide +kernel
theorem dX4_digestOfEdges_1 : decode cX4_digestOfEdges 1 = .ok (.lstore 4, 2) := by decide +kernel
theorem dX4_digestOfEdges_3 : decode cX4_digestOfEdges 3 = .ok (.iconst 0, 1) := by decide +kernel
theorem dX4_digestOfEdges_4 : decode cX4_digestOfEdges 4 = .ok (.istore 6, 2) := by decide +kernel
theorem dX4_digestOfEdges_6 : decode cX4_digestOfEdges 6 = .ok (.iload 6, 2) := by decide +kernel
theorem dX4_digestOfEdges_8 : decode cX4_digestOfEdges 8 = .ok (.aload_n 1, 1) := by decide +kernel
theorem dX4_digestOfEdges_9 : decode cX4_digestOfEdges 9 = .ok (.getfield 237, 3) := by decide +kernel
theorem dX4_digestOfEdges_12 : decode cX4_digestOfEdges 12 = .ok (.if_icmp .ge 96, 3) := by decide +kernel
theorem dX4_digestOfEdges_15 : decode cX4_digestOfEdges 15 = .ok (.iconst 0, 1) := by decide +kernel
theorem dX4_digestOfEdges_16 : decode cX4_digestOfEdges 16 = .ok (.istore 7, 2) := by decide +kernel
theorem dX4_digestOfEdges_18 : decode cX4_digestOfEdges 18 = .ok (.iload 7, 2) := by decide +kernel
theorem dX4_digestOfEdges_20 : decode cX4_digestOfEdges 20 = .ok (.iconst 2, 1) := by decide +kernel
theorem dX4_digestOfEdges_21 : decode cX4_digestOfEdges 21 = .ok (.if_icmp .gt 28, 3) := by decide +kernel
theorem dX4_digestOfEdges_24 : decode cX4_digestOfEdges 24 = .ok (.ldc2_w 194, 3) := by decide +kernel
theorem dX4_digestOfEdges_27 : decode cX4_digestOfEdges 27 = .ok (.lload 4, 2) := by decide +kernel
theorem dX4_digestOfEdges_29 : decode cX4_digestOfEdges 29 = .ok (.lmul, 1) := by decide +kernel
theorem dX4_digestOfEdges_30 : decode cX4_digestOfEdges 30 = .ok (.aload_n 0, 1) := by decide +kernel
theorem dX4_digestOfEdges_31 : decode cX4_digestOfEdges 31 = .ok (.aload_n 1, 1) := by decide +kernel
theorem dX4_digestOfEdges_32 : decode cX4_digestOfEdges 32 = .ok (.iload 6, 2) := by decide +kernel
theorem dX4_digestOfEdges_34 : decode cX4_digestOfEdges 34 = .ok (.iload 7, 2) := by decide +kernel
theorem dX4_digestOfEdges_36 : decode cX4_digestOfEdges 36 = .ok (.invokevirtual 103, 3) := by decide +kernel
theorem dX4_digestOfEdges_39 : decode cX4_digestOfEdges 39 = .ok (.i2l, 1) := by decide +kernel
theorem dX4_digestOfEdges_40 : decode cX4_digestOfEdges 40 = .ok (.ladd, 1) := by decide +kernel
theorem dX4_digestOfEdges_41 : decode cX4_digestOfEdges 41 = .ok (.lstore 4, 2) := by decide +kernel
theorem dX4_digestOfEdges_43 : decode cX4_digestOfEdges 43 = .ok (.iinc 7 1, 3) := by decide +kernel
theorem dX4_digestOfEdges_46 : decode cX4_digestOfEdges 46 = .ok (.goto (-28), 3) := by decide +kernel
theorem dX4_digestOfEdges_49 : decode cX4_digestOfEdges 49 = .ok (.aload_n 1, 1) := by decide +kernel
theorem dX4_digestOfEdges_50 : decode cX4_digestOfEdges 50 = .ok (.iload 6, 2) := by decide +kernel
theorem dX4_digestOfEdges_52 : decode cX4_digestOfEdges 52 = .ok (.invokevirtual 247, 3) := by decide +kernel
theorem dX4_digestOfEdges_55 : decode cX4_digestOfEdges 55 = .ok (.istore 7, 2) := by decide +kernel
theorem dX4_digestOfEdges_57 : decode cX4_digestOfEdges 57 = .ok (.iconst 0, 1) := by decide +kernel
theorem dX4_digestOfEdges_58 : decode cX4_digestOfEdges 58 = .ok (.istore 8, 2) := by decide +kernel
theorem dX4_digestOfEdges_60 : decode cX4_digestOfEdges 60 = .ok (.iload 8, 2) := by decide +kernel
theorem dX4_digestOfEdges_62 : decode cX4_digestOfEdges 62 = .ok (.iload 7, 2) := by decide +kernel
theorem dX4_digestOfEdges_64 : decode cX4_digestOfEdges 64 = .ok (.bipush 8, 2) := by decide +kernel
theorem dX4_digestOfEdges_66 : decode cX4_digestOfEdges 66 = .ok (.imul, 1) := by decide +kernel
theorem dX4_digestOfEdges_67 : decode cX4_digestOfEdges 67 = .ok (.if_icmp .ge 35, 3) := by decide +kernel
theorem dX4_digestOfEdges_70 : decode cX4_digestOfEdges 70 = .ok (.ldc2_w 194, 3) := by decide +kernel
theorem dX4_digestOfEdges_73 : decode cX4_digestOfEdges 73 = .ok (.lload 4, 2) := by decide +kernel
theorem dX4_digestOfEdges_75 : decode cX4_digestOfEdges 75 = .ok (.lmul, 1) := by decide +kernel
theorem dX4_digestOfEdges_76 : decode cX4_digestOfEdges 76 = .ok (.aload_n 1, 1) := by decide +kernel
theorem dX4_digestOfEdges_77 : decode cX4_digestOfEdges 77 = .ok (.iload 6, 2) := by decide +kernel
theorem dX4_digestOfEdges_79 : decode cX4_digestOfEdges 79 = .ok (.iload 8, 2) := by decide +kernel
theorem dX4_digestOfEdges_81 : decode cX4_digestOfEdges 81 = .ok (.bipush 8, 2) := by decide +kernel
theorem dX4_digestOfEdges_83 : decode cX4_digestOfEdges 83 = .ok (.idiv, 1) := by decide +kernel
theorem dX4_digestOfEdges_84 : decode cX4_digestOfEdges 84 = .ok (.iload 8, 2) := by decide +kernel
theorem dX4_digestOfEdges_86 : decode cX4_digestOfEdges 86 = .ok (.bipush 8, 2) := by decide +kernel
theorem dX4_digestOfEdges_88 : decode cX4_digestOfEdges 88 = .ok (.irem, 1) := by decide +kernel
theorem dX4_digestOfEdges_89 : decode cX4_digestOfEdges 89 = .ok (.invokevirtual 114, 3) := by decide +kernel
theorem dX4_digestOfEdges_92 : decode cX4_digestOfEdges 92 = .ok (.i2l, 1) := by decide +kernel
theorem dX4_digestOfEdges_93 : decode cX4_digestOfEdges 93 = .ok (.ladd, 1) := by decide +kernel
theorem dX4_digestOfEdges_94 : decode cX4_digestOfEdges 94 = .ok (.lstore 4, 2) := by decide +kernel
theorem dX4_digestOfEdges_96 : decode cX4_digestOfEdges 96 = .ok (.iinc 8 1, 3) := by decide +kernel
theorem dX4_digestOfEdges_99 : decode cX4_digestOfEdges 99 = .ok (.goto (-39), 3) := by decide +kernel
theorem dX4_digestOfEdges_102 : decode cX4_digestOfEdges 102 = .ok (.iinc 6 1, 3) := by decide +kernel
theorem dX4_digestOfEdges_105 : decode cX4_digestOfEdges 105 = .ok (.goto (-99), 3) := by decide +kernel
theorem dX4_digestOfEdges_108 : decode cX4_digestOfEdges 108 = .ok (.lload 4, 2) := by decide +kernel
theorem dX4_digestOfEdges_110 : decode cX4_digestOfEdges 110 = .ok (.lreturn, 1) := by decide +kernel
theorem dX5_init_0 : decode cX5_init 0 = .ok (.aload_n 0, 1) := by decide +kernel
theorem dX5_init_1 : decode cX5_init 1 = .ok (.invokespecial 1, 3) := by decide +kernel
theorem dX5_init_4 : decode cX5_init 4 = .ok (.aload_n 0, 1) := by decide +kernel
theorem dX5_init_5 : decode cX5_init 5 = .ok (.iconst 3, 1) := by decide +kernel
theorem dX5_init_6 : decode cX5_init 6 = .ok (.newarray .int, 2) := by decide +kernel
theorem dX5_init_8 : decode cX5_init 8 = .ok (.putfield 7, 3) := by decide +kernel
theorem dX5_init_11 : decode cX5_init 11 = .ok (.aload_n 0, 1) := by decide +kernel
theorem dX5_init_12 : decode cX5_init 12 = .ok (.sipush 926, 3) := by decide +kernel
theorem dX5_init_15 : decode cX5_init 15 = .ok (.newarray .int, 2) := by decide +kernel
theorem dX5_init_17 : decode cX5_init 17 = .ok (.putfield 13, 3) := by decide +kernel
theorem dX5_init_20 : decode cX5_init 20 = .ok (.aload_n 0, 1) := by decide +kernel
theorem dX5_init_21 : decode cX5_init 21 = .ok (.sipush 5556, 3) := by decide +kernel
theorem dX5_init_24 : decode cX5_init 24 = .ok (.newarray .int, 2) := by decide +kernel
theorem dX5_init_26 : decode cX5_init 26 = .ok (.putfield 16, 3) := by decide +kernel
theorem dX5_init_29 : decode cX5_init 29 = .ok (.aload_n 0, 1) := by decide +kernel
theorem dX5_init_30 : decode cX5_init 30 = .ok (.sipush 1536, 3) := by decide +kernel
theorem dX5_init_33 : decode cX5_init 33 = .ok (.newarray .int, 2) := by decide +kernel
theorem dX5_init_35 : decode cX5_init 35 = .ok (.putfield 19, 3) := by decide +kernel
theorem dX5_init_38 : decode cX5_init 38 = .ok (.aload_n 0, 1) := by decide +kernel
theorem dX5_init_39 : decode cX5_init 39 = .ok (.sipush 1536, 3) := by decide +kernel
theorem dX5_init_42 : decode cX5_init 42 = .ok (.newarray .int, 2) := by decide +kernel
theorem dX5_init_44 : decode cX5_init 44 = .ok (.putfield 22, 3) := by decide +kernel
theorem dX5_init_47 : decode cX5_init 47 = .ok (.aload_n 0, 1) := by decide +kernel
theorem dX5_init_48 : decode cX5_init 48 = .ok (.sipush 1536, 3) := by decide +kernel
theorem dX5_init_51 : decode cX5_init 51 = .ok (.newarray .int, 2) := by decide +kernel
theorem dX5_init_53 : decode cX5_init 53 = .ok (.putfield 25, 3) := by decide +kernel
theorem dX5_init_56 : decode cX5_init 56 = .ok (.aload_n 0, 1) := by decide +kernel
theorem dX5_init_57 : decode cX5_init 57 = .ok (.sipush 1536, 3) := by decide +kernel
theorem dX5_init_60 : decode cX5_init 60 = .ok (.newarray .int, 2) := by decide +kernel
theorem dX5_init_62 : decode cX5_init 62 = .ok (.putfield 28, 3) := by decide +kernel
theorem dX5_init_65 : decode cX5_init 65 = .ok (.aload_n 0, 1) := by decide +kernel
theorem dX5_init_66 : decode cX5_init 66 = .ok (.sipush 1536, 3) := by decide +kernel
theorem dX5_init_69 : decode cX5_init 69 = .ok (.newarray .int, 2) := by decide +kernel
theorem dX5_init_71 : decode cX5_init 71 = .ok (.putfield 31, 3) := by decide +kernel
theorem dX5_init_74 : decode cX5_init 74 = .ok (.aload_n 0, 1) := by decide +kernel
theorem dX5_init_75 : decode cX5_init 75 = .ok (.sipush 1536, 3) := by decide +kernel
theorem dX5_init_78 : decode cX5_init 78 = .ok (.newarray .int, 2) := by decide +kernel
theorem dX5_init_80 : decode cX5_init 80 = .ok (.putfield 34, 3) := by decide +kernel
theorem dX5_init_83 : decode cX5_init 83 = .ok (.aload_n 0, 1) := by decide +kernel
theorem dX5_init_84 : decode cX5_init 84 = .ok (.sipush 16384, 3) := by decide +kernel
theorem dX5_init_87 : decode cX5_init 87 = .ok (.newarray .int, 2) := by decide +kernel
theorem dX5_init_89 : decode cX5_init 89 = .ok (.putfield 37, 3) := by decide +kernel
theorem dX5_init_92 : decode cX5_init 92 = .ok (.aload_n 0, 1) := by decide +kernel
theorem dX5_init_93 : decode cX5_init 93 = .ok (.sipush 16384, 3) := by decide +kernel
theorem dX5_init_96 : decode cX5_init 96 = .ok (.newarray .int, 2) := by decide +kernel
theorem dX5_init_98 : decode cX5_init 98 = .ok (.putfield 40, 3) := by decide +kernel
theorem dX5_init_101 : decode cX5_init 101 = .ok (.aload_n 0, 1) := by decide +kernel
theorem dX5_init_102 : decode cX5_init 102 = .ok (.bipush 40, 2) := by decide +kernel
theorem dX5_init_104 : decode cX5_init 104 = .ok (.newarray .int, 2) := by decide +kernel
theorem dX5_init_106 : decode cX5_init 106 = .ok (.putfield 43, 3) := by decide +kernel
theorem dX5_init_109 : decode cX5_init 109 = .ok (.aload_n 0, 1) := by decide +kernel
theorem dX5_init_110 : decode cX5_init 110 = .ok (.bipush 40, 2) := by decide +kernel
theorem dX5_init_112 : decode cX5_init 112 = .ok (.newarray .int, 2) := by decide +kernel
theorem dX5_init_114 : decode cX5_init 114 = .ok (.putfield 46, 3) := by decide +kernel
theorem dX5_init_117 : decode cX5_init 117 = .ok (.aload_n 0, 1) := by decide +kernel
theorem dX5_init_118 : decode cX5_init 118 = .ok (.bipush 24, 2) := by decide +kernel
theorem dX5_init_120 : decode cX5_init 120 = .ok (.newarray .int, 2) := by decide +kernel
theorem dX5_init_122 : decode cX5_init 122 = .ok (.putfield 49, 3) := by decide +kernel
theorem dX5_init_125 : decode cX5_init 125 = .ok (.aload_n 0, 1) := by decide +kernel
theorem dX5_init_126 : decode cX5_init 126 = .ok (.sipush 8000, 3) := by decide +kernel
theorem dX5_init_129 : decode cX5_init 129 = .ok (.newarray .int, 2) := by decide +kernel
theorem dX5_init_131 : decode cX5_init 131 = .ok (.putfield 52, 3) := by decide +kernel
theorem dX5_init_134 : decode cX5_init 134 = .ok (.aload_n 0, 1) := by decide +kernel
theorem dX5_init_135 : decode cX5_init 135 = .ok (.sipush 1000, 3) := by decide +kernel
theorem dX5_init_138 : decode cX5_init 138 = .ok (.newarray .int, 2) := by decide +kernel
theorem dX5_init_140 : decode cX5_init 140 = .ok (.putfield 55, 3) := by decide +kernel
theorem dX5_init_143 : decode cX5_init 143 = .ok (.aload_n 0, 1) := by decide +kernel
theorem dX5_init_144 : decode cX5_init 144 = .ok (.bipush 120, 2) := by decide +kernel
theorem dX5_init_146 : decode cX5_init 146 = .ok (.newarray .int, 2) := by decide +kernel
theorem dX5_init_148 : decode cX5_init 148 = .ok (.putfield 58, 3) := by decide +kernel
theorem dX5_init_151 : decode cX5_init 151 = .ok (.aload_n 0, 1) := by decide +kernel
theorem dX5_init_152 : decode cX5_init 152 = .ok (.sipush 300, 3) := by decide +kernel
theorem dX5_init_155 : decode cX5_init 155 = .ok (.newarray .int, 2) := by decide +kernel
theorem dX5_init_157 : decode cX5_init 157 = .ok (.putfield 61, 3) := by decide +kernel
theorem dX5_init_160 : decode cX5_init 160 = .ok (.aload_n 0, 1) := by decide +kernel
theorem dX5_init_161 : decode cX5_init 161 = .ok (.getfield 13, 3) := by decide +kernel
theorem dX5_init_164 : decode cX5_init 164 = .ok (.iconst 3, 1) := by decide +kernel
theorem dX5_init_165 : decode cX5_init 165 = .ok (.iconst 1, 1) := by decide +kernel
theorem dX5_init_166 : decode cX5_init 166 = .ok (.iastore, 1) := by decide +kernel
theorem dX5_init_167 : decode cX5_init 167 = .ok (.aload_n 0, 1) := by decide +kernel
theorem dX5_init_168 : decode cX5_init 168 = .ok (.invokevirtual 64, 3) := by decide +kernel
theorem dX5_init_171 : decode cX5_init 171 = .ok (.pop, 1) := by decide +kernel
theorem dX5_init_172 : decode cX5_init 172 = .ok (.return_, 1) := by decide +kernel
theorem dX5_bad_0 : decode cX5_bad 0 = .ok (.aload_n 0, 1) := by decide +kernel
theorem dX5_bad_1 : decode cX5_bad 1 = .ok (.getfield 7, 3) := by decide +kernel
theorem dX5_bad_4 : decode cX5_bad 4 = .ok (.iconst 0, 1) := by decide +kernel
theorem dX5_bad_5 : decode cX5_bad 5 = .ok (.dup2, 1) := by decide +kernel
theorem dX5_bad_6 : decode cX5_bad 6 = .ok (.iaload, 1) := by decide +kernel
theorem dX5_bad_7 : decode cX5_bad 7 = .ok (.iconst 1, 1) := by decide +kernel
theorem dX5_bad_8 : decode cX5_bad 8 = .ok (.iadd, 1) := by decide +kernel
theorem dX5_bad_9 : decode cX5_bad 9 = .ok (.iastore, 1) := by decide +kernel
theorem dX5_bad_10 : decode cX5_bad 10 = .ok (.bipush (-2), 2) := by decide +kernel
theorem dX5_bad_12 : decode cX5_bad 12 = .ok (.ireturn, 1) := by decide +kernel
theorem dX5_no_0 : decode cX5_no 0 = .ok (.aload_n 0, 1) := by decide +kernel
theorem dX5_no_1 : decode cX5_no 1 = .ok (.getfield 7, 3) := by decide +kernel
theorem dX5_no_4 : decode cX5_no 4 = .ok (.iconst 1, 1) := by decide +kernel
theorem dX5_no_5 : decode cX5_no 5 = .ok (.dup2, 1) := by decide +kernel
theorem dX5_no_6 : decode cX5_no 6 = .ok (.iaload, 1) := by decide +kernel
theorem dX5_no_7 : decode cX5_no 7 = .ok (.iconst 1, 1) := by decide +kernel
theorem dX5_no_8 : decode cX5_no 8 = .ok (.iadd, 1) := by decide +kernel
theorem dX5_no_9 : decode cX5_no 9 = .ok (.iastore, 1) := by decide +kernel
theorem dX5_no_10 : decode cX5_no 10 = .ok (.bipush (-3), 2) := by decide +kernel
theorem dX5_no_12 : decode cX5_no 12 = .ok (.ireturn, 1) := by decide +kernel
theorem dX5_full_0 : decode cX5_full 0 = .ok (.aload_n 0, 1) := by decide +kernel
theorem dX5_full_1 : decode cX5_full 1 = .ok (.getfield 7, 3) := by decide +kernel
theorem dX5_full_4 : decode cX5_full 4 = .ok (.iconst 2, 1) := by decide +kernel
theorem dX5_full_5 : decode cX5_full 5 = .ok (.dup2, 1) := by decide +kernel
theorem dX5_full_6 : decode cX5_full 6 = .ok (.iaload, 1) := by decide +kernel
theorem dX5_full_7 : decode cX5_full 7 = .ok (.iconst 1, 1) := by decide +kernel
theorem dX5_full_8 : decode cX5_full 8 = .ok (.iadd, 1) := by decide +kernel
theorem dX5_full_9 : decode cX5_full 9 = .ok (.iastore, 1) := by decide +kernel
theorem dX5_full_10 : decode cX5_full 10 = .ok (.bipush (-4), 2) := by decide +kernel
theorem dX5_full_12 : decode cX5_full 12 = .ok (.ireturn, 1) := by decide +kernel
theorem dX5_counted_0 : decode cX5_counted 0 = .ok (.iload_n 1, 1) := by decide +kernel
theorem dX5_counted_1 : decode cX5_counted 1 = .ok (.bipush (-2), 2) := by decide +kernel
theorem dX5_counted_3 : decode cX5_counted 3 = .ok (.if_icmp .ne 10, 3) := by decide +kernel
theorem dX5_counted_6 : decode cX5_counted 6 = .ok (.aload_n 0, 1) := by decide +kernel
theorem dX5_counted_7 : decode cX5_counted 7 = .ok (.invokevirtual 68, 3) := by decide +kernel
theorem dX5_counted_10 : decode cX5_counted 10 = .ok (.goto 30, 3) := by decide +kernel
theorem dX5_counted_13 : decode cX5_counted 13 = .ok (.iload_n 1, 1) := by decide +kernel
theorem dX5_counted_14 : decode cX5_counted 14 = .ok (.bipush (-3), 2) := by decide +kernel
theorem dX5_counted_16 : decode cX5_counted 16 = .ok (.if_icmp .ne 10, 3) := by decide +kernel
theorem dX5_counted_19 : decode cX5_counted 19 = .ok (.aload_n 0, 1) := by decide +kernel
theorem dX5_counted_20 : decode cX5_counted 20 = .ok (.invokevirtual 71, 3) := by decide +kernel
theorem dX5_counted_23 : decode cX5_counted 23 = .ok (.goto 17, 3) := by decide +kernel
theorem dX5_counted_26 : decode cX5_counted 26 = .ok (.iload_n 1, 1) := by decide +kernel
theorem dX5_counted_27 : decode cX5_counted 27 = .ok (.bipush (-4), 2) := by decide +kernel
theorem dX5_counted_29 : decode cX5_counted 29 = .ok (.if_icmp .ne 10, 3) := by decide +kernel
theorem dX5_counted_32 : decode cX5_counted 32 = .ok (.aload_n 0, 1) := by decide +kernel
theorem dX5_counted_33 : decode cX5_counted 33 = .ok (.invokevirtual 74, 3) := by decide +kernel
theorem dX5_counted_36 : decode cX5_counted 36 = .ok (.goto 4, 3) := by decide +kernel
theorem dX5_counted_39 : decode cX5_counted 39 = .ok (.iload_n 1, 1) := by decide +kernel
theorem dX5_counted_40 : decode cX5_counted 40 = .ok (.ireturn, 1) := by decide +kernel
theorem dX5_in_0 : decode cX5_in 0 = .ok (.iload_n 0, 1) := by decide +kernel
theorem dX5_in_1 : decode cX5_in 1 = .ok (.iload_n 1, 1) := by decide +kernel
theorem dX5_in_2 : decode cX5_in 2 = .ok (.if_icmp .lt 12, 3) := by decide +kernel
theorem dX5_in_5 : decode cX5_in 5 = .ok (.iload_n 0, 1) := by decide +kernel
theorem dX5_in_6 : decode cX5_in 6 = .ok (.iload_n 2, 1) := by decide +kernel
theorem dX5_in_7 : decode cX5_in 7 = .ok (.if_icmp .gt 7, 3) := by decide +kernel
theorem dX5_in_10 : decode cX5_in 10 = .ok (.iconst 1, 1) := by decide +kernel
theorem dX5_in_11 : decode cX5_in 11 = .ok (.goto 4, 3) := by decide +kernel
theorem dX5_in_14 : decode cX5_in 14 = .ok (.iconst 0, 1) := by decide +kernel
theorem dX5_in_15 : decode cX5_in 15 = .ok (.ireturn, 1) := by decide +kernel
theorem dX5_puts_0 : decode cX5_puts 0 = .ok (.iconst 0, 1) := by decide +kernel
theorem dX5_puts_1 : decode cX5_puts 1 = .ok (.istore_n 2, 1) := by decide +kernel
theorem dX5_puts_2 : decode cX5_puts 2 = .ok (.iload_n 2, 1) := by decide +kernel
theorem dX5_puts_3 : decode cX5_puts 3 = .ok (.sipush 926, 3) := by decide +kernel
theorem dX5_puts_6 : decode cX5_puts 6 = .ok (.if_icmp .ge 27, 3) := by decide +kernel
theorem dX5_puts_9 : decode cX5_puts 9 = .ok (.aload_n 0, 1) := by decide +kernel
theorem dX5_puts_10 : decode cX5_puts 10 = .ok (.getfield 16, 3) := by decide +kernel
theorem dX5_puts_13 : decode cX5_puts 13 = .ok (.sipush 926, 3) := by decide +kernel
theorem dX5_puts_16 : decode cX5_puts 16 = .ok (.iload_n 1, 1) := by decide +kernel
theorem dX5_puts_17 : decode cX5_puts 17 = .ok (.imul, 1) := by decide +kernel
theorem dX5_puts_18 : decode cX5_puts 18 = .ok (.iload_n 2, 1) := by decide +kernel
theorem dX5_puts_19 : decode cX5_puts 19 = .ok (.iadd, 1) := by decide +kernel
theorem dX5_puts_20 : decode cX5_puts 20 = .ok (.aload_n 0, 1) := by decide +kernel
theorem dX5_puts_21 : decode cX5_puts 21 = .ok (.getfield 13, 3) := by decide +kernel
theorem dX5_puts_24 : decode cX5_puts 24 = .ok (.iload_n 2, 1) := by decide +kernel
theorem dX5_puts_25 : decode cX5_puts 25 = .ok (.iaload, 1) := by decide +kernel
theorem dX5_puts_26 : decode cX5_puts 26 = .ok (.iastore, 1) := by decide +kernel
theorem dX5_puts_27 : decode cX5_puts 27 = .ok (.iinc 2 1, 3) := by decide +kernel
theorem dX5_puts_30 : decode cX5_puts 30 = .ok (.goto (-28), 3) := by decide +kernel
theorem dX5_puts_33 : decode cX5_puts 33 = .ok (.return_, 1) := by decide +kernel
theorem dX5_takes_0 : decode cX5_takes 0 = .ok (.iconst 0, 1) := by decide +kernel
theorem dX5_takes_1 : decode cX5_takes 1 = .ok (.istore_n 2, 1) := by decide +kernel
theorem dX5_takes_2 : decode cX5_takes 2 = .ok (.iload_n 2, 1) := by decide +kernel
theorem dX5_takes_3 : decode cX5_takes 3 = .ok (.sipush 926, 3) := by decide +kernel
theorem dX5_takes_6 : decode cX5_takes 6 = .ok (.if_icmp .ge 27, 3) := by decide +kernel
theorem dX5_takes_9 : decode cX5_takes 9 = .ok (.aload_n 0, 1) := by decide +kernel
theorem dX5_takes_10 : decode cX5_takes 10 = .ok (.getfield 13, 3) := by decide +kernel
theorem dX5_takes_13 : decode cX5_takes 13 = .ok (.iload_n 2, 1) := by decide +kernel
theorem dX5_takes_14 : decode cX5_takes 14 = .ok (.aload_n 0, 1) := by decide +kernel
theorem dX5_takes_15 : decode cX5_takes 15 = .ok (.getfield 16, 3) := by decide +kernel
theorem dX5_takes_18 : decode cX5_takes 18 = .ok (.sipush 926, 3) := by decide +kernel
theorem dX5_takes_21 : decode cX5_takes 21 = .ok (.iload_n 1, 1) := by decide +kernel
theorem dX5_takes_22 : decode cX5_takes 22 = .ok (.imul, 1) := by decide +kernel
theorem dX5_takes_23 : decode cX5_takes 23 = .ok (.iload_n 2, 1) := by decide +kernel
theorem dX5_takes_24 : decode cX5_takes 24 = .ok (.iadd, 1) := by decide +kernel
theorem dX5_takes_25 : decode cX5_takes 25 = .ok (.iaload, 1) := by decide +kernel
theorem dX5_takes_26 : decode cX5_takes 26 = .ok (.iastore, 1) := by decide +kernel
theorem dX5_takes_27 : decode cX5_takes 27 = .ok (.iinc 2 1, 3) := by decide +kernel
theorem dX5_takes_30 : decode cX5_takes 30 = .ok (.goto (-28), 3) := by decide +kernel
theorem dX5_takes_33 : decode cX5_takes 33 = .ok (.aload_n 0, 1) := by decide +kernel
theorem dX5_takes_34 : decode cX5_takes 34 = .ok (.iconst 0, 1) := by decide +kernel
theorem dX5_takes_35 : decode cX5_takes 35 = .ok (.putfield 77, 3) := by decide +kernel
theorem dX5_takes_38 : decode cX5_takes 38 = .ok (.return_, 1) := by decide +kernel
theorem dX5_leavesState_0 : decode cX5_leavesState 0 = .ok (.aload_n 0, 1) := by decide +kernel
theorem dX5_leavesState_1 : decode cX5_leavesState 1 = .ok (.getfield 81, 3) := by decide +kernel
theorem dX5_leavesState_4 : decode cX5_leavesState 4 = .ok (.iconst 5, 1) := by decide +kernel
theorem dX5_leavesState_5 : decode cX5_leavesState 5 = .ok (.if_icmp .ne 44, 3) := by decide +kernel
theorem dX5_leavesState_8 : decode cX5_leavesState 8 = .ok (.iconst 0, 1) := by decide +kernel
theorem dX5_leavesState_9 : decode cX5_leavesState 9 = .ok (.istore_n 1, 1) := by decide +kernel
theorem dX5_leavesState_10 : decode cX5_leavesState 10 = .ok (.iload_n 1, 1) := by decide +kernel
theorem dX5_leavesState_11 : decode cX5_leavesState 11 = .ok (.sipush 3704, 3) := by decide +kernel
theorem dX5_leavesState_14 : decode cX5_leavesState 14 = .ok (.if_icmp .ge 25, 3) := by decide +kernel
theorem dX5_leavesState_17 : decode cX5_leavesState 17 = .ok (.aload_n 0, 1) := by decide +kernel
theorem dX5_leavesState_18 : decode cX5_leavesState 18 = .ok (.getfield 16, 3) := by decide +kernel
theorem dX5_leavesState_21 : decode cX5_leavesState 21 = .ok (.iload_n 1, 1) := by decide +kernel
theorem dX5_leavesState_22 : decode cX5_leavesState 22 = .ok (.aload_n 0, 1) := by decide +kernel
theorem dX5_leavesState_23 : decode cX5_leavesState 23 = .ok (.getfield 16, 3) := by decide +kernel
theorem dX5_leavesState_26 : decode cX5_leavesState 26 = .ok (.iload_n 1, 1) := by decide +kernel
theorem dX5_leavesState_27 : decode cX5_leavesState 27 = .ok (.sipush 926, 3) := by decide +kernel
theorem dX5_leavesState_30 : decode cX5_leavesState 30 = .ok (.iadd, 1) := by decide +kernel
theorem dX5_leavesState_31 : decode cX5_leavesState 31 = .ok (.iaload, 1) := by decide +kernel
theorem dX5_leavesState_32 : decode cX5_leavesState 32 = .ok (.iastore, 1) := by decide +kernel
theorem dX5_leavesState_33 : decode cX5_leavesState 33 = .ok (.iinc 1 1, 3) := by decide +kernel
theorem dX5_leavesState_36 : decode cX5_leavesState 36 = .ok (.goto (-26), 3) := by decide +kernel
theorem dX5_leavesState_39 : decode cX5_leavesState 39 = .ok (.aload_n 0, 1) := by decide +kernel
theorem dX5_leavesState_40 : decode cX5_leavesState 40 = .ok (.dup, 1) := by decide +kernel
theorem dX5_leavesState_41 : decode cX5_leavesState 41 = .ok (.getfield 81, 3) := by decide +kernel
theorem dX5_leavesState_44 : decode cX5_leavesState 44 = .ok (.iconst 1, 1) := by decide +kernel
theorem dX5_leavesState_45 : decode cX5_leavesState 45 = .ok (.isub, 1) := by decide +kernel
theorem dX5_leavesState_46 : decode cX5_leavesState 46 = .ok (.putfield 81, 3) := by decide +kernel
theorem dX5_leavesState_49 : decode cX5_leavesState 49 = .ok (.iconst 0, 1) := by decide +kernel
theorem dX5_leavesState_50 : decode cX5_leavesState 50 = .ok (.istore_n 1, 1) := by decide +kernel
theorem dX5_leavesState_51 : decode cX5_leavesState 51 = .ok (.iload_n 1, 1) := by decide +kernel
theorem dX5_leavesState_52 : decode cX5_leavesState 52 = .ok (.sipush 926, 3) := by decide +kernel
theorem dX5_leavesState_55 : decode cX5_leavesState 55 = .ok (.if_icmp .ge 34, 3) := by decide +kernel
theorem dX5_leavesState_58 : decode cX5_leavesState 58 = .ok (.aload_n 0, 1) := by decide +kernel
theorem dX5_leavesState_59 : decode cX5_leavesState 59 = .ok (.getfield 16, 3) := by decide +kernel
theorem dX5_leavesState_62 : decode cX5_leavesState 62 = .ok (.sipush 926, 3) := by decide +kernel
theorem dX5_leavesState_65 : decode cX5_leavesState 65 = .ok (.aload_n 0, 1) := by decide +kernel
theorem dX5_leavesState_66 : decode cX5_leavesState 66 = .ok (.getfield 81, 3) := by decide +kernel
theorem dX5_leavesState_69 : decode cX5_leavesState 69 = .ok (.imul, 1) := by decide +kernel
theorem dX5_leavesState_70 : decode cX5_leavesState 70 = .ok (.iload_n 1, 1) := by decide +kernel
theorem dX5_leavesState_71 : decode cX5_leavesState 71 = .ok (.iadd, 1) := by decide +kernel
theorem dX5_leavesState_72 : decode cX5_leavesState 72 = .ok (.aload_n 0, 1) := by decide +kernel
theorem dX5_leavesState_73 : decode cX5_leavesState 73 = .ok (.getfield 16, 3) := by decide +kernel
theorem dX5_leavesState_76 : decode cX5_leavesState 76 = .ok (.sipush 4630, 3) := by decide +kernel
theorem dX5_leavesState_79 : decode cX5_leavesState 79 = .ok (.iload_n 1, 1) := by decide +kernel
theorem dX5_leavesState_80 : decode cX5_leavesState 80 = .ok (.iadd, 1) := by decide +kernel
theorem dX5_leavesState_81 : decode cX5_leavesState 81 = .ok (.iaload, 1) := by decide +kernel
theorem dX5_leavesState_82 : decode cX5_leavesState 82 = .ok (.iastore, 1) := by decide +kernel
theorem dX5_leavesState_83 : decode cX5_leavesState 83 = .ok (.iinc 1 1, 3) := by decide +kernel
theorem dX5_leavesState_86 : decode cX5_leavesState 86 = .ok (.goto (-35), 3) := by decide +kernel
theorem dX5_leavesState_89 : decode cX5_leavesState 89 = .ok (.aload_n 0, 1) := by decide +kernel
theorem dX5_leavesState_90 : decode cX5_leavesState 90 = .ok (.dup, 1) := by decide +kernel
theorem dX5_leavesState_91 : decode cX5_leavesState 91 = .ok (.getfield 81, 3) := by decide +kernel
theorem dX5_leavesState_94 : decode cX5_leavesState 94 = .ok (.iconst 1, 1) := by decide +kernel
theorem dX5_leavesState_95 : decode cX5_leavesState 95 = .ok (.iadd, 1) := by decide +kernel
theorem dX5_leavesState_96 : decode cX5_leavesState 96 = .ok (.putfield 81, 3) := by decide +kernel
theorem dX5_leavesState_99 : decode cX5_leavesState 99 = .ok (.aload_n 0, 1) := by decide +kernel
theorem dX5_leavesState_100 : decode cX5_leavesState 100 = .ok (.iconst 0, 1) := by decide +kernel
theorem dX5_leavesState_101 : decode cX5_leavesState 101 = .ok (.putfield 77, 3) := by decide +kernel
theorem dX5_leavesState_104 : decode cX5_leavesState 104 = .ok (.return_, 1) := by decide +kernel
theorem dX5_back_0 : decode cX5_back 0 = .ok (.aload_n 0, 1) := by decide +kernel
theorem dX5_back_1 : decode cX5_back 1 = .ok (.getfield 81, 3) := by decide +kernel
theorem dX5_back_4 : decode cX5_back 4 = .ok (.ifCond .ne 8, 3) := by decide +kernel
theorem dX5_back_7 : decode cX5_back 7 = .ok (.aload_n 0, 1) := by decide +kernel
theorem dX5_back_8 : decode cX5_back 8 = .ok (.invokevirtual 71, 3) := by decide +kernel
theorem dX5_back_11 : decode cX5_back 11 = .ok (.ireturn, 1) := by decide +kernel
theorem dX5_back_12 : decode cX5_back 12 = .ok (.aload_n 0, 1) := by decide +kernel
theorem dX5_back_13 : decode cX5_back 13 = .ok (.dup, 1) := by decide +kernel
theorem dX5_back_14 : decode cX5_back 14 = .ok (.getfield 81, 3) := by decide +kernel
theorem dX5_back_17 : decode cX5_back 17 = .ok (.iconst 1, 1) := by decide +kernel
theorem dX5_back_18 : decode cX5_back 18 = .ok (.isub, 1) := by decide +kernel
theorem dX5_back_19 : decode cX5_back 19 = .ok (.putfield 81, 3) := by decide +kernel
theorem dX5_back_22 : decode cX5_back 22 = .ok (.aload_n 0, 1) := by decide +kernel
theorem dX5_back_23 : decode cX5_back 23 = .ok (.aload_n 0, 1) := by decide +kernel
theorem dX5_back_24 : decode cX5_back 24 = .ok (.getfield 81, 3) := by decide +kernel
theorem dX5_back_27 : decode cX5_back 27 = .ok (.invokevirtual 85, 3) := by decide +kernel
theorem dX5_back_30 : decode cX5_back 30 = .ok (.aload_n 0, 1) := by decide +kernel
theorem dX5_back_31 : decode cX5_back 31 = .ok (.getfield 81, 3) := by decide +kernel
theorem dX5_back_34 : decode cX5_back 34 = .ok (.ireturn, 1) := by decide +kernel
theorem dX5_isProc_0 : decode cX5_isProc 0 = .ok (.iload_n 1, 1) := by decide +kernel
theorem dX5_isProc_1 : decode cX5_isProc 1 = .ok (.iconst 0, 1) := by decide +kernel
theorem dX5_isProc_2 : decode cX5_isProc 2 = .ok (.aload_n 0, 1) := by decide +kernel
theorem dX5_isProc_3 : decode cX5_isProc 3 = .ok (.getfield 13, 3) := by decide +kernel
theorem dX5_isProc_6 : decode cX5_isProc 6 = .ok (.iconst 0, 1) := by decide +kernel
theorem dX5_isProc_7 : decode cX5_isProc 7 = .ok (.iaload, 1) := by decide +kernel
theorem dX5_isProc_8 : decode cX5_isProc 8 = .ok (.iconst 1, 1) := by decide +kernel
theorem dX5_isProc_9 : decode cX5_isProc 9 = .ok (.isub, 1) := by decide +kernel
theorem dX5_isProc_10 : decode cX5_isProc 10 = .ok (.invokestatic 89, 3) := by decide +kernel
theorem dX5_isProc_13 : decode cX5_isProc 13 = .ok (.ireturn, 1) := by decide +kernel
theorem dX5_isNode_0 : decode cX5_isNode 0 = .ok (.iload_n 1, 1) := by decide +kernel
theorem dX5_isNode_1 : decode cX5_isNode 1 = .ok (.iconst 0, 1) := by decide +kernel
theorem dX5_isNode_2 : decode cX5_isNode 2 = .ok (.aload_n 0, 1) := by decide +kernel
theorem dX5_isNode_3 : decode cX5_isNode 3 = .ok (.getfield 13, 3) := by decide +kernel
theorem dX5_isNode_6 : decode cX5_isNode 6 = .ok (.iconst 1, 1) := by decide +kernel
theorem dX5_isNode_7 : decode cX5_isNode 7 = .ok (.iaload, 1) := by decide +kernel
theorem dX5_isNode_8 : decode cX5_isNode 8 = .ok (.iconst 1, 1) := by decide +kernel
theorem dX5_isNode_9 : decode cX5_isNode 9 = .ok (.isub, 1) := by decide +kernel
theorem dX5_isNode_10 : decode cX5_isNode 10 = .ok (.invokestatic 89, 3) := by decide +kernel
theorem dX5_isNode_13 : decode cX5_isNode 13 = .ok (.ireturn, 1) := by decide +kernel
theorem dX5_isEdge_0 : decode cX5_isEdge 0 = .ok (.iload_n 1, 1) := by decide +kernel
theorem dX5_isEdge_1 : decode cX5_isEdge 1 = .ok (.iconst 0, 1) := by decide +kernel
theorem dX5_isEdge_2 : decode cX5_isEdge 2 = .ok (.aload_n 0, 1) := by decide +kernel
theorem dX5_isEdge_3 : decode cX5_isEdge 3 = .ok (.getfield 13, 3) := by decide +kernel
theorem dX5_isEdge_6 : decode cX5_isEdge 6 = .ok (.iconst 2, 1) := by decide +kernel
theorem dX5_isEdge_7 : decode cX5_isEdge 7 = .ok (.iaload, 1) := by decide +kernel
theorem dX5_isEdge_8 : decode cX5_isEdge 8 = .ok (.iconst 1, 1) := by decide +kernel
theorem dX5_isEdge_9 : decode cX5_isEdge 9 = .ok (.isub, 1) := by decide +kernel
theorem dX5_isEdge_10 : decode cX5_isEdge 10 = .ok (.invokestatic 89, 3) := by decide +kernel
theorem dX5_isEdge_13 : decode cX5_isEdge 13 = .ok (.ireturn, 1) := by decide +kernel
theorem dX5_procOf_0 : decode cX5_procOf 0 = .ok (.aload_n 0, 1) := by decide +kernel
theorem dX5_procOf_1 : decode cX5_procOf 1 = .ok (.getfield 13, 3) := by decide +kernel
theorem dX5_procOf_4 : decode cX5_procOf 4 = .ok (.bipush 14, 2) := by decide +kernel
theorem dX5_procOf_6 : decode cX5_procOf 6 = .ok (.iconst 2, 1) := by decide +kernel
theorem dX5_procOf_7 : decode cX5_procOf 7 = .ok (.iload_n 1, 1) := by decide +kernel
theorem dX5_procOf_8 : decode cX5_procOf 8 = .ok (.imul, 1) := by decide +kernel
theorem dX5_procOf_9 : decode cX5_procOf 9 = .ok (.iadd, 1) := by decide +kernel
theorem dX5_procOf_10 : decode cX5_procOf 10 = .ok (.iaload, 1) := by decide +kernel
theorem dX5_procOf_11 : decode cX5_procOf 11 = .ok (.ireturn, 1) := by decide +kernel
theorem dX5_sortOf_0 : decode cX5_sortOf 0 = .ok (.aload_n 0, 1) := by decide +kernel
theorem dX5_sortOf_1 : decode cX5_sortOf 1 = .ok (.getfield 13, 3) := by decide +kernel
theorem dX5_sortOf_4 : decode cX5_sortOf 4 = .ok (.bipush 14, 2) := by decide +kernel
theorem dX5_sortOf_6 : decode cX5_sortOf 6 = .ok (.iconst 2, 1) := by decide +kernel
theorem dX5_sortOf_7 : decode cX5_sortOf 7 = .ok (.iload_n 1, 1) := by decide +kernel
theorem dX5_sortOf_8 : decode cX5_sortOf 8 = .ok (.imul, 1) := by decide +kernel
theorem dX5_sortOf_9 : decode cX5_sortOf 9 = .ok (.iadd, 1) := by decide +kernel
theorem dX5_sortOf_10 : decode cX5_sortOf 10 = .ok (.iconst 1, 1) := by decide +kernel
theorem dX5_sortOf_11 : decode cX5_sortOf 11 = .ok (.iadd, 1) := by decide +kernel
theorem dX5_sortOf_12 : decode cX5_sortOf 12 = .ok (.iaload, 1) := by decide +kernel
theorem dX5_sortOf_13 : decode cX5_sortOf 13 = .ok (.ireturn, 1) := by decide +kernel
theorem dX5_edgeOf_0 : decode cX5_edgeOf 0 = .ok (.aload_n 0, 1) := by decide +kernel
theorem dX5_edgeOf_1 : decode cX5_edgeOf 1 = .ok (.getfield 13, 3) := by decide +kernel
theorem dX5_edgeOf_4 : decode cX5_edgeOf 4 = .ok (.bipush 62, 2) := by decide +kernel
theorem dX5_edgeOf_6 : decode cX5_edgeOf 6 = .ok (.bipush 27, 2) := by decide +kernel
theorem dX5_edgeOf_8 : decode cX5_edgeOf 8 = .ok (.iload_n 1, 1) := by decide +kernel
theorem dX5_edgeOf_9 : decode cX5_edgeOf 9 = .ok (.imul, 1) := by decide +kernel
theorem dX5_edgeOf_10 : decode cX5_edgeOf 10 = .ok (.iadd, 1) := by decide +kernel
theorem dX5_edgeOf_11 : decode cX5_edgeOf 11 = .ok (.iload_n 2, 1) := by decide +kernel
theorem dX5_edgeOf_12 : decode cX5_edgeOf 12 = .ok (.iadd, 1) := by decide +kernel
theorem dX5_edgeOf_13 : decode cX5_edgeOf 13 = .ok (.iaload, 1) := by decide +kernel
theorem dX5_edgeOf_14 : decode cX5_edgeOf 14 = .ok (.ireturn, 1) := by decide +kernel
theorem dX5_flowOf_0 : decode cX5_flowOf 0 = .ok (.aload_n 0, 1) := by decide +kernel
theorem dX5_flowOf_1 : decode cX5_flowOf 1 = .ok (.getfield 13, 3) := by decide +kernel
theorem dX5_flowOf_4 : decode cX5_flowOf 4 = .ok (.bipush 62, 2) := by decide +kernel
theorem dX5_flowOf_6 : decode cX5_flowOf 6 = .ok (.bipush 27, 2) := by decide +kernel
theorem dX5_flowOf_8 : decode cX5_flowOf 8 = .ok (.iload_n 1, 1) := by decide +kernel
theorem dX5_flowOf_9 : decode cX5_flowOf 9 = .ok (.imul, 1) := by decide +kernel
theorem dX5_flowOf_10 : decode cX5_flowOf 10 = .ok (.iadd, 1) := by decide +kernel
theorem dX5_flowOf_11 : decode cX5_flowOf 11 = .ok (.iconst 3, 1) := by decide +kernel
theorem dX5_flowOf_12 : decode cX5_flowOf 12 = .ok (.iadd, 1) := by decide +kernel
theorem dX5_flowOf_13 : decode cX5_flowOf 13 = .ok (.bipush 8, 2) := by decide +kernel
theorem dX5_flowOf_15 : decode cX5_flowOf 15 = .ok (.iload_n 2, 1) := by decide +kernel
theorem dX5_flowOf_16 : decode cX5_flowOf 16 = .ok (.imul, 1) := by decide +kernel
theorem dX5_flowOf_17 : decode cX5_flowOf 17 = .ok (.iadd, 1) := by decide +kernel
theorem dX5_flowOf_18 : decode cX5_flowOf 18 = .ok (.iload_n 3, 1) := by decide +kernel
theorem dX5_flowOf_19 : decode cX5_flowOf 19 = .ok (.iadd, 1) := by decide +kernel
theorem dX5_flowOf_20 : decode cX5_flowOf 20 = .ok (.iaload, 1) := by decide +kernel
theorem dX5_flowOf_21 : decode cX5_flowOf 21 = .ok (.ireturn, 1) := by decide +kernel
theorem dX5_addNode_0 : decode cX5_addNode 0 = .ok (.aload_n 0, 1) := by decide +kernel
theorem dX5_addNode_1 : decode cX5_addNode 1 = .ok (.getfield 13, 3) := by decide +kernel
theorem dX5_addNode_4 : decode cX5_addNode 4 = .ok (.iconst 1, 1) := by decide +kernel
theorem dX5_addNode_5 : decode cX5_addNode 5 = .ok (.iaload, 1) := by decide +kernel
theorem dX5_addNode_6 : decode cX5_addNode 6 = .ok (.istore_n 3, 1) := by decide +kernel
theorem dX5_addNode_7 : decode cX5_addNode 7 = .ok (.aload_n 0, 1) := by decide +kernel
theorem dX5_addNode_8 : decode cX5_addNode 8 = .ok (.getfield 13, 3) := by decide +kernel
theorem dX5_addNode_11 : decode cX5_addNode 11 = .ok (.bipush 14, 2) := by decide +kernel
theorem dX5_addNode_13 : decode cX5_addNode 13 = .ok (.iconst 2, 1) := by decide +kernel
theorem dX5_addNode_14 : decode cX5_addNode 14 = .ok (.iload_n 3, 1) := by decide +kernel
theorem dX5_addNode_15 : decode cX5_addNode 15 = .ok (.imul, 1) := by decide +kernel
theorem dX5_addNode_16 : decode cX5_addNode 16 = .ok (.iadd, 1) := by decide +kernel
theorem dX5_addNode_17 : decode cX5_addNode 17 = .ok (.iload_n 1, 1) := by decide +kernel
theorem dX5_addNode_18 : decode cX5_addNode 18 = .ok (.iastore, 1) := by decide +kernel
theorem dX5_addNode_19 : decode cX5_addNode 19 = .ok (.aload_n 0, 1) := by decide +kernel
theorem dX5_addNode_20 : decode cX5_addNode 20 = .ok (.getfield 13, 3) := by decide +kernel
theorem dX5_addNode_23 : decode cX5_addNode 23 = .ok (.bipush 14, 2) := by decide +kernel
theorem dX5_addNode_25 : decode cX5_addNode 25 = .ok (.iconst 2, 1) := by decide +kernel
theorem dX5_addNode_26 : decode cX5_addNode 26 = .ok (.iload_n 3, 1) := by decide +kernel
theorem dX5_addNode_27 : decode cX5_addNode 27 = .ok (.imul, 1) := by decide +kernel
theorem dX5_addNode_28 : decode cX5_addNode 28 = .ok (.iadd, 1) := by decide +kernel
theorem dX5_addNode_29 : decode cX5_addNode 29 = .ok (.iconst 1, 1) := by decide +kernel
theorem dX5_addNode_30 : decode cX5_addNode 30 = .ok (.iadd, 1) := by decide +kernel
theorem dX5_addNode_31 : decode cX5_addNode 31 = .ok (.iload_n 2, 1) := by decide +kernel
theorem dX5_addNode_32 : decode cX5_addNode 32 = .ok (.iastore, 1) := by decide +kernel
theorem dX5_addNode_33 : decode cX5_addNode 33 = .ok (.aload_n 0, 1) := by decide +kernel
theorem dX5_addNode_34 : decode cX5_addNode 34 = .ok (.getfield 13, 3) := by decide +kernel
theorem dX5_addNode_37 : decode cX5_addNode 37 = .ok (.iconst 1, 1) := by decide +kernel
theorem dX5_addNode_38 : decode cX5_addNode 38 = .ok (.dup2, 1) := by decide +kernel
theorem dX5_addNode_39 : decode cX5_addNode 39 = .ok (.iaload, 1) := by decide +kernel
theorem dX5_addNode_40 : decode cX5_addNode 40 = .ok (.iconst 1, 1) := by decide +kernel
theorem dX5_addNode_41 : decode cX5_addNode 41 = .ok (.iadd, 1) := by decide +kernel
theorem dX5_addNode_42 : decode cX5_addNode 42 = .ok (.iastore, 1) := by decide +kernel
theorem dX5_addNode_43 : decode cX5_addNode 43 = .ok (.iload_n 3, 1) := by decide +kernel
theorem dX5_addNode_44 : decode cX5_addNode 44 = .ok (.ireturn, 1) := by decide +kernel
theorem dX5_addProc_0 : decode cX5_addProc 0 = .ok (.aload_n 0, 1) := by decide +kernel
theorem dX5_addProc_1 : decode cX5_addProc 1 = .ok (.getfield 13, 3) := by decide +kernel
theorem dX5_addProc_4 : decode cX5_addProc 4 = .ok (.iconst 0, 1) := by decide +kernel
theorem dX5_addProc_5 : decode cX5_addProc 5 = .ok (.iaload, 1) := by decide +kernel
theorem dX5_addProc_6 : decode cX5_addProc 6 = .ok (.iconst 5, 1) := by decide +kernel
theorem dX5_addProc_7 : decode cX5_addProc 7 = .ok (.if_icmp .eq 16, 3) := by decide +kernel
theorem dX5_addProc_10 : decode cX5_addProc 10 = .ok (.aload_n 0, 1) := by decide +kernel
theorem dX5_addProc_11 : decode cX5_addProc 11 = .ok (.getfield 13, 3) := by decide +kernel
theorem dX5_addProc_14 : decode cX5_addProc 14 = .ok (.iconst 1, 1) := by decide +kernel
theorem dX5_addProc_15 : decode cX5_addProc 15 = .ok (.iaload, 1) := by decide +kernel
theorem dX5_addProc_16 : decode cX5_addProc 16 = .ok (.iconst 2, 1) := by decide +kernel
theorem dX5_addProc_17 : decode cX5_addProc 17 = .ok (.iadd, 1) := by decide +kernel
theorem dX5_addProc_18 : decode cX5_addProc 18 = .ok (.bipush 24, 2) := by decide +kernel
theorem dX5_addProc_20 : decode cX5_addProc 20 = .ok (.if_icmp .le 6, 3) := by decide +kernel
theorem dX5_addProc_23 : decode cX5_addProc 23 = .ok (.bipush (-4), 2) := by decide +kernel
theorem dX5_addProc_25 : decode cX5_addProc 25 = .ok (.ireturn, 1) := by decide +kernel
theorem dX5_addProc_26 : decode cX5_addProc 26 = .ok (.aload_n 0, 1) := by decide +kernel
theorem dX5_addProc_27 : decode cX5_addProc 27 = .ok (.getfield 13, 3) := by decide +kernel
theorem dX5_addProc_30 : decode cX5_addProc 30 = .ok (.iconst 0, 1) := by decide +kernel
theorem dX5_addProc_31 : decode cX5_addProc 31 = .ok (.iaload, 1) := by decide +kernel
theorem dX5_addProc_32 : decode cX5_addProc 32 = .ok (.istore_n 1, 1) := by decide +kernel
theorem dX5_addProc_33 : decode cX5_addProc 33 = .ok (.aload_n 0, 1) := by decide +kernel
theorem dX5_addProc_34 : decode cX5_addProc 34 = .ok (.getfield 13, 3) := by decide +kernel
theorem dX5_addProc_37 : decode cX5_addProc 37 = .ok (.iconst 4, 1) := by decide +kernel
theorem dX5_addProc_38 : decode cX5_addProc 38 = .ok (.iconst 2, 1) := by decide +kernel
theorem dX5_addProc_39 : decode cX5_addProc 39 = .ok (.iload_n 1, 1) := by decide +kernel
theorem dX5_addProc_40 : decode cX5_addProc 40 = .ok (.imul, 1) := by decide +kernel
theorem dX5_addProc_41 : decode cX5_addProc 41 = .ok (.iadd, 1) := by decide +kernel
theorem dX5_addProc_42 : decode cX5_addProc 42 = .ok (.aload_n 0, 1) := by decide +kernel
theorem dX5_addProc_43 : decode cX5_addProc 43 = .ok (.iload_n 1, 1) := by decide +kernel
theorem dX5_addProc_44 : decode cX5_addProc 44 = .ok (.iconst 0, 1) := by decide +kernel
theorem dX5_addProc_45 : decode cX5_addProc 45 = .ok (.invokevirtual 93, 3) := by decide +kernel
theorem dX5_addProc_48 : decode cX5_addProc 48 = .ok (.iastore, 1) := by decide +kernel
theorem dX5_addProc_49 : decode cX5_addProc 49 = .ok (.aload_n 0, 1) := by decide +kernel
theorem dX5_addProc_50 : decode cX5_addProc 50 = .ok (.getfield 13, 3) := by decide +kernel
theorem dX5_addProc_53 : decode cX5_addProc 53 = .ok (.iconst 4, 1) := by decide +kernel
theorem dX5_addProc_54 : decode cX5_addProc 54 = .ok (.iconst 2, 1) := by decide +kernel
theorem dX5_addProc_55 : decode cX5_addProc 55 = .ok (.iload_n 1, 1) := by decide +kernel
theorem dX5_addProc_56 : decode cX5_addProc 56 = .ok (.imul, 1) := by decide +kernel
theorem dX5_addProc_57 : decode cX5_addProc 57 = .ok (.iadd, 1) := by decide +kernel
theorem dX5_addProc_58 : decode cX5_addProc 58 = .ok (.iconst 1, 1) := by decide +kernel
theorem dX5_addProc_59 : decode cX5_addProc 59 = .ok (.iadd, 1) := by decide +kernel
theorem dX5_addProc_60 : decode cX5_addProc 60 = .ok (.aload_n 0, 1) := by decide +kernel
theorem dX5_addProc_61 : decode cX5_addProc 61 = .ok (.iload_n 1, 1) := by decide +kernel
theorem dX5_addProc_62 : decode cX5_addProc 62 = .ok (.iconst 1, 1) := by decide +kernel
theorem dX5_addProc_63 : decode cX5_addProc 63 = .ok (.invokevirtual 93, 3) := by decide +kernel
theorem dX5_addProc_66 : decode cX5_addProc 66 = .ok (.iastore, 1) := by decide +kernel
theorem dX5_addProc_67 : decode cX5_addProc 67 = .ok (.aload_n 0, 1) := by decide +kernel
theorem dX5_addProc_68 : decode cX5_addProc 68 = .ok (.getfield 13, 3) := by decide +kernel
theorem dX5_addProc_71 : decode cX5_addProc 71 = .ok (.iconst 0, 1) := by decide +kernel
theorem dX5_addProc_72 : decode cX5_addProc 72 = .ok (.dup2, 1) := by decide +kernel
theorem dX5_addProc_73 : decode cX5_addProc 73 = .ok (.iaload, 1) := by decide +kernel
theorem dX5_addProc_74 : decode cX5_addProc 74 = .ok (.iconst 1, 1) := by decide +kernel
theorem dX5_addProc_75 : decode cX5_addProc 75 = .ok (.iadd, 1) := by decide +kernel
theorem dX5_addProc_76 : decode cX5_addProc 76 = .ok (.iastore, 1) := by decide +kernel
theorem dX5_addProc_77 : decode cX5_addProc 77 = .ok (.iload_n 1, 1) := by decide +kernel
theorem dX5_addProc_78 : decode cX5_addProc 78 = .ok (.ireturn, 1) := by decide +kernel
theorem dX5_addAny_0 : decode cX5_addAny 0 = .ok (.aload_n 0, 1) := by decide +kernel
theorem dX5_addAny_1 : decode cX5_addAny 1 = .ok (.iload_n 1, 1) := by decide +kernel
theorem dX5_addAny_2 : decode cX5_addAny 2 = .ok (.invokevirtual 97, 3) := by decide +kernel
theorem dX5_addAny_5 : decode cX5_addAny 5 = .ok (.ifCond .ne 8, 3) := by decide +kernel
theorem dX5_addAny_8 : decode cX5_addAny 8 = .ok (.bipush (-2), 2) := by decide +kernel
theorem dX5_addAny_10 : decode cX5_addAny 10 = .ok (.goto 25, 3) := by decide +kernel
theorem dX5_addAny_13 : decode cX5_addAny 13 = .ok (.aload_n 0, 1) := by decide +kernel
theorem dX5_addAny_14 : decode cX5_addAny 14 = .ok (.getfield 13, 3) := by decide +kernel
theorem dX5_addAny_17 : decode cX5_addAny 17 = .ok (.iconst 1, 1) := by decide +kernel
theorem dX5_addAny_18 : decode cX5_addAny 18 = .ok (.iaload, 1) := by decide +kernel
theorem dX5_addAny_19 : decode cX5_addAny 19 = .ok (.bipush 24, 2) := by decide +kernel
theorem dX5_addAny_21 : decode cX5_addAny 21 = .ok (.if_icmp .ne 8, 3) := by decide +kernel
theorem dX5_addAny_24 : decode cX5_addAny 24 = .ok (.bipush (-4), 2) := by decide +kernel
theorem dX5_addAny_26 : decode cX5_addAny 26 = .ok (.goto 9, 3) := by decide +kernel
theorem dX5_addAny_29 : decode cX5_addAny 29 = .ok (.aload_n 0, 1) := by decide +kernel
theorem dX5_addAny_30 : decode cX5_addAny 30 = .ok (.iload_n 1, 1) := by decide +kernel
theorem dX5_addAny_31 : decode cX5_addAny 31 = .ok (.iconst 2, 1) := by decide +kernel
theorem dX5_addAny_32 : decode cX5_addAny 32 = .ok (.invokevirtual 93, 3) := by decide +kernel
theorem dX5_addAny_35 : decode cX5_addAny 35 = .ok (.ireturn, 1) := by decide +kernel
theorem dX5_addEdge_0 : decode cX5_addEdge 0 = .ok (.aload_n 0, 1) := by decide +kernel
theorem dX5_addEdge_1 : decode cX5_addEdge 1 = .ok (.iload_n 1, 1) := by decide +kernel
theorem dX5_addEdge_2 : decode cX5_addEdge 2 = .ok (.invokevirtual 101, 3) := by decide +kernel
theorem dX5_addEdge_5 : decode cX5_addEdge 5 = .ok (.ifCond .eq 24, 3) := by decide +kernel
theorem dX5_addEdge_8 : decode cX5_addEdge 8 = .ok (.aload_n 0, 1) := by decide +kernel
theorem dX5_addEdge_9 : decode cX5_addEdge 9 = .ok (.iload_n 2, 1) := by decide +kernel
theorem dX5_addEdge_10 : decode cX5_addEdge 10 = .ok (.invokevirtual 101, 3) := by decide +kernel
theorem dX5_addEdge_13 : decode cX5_addEdge 13 = .ok (.ifCond .eq 16, 3) := by decide +kernel
theorem dX5_addEdge_16 : decode cX5_addEdge 16 = .ok (.iload_n 3, 1) := by decide +kernel
theorem dX5_addEdge_17 : decode cX5_addEdge 17 = .ok (.iconst (-1), 1) := by decide +kernel
theorem dX5_addEdge_18 : decode cX5_addEdge 18 = .ok (.if_icmp .eq 14, 3) := by decide +kernel
theorem dX5_addEdge_21 : decode cX5_addEdge 21 = .ok (.aload_n 0, 1) := by decide +kernel
theorem dX5_addEdge_22 : decode cX5_addEdge 22 = .ok (.iload_n 3, 1) := by decide +kernel
theorem dX5_addEdge_23 : decode cX5_addEdge 23 = .ok (.invokevirtual 97, 3) := by decide +kernel
theorem dX5_addEdge_26 : decode cX5_addEdge 26 = .ok (.ifCond .ne 6, 3) := by decide +kernel
theorem dX5_addEdge_29 : decode cX5_addEdge 29 = .ok (.bipush (-2), 2) := by decide +kernel
theorem dX5_addEdge_31 : decode cX5_addEdge 31 = .ok (.ireturn, 1) := by decide +kernel
theorem dX5_addEdge_32 : decode cX5_addEdge 32 = .ok (.aload_n 0, 1) := by decide +kernel
theorem dX5_addEdge_33 : decode cX5_addEdge 33 = .ok (.iload_n 1, 1) := by decide +kernel
theorem dX5_addEdge_34 : decode cX5_addEdge 34 = .ok (.invokevirtual 104, 3) := by decide +kernel
theorem dX5_addEdge_37 : decode cX5_addEdge 37 = .ok (.aload_n 0, 1) := by decide +kernel
theorem dX5_addEdge_38 : decode cX5_addEdge 38 = .ok (.iload_n 2, 1) := by decide +kernel
theorem dX5_addEdge_39 : decode cX5_addEdge 39 = .ok (.invokevirtual 104, 3) := by decide +kernel
theorem dX5_addEdge_42 : decode cX5_addEdge 42 = .ok (.if_icmp .ne 20, 3) := by decide +kernel
theorem dX5_addEdge_45 : decode cX5_addEdge 45 = .ok (.aload_n 0, 1) := by decide +kernel
theorem dX5_addEdge_46 : decode cX5_addEdge 46 = .ok (.iload_n 1, 1) := by decide +kernel
theorem dX5_addEdge_47 : decode cX5_addEdge 47 = .ok (.invokevirtual 108, 3) := by decide +kernel
theorem dX5_addEdge_50 : decode cX5_addEdge 50 = .ok (.iconst 1, 1) := by decide +kernel
theorem dX5_addEdge_51 : decode cX5_addEdge 51 = .ok (.if_icmp .eq 11, 3) := by decide +kernel
theorem dX5_addEdge_54 : decode cX5_addEdge 54 = .ok (.aload_n 0, 1) := by decide +kernel
theorem dX5_addEdge_55 : decode cX5_addEdge 55 = .ok (.iload_n 2, 1) := by decide +kernel
theorem dX5_addEdge_56 : decode cX5_addEdge 56 = .ok (.invokevirtual 108, 3) := by decide +kernel
theorem dX5_addEdge_59 : decode cX5_addEdge 59 = .ok (.ifCond .ne 6, 3) := by decide +kernel
theorem dX5_addEdge_62 : decode cX5_addEdge 62 = .ok (.bipush (-2), 2) := by decide +kernel
theorem dX5_addEdge_64 : decode cX5_addEdge 64 = .ok (.ireturn, 1) := by decide +kernel
theorem dX5_addEdge_65 : decode cX5_addEdge 65 = .ok (.aload_n 0, 1) := by decide +kernel
theorem dX5_addEdge_66 : decode cX5_addEdge 66 = .ok (.getfield 13, 3) := by decide +kernel
theorem dX5_addEdge_69 : decode cX5_addEdge 69 = .ok (.iconst 2, 1) := by decide +kernel
theorem dX5_addEdge_70 : decode cX5_addEdge 70 = .ok (.iaload, 1) := by decide +kernel
theorem dX5_addEdge_71 : decode cX5_addEdge 71 = .ok (.bipush 32, 2) := by decide +kernel
theorem dX5_addEdge_73 : decode cX5_addEdge 73 = .ok (.if_icmp .ne 6, 3) := by decide +kernel
theorem dX5_addEdge_76 : decode cX5_addEdge 76 = .ok (.bipush (-4), 2) := by decide +kernel
theorem dX5_addEdge_78 : decode cX5_addEdge 78 = .ok (.ireturn, 1) := by decide +kernel
theorem dX5_addEdge_79 : decode cX5_addEdge 79 = .ok (.aload_n 0, 1) := by decide +kernel
theorem dX5_addEdge_80 : decode cX5_addEdge 80 = .ok (.getfield 13, 3) := by decide +kernel
theorem dX5_addEdge_83 : decode cX5_addEdge 83 = .ok (.iconst 2, 1) := by decide +kernel
theorem dX5_addEdge_84 : decode cX5_addEdge 84 = .ok (.iaload, 1) := by decide +kernel
theorem dX5_addEdge_85 : decode cX5_addEdge 85 = .ok (.istore 4, 2) := by decide +kernel
theorem dX5_addEdge_87 : decode cX5_addEdge 87 = .ok (.aload_n 0, 1) := by decide +kernel
theorem dX5_addEdge_88 : decode cX5_addEdge 88 = .ok (.getfield 13, 3) := by decide +kernel
theorem dX5_addEdge_91 : decode cX5_addEdge 91 = .ok (.bipush 62, 2) := by decide +kernel
theorem dX5_addEdge_93 : decode cX5_addEdge 93 = .ok (.bipush 27, 2) := by decide +kernel
theorem dX5_addEdge_95 : decode cX5_addEdge 95 = .ok (.iload 4, 2) := by decide +kernel
theorem dX5_addEdge_97 : decode cX5_addEdge 97 = .ok (.imul, 1) := by decide +kernel
theorem dX5_addEdge_98 : decode cX5_addEdge 98 = .ok (.iadd, 1) := by decide +kernel
theorem dX5_addEdge_99 : decode cX5_addEdge 99 = .ok (.iload_n 1, 1) := by decide +kernel
theorem dX5_addEdge_100 : decode cX5_addEdge 100 = .ok (.iastore, 1) := by decide +kernel
theorem dX5_addEdge_101 : decode cX5_addEdge 101 = .ok (.aload_n 0, 1) := by decide +kernel
theorem dX5_addEdge_102 : decode cX5_addEdge 102 = .ok (.getfield 13, 3) := by decide +kernel
theorem dX5_addEdge_105 : decode cX5_addEdge 105 = .ok (.bipush 62, 2) := by decide +kernel
theorem dX5_addEdge_107 : decode cX5_addEdge 107 = .ok (.bipush 27, 2) := by decide +kernel
theorem dX5_addEdge_109 : decode cX5_addEdge 109 = .ok (.iload 4, 2) := by decide +kernel
theorem dX5_addEdge_111 : decode cX5_addEdge 111 = .ok (.imul, 1) := by decide +kernel
theorem dX5_addEdge_112 : decode cX5_addEdge 112 = .ok (.iadd, 1) := by decide +kernel
theorem dX5_addEdge_113 : decode cX5_addEdge 113 = .ok (.iconst 1, 1) := by decide +kernel
theorem dX5_addEdge_114 : decode cX5_addEdge 114 = .ok (.iadd, 1) := by decide +kernel
theorem dX5_addEdge_115 : decode cX5_addEdge 115 = .ok (.iload_n 2, 1) := by decide +kernel
theorem dX5_addEdge_116 : decode cX5_addEdge 116 = .ok (.iastore, 1) := by decide +kernel
theorem dX5_addEdge_117 : decode cX5_addEdge 117 = .ok (.aload_n 0, 1) := by decide +kernel
theorem dX5_addEdge_118 : decode cX5_addEdge 118 = .ok (.getfield 13, 3) := by decide +kernel
theorem dX5_addEdge_121 : decode cX5_addEdge 121 = .ok (.bipush 62, 2) := by decide +kernel
theorem dX5_addEdge_123 : decode cX5_addEdge 123 = .ok (.bipush 27, 2) := by decide +kernel
theorem dX5_addEdge_125 : decode cX5_addEdge 125 = .ok (.iload 4, 2) := by decide +kernel
theorem dX5_addEdge_127 : decode cX5_addEdge 127 = .ok (.imul, 1) := by decide +kernel
theorem dX5_addEdge_128 : decode cX5_addEdge 128 = .ok (.iadd, 1) := by decide +kernel
theorem dX5_addEdge_129 : decode cX5_addEdge 129 = .ok (.iconst 2, 1) := by decide +kernel
theorem dX5_addEdge_130 : decode cX5_addEdge 130 = .ok (.iadd, 1) := by decide +kernel
theorem dX5_addEdge_131 : decode cX5_addEdge 131 = .ok (.iload_n 3, 1) := by decide +kernel
theorem dX5_addEdge_132 : decode cX5_addEdge 132 = .ok (.iastore, 1) := by decide +kernel
theorem dX5_addEdge_133 : decode cX5_addEdge 133 = .ok (.iconst 0, 1) := by decide +kernel
theorem dX5_addEdge_134 : decode cX5_addEdge 134 = .ok (.istore 5, 2) := by decide +kernel
theorem dX5_addEdge_136 : decode cX5_addEdge 136 = .ok (.iload 5, 2) := by decide +kernel
theorem dX5_addEdge_138 : decode cX5_addEdge 138 = .ok (.bipush 24, 2) := by decide +kernel
theorem dX5_addEdge_140 : decode cX5_addEdge 140 = .ok (.if_icmp .ge 34, 3) := by decide +kernel
theorem dX5_addEdge_143 : decode cX5_addEdge 143 = .ok (.aload_n 0, 1) := by decide +kernel
theorem dX5_addEdge_144 : decode cX5_addEdge 144 = .ok (.getfield 13, 3) := by decide +kernel
theorem dX5_addEdge_147 : decode cX5_addEdge 147 = .ok (.bipush 62, 2) := by decide +kernel
theorem dX5_addEdge_149 : decode cX5_addEdge 149 = .ok (.bipush 27, 2) := by decide +kernel
theorem dX5_addEdge_151 : decode cX5_addEdge 151 = .ok (.iload 4, 2) := by decide +kernel
theorem dX5_addEdge_153 : decode cX5_addEdge 153 = .ok (.imul, 1) := by decide +kernel
theorem dX5_addEdge_154 : decode cX5_addEdge 154 = .ok (.iadd, 1) := by decide +kernel
theorem dX5_addEdge_155 : decode cX5_addEdge 155 = .ok (.iconst 3, 1) := by decide +kernel
theorem dX5_addEdge_156 : decode cX5_addEdge 156 = .ok (.iadd, 1) := by decide +kernel
theorem dX5_addEdge_157 : decode cX5_addEdge 157 = .ok (.iload 5, 2) := by decide +kernel
theorem dX5_addEdge_159 : decode cX5_addEdge 159 = .ok (.iadd, 1) := by decide +kernel
theorem dX5_addEdge_160 : decode cX5_addEdge 160 = .ok (.iconst 1, 1) := by decide +kernel
theorem dX5_addEdge_161 : decode cX5_addEdge 161 = .ok (.iload 5, 2) := by decide +kernel
theorem dX5_addEdge_163 : decode cX5_addEdge 163 = .ok (.bipush 8, 2) := by decide +kernel
theorem dX5_addEdge_165 : decode cX5_addEdge 165 = .ok (.irem, 1) := by decide +kernel
theorem dX5_addEdge_166 : decode cX5_addEdge 166 = .ok (.ishl, 1) := by decide +kernel
theorem dX5_addEdge_167 : decode cX5_addEdge 167 = .ok (.iastore, 1) := by decide +kernel
theorem dX5_addEdge_168 : decode cX5_addEdge 168 = .ok (.iinc 5 1, 3) := by decide +kernel
theorem dX5_addEdge_171 : decode cX5_addEdge 171 = .ok (.goto (-35), 3) := by decide +kernel
theorem dX5_addEdge_174 : decode cX5_addEdge 174 = .ok (.aload_n 0, 1) := by decide +kernel
theorem dX5_addEdge_175 : decode cX5_addEdge 175 = .ok (.getfield 13, 3) := by decide +kernel
theorem dX5_addEdge_178 : decode cX5_addEdge 178 = .ok (.iconst 2, 1) := by decide +kernel
theorem dX5_addEdge_179 : decode cX5_addEdge 179 = .ok (.dup2, 1) := by decide +kernel
theorem dX5_addEdge_180 : decode cX5_addEdge 180 = .ok (.iaload, 1) := by decide +kernel
theorem dX5_addEdge_181 : decode cX5_addEdge 181 = .ok (.iconst 1, 1) := by decide +kernel
theorem dX5_addEdge_182 : decode cX5_addEdge 182 = .ok (.iadd, 1) := by decide +kernel
theorem dX5_addEdge_183 : decode cX5_addEdge 183 = .ok (.iastore, 1) := by decide +kernel
theorem dX5_addEdge_184 : decode cX5_addEdge 184 = .ok (.iload 4, 2) := by decide +kernel
theorem dX5_addEdge_186 : decode cX5_addEdge 186 = .ok (.ireturn, 1) := by decide +kernel
theorem dX5_addCall_0 : decode cX5_addCall 0 = .ok (.aload_n 0, 1) := by decide +kernel
theorem dX5_addCall_1 : decode cX5_addCall 1 = .ok (.iload_n 2, 1) := by decide +kernel
theorem dX5_addCall_2 : decode cX5_addCall 2 = .ok (.invokevirtual 97, 3) := by decide +kernel
theorem dX5_addCall_5 : decode cX5_addCall 5 = .ok (.ifCond .eq 13, 3) := by decide +kernel
theorem dX5_addCall_8 : decode cX5_addCall 8 = .ok (.aload_n 0, 1) := by decide +kernel
theorem dX5_addCall_9 : decode cX5_addCall 9 = .ok (.iload_n 1, 1) := by decide +kernel
theorem dX5_addCall_10 : decode cX5_addCall 10 = .ok (.iload_n 3, 1) := by decide +kernel
theorem dX5_addCall_11 : decode cX5_addCall 11 = .ok (.iload_n 2, 1) := by decide +kernel
theorem dX5_addCall_12 : decode cX5_addCall 12 = .ok (.invokevirtual 111, 3) := by decide +kernel
theorem dX5_addCall_15 : decode cX5_addCall 15 = .ok (.goto 5, 3) := by decide +kernel
theorem dX5_addCall_18 : decode cX5_addCall 18 = .ok (.bipush (-2), 2) := by decide +kernel
theorem dX5_addCall_20 : decode cX5_addCall 20 = .ok (.ireturn, 1) := by decide +kernel
theorem dX5_isFlow_0 : decode cX5_isFlow 0 = .ok (.aload_n 0, 1) := by decide +kernel
theorem dX5_isFlow_1 : decode cX5_isFlow 1 = .ok (.iload_n 1, 1) := by decide +kernel
theorem dX5_isFlow_2 : decode cX5_isFlow 2 = .ok (.invokevirtual 115, 3) := by decide +kernel
theorem dX5_isFlow_5 : decode cX5_isFlow 5 = .ok (.ifCond .eq 40, 3) := by decide +kernel
theorem dX5_isFlow_8 : decode cX5_isFlow 8 = .ok (.iload_n 2, 1) := by decide +kernel
theorem dX5_isFlow_9 : decode cX5_isFlow 9 = .ok (.iconst 0, 1) := by decide +kernel
theorem dX5_isFlow_10 : decode cX5_isFlow 10 = .ok (.aload_n 0, 1) := by decide +kernel
theorem dX5_isFlow_11 : decode cX5_isFlow 11 = .ok (.iload_n 1, 1) := by decide +kernel
theorem dX5_isFlow_12 : decode cX5_isFlow 12 = .ok (.iconst 2, 1) := by decide +kernel
theorem dX5_isFlow_13 : decode cX5_isFlow 13 = .ok (.invokevirtual 118, 3) := by decide +kernel
theorem dX5_isFlow_16 : decode cX5_isFlow 16 = .ok (.iconst (-1), 1) := by decide +kernel
theorem dX5_isFlow_17 : decode cX5_isFlow 17 = .ok (.if_icmp .ne 7, 3) := by decide +kernel
theorem dX5_isFlow_20 : decode cX5_isFlow 20 = .ok (.iconst 0, 1) := by decide +kernel
theorem dX5_isFlow_21 : decode cX5_isFlow 21 = .ok (.goto 4, 3) := by decide +kernel
theorem dX5_isFlow_24 : decode cX5_isFlow 24 = .ok (.iconst 2, 1) := by decide +kernel
theorem dX5_isFlow_25 : decode cX5_isFlow 25 = .ok (.invokestatic 89, 3) := by decide +kernel
theorem dX5_isFlow_28 : decode cX5_isFlow 28 = .ok (.ifCond .eq 17, 3) := by decide +kernel
theorem dX5_isFlow_31 : decode cX5_isFlow 31 = .ok (.iload_n 3, 1) := by decide +kernel
theorem dX5_isFlow_32 : decode cX5_isFlow 32 = .ok (.iconst 0, 1) := by decide +kernel
theorem dX5_isFlow_33 : decode cX5_isFlow 33 = .ok (.bipush 7, 2) := by decide +kernel
theorem dX5_isFlow_35 : decode cX5_isFlow 35 = .ok (.invokestatic 89, 3) := by decide +kernel
theorem dX5_isFlow_38 : decode cX5_isFlow 38 = .ok (.ifCond .eq 7, 3) := by decide +kernel
theorem dX5_isFlow_41 : decode cX5_isFlow 41 = .ok (.iconst 1, 1) := by decide +kernel
theorem dX5_isFlow_42 : decode cX5_isFlow 42 = .ok (.goto 4, 3) := by decide +kernel
theorem dX5_isFlow_45 : decode cX5_isFlow 45 = .ok (.iconst 0, 1) := by decide +kernel
theorem dX5_isFlow_46 : decode cX5_isFlow 46 = .ok (.ireturn, 1) := by decide +kernel
theorem dX5_setFlow_0 : decode cX5_setFlow 0 = .ok (.aload_n 0, 1) := by decide +kernel
theorem dX5_setFlow_1 : decode cX5_setFlow 1 = .ok (.iload_n 1, 1) := by decide +kernel
theorem dX5_setFlow_2 : decode cX5_setFlow 2 = .ok (.iload_n 2, 1) := by decide +kernel
theorem dX5_setFlow_3 : decode cX5_setFlow 3 = .ok (.iload_n 3, 1) := by decide +kernel
theorem dX5_setFlow_4 : decode cX5_setFlow 4 = .ok (.invokevirtual 121, 3) := by decide +kernel
theorem dX5_setFlow_7 : decode cX5_setFlow 7 = .ok (.ifCond .eq 31, 3) := by decide +kernel
theorem dX5_setFlow_10 : decode cX5_setFlow 10 = .ok (.iload 4, 2) := by decide +kernel
theorem dX5_setFlow_12 : decode cX5_setFlow 12 = .ok (.iconst 0, 1) := by decide +kernel
theorem dX5_setFlow_13 : decode cX5_setFlow 13 = .ok (.sipush 255, 3) := by decide +kernel
theorem dX5_setFlow_16 : decode cX5_setFlow 16 = .ok (.invokestatic 89, 3) := by decide +kernel
theorem dX5_setFlow_19 : decode cX5_setFlow 19 = .ok (.ifCond .eq 19, 3) := by decide +kernel
theorem dX5_setFlow_22 : decode cX5_setFlow 22 = .ok (.iload 4, 2) := by decide +kernel
theorem dX5_setFlow_24 : decode cX5_setFlow 24 = .ok (.iconst 1, 1) := by decide +kernel
theorem dX5_setFlow_25 : decode cX5_setFlow 25 = .ok (.iand, 1) := by decide +kernel
theorem dX5_setFlow_26 : decode cX5_setFlow 26 = .ok (.iload_n 3, 1) := by decide +kernel
theorem dX5_setFlow_27 : decode cX5_setFlow 27 = .ok (.ifCond .ne 7, 3) := by decide +kernel
theorem dX5_setFlow_30 : decode cX5_setFlow 30 = .ok (.iconst 1, 1) := by decide +kernel
theorem dX5_setFlow_31 : decode cX5_setFlow 31 = .ok (.goto 4, 3) := by decide +kernel
theorem dX5_setFlow_34 : decode cX5_setFlow 34 = .ok (.iconst 0, 1) := by decide +kernel
theorem dX5_setFlow_35 : decode cX5_setFlow 35 = .ok (.if_icmp .eq 6, 3) := by decide +kernel
theorem dX5_setFlow_38 : decode cX5_setFlow 38 = .ok (.bipush (-2), 2) := by decide +kernel
theorem dX5_setFlow_40 : decode cX5_setFlow 40 = .ok (.ireturn, 1) := by decide +kernel
theorem dX5_setFlow_41 : decode cX5_setFlow 41 = .ok (.aload_n 0, 1) := by decide +kernel
theorem dX5_setFlow_42 : decode cX5_setFlow 42 = .ok (.iload_n 1, 1) := by decide +kernel
theorem dX5_setFlow_43 : decode cX5_setFlow 43 = .ok (.iload_n 2, 1) := by decide +kernel
theorem dX5_setFlow_44 : decode cX5_setFlow 44 = .ok (.iload_n 3, 1) := by decide +kernel
theorem dX5_setFlow_45 : decode cX5_setFlow 45 = .ok (.invokevirtual 124, 3) := by decide +kernel
theorem dX5_setFlow_48 : decode cX5_setFlow 48 = .ok (.istore 5, 2) := by decide +kernel
theorem dX5_setFlow_50 : decode cX5_setFlow 50 = .ok (.aload_n 0, 1) := by decide +kernel
theorem dX5_setFlow_51 : decode cX5_setFlow 51 = .ok (.getfield 13, 3) := by decide +kernel
theorem dX5_setFlow_54 : decode cX5_setFlow 54 = .ok (.bipush 62, 2) := by decide +kernel
theorem dX5_setFlow_56 : decode cX5_setFlow 56 = .ok (.bipush 27, 2) := by decide +kernel
theorem dX5_setFlow_58 : decode cX5_setFlow 58 = .ok (.iload_n 1, 1) := by decide +kernel
theorem dX5_setFlow_59 : decode cX5_setFlow 59 = .ok (.imul, 1) := by decide +kernel
theorem dX5_setFlow_60 : decode cX5_setFlow 60 = .ok (.iadd, 1) := by decide +kernel
theorem dX5_setFlow_61 : decode cX5_setFlow 61 = .ok (.iconst 3, 1) := by decide +kernel
theorem dX5_setFlow_62 : decode cX5_setFlow 62 = .ok (.iadd, 1) := by decide +kernel
theorem dX5_setFlow_63 : decode cX5_setFlow 63 = .ok (.bipush 8, 2) := by decide +kernel
theorem dX5_setFlow_65 : decode cX5_setFlow 65 = .ok (.iload_n 2, 1) := by decide +kernel
theorem dX5_setFlow_66 : decode cX5_setFlow 66 = .ok (.imul, 1) := by decide +kernel
theorem dX5_setFlow_67 : decode cX5_setFlow 67 = .ok (.iadd, 1) := by decide +kernel
theorem dX5_setFlow_68 : decode cX5_setFlow 68 = .ok (.iload_n 3, 1) := by decide +kernel
theorem dX5_setFlow_69 : decode cX5_setFlow 69 = .ok (.iadd, 1) := by decide +kernel
theorem dX5_setFlow_70 : decode cX5_setFlow 70 = .ok (.iload 4, 2) := by decide +kernel
theorem dX5_setFlow_72 : decode cX5_setFlow 72 = .ok (.iastore, 1) := by decide +kernel
theorem dX5_setFlow_73 : decode cX5_setFlow 73 = .ok (.iload 5, 2) := by decide +kernel
theorem dX5_setFlow_75 : decode cX5_setFlow 75 = .ok (.ireturn, 1) := by decide +kernel
theorem dX5_setStart_0 : decode cX5_setStart 0 = .ok (.iload_n 1, 1) := by decide +kernel
theorem dX5_setStart_1 : decode cX5_setStart 1 = .ok (.iconst 0, 1) := by decide +kernel
theorem dX5_setStart_2 : decode cX5_setStart 2 = .ok (.sipush 255, 3) := by decide +kernel
theorem dX5_setStart_5 : decode cX5_setStart 5 = .ok (.invokestatic 89, 3) := by decide +kernel
theorem dX5_setStart_8 : decode cX5_setStart 8 = .ok (.ifCond .eq 9, 3) := by decide +kernel
theorem dX5_setStart_11 : decode cX5_setStart 11 = .ok (.iload_n 1, 1) := by decide +kernel
theorem dX5_setStart_12 : decode cX5_setStart 12 = .ok (.iconst 1, 1) := by decide +kernel
theorem dX5_setStart_13 : decode cX5_setStart 13 = .ok (.iand, 1) := by decide +kernel
theorem dX5_setStart_14 : decode cX5_setStart 14 = .ok (.ifCond .ne 6, 3) := by decide +kernel
theorem dX5_setStart_17 : decode cX5_setStart 17 = .ok (.bipush (-2), 2) := by decide +kernel
theorem dX5_setStart_19 : decode cX5_setStart 19 = .ok (.ireturn, 1) := by decide +kernel
theorem dX5_setStart_20 : decode cX5_setStart 20 = .ok (.aload_n 0, 1) := by decide +kernel
theorem dX5_setStart_21 : decode cX5_setStart 21 = .ok (.getfield 13, 3) := by decide +kernel
theorem dX5_setStart_24 : decode cX5_setStart 24 = .ok (.iconst 3, 1) := by decide +kernel
theorem dX5_setStart_25 : decode cX5_setStart 25 = .ok (.iaload, 1) := by decide +kernel
theorem dX5_setStart_26 : decode cX5_setStart 26 = .ok (.istore_n 2, 1) := by decide +kernel
theorem dX5_setStart_27 : decode cX5_setStart 27 = .ok (.aload_n 0, 1) := by decide +kernel
theorem dX5_setStart_28 : decode cX5_setStart 28 = .ok (.getfield 13, 3) := by decide +kernel
theorem dX5_setStart_31 : decode cX5_setStart 31 = .ok (.iconst 3, 1) := by decide +kernel
theorem dX5_setStart_32 : decode cX5_setStart 32 = .ok (.iload_n 1, 1) := by decide +kernel
theorem dX5_setStart_33 : decode cX5_setStart 33 = .ok (.iastore, 1) := by decide +kernel
theorem dX5_setStart_34 : decode cX5_setStart 34 = .ok (.iload_n 2, 1) := by decide +kernel
theorem dX5_setStart_35 : decode cX5_setStart 35 = .ok (.ireturn, 1) := by decide +kernel
theorem dX5_cutEdge_0 : decode cX5_cutEdge 0 = .ok (.aload_n 0, 1) := by decide +kernel
theorem dX5_cutEdge_1 : decode cX5_cutEdge 1 = .ok (.iload_n 1, 1) := by decide +kernel
theorem dX5_cutEdge_2 : decode cX5_cutEdge 2 = .ok (.invokevirtual 115, 3) := by decide +kernel
theorem dX5_cutEdge_5 : decode cX5_cutEdge 5 = .ok (.ifCond .ne 6, 3) := by decide +kernel
theorem dX5_cutEdge_8 : decode cX5_cutEdge 8 = .ok (.bipush (-2), 2) := by decide +kernel
theorem dX5_cutEdge_10 : decode cX5_cutEdge 10 = .ok (.ireturn, 1) := by decide +kernel
theorem dX5_cutEdge_11 : decode cX5_cutEdge 11 = .ok (.bipush 62, 2) := by decide +kernel
theorem dX5_cutEdge_13 : decode cX5_cutEdge 13 = .ok (.bipush 27, 2) := by decide +kernel
theorem dX5_cutEdge_15 : decode cX5_cutEdge 15 = .ok (.iload_n 1, 1) := by decide +kernel
theorem dX5_cutEdge_16 : decode cX5_cutEdge 16 = .ok (.imul, 1) := by decide +kernel
theorem dX5_cutEdge_17 : decode cX5_cutEdge 17 = .ok (.iadd, 1) := by decide +kernel
theorem dX5_cutEdge_18 : decode cX5_cutEdge 18 = .ok (.istore_n 2, 1) := by decide +kernel
theorem dX5_cutEdge_19 : decode cX5_cutEdge 19 = .ok (.iload_n 2, 1) := by decide +kernel
theorem dX5_cutEdge_20 : decode cX5_cutEdge 20 = .ok (.sipush 899, 3) := by decide +kernel
theorem dX5_cutEdge_23 : decode cX5_cutEdge 23 = .ok (.if_icmp .ge 24, 3) := by decide +kernel
theorem dX5_cutEdge_26 : decode cX5_cutEdge 26 = .ok (.aload_n 0, 1) := by decide +kernel
theorem dX5_cutEdge_27 : decode cX5_cutEdge 27 = .ok (.getfield 13, 3) := by decide +kernel
theorem dX5_cutEdge_30 : decode cX5_cutEdge 30 = .ok (.iload_n 2, 1) := by decide +kernel
theorem dX5_cutEdge_31 : decode cX5_cutEdge 31 = .ok (.aload_n 0, 1) := by decide +kernel
theorem dX5_cutEdge_32 : decode cX5_cutEdge 32 = .ok (.getfield 13, 3) := by decide +kernel
theorem dX5_cutEdge_35 : decode cX5_cutEdge 35 = .ok (.iload_n 2, 1) := by decide +kernel
theorem dX5_cutEdge_36 : decode cX5_cutEdge 36 = .ok (.bipush 27, 2) := by decide +kernel
theorem dX5_cutEdge_38 : decode cX5_cutEdge 38 = .ok (.iadd, 1) := by decide +kernel
theorem dX5_cutEdge_39 : decode cX5_cutEdge 39 = .ok (.iaload, 1) := by decide +kernel
theorem dX5_cutEdge_40 : decode cX5_cutEdge 40 = .ok (.iastore, 1) := by decide +kernel
theorem dX5_cutEdge_41 : decode cX5_cutEdge 41 = .ok (.iinc 2 1, 3) := by decide +kernel
theorem dX5_cutEdge_44 : decode cX5_cutEdge 44 = .ok (.goto (-25), 3) := by decide +kernel
theorem dX5_cutEdge_47 : decode cX5_cutEdge 47 = .ok (.aload_n 0, 1) := by decide +kernel
theorem dX5_cutEdge_48 : decode cX5_cutEdge 48 = .ok (.getfield 13, 3) := by decide +kernel
theorem dX5_cutEdge_51 : decode cX5_cutEdge 51 = .ok (.iconst 2, 1) := by decide +kernel
theorem dX5_cutEdge_52 : decode cX5_cutEdge 52 = .ok (.dup2, 1) := by decide +kernel
theorem dX5_cutEdge_53 : decode cX5_cutEdge 53 = .ok (.iaload, 1) := by decide +kernel
theorem dX5_cutEdge_54 : decode cX5_cutEdge 54 = .ok (.iconst 1, 1) := by decide +kernel
theorem dX5_cutEdge_55 : decode cX5_cutEdge 55 = .ok (.isub, 1) := by decide +kernel
theorem dX5_cutEdge_56 : decode cX5_cutEdge 56 = .ok (.iastore, 1) := by decide +kernel
theorem dX5_cutEdge_57 : decode cX5_cutEdge 57 = .ok (.aload_n 0, 1) := by decide +kernel
theorem dX5_cutEdge_58 : decode cX5_cutEdge 58 = .ok (.getfield 13, 3) := by decide +kernel
theorem dX5_cutEdge_61 : decode cX5_cutEdge 61 = .ok (.iconst 2, 1) := by decide +kernel
theorem dX5_cutEdge_62 : decode cX5_cutEdge 62 = .ok (.iaload, 1) := by decide +kernel
theorem dX5_cutEdge_63 : decode cX5_cutEdge 63 = .ok (.ireturn, 1) := by decide +kernel
theorem dX5_done_0 : decode cX5_done 0 = .ok (.iload_n 1, 1) := by decide +kernel
theorem dX5_done_1 : decode cX5_done 1 = .ok (.ifCond .ge 9, 3) := by decide +kernel
theorem dX5_done_4 : decode cX5_done 4 = .ok (.aload_n 0, 1) := by decide +kernel
theorem dX5_done_5 : decode cX5_done 5 = .ok (.iload_n 1, 1) := by decide +kernel
theorem dX5_done_6 : decode cX5_done 6 = .ok (.invokevirtual 127, 3) := by decide +kernel
theorem dX5_done_9 : decode cX5_done 9 = .ok (.ireturn, 1) := by decide +kernel
theorem dX5_done_10 : decode cX5_done 10 = .ok (.aload_n 0, 1) := by decide +kernel
theorem dX5_done_11 : decode cX5_done 11 = .ok (.invokevirtual 130, 3) := by decide +kernel
theorem dX5_done_14 : decode cX5_done 14 = .ok (.iload_n 1, 1) := by decide +kernel
theorem dX5_done_15 : decode cX5_done 15 = .ok (.ireturn, 1) := by decide +kernel
theorem dX5_proc_0 : decode cX5_proc 0 = .ok (.aload_n 0, 1) := by decide +kernel
theorem dX5_proc_1 : decode cX5_proc 1 = .ok (.iconst 5, 1) := by decide +kernel
theorem dX5_proc_2 : decode cX5_proc 2 = .ok (.invokevirtual 133, 3) := by decide +kernel
theorem dX5_proc_5 : decode cX5_proc 5 = .ok (.aload_n 0, 1) := by decide +kernel
theorem dX5_proc_6 : decode cX5_proc 6 = .ok (.aload_n 0, 1) := by decide +kernel
theorem dX5_proc_7 : decode cX5_proc 7 = .ok (.invokevirtual 64, 3) := by decide +kernel
theorem dX5_proc_10 : decode cX5_proc 10 = .ok (.invokevirtual 136, 3) := by decide +kernel
theorem dX5_proc_13 : decode cX5_proc 13 = .ok (.ireturn, 1) := by decide +kernel
theorem dX5_node_0 : decode cX5_node 0 = .ok (.aload_n 0, 1) := by decide +kernel
theorem dX5_node_1 : decode cX5_node 1 = .ok (.iconst 5, 1) := by decide +kernel
theorem dX5_node_2 : decode cX5_node 2 = .ok (.invokevirtual 133, 3) := by decide +kernel
theorem dX5_node_5 : decode cX5_node 5 = .ok (.aload_n 0, 1) := by decide +kernel
theorem dX5_node_6 : decode cX5_node 6 = .ok (.aload_n 0, 1) := by decide +kernel
theorem dX5_node_7 : decode cX5_node 7 = .ok (.iload_n 1, 1) := by decide +kernel
theorem dX5_node_8 : decode cX5_node 8 = .ok (.invokevirtual 139, 3) := by decide +kernel
theorem dX5_node_11 : decode cX5_node 11 = .ok (.invokevirtual 136, 3) := by decide +kernel
theorem dX5_node_14 : decode cX5_node 14 = .ok (.ireturn, 1) := by decide +kernel
theorem dX5_edge_0 : decode cX5_edge 0 = .ok (.aload_n 0, 1) := by decide +kernel
theorem dX5_edge_1 : decode cX5_edge 1 = .ok (.iconst 5, 1) := by decide +kernel
theorem dX5_edge_2 : decode cX5_edge 2 = .ok (.invokevirtual 133, 3) := by decide +kernel
theorem dX5_edge_5 : decode cX5_edge 5 = .ok (.aload_n 0, 1) := by decide +kernel
theorem dX5_edge_6 : decode cX5_edge 6 = .ok (.aload_n 0, 1) := by decide +kernel
theorem dX5_edge_7 : decode cX5_edge 7 = .ok (.iload_n 1, 1) := by decide +kernel
theorem dX5_edge_8 : decode cX5_edge 8 = .ok (.iload_n 2, 1) := by decide +kernel
theorem dX5_edge_9 : decode cX5_edge 9 = .ok (.iconst (-1), 1) := by decide +kernel
theorem dX5_edge_10 : decode cX5_edge 10 = .ok (.invokevirtual 111, 3) := by decide +kernel
theorem dX5_edge_13 : decode cX5_edge 13 = .ok (.invokevirtual 136, 3) := by decide +kernel
theorem dX5_edge_16 : decode cX5_edge 16 = .ok (.ireturn, 1) := by decide +kernel
theorem dX5_call_0 : decode cX5_call 0 = .ok (.aload_n 0, 1) := by decide +kernel
theorem dX5_call_1 : decode cX5_call 1 = .ok (.iconst 5, 1) := by decide +kernel
theorem dX5_call_2 : decode cX5_call 2 = .ok (.invokevirtual 133, 3) := by decide +kernel
theorem dX5_call_5 : decode cX5_call 5 = .ok (.aload_n 0, 1) := by decide +kernel
theorem dX5_call_6 : decode cX5_call 6 = .ok (.aload_n 0, 1) := by decide +kernel
theorem dX5_call_7 : decode cX5_call 7 = .ok (.iload_n 1, 1) := by decide +kernel
theorem dX5_call_8 : decode cX5_call 8 = .ok (.iload_n 2, 1) := by decide +kernel
theorem dX5_call_9 : decode cX5_call 9 = .ok (.iload_n 3, 1) := by decide +kernel
theorem dX5_call_10 : decode cX5_call 10 = .ok (.invokevirtual 142, 3) := by decide +kernel
theorem dX5_call_13 : decode cX5_call 13 = .ok (.invokevirtual 136, 3) := by decide +kernel
theorem dX5_call_16 : decode cX5_call 16 = .ok (.ireturn, 1) := by decide +kernel
theorem dX5_flows_0 : decode cX5_flows 0 = .ok (.aload_n 0, 1) := by decide +kernel
theorem dX5_flows_1 : decode cX5_flows 1 = .ok (.iconst 5, 1) := by decide +kernel
theorem dX5_flows_2 : decode cX5_flows 2 = .ok (.invokevirtual 133, 3) := by decide +kernel
theorem dX5_flows_5 : decode cX5_flows 5 = .ok (.aload_n 0, 1) := by decide +kernel
theorem dX5_flows_6 : decode cX5_flows 6 = .ok (.aload_n 0, 1) := by decide +kernel
theorem dX5_flows_7 : decode cX5_flows 7 = .ok (.iload_n 1, 1) := by decide +kernel
theorem dX5_flows_8 : decode cX5_flows 8 = .ok (.iload_n 2, 1) := by decide +kernel
theorem dX5_flows_9 : decode cX5_flows 9 = .ok (.iload_n 3, 1) := by decide +kernel
theorem dX5_flows_10 : decode cX5_flows 10 = .ok (.iload 4, 2) := by decide +kernel
theorem dX5_flows_12 : decode cX5_flows 12 = .ok (.invokevirtual 145, 3) := by decide +kernel
theorem dX5_flows_15 : decode cX5_flows 15 = .ok (.invokevirtual 136, 3) := by decide +kernel
theorem dX5_flows_18 : decode cX5_flows 18 = .ok (.ireturn, 1) := by decide +kernel
theorem dX5_starts_0 : decode cX5_starts 0 = .ok (.aload_n 0, 1) := by decide +kernel
theorem dX5_starts_1 : decode cX5_starts 1 = .ok (.iconst 5, 1) := by decide +kernel
theorem dX5_starts_2 : decode cX5_starts 2 = .ok (.invokevirtual 133, 3) := by decide +kernel
theorem dX5_starts_5 : decode cX5_starts 5 = .ok (.aload_n 0, 1) := by decide +kernel
theorem dX5_starts_6 : decode cX5_starts 6 = .ok (.aload_n 0, 1) := by decide +kernel
theorem dX5_starts_7 : decode cX5_starts 7 = .ok (.iload_n 1, 1) := by decide +kernel
theorem dX5_starts_8 : decode cX5_starts 8 = .ok (.invokevirtual 149, 3) := by decide +kernel
theorem dX5_starts_11 : decode cX5_starts 11 = .ok (.invokevirtual 136, 3) := by decide +kernel
theorem dX5_starts_14 : decode cX5_starts 14 = .ok (.ireturn, 1) := by decide +kernel
theorem dX5_cuts_0 : decode cX5_cuts 0 = .ok (.aload_n 0, 1) := by decide +kernel
theorem dX5_cuts_1 : decode cX5_cuts 1 = .ok (.iconst 5, 1) := by decide +kernel
theorem dX5_cuts_2 : decode cX5_cuts 2 = .ok (.invokevirtual 133, 3) := by decide +kernel
theorem dX5_cuts_5 : decode cX5_cuts 5 = .ok (.aload_n 0, 1) := by decide +kernel
theorem dX5_cuts_6 : decode cX5_cuts 6 = .ok (.aload_n 0, 1) := by decide +kernel
theorem dX5_cuts_7 : decode cX5_cuts 7 = .ok (.iload_n 1, 1) := by decide +kernel
theorem dX5_cuts_8 : decode cX5_cuts 8 = .ok (.invokevirtual 152, 3) := by decide +kernel
theorem dX5_cuts_11 : decode cX5_cuts 11 = .ok (.invokevirtual 136, 3) := by decide +kernel
theorem dX5_cuts_14 : decode cX5_cuts 14 = .ok (.ireturn, 1) := by decide +kernel
theorem dX5_at_0 : decode cX5_at 0 = .ok (.aload_n 0, 1) := by decide +kernel
theorem dX5_at_1 : decode cX5_at 1 = .ok (.iload_n 1, 1) := by decide +kernel
theorem dX5_at_2 : decode cX5_at 2 = .ok (.invokevirtual 101, 3) := by decide +kernel
theorem dX5_at_5 : decode cX5_at 5 = .ok (.ifCond .eq 28, 3) := by decide +kernel
theorem dX5_at_8 : decode cX5_at 8 = .ok (.iload_n 2, 1) := by decide +kernel
theorem dX5_at_9 : decode cX5_at 9 = .ok (.iconst 0, 1) := by decide +kernel
theorem dX5_at_10 : decode cX5_at 10 = .ok (.iconst 1, 1) := by decide +kernel
theorem dX5_at_11 : decode cX5_at 11 = .ok (.invokestatic 89, 3) := by decide +kernel
theorem dX5_at_14 : decode cX5_at 14 = .ok (.ifCond .eq 19, 3) := by decide +kernel
theorem dX5_at_17 : decode cX5_at 17 = .ok (.aload_n 0, 1) := by decide +kernel
theorem dX5_at_18 : decode cX5_at 18 = .ok (.getfield 13, 3) := by decide +kernel
theorem dX5_at_21 : decode cX5_at 21 = .ok (.bipush 14, 2) := by decide +kernel
theorem dX5_at_23 : decode cX5_at 23 = .ok (.iconst 2, 1) := by decide +kernel
theorem dX5_at_24 : decode cX5_at 24 = .ok (.iload_n 1, 1) := by decide +kernel
theorem dX5_at_25 : decode cX5_at 25 = .ok (.imul, 1) := by decide +kernel
theorem dX5_at_26 : decode cX5_at 26 = .ok (.iadd, 1) := by decide +kernel
theorem dX5_at_27 : decode cX5_at 27 = .ok (.iload_n 2, 1) := by decide +kernel
theorem dX5_at_28 : decode cX5_at 28 = .ok (.iadd, 1) := by decide +kernel
theorem dX5_at_29 : decode cX5_at 29 = .ok (.iaload, 1) := by decide +kernel
theorem dX5_at_30 : decode cX5_at 30 = .ok (.goto 7, 3) := by decide +kernel
theorem dX5_at_33 : decode cX5_at 33 = .ok (.aload_n 0, 1) := by decide +kernel
theorem dX5_at_34 : decode cX5_at 34 = .ok (.invokevirtual 68, 3) := by decide +kernel
theorem dX5_at_37 : decode cX5_at 37 = .ok (.ireturn, 1) := by decide +kernel
theorem dX5_about_0 : decode cX5_about 0 = .ok (.aload_n 0, 1) := by decide +kernel
theorem dX5_about_1 : decode cX5_about 1 = .ok (.iload_n 1, 1) := by decide +kernel
theorem dX5_about_2 : decode cX5_about 2 = .ok (.invokevirtual 115, 3) := by decide +kernel
theorem dX5_about_5 : decode cX5_about 5 = .ok (.ifCond .eq 21, 3) := by decide +kernel
theorem dX5_about_8 : decode cX5_about 8 = .ok (.iload_n 2, 1) := by decide +kernel
theorem dX5_about_9 : decode cX5_about 9 = .ok (.iconst 0, 1) := by decide +kernel
theorem dX5_about_10 : decode cX5_about 10 = .ok (.iconst 2, 1) := by decide +kernel
theorem dX5_about_11 : decode cX5_about 11 = .ok (.invokestatic 89, 3) := by decide +kernel
theorem dX5_about_14 : decode cX5_about 14 = .ok (.ifCond .eq 12, 3) := by decide +kernel
theorem dX5_about_17 : decode cX5_about 17 = .ok (.aload_n 0, 1) := by decide +kernel
theorem dX5_about_18 : decode cX5_about 18 = .ok (.iload_n 1, 1) := by decide +kernel
theorem dX5_about_19 : decode cX5_about 19 = .ok (.iload_n 2, 1) := by decide +kernel
theorem dX5_about_20 : decode cX5_about 20 = .ok (.invokevirtual 118, 3) := by decide +kernel
theorem dX5_about_23 : decode cX5_about 23 = .ok (.goto 7, 3) := by decide +kernel
theorem dX5_about_26 : decode cX5_about 26 = .ok (.aload_n 0, 1) := by decide +kernel
theorem dX5_about_27 : decode cX5_about 27 = .ok (.invokevirtual 68, 3) := by decide +kernel
theorem dX5_about_30 : decode cX5_about 30 = .ok (.ireturn, 1) := by decide +kernel
theorem dX5_goes_0 : decode cX5_goes 0 = .ok (.aload_n 0, 1) := by decide +kernel
theorem dX5_goes_1 : decode cX5_goes 1 = .ok (.iload_n 1, 1) := by decide +kernel
theorem dX5_goes_2 : decode cX5_goes 2 = .ok (.iload_n 2, 1) := by decide +kernel
theorem dX5_goes_3 : decode cX5_goes 3 = .ok (.iload_n 3, 1) := by decide +kernel
theorem dX5_goes_4 : decode cX5_goes 4 = .ok (.invokevirtual 121, 3) := by decide +kernel
theorem dX5_goes_7 : decode cX5_goes 7 = .ok (.ifCond .eq 13, 3) := by decide +kernel
theorem dX5_goes_10 : decode cX5_goes 10 = .ok (.aload_n 0, 1) := by decide +kernel
theorem dX5_goes_11 : decode cX5_goes 11 = .ok (.iload_n 1, 1) := by decide +kernel
theorem dX5_goes_12 : decode cX5_goes 12 = .ok (.iload_n 2, 1) := by decide +kernel
theorem dX5_goes_13 : decode cX5_goes 13 = .ok (.iload_n 3, 1) := by decide +kernel
theorem dX5_goes_14 : decode cX5_goes 14 = .ok (.invokevirtual 124, 3) := by decide +kernel
theorem dX5_goes_17 : decode cX5_goes 17 = .ok (.goto 7, 3) := by decide +kernel
theorem dX5_goes_20 : decode cX5_goes 20 = .ok (.aload_n 0, 1) := by decide +kernel
theorem dX5_goes_21 : decode cX5_goes 21 = .ok (.invokevirtual 68, 3) := by decide +kernel
theorem dX5_goes_24 : decode cX5_goes 24 = .ok (.ireturn, 1) := by decide +kernel
theorem dX5_key_0 : decode cX5_key 0 = .ok (.bipush 8, 2) := by decide +kernel
theorem dX5_key_2 : decode cX5_key 2 = .ok (.iload_n 1, 1) := by decide +kernel
theorem dX5_key_3 : decode cX5_key 3 = .ok (.imul, 1) := by decide +kernel
theorem dX5_key_4 : decode cX5_key 4 = .ok (.iload_n 0, 1) := by decide +kernel
theorem dX5_key_5 : decode cX5_key 5 = .ok (.iadd, 1) := by decide +kernel
theorem dX5_key_6 : decode cX5_key 6 = .ok (.bipush 8, 2) := by decide +kernel
theorem dX5_key_8 : decode cX5_key 8 = .ok (.imul, 1) := by decide +kernel
theorem dX5_key_9 : decode cX5_key 9 = .ok (.iload_n 2, 1) := by decide +kernel
theorem dX5_key_10 : decode cX5_key 10 = .ok (.iadd, 1) := by decide +kernel
theorem dX5_key_11 : decode cX5_key 11 = .ok (.ireturn, 1) := by decide +kernel
theorem dX5_clearTable_0 : decode cX5_clearTable 0 = .ok (.iconst 0, 1) := by decide +kernel
theorem dX5_clearTable_1 : decode cX5_clearTable 1 = .ok (.istore_n 1, 1) := by decide +kernel
theorem dX5_clearTable_2 : decode cX5_clearTable 2 = .ok (.iload_n 1, 1) := by decide +kernel
theorem dX5_clearTable_3 : decode cX5_clearTable 3 = .ok (.sipush 1536, 3) := by decide +kernel
theorem dX5_clearTable_6 : decode cX5_clearTable 6 = .ok (.if_icmp .ge 16, 3) := by decide +kernel
theorem dX5_clearTable_9 : decode cX5_clearTable 9 = .ok (.aload_n 0, 1) := by decide +kernel
theorem dX5_clearTable_10 : decode cX5_clearTable 10 = .ok (.getfield 19, 3) := by decide +kernel
theorem dX5_clearTable_13 : decode cX5_clearTable 13 = .ok (.iload_n 1, 1) := by decide +kernel
theorem dX5_clearTable_14 : decode cX5_clearTable 14 = .ok (.iconst 0, 1) := by decide +kernel
theorem dX5_clearTable_15 : decode cX5_clearTable 15 = .ok (.iastore, 1) := by decide +kernel
theorem dX5_clearTable_16 : decode cX5_clearTable 16 = .ok (.iinc 1 1, 3) := by decide +kernel
theorem dX5_clearTable_19 : decode cX5_clearTable 19 = .ok (.goto (-17), 3) := by decide +kernel
theorem dX5_clearTable_22 : decode cX5_clearTable 22 = .ok (.iconst 0, 1) := by decide +kernel
theorem dX5_clearTable_23 : decode cX5_clearTable 23 = .ok (.istore_n 1, 1) := by decide +kernel
theorem dX5_clearTable_24 : decode cX5_clearTable 24 = .ok (.iload_n 1, 1) := by decide +kernel
theorem dX5_clearTable_25 : decode cX5_clearTable 25 = .ok (.bipush 40, 2) := by decide +kernel
theorem dX5_clearTable_27 : decode cX5_clearTable 27 = .ok (.if_icmp .ge 23, 3) := by decide +kernel
theorem dX5_clearTable_30 : decode cX5_clearTable 30 = .ok (.aload_n 0, 1) := by decide +kernel
theorem dX5_clearTable_31 : decode cX5_clearTable 31 = .ok (.getfield 43, 3) := by decide +kernel
theorem dX5_clearTable_34 : decode cX5_clearTable 34 = .ok (.iload_n 1, 1) := by decide +kernel
theorem dX5_clearTable_35 : decode cX5_clearTable 35 = .ok (.iconst (-1), 1) := by decide +kernel
theorem dX5_clearTable_36 : decode cX5_clearTable 36 = .ok (.iastore, 1) := by decide +kernel
theorem dX5_clearTable_37 : decode cX5_clearTable 37 = .ok (.aload_n 0, 1) := by decide +kernel
theorem dX5_clearTable_38 : decode cX5_clearTable 38 = .ok (.getfield 46, 3) := by decide +kernel
theorem dX5_clearTable_41 : decode cX5_clearTable 41 = .ok (.iload_n 1, 1) := by decide +kernel
theorem dX5_clearTable_42 : decode cX5_clearTable 42 = .ok (.iconst (-1), 1) := by decide +kernel
theorem dX5_clearTable_43 : decode cX5_clearTable 43 = .ok (.iastore, 1) := by decide +kernel
theorem dX5_clearTable_44 : decode cX5_clearTable 44 = .ok (.iinc 1 1, 3) := by decide +kernel
theorem dX5_clearTable_47 : decode cX5_clearTable 47 = .ok (.goto (-23), 3) := by decide +kernel
theorem dX5_clearTable_50 : decode cX5_clearTable 50 = .ok (.aload_n 0, 1) := by decide +kernel
theorem dX5_clearTable_51 : decode cX5_clearTable 51 = .ok (.iconst 0, 1) := by decide +kernel
theorem dX5_clearTable_52 : decode cX5_clearTable 52 = .ok (.putfield 155, 3) := by decide +kernel
theorem dX5_clearTable_55 : decode cX5_clearTable 55 = .ok (.aload_n 0, 1) := by decide +kernel
theorem dX5_clearTable_56 : decode cX5_clearTable 56 = .ok (.iconst 0, 1) := by decide +kernel
theorem dX5_clearTable_57 : decode cX5_clearTable 57 = .ok (.putfield 158, 3) := by decide +kernel
theorem dX5_clearTable_60 : decode cX5_clearTable 60 = .ok (.return_, 1) := by decide +kernel
theorem dX5_comes_0 : decode cX5_comes 0 = .ok (.iload_n 1, 1) := by decide +kernel
theorem dX5_comes_1 : decode cX5_comes 1 = .ok (.iload_n 2, 1) := by decide +kernel
theorem dX5_comes_2 : decode cX5_comes 2 = .ok (.iload_n 3, 1) := by decide +kernel
theorem dX5_comes_3 : decode cX5_comes 3 = .ok (.invokestatic 161, 3) := by decide +kernel
theorem dX5_comes_6 : decode cX5_comes 6 = .ok (.istore 6, 2) := by decide +kernel
theorem dX5_comes_8 : decode cX5_comes 8 = .ok (.aload_n 0, 1) := by decide +kernel
theorem dX5_comes_9 : decode cX5_comes 9 = .ok (.getfield 19, 3) := by decide +kernel
theorem dX5_comes_12 : decode cX5_comes 12 = .ok (.iload 6, 2) := by decide +kernel
theorem dX5_comes_14 : decode cX5_comes 14 = .ok (.iaload, 1) := by decide +kernel
theorem dX5_comes_15 : decode cX5_comes 15 = .ok (.ifCond .ne 76, 3) := by decide +kernel
theorem dX5_comes_18 : decode cX5_comes 18 = .ok (.aload_n 0, 1) := by decide +kernel
theorem dX5_comes_19 : decode cX5_comes 19 = .ok (.getfield 22, 3) := by decide +kernel
theorem dX5_comes_22 : decode cX5_comes 22 = .ok (.aload_n 0, 1) := by decide +kernel
theorem dX5_comes_23 : decode cX5_comes 23 = .ok (.getfield 155, 3) := by decide +kernel
theorem dX5_comes_26 : decode cX5_comes 26 = .ok (.iload_n 1, 1) := by decide +kernel
theorem dX5_comes_27 : decode cX5_comes 27 = .ok (.iastore, 1) := by decide +kernel
theorem dX5_comes_28 : decode cX5_comes 28 = .ok (.aload_n 0, 1) := by decide +kernel
theorem dX5_comes_29 : decode cX5_comes 29 = .ok (.getfield 25, 3) := by decide +kernel
theorem dX5_comes_32 : decode cX5_comes 32 = .ok (.aload_n 0, 1) := by decide +kernel
theorem dX5_comes_33 : decode cX5_comes 33 = .ok (.getfield 155, 3) := by decide +kernel
theorem dX5_comes_36 : decode cX5_comes 36 = .ok (.iload_n 2, 1) := by decide +kernel
theorem dX5_comes_37 : decode cX5_comes 37 = .ok (.iastore, 1) := by decide +kernel
theorem dX5_comes_38 : decode cX5_comes 38 = .ok (.aload_n 0, 1) := by decide +kernel
theorem dX5_comes_39 : decode cX5_comes 39 = .ok (.getfield 28, 3) := by decide +kernel
theorem dX5_comes_42 : decode cX5_comes 42 = .ok (.aload_n 0, 1) := by decide +kernel
theorem dX5_comes_43 : decode cX5_comes 43 = .ok (.getfield 155, 3) := by decide +kernel
theorem dX5_comes_46 : decode cX5_comes 46 = .ok (.iload_n 3, 1) := by decide +kernel
theorem dX5_comes_47 : decode cX5_comes 47 = .ok (.iastore, 1) := by decide +kernel
theorem dX5_comes_48 : decode cX5_comes 48 = .ok (.aload_n 0, 1) := by decide +kernel
theorem dX5_comes_49 : decode cX5_comes 49 = .ok (.getfield 31, 3) := by decide +kernel
theorem dX5_comes_52 : decode cX5_comes 52 = .ok (.aload_n 0, 1) := by decide +kernel
theorem dX5_comes_53 : decode cX5_comes 53 = .ok (.getfield 155, 3) := by decide +kernel
theorem dX5_comes_56 : decode cX5_comes 56 = .ok (.iload 4, 2) := by decide +kernel
theorem dX5_comes_58 : decode cX5_comes 58 = .ok (.iastore, 1) := by decide +kernel
theorem dX5_comes_59 : decode cX5_comes 59 = .ok (.aload_n 0, 1) := by decide +kernel
theorem dX5_comes_60 : decode cX5_comes 60 = .ok (.getfield 34, 3) := by decide +kernel
theorem dX5_comes_63 : decode cX5_comes 63 = .ok (.aload_n 0, 1) := by decide +kernel
theorem dX5_comes_64 : decode cX5_comes 64 = .ok (.getfield 155, 3) := by decide +kernel
theorem dX5_comes_67 : decode cX5_comes 67 = .ok (.iload 5, 2) := by decide +kernel
theorem dX5_comes_69 : decode cX5_comes 69 = .ok (.iastore, 1) := by decide +kernel
theorem dX5_comes_70 : decode cX5_comes 70 = .ok (.aload_n 0, 1) := by decide +kernel
theorem dX5_comes_71 : decode cX5_comes 71 = .ok (.dup, 1) := by decide +kernel
theorem dX5_comes_72 : decode cX5_comes 72 = .ok (.getfield 155, 3) := by decide +kernel
theorem dX5_comes_75 : decode cX5_comes 75 = .ok (.iconst 1, 1) := by decide +kernel
theorem dX5_comes_76 : decode cX5_comes 76 = .ok (.iadd, 1) := by decide +kernel
theorem dX5_comes_77 : decode cX5_comes 77 = .ok (.putfield 155, 3) := by decide +kernel
theorem dX5_comes_80 : decode cX5_comes 80 = .ok (.aload_n 0, 1) := by decide +kernel
theorem dX5_comes_81 : decode cX5_comes 81 = .ok (.getfield 19, 3) := by decide +kernel
theorem dX5_comes_84 : decode cX5_comes 84 = .ok (.iload 6, 2) := by decide +kernel
theorem dX5_comes_86 : decode cX5_comes 86 = .ok (.aload_n 0, 1) := by decide +kernel
theorem dX5_comes_87 : decode cX5_comes 87 = .ok (.getfield 155, 3) := by decide +kernel
theorem dX5_comes_90 : decode cX5_comes 90 = .ok (.iastore, 1) := by decide +kernel
theorem dX5_comes_91 : decode cX5_comes 91 = .ok (.return_, 1) := by decide +kernel
theorem dX5_notes_0 : decode cX5_notes 0 = .ok (.bipush 8, 2) := by decide +kernel
theorem dX5_notes_2 : decode cX5_notes 2 = .ok (.iload_n 1, 1) := by decide +kernel
theorem dX5_notes_3 : decode cX5_notes 3 = .ok (.imul, 1) := by decide +kernel
theorem dX5_notes_4 : decode cX5_notes 4 = .ok (.iload_n 2, 1) := by decide +kernel
theorem dX5_notes_5 : decode cX5_notes 5 = .ok (.iadd, 1) := by decide +kernel
theorem dX5_notes_6 : decode cX5_notes 6 = .ok (.istore 5, 2) := by decide +kernel
theorem dX5_notes_8 : decode cX5_notes 8 = .ok (.aload_n 0, 1) := by decide +kernel
theorem dX5_notes_9 : decode cX5_notes 9 = .ok (.getfield 37, 3) := by decide +kernel
theorem dX5_notes_12 : decode cX5_notes 12 = .ok (.aload_n 0, 1) := by decide +kernel
theorem dX5_notes_13 : decode cX5_notes 13 = .ok (.getfield 158, 3) := by decide +kernel
theorem dX5_notes_16 : decode cX5_notes 16 = .ok (.bipush 32, 2) := by decide +kernel
theorem dX5_notes_18 : decode cX5_notes 18 = .ok (.iload_n 3, 1) := by decide +kernel
theorem dX5_notes_19 : decode cX5_notes 19 = .ok (.imul, 1) := by decide +kernel
theorem dX5_notes_20 : decode cX5_notes 20 = .ok (.iload 4, 2) := by decide +kernel
theorem dX5_notes_22 : decode cX5_notes 22 = .ok (.iadd, 1) := by decide +kernel
theorem dX5_notes_23 : decode cX5_notes 23 = .ok (.iastore, 1) := by decide +kernel
theorem dX5_notes_24 : decode cX5_notes 24 = .ok (.aload_n 0, 1) := by decide +kernel
theorem dX5_notes_25 : decode cX5_notes 25 = .ok (.getfield 40, 3) := by decide +kernel
theorem dX5_notes_28 : decode cX5_notes 28 = .ok (.aload_n 0, 1) := by decide +kernel
theorem dX5_notes_29 : decode cX5_notes 29 = .ok (.getfield 158, 3) := by decide +kernel
theorem dX5_notes_32 : decode cX5_notes 32 = .ok (.iconst (-1), 1) := by decide +kernel
theorem dX5_notes_33 : decode cX5_notes 33 = .ok (.iastore, 1) := by decide +kernel
theorem dX5_notes_34 : decode cX5_notes 34 = .ok (.aload_n 0, 1) := by decide +kernel
theorem dX5_notes_35 : decode cX5_notes 35 = .ok (.getfield 46, 3) := by decide +kernel
theorem dX5_notes_38 : decode cX5_notes 38 = .ok (.iload 5, 2) := by decide +kernel
theorem dX5_notes_40 : decode cX5_notes 40 = .ok (.iaload, 1) := by decide +kernel
theorem dX5_notes_41 : decode cX5_notes 41 = .ok (.iconst (-1), 1) := by decide +kernel
theorem dX5_notes_42 : decode cX5_notes 42 = .ok (.if_icmp .ne 17, 3) := by decide +kernel
theorem dX5_notes_45 : decode cX5_notes 45 = .ok (.aload_n 0, 1) := by decide +kernel
theorem dX5_notes_46 : decode cX5_notes 46 = .ok (.getfield 43, 3) := by decide +kernel
theorem dX5_notes_49 : decode cX5_notes 49 = .ok (.iload 5, 2) := by decide +kernel
theorem dX5_notes_51 : decode cX5_notes 51 = .ok (.aload_n 0, 1) := by decide +kernel
theorem dX5_notes_52 : decode cX5_notes 52 = .ok (.getfield 158, 3) := by decide +kernel
theorem dX5_notes_55 : decode cX5_notes 55 = .ok (.iastore, 1) := by decide +kernel
theorem dX5_notes_56 : decode cX5_notes 56 = .ok (.goto 19, 3) := by decide +kernel
theorem dX5_notes_59 : decode cX5_notes 59 = .ok (.aload_n 0, 1) := by decide +kernel
theorem dX5_notes_60 : decode cX5_notes 60 = .ok (.getfield 40, 3) := by decide +kernel
theorem dX5_notes_63 : decode cX5_notes 63 = .ok (.aload_n 0, 1) := by decide +kernel
theorem dX5_notes_64 : decode cX5_notes 64 = .ok (.getfield 46, 3) := by decide +kernel
theorem dX5_notes_67 : decode cX5_notes 67 = .ok (.iload 5, 2) := by decide +kernel
theorem dX5_notes_69 : decode cX5_notes 69 = .ok (.iaload, 1) := by decide +kernel
theorem dX5_notes_70 : decode cX5_notes 70 = .ok (.aload_n 0, 1) := by decide +kernel
theorem dX5_notes_71 : decode cX5_notes 71 = .ok (.getfield 158, 3) := by decide +kernel
theorem dX5_notes_74 : decode cX5_notes 74 = .ok (.iastore, 1) := by decide +kernel
theorem dX5_notes_75 : decode cX5_notes 75 = .ok (.aload_n 0, 1) := by decide +kernel
theorem dX5_notes_76 : decode cX5_notes 76 = .ok (.getfield 46, 3) := by decide +kernel
theorem dX5_notes_79 : decode cX5_notes 79 = .ok (.iload 5, 2) := by decide +kernel
theorem dX5_notes_81 : decode cX5_notes 81 = .ok (.aload_n 0, 1) := by decide +kernel
theorem dX5_notes_82 : decode cX5_notes 82 = .ok (.getfield 158, 3) := by decide +kernel
theorem dX5_notes_85 : decode cX5_notes 85 = .ok (.iastore, 1) := by decide +kernel
theorem dX5_notes_86 : decode cX5_notes 86 = .ok (.aload_n 0, 1) := by decide +kernel
theorem dX5_notes_87 : decode cX5_notes 87 = .ok (.dup, 1) := by decide +kernel
theorem dX5_notes_88 : decode cX5_notes 88 = .ok (.getfield 158, 3) := by decide +kernel
theorem dX5_notes_91 : decode cX5_notes 91 = .ok (.iconst 1, 1) := by decide +kernel
theorem dX5_notes_92 : decode cX5_notes 92 = .ok (.iadd, 1) := by decide +kernel
theorem dX5_notes_93 : decode cX5_notes 93 = .ok (.putfield 158, 3) := by decide +kernel
theorem dX5_notes_96 : decode cX5_notes 96 = .ok (.return_, 1) := by decide +kernel
theorem dX5_allCome_0 : decode cX5_allCome 0 = .ok (.iconst 0, 1) := by decide +kernel
theorem dX5_allCome_1 : decode cX5_allCome 1 = .ok (.istore 6, 2) := by decide +kernel
theorem dX5_allCome_3 : decode cX5_allCome 3 = .ok (.iload 6, 2) := by decide +kernel
theorem dX5_allCome_5 : decode cX5_allCome 5 = .ok (.bipush 8, 2) := by decide +kernel
theorem dX5_allCome_7 : decode cX5_allCome 7 = .ok (.if_icmp .ge 31, 3) := by decide +kernel
theorem dX5_allCome_10 : decode cX5_allCome 10 = .ok (.iload_n 3, 1) := by decide +kernel
theorem dX5_allCome_11 : decode cX5_allCome 11 = .ok (.iload 6, 2) := by decide +kernel
theorem dX5_allCome_13 : decode cX5_allCome 13 = .ok (.ishr, 1) := by decide +kernel
theorem dX5_allCome_14 : decode cX5_allCome 14 = .ok (.iconst 1, 1) := by decide +kernel
theorem dX5_allCome_15 : decode cX5_allCome 15 = .ok (.iand, 1) := by decide +kernel
theorem dX5_allCome_16 : decode cX5_allCome 16 = .ok (.iconst 1, 1) := by decide +kernel
theorem dX5_allCome_17 : decode cX5_allCome 17 = .ok (.if_icmp .ne 15, 3) := by decide +kernel
theorem dX5_allCome_20 : decode cX5_allCome 20 = .ok (.aload_n 0, 1) := by decide +kernel
theorem dX5_allCome_21 : decode cX5_allCome 21 = .ok (.iload_n 1, 1) := by decide +kernel
theorem dX5_allCome_22 : decode cX5_allCome 22 = .ok (.iload_n 2, 1) := by decide +kernel
theorem dX5_allCome_23 : decode cX5_allCome 23 = .ok (.iload 6, 2) := by decide +kernel
theorem dX5_allCome_25 : decode cX5_allCome 25 = .ok (.iload 4, 2) := by decide +kernel
theorem dX5_allCome_27 : decode cX5_allCome 27 = .ok (.iload 5, 2) := by decide +kernel
theorem dX5_allCome_29 : decode cX5_allCome 29 = .ok (.invokevirtual 164, 3) := by decide +kernel
theorem dX5_allCome_32 : decode cX5_allCome 32 = .ok (.iinc 6 1, 3) := by decide +kernel
theorem dX5_allCome_35 : decode cX5_allCome 35 = .ok (.goto (-32), 3) := by decide +kernel
theorem dX5_allCome_38 : decode cX5_allCome 38 = .ok (.return_, 1) := by decide +kernel
theorem dX5_takesCall_0 : decode cX5_takesCall 0 = .ok (.aload_n 0, 1) := by decide +kernel
theorem dX5_takesCall_1 : decode cX5_takesCall 1 = .ok (.iload_n 2, 1) := by decide +kernel
theorem dX5_takesCall_2 : decode cX5_takesCall 2 = .ok (.iconst 2, 1) := by decide +kernel
theorem dX5_takesCall_3 : decode cX5_takesCall 3 = .ok (.invokevirtual 118, 3) := by decide +kernel
theorem dX5_takesCall_6 : decode cX5_takesCall 6 = .ok (.istore_n 3, 1) := by decide +kernel
theorem dX5_takesCall_7 : decode cX5_takesCall 7 = .ok (.aload_n 0, 1) := by decide +kernel
theorem dX5_takesCall_8 : decode cX5_takesCall 8 = .ok (.getfield 13, 3) := by decide +kernel
theorem dX5_takesCall_11 : decode cX5_takesCall 11 = .ok (.iconst 4, 1) := by decide +kernel
theorem dX5_takesCall_12 : decode cX5_takesCall 12 = .ok (.iconst 2, 1) := by decide +kernel
theorem dX5_takesCall_13 : decode cX5_takesCall 13 = .ok (.iload_n 3, 1) := by decide +kernel
theorem dX5_takesCall_14 : decode cX5_takesCall 14 = .ok (.imul, 1) := by decide +kernel
theorem dX5_takesCall_15 : decode cX5_takesCall 15 = .ok (.iadd, 1) := by decide +kernel
theorem dX5_takesCall_16 : decode cX5_takesCall 16 = .ok (.iconst 1, 1) := by decide +kernel
theorem dX5_takesCall_17 : decode cX5_takesCall 17 = .ok (.iadd, 1) := by decide +kernel
theorem dX5_takesCall_18 : decode cX5_takesCall 18 = .ok (.iaload, 1) := by decide +kernel
theorem dX5_takesCall_19 : decode cX5_takesCall 19 = .ok (.istore 4, 2) := by decide +kernel
theorem dX5_takesCall_21 : decode cX5_takesCall 21 = .ok (.iconst 0, 1) := by decide +kernel
theorem dX5_takesCall_22 : decode cX5_takesCall 22 = .ok (.istore 5, 2) := by decide +kernel
theorem dX5_takesCall_24 : decode cX5_takesCall 24 = .ok (.iload 5, 2) := by decide +kernel
theorem dX5_takesCall_26 : decode cX5_takesCall 26 = .ok (.bipush 8, 2) := by decide +kernel
theorem dX5_takesCall_28 : decode cX5_takesCall 28 = .ok (.if_icmp .ge 125, 3) := by decide +kernel
theorem dX5_takesCall_31 : decode cX5_takesCall 31 = .ok (.aload_n 0, 1) := by decide +kernel
theorem dX5_takesCall_32 : decode cX5_takesCall 32 = .ok (.iload_n 2, 1) := by decide +kernel
theorem dX5_takesCall_33 : decode cX5_takesCall 33 = .ok (.iconst 1, 1) := by decide +kernel
theorem dX5_takesCall_34 : decode cX5_takesCall 34 = .ok (.aload_n 0, 1) := by decide +kernel
theorem dX5_takesCall_35 : decode cX5_takesCall 35 = .ok (.getfield 28, 3) := by decide +kernel
theorem dX5_takesCall_38 : decode cX5_takesCall 38 = .ok (.iload_n 1, 1) := by decide +kernel
theorem dX5_takesCall_39 : decode cX5_takesCall 39 = .ok (.iaload, 1) := by decide +kernel
theorem dX5_takesCall_40 : decode cX5_takesCall 40 = .ok (.invokevirtual 124, 3) := by decide +kernel
theorem dX5_takesCall_43 : decode cX5_takesCall 43 = .ok (.iload 5, 2) := by decide +kernel
theorem dX5_takesCall_45 : decode cX5_takesCall 45 = .ok (.ishr, 1) := by decide +kernel
theorem dX5_takesCall_46 : decode cX5_takesCall 46 = .ok (.iconst 1, 1) := by decide +kernel
theorem dX5_takesCall_47 : decode cX5_takesCall 47 = .ok (.iand, 1) := by decide +kernel
theorem dX5_takesCall_48 : decode cX5_takesCall 48 = .ok (.iconst 1, 1) := by decide +kernel
theorem dX5_takesCall_49 : decode cX5_takesCall 49 = .ok (.if_icmp .ne 98, 3) := by decide +kernel
theorem dX5_takesCall_52 : decode cX5_takesCall 52 = .ok (.aload_n 0, 1) := by decide +kernel
theorem dX5_takesCall_53 : decode cX5_takesCall 53 = .ok (.iload 5, 2) := by decide +kernel
theorem dX5_takesCall_55 : decode cX5_takesCall 55 = .ok (.aload_n 0, 1) := by decide +kernel
theorem dX5_takesCall_56 : decode cX5_takesCall 56 = .ok (.getfield 13, 3) := by decide +kernel
theorem dX5_takesCall_59 : decode cX5_takesCall 59 = .ok (.iconst 4, 1) := by decide +kernel
theorem dX5_takesCall_60 : decode cX5_takesCall 60 = .ok (.iconst 2, 1) := by decide +kernel
theorem dX5_takesCall_61 : decode cX5_takesCall 61 = .ok (.iload_n 3, 1) := by decide +kernel
theorem dX5_takesCall_62 : decode cX5_takesCall 62 = .ok (.imul, 1) := by decide +kernel
theorem dX5_takesCall_63 : decode cX5_takesCall 63 = .ok (.iadd, 1) := by decide +kernel
theorem dX5_takesCall_64 : decode cX5_takesCall 64 = .ok (.iaload, 1) := by decide +kernel
theorem dX5_takesCall_65 : decode cX5_takesCall 65 = .ok (.iload 5, 2) := by decide +kernel
theorem dX5_takesCall_67 : decode cX5_takesCall 67 = .ok (.iload_n 1, 1) := by decide +kernel
theorem dX5_takesCall_68 : decode cX5_takesCall 68 = .ok (.iconst (-1), 1) := by decide +kernel
theorem dX5_takesCall_69 : decode cX5_takesCall 69 = .ok (.invokevirtual 164, 3) := by decide +kernel
theorem dX5_takesCall_72 : decode cX5_takesCall 72 = .ok (.aload_n 0, 1) := by decide +kernel
theorem dX5_takesCall_73 : decode cX5_takesCall 73 = .ok (.iload_n 3, 1) := by decide +kernel
theorem dX5_takesCall_74 : decode cX5_takesCall 74 = .ok (.iload 5, 2) := by decide +kernel
theorem dX5_takesCall_76 : decode cX5_takesCall 76 = .ok (.iload_n 1, 1) := by decide +kernel
theorem dX5_takesCall_77 : decode cX5_takesCall 77 = .ok (.iload_n 2, 1) := by decide +kernel
theorem dX5_takesCall_78 : decode cX5_takesCall 78 = .ok (.invokevirtual 168, 3) := by decide +kernel
theorem dX5_takesCall_81 : decode cX5_takesCall 81 = .ok (.iconst 0, 1) := by decide +kernel
theorem dX5_takesCall_82 : decode cX5_takesCall 82 = .ok (.istore 6, 2) := by decide +kernel
theorem dX5_takesCall_84 : decode cX5_takesCall 84 = .ok (.iload 6, 2) := by decide +kernel
theorem dX5_takesCall_86 : decode cX5_takesCall 86 = .ok (.bipush 8, 2) := by decide +kernel
theorem dX5_takesCall_88 : decode cX5_takesCall 88 = .ok (.if_icmp .ge 59, 3) := by decide +kernel
theorem dX5_takesCall_91 : decode cX5_takesCall 91 = .ok (.aload_n 0, 1) := by decide +kernel
theorem dX5_takesCall_92 : decode cX5_takesCall 92 = .ok (.getfield 19, 3) := by decide +kernel
theorem dX5_takesCall_95 : decode cX5_takesCall 95 = .ok (.iload 5, 2) := by decide +kernel
theorem dX5_takesCall_97 : decode cX5_takesCall 97 = .ok (.iload 4, 2) := by decide +kernel
theorem dX5_takesCall_99 : decode cX5_takesCall 99 = .ok (.iload 6, 2) := by decide +kernel
theorem dX5_takesCall_101 : decode cX5_takesCall 101 = .ok (.invokestatic 161, 3) := by decide +kernel
theorem dX5_takesCall_104 : decode cX5_takesCall 104 = .ok (.iaload, 1) := by decide +kernel
theorem dX5_takesCall_105 : decode cX5_takesCall 105 = .ok (.iconst 1, 1) := by decide +kernel
theorem dX5_takesCall_106 : decode cX5_takesCall 106 = .ok (.isub, 1) := by decide +kernel
theorem dX5_takesCall_107 : decode cX5_takesCall 107 = .ok (.istore 7, 2) := by decide +kernel
theorem dX5_takesCall_109 : decode cX5_takesCall 109 = .ok (.iload 7, 2) := by decide +kernel
theorem dX5_takesCall_111 : decode cX5_takesCall 111 = .ok (.ifCond .lt 30, 3) := by decide +kernel
theorem dX5_takesCall_114 : decode cX5_takesCall 114 = .ok (.aload_n 0, 1) := by decide +kernel
theorem dX5_takesCall_115 : decode cX5_takesCall 115 = .ok (.aload_n 0, 1) := by decide +kernel
theorem dX5_takesCall_116 : decode cX5_takesCall 116 = .ok (.getfield 22, 3) := by decide +kernel
theorem dX5_takesCall_119 : decode cX5_takesCall 119 = .ok (.iload_n 1, 1) := by decide +kernel
theorem dX5_takesCall_120 : decode cX5_takesCall 120 = .ok (.iaload, 1) := by decide +kernel
theorem dX5_takesCall_121 : decode cX5_takesCall 121 = .ok (.aload_n 0, 1) := by decide +kernel
theorem dX5_takesCall_122 : decode cX5_takesCall 122 = .ok (.iload_n 2, 1) := by decide +kernel
theorem dX5_takesCall_123 : decode cX5_takesCall 123 = .ok (.iconst 1, 1) := by decide +kernel
theorem dX5_takesCall_124 : decode cX5_takesCall 124 = .ok (.invokevirtual 118, 3) := by decide +kernel
theorem dX5_takesCall_127 : decode cX5_takesCall 127 = .ok (.aload_n 0, 1) := by decide +kernel
theorem dX5_takesCall_128 : decode cX5_takesCall 128 = .ok (.iload_n 2, 1) := by decide +kernel
theorem dX5_takesCall_129 : decode cX5_takesCall 129 = .ok (.iconst 2, 1) := by decide +kernel
theorem dX5_takesCall_130 : decode cX5_takesCall 130 = .ok (.iload 6, 2) := by decide +kernel
theorem dX5_takesCall_132 : decode cX5_takesCall 132 = .ok (.invokevirtual 124, 3) := by decide +kernel
theorem dX5_takesCall_135 : decode cX5_takesCall 135 = .ok (.iload_n 1, 1) := by decide +kernel
theorem dX5_takesCall_136 : decode cX5_takesCall 136 = .ok (.iload 7, 2) := by decide +kernel
theorem dX5_takesCall_138 : decode cX5_takesCall 138 = .ok (.invokevirtual 172, 3) := by decide +kernel
theorem dX5_takesCall_141 : decode cX5_takesCall 141 = .ok (.iinc 6 1, 3) := by decide +kernel
theorem dX5_takesCall_144 : decode cX5_takesCall 144 = .ok (.goto (-60), 3) := by decide +kernel
theorem dX5_takesCall_147 : decode cX5_takesCall 147 = .ok (.iinc 5 1, 3) := by decide +kernel
theorem dX5_takesCall_150 : decode cX5_takesCall 150 = .ok (.goto (-126), 3) := by decide +kernel
theorem dX5_takesCall_153 : decode cX5_takesCall 153 = .ok (.return_, 1) := by decide +kernel
theorem dX5_takesEntry_0 : decode cX5_takesEntry 0 = .ok (.aload_n 0, 1) := by decide +kernel
theorem dX5_takesEntry_1 : decode cX5_takesEntry 1 = .ok (.getfield 25, 3) := by decide +kernel
theorem dX5_takesEntry_4 : decode cX5_takesEntry 4 = .ok (.iload_n 1, 1) := by decide +kernel
theorem dX5_takesEntry_5 : decode cX5_takesEntry 5 = .ok (.iaload, 1) := by decide +kernel
theorem dX5_takesEntry_6 : decode cX5_takesEntry 6 = .ok (.istore_n 2, 1) := by decide +kernel
theorem dX5_takesEntry_7 : decode cX5_takesEntry 7 = .ok (.aload_n 0, 1) := by decide +kernel
theorem dX5_takesEntry_8 : decode cX5_takesEntry 8 = .ok (.iload_n 2, 1) := by decide +kernel
theorem dX5_takesEntry_9 : decode cX5_takesEntry 9 = .ok (.invokevirtual 108, 3) := by decide +kernel
theorem dX5_takesEntry_12 : decode cX5_takesEntry 12 = .ok (.iconst 1, 1) := by decide +kernel
theorem dX5_takesEntry_13 : decode cX5_takesEntry 13 = .ok (.if_icmp .ne 96, 3) := by decide +kernel
theorem dX5_takesEntry_16 : decode cX5_takesEntry 16 = .ok (.aload_n 0, 1) := by decide +kernel
theorem dX5_takesEntry_17 : decode cX5_takesEntry 17 = .ok (.getfield 43, 3) := by decide +kernel
theorem dX5_takesEntry_20 : decode cX5_takesEntry 20 = .ok (.bipush 8, 2) := by decide +kernel
theorem dX5_takesEntry_22 : decode cX5_takesEntry 22 = .ok (.aload_n 0, 1) := by decide +kernel
theorem dX5_takesEntry_23 : decode cX5_takesEntry 23 = .ok (.iload_n 2, 1) := by decide +kernel
theorem dX5_takesEntry_24 : decode cX5_takesEntry 24 = .ok (.invokevirtual 104, 3) := by decide +kernel
theorem dX5_takesEntry_27 : decode cX5_takesEntry 27 = .ok (.imul, 1) := by decide +kernel
theorem dX5_takesEntry_28 : decode cX5_takesEntry 28 = .ok (.aload_n 0, 1) := by decide +kernel
theorem dX5_takesEntry_29 : decode cX5_takesEntry 29 = .ok (.getfield 22, 3) := by decide +kernel
theorem dX5_takesEntry_32 : decode cX5_takesEntry 32 = .ok (.iload_n 1, 1) := by decide +kernel
theorem dX5_takesEntry_33 : decode cX5_takesEntry 33 = .ok (.iaload, 1) := by decide +kernel
theorem dX5_takesEntry_34 : decode cX5_takesEntry 34 = .ok (.iadd, 1) := by decide +kernel
theorem dX5_takesEntry_35 : decode cX5_takesEntry 35 = .ok (.iaload, 1) := by decide +kernel
theorem dX5_takesEntry_36 : decode cX5_takesEntry 36 = .ok (.istore_n 3, 1) := by decide +kernel
theorem dX5_takesEntry_37 : decode cX5_takesEntry 37 = .ok (.iload_n 3, 1) := by decide +kernel
theorem dX5_takesEntry_38 : decode cX5_takesEntry 38 = .ok (.iconst (-1), 1) := by decide +kernel
theorem dX5_takesEntry_39 : decode cX5_takesEntry 39 = .ok (.if_icmp .eq 69, 3) := by decide +kernel
theorem dX5_takesEntry_42 : decode cX5_takesEntry 42 = .ok (.aload_n 0, 1) := by decide +kernel
theorem dX5_takesEntry_43 : decode cX5_takesEntry 43 = .ok (.getfield 37, 3) := by decide +kernel
theorem dX5_takesEntry_46 : decode cX5_takesEntry 46 = .ok (.iload_n 3, 1) := by decide +kernel
theorem dX5_takesEntry_47 : decode cX5_takesEntry 47 = .ok (.iaload, 1) := by decide +kernel
theorem dX5_takesEntry_48 : decode cX5_takesEntry 48 = .ok (.bipush 32, 2) := by decide +kernel
theorem dX5_takesEntry_50 : decode cX5_takesEntry 50 = .ok (.idiv, 1) := by decide +kernel
theorem dX5_takesEntry_51 : decode cX5_takesEntry 51 = .ok (.istore 4, 2) := by decide +kernel
theorem dX5_takesEntry_53 : decode cX5_takesEntry 53 = .ok (.aload_n 0, 1) := by decide +kernel
theorem dX5_takesEntry_54 : decode cX5_takesEntry 54 = .ok (.getfield 37, 3) := by decide +kernel
theorem dX5_takesEntry_57 : decode cX5_takesEntry 57 = .ok (.iload_n 3, 1) := by decide +kernel
theorem dX5_takesEntry_58 : decode cX5_takesEntry 58 = .ok (.iaload, 1) := by decide +kernel
theorem dX5_takesEntry_59 : decode cX5_takesEntry 59 = .ok (.bipush 32, 2) := by decide +kernel
theorem dX5_takesEntry_61 : decode cX5_takesEntry 61 = .ok (.irem, 1) := by decide +kernel
theorem dX5_takesEntry_62 : decode cX5_takesEntry 62 = .ok (.istore 5, 2) := by decide +kernel
theorem dX5_takesEntry_64 : decode cX5_takesEntry 64 = .ok (.aload_n 0, 1) := by decide +kernel
theorem dX5_takesEntry_65 : decode cX5_takesEntry 65 = .ok (.aload_n 0, 1) := by decide +kernel
theorem dX5_takesEntry_66 : decode cX5_takesEntry 66 = .ok (.getfield 22, 3) := by decide +kernel
theorem dX5_takesEntry_69 : decode cX5_takesEntry 69 = .ok (.iload 4, 2) := by decide +kernel
theorem dX5_takesEntry_71 : decode cX5_takesEntry 71 = .ok (.iaload, 1) := by decide +kernel
theorem dX5_takesEntry_72 : decode cX5_takesEntry 72 = .ok (.aload_n 0, 1) := by decide +kernel
theorem dX5_takesEntry_73 : decode cX5_takesEntry 73 = .ok (.iload 5, 2) := by decide +kernel
theorem dX5_takesEntry_75 : decode cX5_takesEntry 75 = .ok (.iconst 1, 1) := by decide +kernel
theorem dX5_takesEntry_76 : decode cX5_takesEntry 76 = .ok (.invokevirtual 118, 3) := by decide +kernel
theorem dX5_takesEntry_79 : decode cX5_takesEntry 79 = .ok (.aload_n 0, 1) := by decide +kernel
theorem dX5_takesEntry_80 : decode cX5_takesEntry 80 = .ok (.iload 5, 2) := by decide +kernel
end
section
theorem dX5_takesEntry_82 : decode cX5_takesEntry 82 = .ok (.iconst 2, 1) := by decide +kernel
theorem dX5_takesEntry_83 : decode cX5_takesEntry 83 = .ok (.aload_n 0, 1) := by decide +kernel
theorem dX5_takesEntry_84 : decode cX5_takesEntry 84 = .ok (.getfield 28, 3) := by decide +kernel
theorem dX5_takesEntry_87 : decode cX5_takesEntry 87 = .ok (.iload_n 1, 1) := by decide +kernel
theorem dX5_takesEntry_88 : decode cX5_takesEntry 88 = .ok (.iaload, 1) := by decide +kernel
theorem dX5_takesEntry_89 : decode cX5_takesEntry 89 = .ok (.invokevirtual 124, 3) := by decide +kernel
theorem dX5_takesEntry_92 : decode cX5_takesEntry 92 = .ok (.iload 4, 2) := by decide +kernel
theorem dX5_takesEntry_94 : decode cX5_takesEntry 94 = .ok (.iload_n 1, 1) := by decide +kernel
theorem dX5_takesEntry_95 : decode cX5_takesEntry 95 = .ok (.invokevirtual 172, 3) := by decide +kernel
theorem dX5_takesEntry_98 : decode cX5_takesEntry 98 = .ok (.aload_n 0, 1) := by decide +kernel
theorem dX5_takesEntry_99 : decode cX5_takesEntry 99 = .ok (.getfield 40, 3) := by decide +kernel
theorem dX5_takesEntry_102 : decode cX5_takesEntry 102 = .ok (.iload_n 3, 1) := by decide +kernel
theorem dX5_takesEntry_103 : decode cX5_takesEntry 103 = .ok (.iaload, 1) := by decide +kernel
theorem dX5_takesEntry_104 : decode cX5_takesEntry 104 = .ok (.istore_n 3, 1) := by decide +kernel
theorem dX5_takesEntry_105 : decode cX5_takesEntry 105 = .ok (.goto (-68), 3) := by decide +kernel
theorem dX5_takesEntry_108 : decode cX5_takesEntry 108 = .ok (.return_, 1) := by decide +kernel
theorem dX5_takesEntry_109 : decode cX5_takesEntry 109 = .ok (.iconst 0, 1) := by decide +kernel
theorem dX5_takesEntry_110 : decode cX5_takesEntry 110 = .ok (.istore_n 3, 1) := by decide +kernel
theorem dX5_takesEntry_111 : decode cX5_takesEntry 111 = .ok (.iload_n 3, 1) := by decide +kernel
theorem dX5_takesEntry_112 : decode cX5_takesEntry 112 = .ok (.aload_n 0, 1) := by decide +kernel
theorem dX5_takesEntry_113 : decode cX5_takesEntry 113 = .ok (.getfield 13, 3) := by decide +kernel
theorem dX5_takesEntry_116 : decode cX5_takesEntry 116 = .ok (.iconst 2, 1) := by decide +kernel
theorem dX5_takesEntry_117 : decode cX5_takesEntry 117 = .ok (.iaload, 1) := by decide +kernel
theorem dX5_takesEntry_118 : decode cX5_takesEntry 118 = .ok (.if_icmp .ge 65, 3) := by decide +kernel
theorem dX5_takesEntry_121 : decode cX5_takesEntry 121 = .ok (.aload_n 0, 1) := by decide +kernel
theorem dX5_takesEntry_122 : decode cX5_takesEntry 122 = .ok (.iload_n 3, 1) := by decide +kernel
theorem dX5_takesEntry_123 : decode cX5_takesEntry 123 = .ok (.iconst 0, 1) := by decide +kernel
theorem dX5_takesEntry_124 : decode cX5_takesEntry 124 = .ok (.invokevirtual 118, 3) := by decide +kernel
theorem dX5_takesEntry_127 : decode cX5_takesEntry 127 = .ok (.iload_n 2, 1) := by decide +kernel
theorem dX5_takesEntry_128 : decode cX5_takesEntry 128 = .ok (.if_icmp .ne 49, 3) := by decide +kernel
theorem dX5_takesEntry_131 : decode cX5_takesEntry 131 = .ok (.aload_n 0, 1) := by decide +kernel
theorem dX5_takesEntry_132 : decode cX5_takesEntry 132 = .ok (.iload_n 3, 1) := by decide +kernel
theorem dX5_takesEntry_133 : decode cX5_takesEntry 133 = .ok (.iconst 2, 1) := by decide +kernel
theorem dX5_takesEntry_134 : decode cX5_takesEntry 134 = .ok (.invokevirtual 118, 3) := by decide +kernel
theorem dX5_takesEntry_137 : decode cX5_takesEntry 137 = .ok (.iconst (-1), 1) := by decide +kernel
theorem dX5_takesEntry_138 : decode cX5_takesEntry 138 = .ok (.if_icmp .eq 9, 3) := by decide +kernel
theorem dX5_takesEntry_141 : decode cX5_takesEntry 141 = .ok (.aload_n 0, 1) := by decide +kernel
theorem dX5_takesEntry_142 : decode cX5_takesEntry 142 = .ok (.iload_n 1, 1) := by decide +kernel
theorem dX5_takesEntry_143 : decode cX5_takesEntry 143 = .ok (.iload_n 3, 1) := by decide +kernel
theorem dX5_takesEntry_144 : decode cX5_takesEntry 144 = .ok (.invokevirtual 175, 3) := by decide +kernel
theorem dX5_takesEntry_147 : decode cX5_takesEntry 147 = .ok (.aload_n 0, 1) := by decide +kernel
theorem dX5_takesEntry_148 : decode cX5_takesEntry 148 = .ok (.aload_n 0, 1) := by decide +kernel
theorem dX5_takesEntry_149 : decode cX5_takesEntry 149 = .ok (.getfield 22, 3) := by decide +kernel
theorem dX5_takesEntry_152 : decode cX5_takesEntry 152 = .ok (.iload_n 1, 1) := by decide +kernel
theorem dX5_takesEntry_153 : decode cX5_takesEntry 153 = .ok (.iaload, 1) := by decide +kernel
theorem dX5_takesEntry_154 : decode cX5_takesEntry 154 = .ok (.aload_n 0, 1) := by decide +kernel
theorem dX5_takesEntry_155 : decode cX5_takesEntry 155 = .ok (.iload_n 3, 1) := by decide +kernel
theorem dX5_takesEntry_156 : decode cX5_takesEntry 156 = .ok (.iconst 1, 1) := by decide +kernel
theorem dX5_takesEntry_157 : decode cX5_takesEntry 157 = .ok (.invokevirtual 118, 3) := by decide +kernel
theorem dX5_takesEntry_160 : decode cX5_takesEntry 160 = .ok (.aload_n 0, 1) := by decide +kernel
theorem dX5_takesEntry_161 : decode cX5_takesEntry 161 = .ok (.iload_n 3, 1) := by decide +kernel
theorem dX5_takesEntry_162 : decode cX5_takesEntry 162 = .ok (.iconst 0, 1) := by decide +kernel
theorem dX5_takesEntry_163 : decode cX5_takesEntry 163 = .ok (.aload_n 0, 1) := by decide +kernel
theorem dX5_takesEntry_164 : decode cX5_takesEntry 164 = .ok (.getfield 28, 3) := by decide +kernel
theorem dX5_takesEntry_167 : decode cX5_takesEntry 167 = .ok (.iload_n 1, 1) := by decide +kernel
theorem dX5_takesEntry_168 : decode cX5_takesEntry 168 = .ok (.iaload, 1) := by decide +kernel
theorem dX5_takesEntry_169 : decode cX5_takesEntry 169 = .ok (.invokevirtual 124, 3) := by decide +kernel
theorem dX5_takesEntry_172 : decode cX5_takesEntry 172 = .ok (.iload_n 1, 1) := by decide +kernel
theorem dX5_takesEntry_173 : decode cX5_takesEntry 173 = .ok (.iconst (-1), 1) := by decide +kernel
theorem dX5_takesEntry_174 : decode cX5_takesEntry 174 = .ok (.invokevirtual 172, 3) := by decide +kernel
theorem dX5_takesEntry_177 : decode cX5_takesEntry 177 = .ok (.iinc 3 1, 3) := by decide +kernel
theorem dX5_takesEntry_180 : decode cX5_takesEntry 180 = .ok (.goto (-69), 3) := by decide +kernel
theorem dX5_takesEntry_183 : decode cX5_takesEntry 183 = .ok (.return_, 1) := by decide +kernel
theorem dX5_fills_0 : decode cX5_fills 0 = .ok (.iconst 0, 1) := by decide +kernel
theorem dX5_fills_1 : decode cX5_fills 1 = .ok (.istore_n 1, 1) := by decide +kernel
theorem dX5_fills_2 : decode cX5_fills 2 = .ok (.iload_n 1, 1) := by decide +kernel
theorem dX5_fills_3 : decode cX5_fills 3 = .ok (.aload_n 0, 1) := by decide +kernel
theorem dX5_fills_4 : decode cX5_fills 4 = .ok (.getfield 155, 3) := by decide +kernel
theorem dX5_fills_7 : decode cX5_fills 7 = .ok (.if_icmp .ge 14, 3) := by decide +kernel
theorem dX5_fills_10 : decode cX5_fills 10 = .ok (.aload_n 0, 1) := by decide +kernel
theorem dX5_fills_11 : decode cX5_fills 11 = .ok (.iload_n 1, 1) := by decide +kernel
theorem dX5_fills_12 : decode cX5_fills 12 = .ok (.invokevirtual 179, 3) := by decide +kernel
theorem dX5_fills_15 : decode cX5_fills 15 = .ok (.iinc 1 1, 3) := by decide +kernel
theorem dX5_fills_18 : decode cX5_fills 18 = .ok (.goto (-16), 3) := by decide +kernel
theorem dX5_fills_21 : decode cX5_fills 21 = .ok (.return_, 1) := by decide +kernel
theorem dX5_knows_0 : decode cX5_knows 0 = .ok (.aload_n 0, 1) := by decide +kernel
theorem dX5_knows_1 : decode cX5_knows 1 = .ok (.getfield 77, 3) := by decide +kernel
theorem dX5_knows_4 : decode cX5_knows 4 = .ok (.ifCond .ne 58, 3) := by decide +kernel
theorem dX5_knows_7 : decode cX5_knows 7 = .ok (.aload_n 0, 1) := by decide +kernel
theorem dX5_knows_8 : decode cX5_knows 8 = .ok (.invokevirtual 182, 3) := by decide +kernel
theorem dX5_knows_11 : decode cX5_knows 11 = .ok (.iconst 0, 1) := by decide +kernel
theorem dX5_knows_12 : decode cX5_knows 12 = .ok (.istore_n 1, 1) := by decide +kernel
theorem dX5_knows_13 : decode cX5_knows 13 = .ok (.iload_n 1, 1) := by decide +kernel
theorem dX5_knows_14 : decode cX5_knows 14 = .ok (.bipush 8, 2) := by decide +kernel
theorem dX5_knows_16 : decode cX5_knows 16 = .ok (.if_icmp .ge 37, 3) := by decide +kernel
theorem dX5_knows_19 : decode cX5_knows 19 = .ok (.aload_n 0, 1) := by decide +kernel
theorem dX5_knows_20 : decode cX5_knows 20 = .ok (.getfield 13, 3) := by decide +kernel
theorem dX5_knows_23 : decode cX5_knows 23 = .ok (.iconst 3, 1) := by decide +kernel
theorem dX5_knows_24 : decode cX5_knows 24 = .ok (.iaload, 1) := by decide +kernel
theorem dX5_knows_25 : decode cX5_knows 25 = .ok (.iload_n 1, 1) := by decide +kernel
theorem dX5_knows_26 : decode cX5_knows 26 = .ok (.ishr, 1) := by decide +kernel
theorem dX5_knows_27 : decode cX5_knows 27 = .ok (.iconst 1, 1) := by decide +kernel
theorem dX5_knows_28 : decode cX5_knows 28 = .ok (.iand, 1) := by decide +kernel
theorem dX5_knows_29 : decode cX5_knows 29 = .ok (.iconst 1, 1) := by decide +kernel
theorem dX5_knows_30 : decode cX5_knows 30 = .ok (.if_icmp .ne 17, 3) := by decide +kernel
theorem dX5_knows_33 : decode cX5_knows 33 = .ok (.aload_n 0, 1) := by decide +kernel
theorem dX5_knows_34 : decode cX5_knows 34 = .ok (.iload_n 1, 1) := by decide +kernel
theorem dX5_knows_35 : decode cX5_knows 35 = .ok (.aload_n 0, 1) := by decide +kernel
theorem dX5_knows_36 : decode cX5_knows 36 = .ok (.getfield 13, 3) := by decide +kernel
theorem dX5_knows_39 : decode cX5_knows 39 = .ok (.iconst 4, 1) := by decide +kernel
theorem dX5_knows_40 : decode cX5_knows 40 = .ok (.iaload, 1) := by decide +kernel
theorem dX5_knows_41 : decode cX5_knows 41 = .ok (.iload_n 1, 1) := by decide +kernel
theorem dX5_knows_42 : decode cX5_knows 42 = .ok (.iconst (-1), 1) := by decide +kernel
theorem dX5_knows_43 : decode cX5_knows 43 = .ok (.iconst (-1), 1) := by decide +kernel
theorem dX5_knows_44 : decode cX5_knows 44 = .ok (.invokevirtual 164, 3) := by decide +kernel
theorem dX5_knows_47 : decode cX5_knows 47 = .ok (.iinc 1 1, 3) := by decide +kernel
theorem dX5_knows_50 : decode cX5_knows 50 = .ok (.goto (-37), 3) := by decide +kernel
theorem dX5_knows_53 : decode cX5_knows 53 = .ok (.aload_n 0, 1) := by decide +kernel
theorem dX5_knows_54 : decode cX5_knows 54 = .ok (.invokevirtual 185, 3) := by decide +kernel
theorem dX5_knows_57 : decode cX5_knows 57 = .ok (.aload_n 0, 1) := by decide +kernel
theorem dX5_knows_58 : decode cX5_knows 58 = .ok (.iconst 1, 1) := by decide +kernel
theorem dX5_knows_59 : decode cX5_knows 59 = .ok (.putfield 77, 3) := by decide +kernel
theorem dX5_knows_62 : decode cX5_knows 62 = .ok (.return_, 1) := by decide +kernel
theorem dX5_held_0 : decode cX5_held 0 = .ok (.iconst 0, 1) := by decide +kernel
theorem dX5_held_1 : decode cX5_held 1 = .ok (.istore_n 2, 1) := by decide +kernel
theorem dX5_held_2 : decode cX5_held 2 = .ok (.iconst 0, 1) := by decide +kernel
theorem dX5_held_3 : decode cX5_held 3 = .ok (.istore_n 3, 1) := by decide +kernel
theorem dX5_held_4 : decode cX5_held 4 = .ok (.iload_n 3, 1) := by decide +kernel
theorem dX5_held_5 : decode cX5_held 5 = .ok (.bipush 8, 2) := by decide +kernel
theorem dX5_held_7 : decode cX5_held 7 = .ok (.if_icmp .ge 51, 3) := by decide +kernel
theorem dX5_held_10 : decode cX5_held 10 = .ok (.iconst 0, 1) := by decide +kernel
theorem dX5_held_11 : decode cX5_held 11 = .ok (.istore 4, 2) := by decide +kernel
theorem dX5_held_13 : decode cX5_held 13 = .ok (.iload 4, 2) := by decide +kernel
theorem dX5_held_15 : decode cX5_held 15 = .ok (.bipush 8, 2) := by decide +kernel
theorem dX5_held_17 : decode cX5_held 17 = .ok (.if_icmp .ge 35, 3) := by decide +kernel
theorem dX5_held_20 : decode cX5_held 20 = .ok (.iload_n 2, 1) := by decide +kernel
theorem dX5_held_21 : decode cX5_held 21 = .ok (.aload_n 0, 1) := by decide +kernel
theorem dX5_held_22 : decode cX5_held 22 = .ok (.getfield 19, 3) := by decide +kernel
theorem dX5_held_25 : decode cX5_held 25 = .ok (.iload_n 3, 1) := by decide +kernel
theorem dX5_held_26 : decode cX5_held 26 = .ok (.iload_n 1, 1) := by decide +kernel
theorem dX5_held_27 : decode cX5_held 27 = .ok (.iload 4, 2) := by decide +kernel
theorem dX5_held_29 : decode cX5_held 29 = .ok (.invokestatic 161, 3) := by decide +kernel
theorem dX5_held_32 : decode cX5_held 32 = .ok (.iaload, 1) := by decide +kernel
theorem dX5_held_33 : decode cX5_held 33 = .ok (.ifCond .le 10, 3) := by decide +kernel
theorem dX5_held_36 : decode cX5_held 36 = .ok (.iconst 1, 1) := by decide +kernel
theorem dX5_held_37 : decode cX5_held 37 = .ok (.iload 4, 2) := by decide +kernel
theorem dX5_held_39 : decode cX5_held 39 = .ok (.ishl, 1) := by decide +kernel
theorem dX5_held_40 : decode cX5_held 40 = .ok (.goto 4, 3) := by decide +kernel
theorem dX5_held_43 : decode cX5_held 43 = .ok (.iconst 0, 1) := by decide +kernel
theorem dX5_held_44 : decode cX5_held 44 = .ok (.ior, 1) := by decide +kernel
theorem dX5_held_45 : decode cX5_held 45 = .ok (.istore_n 2, 1) := by decide +kernel
theorem dX5_held_46 : decode cX5_held 46 = .ok (.iinc 4 1, 3) := by decide +kernel
theorem dX5_held_49 : decode cX5_held 49 = .ok (.goto (-36), 3) := by decide +kernel
theorem dX5_held_52 : decode cX5_held 52 = .ok (.iinc 3 1, 3) := by decide +kernel
theorem dX5_held_55 : decode cX5_held 55 = .ok (.goto (-51), 3) := by decide +kernel
theorem dX5_held_58 : decode cX5_held 58 = .ok (.iload_n 2, 1) := by decide +kernel
theorem dX5_held_59 : decode cX5_held 59 = .ok (.ireturn, 1) := by decide +kernel
theorem dX5_countOf_0 : decode cX5_countOf 0 = .ok (.aload_n 0, 1) := by decide +kernel
theorem dX5_countOf_1 : decode cX5_countOf 1 = .ok (.invokevirtual 188, 3) := by decide +kernel
theorem dX5_countOf_4 : decode cX5_countOf 4 = .ok (.iconst 0, 1) := by decide +kernel
theorem dX5_countOf_5 : decode cX5_countOf 5 = .ok (.istore_n 2, 1) := by decide +kernel
theorem dX5_countOf_6 : decode cX5_countOf 6 = .ok (.iconst 0, 1) := by decide +kernel
theorem dX5_countOf_7 : decode cX5_countOf 7 = .ok (.istore_n 3, 1) := by decide +kernel
theorem dX5_countOf_8 : decode cX5_countOf 8 = .ok (.iload_n 3, 1) := by decide +kernel
theorem dX5_countOf_9 : decode cX5_countOf 9 = .ok (.aload_n 0, 1) := by decide +kernel
theorem dX5_countOf_10 : decode cX5_countOf 10 = .ok (.getfield 13, 3) := by decide +kernel
theorem dX5_countOf_13 : decode cX5_countOf 13 = .ok (.iconst 1, 1) := by decide +kernel
theorem dX5_countOf_14 : decode cX5_countOf 14 = .ok (.iaload, 1) := by decide +kernel
theorem dX5_countOf_15 : decode cX5_countOf 15 = .ok (.if_icmp .ge 19, 3) := by decide +kernel
theorem dX5_countOf_18 : decode cX5_countOf 18 = .ok (.iload_n 2, 1) := by decide +kernel
theorem dX5_countOf_19 : decode cX5_countOf 19 = .ok (.aload_n 0, 1) := by decide +kernel
theorem dX5_countOf_20 : decode cX5_countOf 20 = .ok (.iload_n 3, 1) := by decide +kernel
theorem dX5_countOf_21 : decode cX5_countOf 21 = .ok (.invokevirtual 191, 3) := by decide +kernel
theorem dX5_countOf_24 : decode cX5_countOf 24 = .ok (.iconst 1, 1) := by decide +kernel
theorem dX5_countOf_25 : decode cX5_countOf 25 = .ok (.iand, 1) := by decide +kernel
theorem dX5_countOf_26 : decode cX5_countOf 26 = .ok (.iadd, 1) := by decide +kernel
theorem dX5_countOf_27 : decode cX5_countOf 27 = .ok (.istore_n 2, 1) := by decide +kernel
theorem dX5_countOf_28 : decode cX5_countOf 28 = .ok (.iinc 3 1, 3) := by decide +kernel
theorem dX5_countOf_31 : decode cX5_countOf 31 = .ok (.goto (-23), 3) := by decide +kernel
theorem dX5_countOf_34 : decode cX5_countOf 34 = .ok (.iload_n 1, 1) := by decide +kernel
theorem dX5_countOf_35 : decode cX5_countOf 35 = .ok (.iconst 4, 1) := by decide +kernel
theorem dX5_countOf_36 : decode cX5_countOf 36 = .ok (.if_icmp .ge 12, 3) := by decide +kernel
theorem dX5_countOf_39 : decode cX5_countOf 39 = .ok (.aload_n 0, 1) := by decide +kernel
theorem dX5_countOf_40 : decode cX5_countOf 40 = .ok (.getfield 13, 3) := by decide +kernel
theorem dX5_countOf_43 : decode cX5_countOf 43 = .ok (.iload_n 1, 1) := by decide +kernel
theorem dX5_countOf_44 : decode cX5_countOf 44 = .ok (.iaload, 1) := by decide +kernel
theorem dX5_countOf_45 : decode cX5_countOf 45 = .ok (.goto 16, 3) := by decide +kernel
theorem dX5_countOf_48 : decode cX5_countOf 48 = .ok (.iload_n 1, 1) := by decide +kernel
theorem dX5_countOf_49 : decode cX5_countOf 49 = .ok (.iconst 4, 1) := by decide +kernel
theorem dX5_countOf_50 : decode cX5_countOf 50 = .ok (.if_icmp .ne 10, 3) := by decide +kernel
theorem dX5_countOf_53 : decode cX5_countOf 53 = .ok (.aload_n 0, 1) := by decide +kernel
theorem dX5_countOf_54 : decode cX5_countOf 54 = .ok (.getfield 155, 3) := by decide +kernel
theorem dX5_countOf_57 : decode cX5_countOf 57 = .ok (.goto 4, 3) := by decide +kernel
theorem dX5_countOf_60 : decode cX5_countOf 60 = .ok (.iload_n 2, 1) := by decide +kernel
theorem dX5_countOf_61 : decode cX5_countOf 61 = .ok (.ireturn, 1) := by decide +kernel
theorem dX5_count_0 : decode cX5_count 0 = .ok (.iload_n 1, 1) := by decide +kernel
theorem dX5_count_1 : decode cX5_count 1 = .ok (.iconst 0, 1) := by decide +kernel
theorem dX5_count_2 : decode cX5_count 2 = .ok (.iconst 5, 1) := by decide +kernel
theorem dX5_count_3 : decode cX5_count 3 = .ok (.invokestatic 89, 3) := by decide +kernel
theorem dX5_count_6 : decode cX5_count 6 = .ok (.ifCond .eq 11, 3) := by decide +kernel
theorem dX5_count_9 : decode cX5_count 9 = .ok (.aload_n 0, 1) := by decide +kernel
theorem dX5_count_10 : decode cX5_count 10 = .ok (.iload_n 1, 1) := by decide +kernel
theorem dX5_count_11 : decode cX5_count 11 = .ok (.invokevirtual 194, 3) := by decide +kernel
theorem dX5_count_14 : decode cX5_count 14 = .ok (.goto 7, 3) := by decide +kernel
theorem dX5_count_17 : decode cX5_count 17 = .ok (.aload_n 0, 1) := by decide +kernel
theorem dX5_count_18 : decode cX5_count 18 = .ok (.invokevirtual 68, 3) := by decide +kernel
theorem dX5_count_21 : decode cX5_count 21 = .ok (.ireturn, 1) := by decide +kernel
theorem dX5_holdsAt_0 : decode cX5_holdsAt 0 = .ok (.aload_n 0, 1) := by decide +kernel
theorem dX5_holdsAt_1 : decode cX5_holdsAt 1 = .ok (.invokevirtual 188, 3) := by decide +kernel
theorem dX5_holdsAt_4 : decode cX5_holdsAt 4 = .ok (.aload_n 0, 1) := by decide +kernel
theorem dX5_holdsAt_5 : decode cX5_holdsAt 5 = .ok (.iload_n 1, 1) := by decide +kernel
theorem dX5_holdsAt_6 : decode cX5_holdsAt 6 = .ok (.invokevirtual 191, 3) := by decide +kernel
theorem dX5_holdsAt_9 : decode cX5_holdsAt 9 = .ok (.ireturn, 1) := by decide +kernel
theorem dX5_holds_0 : decode cX5_holds 0 = .ok (.aload_n 0, 1) := by decide +kernel
theorem dX5_holds_1 : decode cX5_holds 1 = .ok (.iload_n 1, 1) := by decide +kernel
theorem dX5_holds_2 : decode cX5_holds 2 = .ok (.invokevirtual 101, 3) := by decide +kernel
theorem dX5_holds_5 : decode cX5_holds 5 = .ok (.ifCond .eq 11, 3) := by decide +kernel
theorem dX5_holds_8 : decode cX5_holds 8 = .ok (.aload_n 0, 1) := by decide +kernel
theorem dX5_holds_9 : decode cX5_holds 9 = .ok (.iload_n 1, 1) := by decide +kernel
theorem dX5_holds_10 : decode cX5_holds 10 = .ok (.invokevirtual 197, 3) := by decide +kernel
theorem dX5_holds_13 : decode cX5_holds 13 = .ok (.goto 7, 3) := by decide +kernel
theorem dX5_holds_16 : decode cX5_holds 16 = .ok (.aload_n 0, 1) := by decide +kernel
theorem dX5_holds_17 : decode cX5_holds 17 = .ok (.invokevirtual 68, 3) := by decide +kernel
theorem dX5_holds_20 : decode cX5_holds 20 = .ok (.ireturn, 1) := by decide +kernel
theorem dX5_carried_0 : decode cX5_carried 0 = .ok (.iconst 0, 1) := by decide +kernel
theorem dX5_carried_1 : decode cX5_carried 1 = .ok (.istore 4, 2) := by decide +kernel
theorem dX5_carried_3 : decode cX5_carried 3 = .ok (.iconst 0, 1) := by decide +kernel
theorem dX5_carried_4 : decode cX5_carried 4 = .ok (.istore 5, 2) := by decide +kernel
theorem dX5_carried_6 : decode cX5_carried 6 = .ok (.iload 5, 2) := by decide +kernel
theorem dX5_carried_8 : decode cX5_carried 8 = .ok (.bipush 8, 2) := by decide +kernel
theorem dX5_carried_10 : decode cX5_carried 10 = .ok (.if_icmp .ge 36, 3) := by decide +kernel
theorem dX5_carried_13 : decode cX5_carried 13 = .ok (.iload 4, 2) := by decide +kernel
theorem dX5_carried_15 : decode cX5_carried 15 = .ok (.iload_n 3, 1) := by decide +kernel
theorem dX5_carried_16 : decode cX5_carried 16 = .ok (.iload 5, 2) := by decide +kernel
theorem dX5_carried_18 : decode cX5_carried 18 = .ok (.ishr, 1) := by decide +kernel
theorem dX5_carried_19 : decode cX5_carried 19 = .ok (.iconst 1, 1) := by decide +kernel
theorem dX5_carried_20 : decode cX5_carried 20 = .ok (.iand, 1) := by decide +kernel
theorem dX5_carried_21 : decode cX5_carried 21 = .ok (.iconst 1, 1) := by decide +kernel
theorem dX5_carried_22 : decode cX5_carried 22 = .ok (.if_icmp .ne 14, 3) := by decide +kernel
theorem dX5_carried_25 : decode cX5_carried 25 = .ok (.aload_n 0, 1) := by decide +kernel
theorem dX5_carried_26 : decode cX5_carried 26 = .ok (.iload_n 1, 1) := by decide +kernel
theorem dX5_carried_27 : decode cX5_carried 27 = .ok (.iload_n 2, 1) := by decide +kernel
theorem dX5_carried_28 : decode cX5_carried 28 = .ok (.iload 5, 2) := by decide +kernel
theorem dX5_carried_30 : decode cX5_carried 30 = .ok (.invokevirtual 124, 3) := by decide +kernel
theorem dX5_carried_33 : decode cX5_carried 33 = .ok (.goto 4, 3) := by decide +kernel
theorem dX5_carried_36 : decode cX5_carried 36 = .ok (.iconst 0, 1) := by decide +kernel
theorem dX5_carried_37 : decode cX5_carried 37 = .ok (.ior, 1) := by decide +kernel
theorem dX5_carried_38 : decode cX5_carried 38 = .ok (.istore 4, 2) := by decide +kernel
theorem dX5_carried_40 : decode cX5_carried 40 = .ok (.iinc 5 1, 3) := by decide +kernel
theorem dX5_carried_43 : decode cX5_carried 43 = .ok (.goto (-37), 3) := by decide +kernel
theorem dX5_carried_46 : decode cX5_carried 46 = .ok (.iload 4, 2) := by decide +kernel
theorem dX5_carried_48 : decode cX5_carried 48 = .ok (.ireturn, 1) := by decide +kernel
theorem dX5_loosens_0 : decode cX5_loosens 0 = .ok (.iconst 0, 1) := by decide +kernel
theorem dX5_loosens_1 : decode cX5_loosens 1 = .ok (.istore_n 1, 1) := by decide +kernel
theorem dX5_loosens_2 : decode cX5_loosens 2 = .ok (.iload_n 1, 1) := by decide +kernel
theorem dX5_loosens_3 : decode cX5_loosens 3 = .ok (.bipush 24, 2) := by decide +kernel
theorem dX5_loosens_5 : decode cX5_loosens 5 = .ok (.if_icmp .ge 16, 3) := by decide +kernel
theorem dX5_loosens_8 : decode cX5_loosens 8 = .ok (.aload_n 0, 1) := by decide +kernel
theorem dX5_loosens_9 : decode cX5_loosens 9 = .ok (.getfield 49, 3) := by decide +kernel
theorem dX5_loosens_12 : decode cX5_loosens 12 = .ok (.iload_n 1, 1) := by decide +kernel
theorem dX5_loosens_13 : decode cX5_loosens 13 = .ok (.iconst 0, 1) := by decide +kernel
theorem dX5_loosens_14 : decode cX5_loosens 14 = .ok (.iastore, 1) := by decide +kernel
theorem dX5_loosens_15 : decode cX5_loosens 15 = .ok (.iinc 1 1, 3) := by decide +kernel
theorem dX5_loosens_18 : decode cX5_loosens 18 = .ok (.goto (-16), 3) := by decide +kernel
theorem dX5_loosens_21 : decode cX5_loosens 21 = .ok (.aload_n 0, 1) := by decide +kernel
theorem dX5_loosens_22 : decode cX5_loosens 22 = .ok (.getfield 49, 3) := by decide +kernel
theorem dX5_loosens_25 : decode cX5_loosens 25 = .ok (.aload_n 0, 1) := by decide +kernel
theorem dX5_loosens_26 : decode cX5_loosens 26 = .ok (.getfield 13, 3) := by decide +kernel
theorem dX5_loosens_29 : decode cX5_loosens 29 = .ok (.iconst 4, 1) := by decide +kernel
theorem dX5_loosens_30 : decode cX5_loosens 30 = .ok (.iaload, 1) := by decide +kernel
theorem dX5_loosens_31 : decode cX5_loosens 31 = .ok (.aload_n 0, 1) := by decide +kernel
theorem dX5_loosens_32 : decode cX5_loosens 32 = .ok (.getfield 13, 3) := by decide +kernel
theorem dX5_loosens_35 : decode cX5_loosens 35 = .ok (.iconst 3, 1) := by decide +kernel
theorem dX5_loosens_36 : decode cX5_loosens 36 = .ok (.iaload, 1) := by decide +kernel
theorem dX5_loosens_37 : decode cX5_loosens 37 = .ok (.iastore, 1) := by decide +kernel
theorem dX5_loosens_38 : decode cX5_loosens 38 = .ok (.iconst 1, 1) := by decide +kernel
theorem dX5_loosens_39 : decode cX5_loosens 39 = .ok (.istore_n 1, 1) := by decide +kernel
theorem dX5_loosens_40 : decode cX5_loosens 40 = .ok (.iload_n 1, 1) := by decide +kernel
theorem dX5_loosens_41 : decode cX5_loosens 41 = .ok (.ifCond .eq 203, 3) := by decide +kernel
theorem dX5_loosens_44 : decode cX5_loosens 44 = .ok (.iconst 0, 1) := by decide +kernel
theorem dX5_loosens_45 : decode cX5_loosens 45 = .ok (.istore_n 1, 1) := by decide +kernel
theorem dX5_loosens_46 : decode cX5_loosens 46 = .ok (.iconst 0, 1) := by decide +kernel
theorem dX5_loosens_47 : decode cX5_loosens 47 = .ok (.istore_n 2, 1) := by decide +kernel
theorem dX5_loosens_48 : decode cX5_loosens 48 = .ok (.iload_n 2, 1) := by decide +kernel
theorem dX5_loosens_49 : decode cX5_loosens 49 = .ok (.aload_n 0, 1) := by decide +kernel
theorem dX5_loosens_50 : decode cX5_loosens 50 = .ok (.getfield 13, 3) := by decide +kernel
theorem dX5_loosens_53 : decode cX5_loosens 53 = .ok (.iconst 2, 1) := by decide +kernel
theorem dX5_loosens_54 : decode cX5_loosens 54 = .ok (.iaload, 1) := by decide +kernel
theorem dX5_loosens_55 : decode cX5_loosens 55 = .ok (.if_icmp .ge 186, 3) := by decide +kernel
theorem dX5_loosens_58 : decode cX5_loosens 58 = .ok (.aload_n 0, 1) := by decide +kernel
theorem dX5_loosens_59 : decode cX5_loosens 59 = .ok (.iload_n 2, 1) := by decide +kernel
theorem dX5_loosens_60 : decode cX5_loosens 60 = .ok (.iconst 0, 1) := by decide +kernel
theorem dX5_loosens_61 : decode cX5_loosens 61 = .ok (.invokevirtual 118, 3) := by decide +kernel
theorem dX5_loosens_64 : decode cX5_loosens 64 = .ok (.istore_n 3, 1) := by decide +kernel
theorem dX5_loosens_65 : decode cX5_loosens 65 = .ok (.aload_n 0, 1) := by decide +kernel
theorem dX5_loosens_66 : decode cX5_loosens 66 = .ok (.iload_n 2, 1) := by decide +kernel
theorem dX5_loosens_67 : decode cX5_loosens 67 = .ok (.iconst 1, 1) := by decide +kernel
theorem dX5_loosens_68 : decode cX5_loosens 68 = .ok (.invokevirtual 118, 3) := by decide +kernel
theorem dX5_loosens_71 : decode cX5_loosens 71 = .ok (.istore 4, 2) := by decide +kernel
theorem dX5_loosens_73 : decode cX5_loosens 73 = .ok (.aload_n 0, 1) := by decide +kernel
theorem dX5_loosens_74 : decode cX5_loosens 74 = .ok (.iload_n 2, 1) := by decide +kernel
theorem dX5_loosens_75 : decode cX5_loosens 75 = .ok (.iconst 2, 1) := by decide +kernel
theorem dX5_loosens_76 : decode cX5_loosens 76 = .ok (.invokevirtual 118, 3) := by decide +kernel
theorem dX5_loosens_79 : decode cX5_loosens 79 = .ok (.istore 5, 2) := by decide +kernel
theorem dX5_loosens_81 : decode cX5_loosens 81 = .ok (.aload_n 0, 1) := by decide +kernel
theorem dX5_loosens_82 : decode cX5_loosens 82 = .ok (.getfield 49, 3) := by decide +kernel
theorem dX5_loosens_85 : decode cX5_loosens 85 = .ok (.iload 4, 2) := by decide +kernel
theorem dX5_loosens_87 : decode cX5_loosens 87 = .ok (.iaload, 1) := by decide +kernel
theorem dX5_loosens_88 : decode cX5_loosens 88 = .ok (.aload_n 0, 1) := by decide +kernel
theorem dX5_loosens_89 : decode cX5_loosens 89 = .ok (.iload_n 2, 1) := by decide +kernel
theorem dX5_loosens_90 : decode cX5_loosens 90 = .ok (.iconst 0, 1) := by decide +kernel
theorem dX5_loosens_91 : decode cX5_loosens 91 = .ok (.aload_n 0, 1) := by decide +kernel
theorem dX5_loosens_92 : decode cX5_loosens 92 = .ok (.getfield 49, 3) := by decide +kernel
theorem dX5_loosens_95 : decode cX5_loosens 95 = .ok (.iload_n 3, 1) := by decide +kernel
theorem dX5_loosens_96 : decode cX5_loosens 96 = .ok (.iaload, 1) := by decide +kernel
theorem dX5_loosens_97 : decode cX5_loosens 97 = .ok (.invokevirtual 200, 3) := by decide +kernel
theorem dX5_loosens_100 : decode cX5_loosens 100 = .ok (.ior, 1) := by decide +kernel
theorem dX5_loosens_101 : decode cX5_loosens 101 = .ok (.istore 6, 2) := by decide +kernel
theorem dX5_loosens_103 : decode cX5_loosens 103 = .ok (.iload 5, 2) := by decide +kernel
theorem dX5_loosens_105 : decode cX5_loosens 105 = .ok (.iconst (-1), 1) := by decide +kernel
theorem dX5_loosens_106 : decode cX5_loosens 106 = .ok (.if_icmp .eq 98, 3) := by decide +kernel
theorem dX5_loosens_109 : decode cX5_loosens 109 = .ok (.iload 6, 2) := by decide +kernel
theorem dX5_loosens_111 : decode cX5_loosens 111 = .ok (.aload_n 0, 1) := by decide +kernel
theorem dX5_loosens_112 : decode cX5_loosens 112 = .ok (.iload_n 2, 1) := by decide +kernel
theorem dX5_loosens_113 : decode cX5_loosens 113 = .ok (.iconst 2, 1) := by decide +kernel
theorem dX5_loosens_114 : decode cX5_loosens 114 = .ok (.aload_n 0, 1) := by decide +kernel
theorem dX5_loosens_115 : decode cX5_loosens 115 = .ok (.getfield 49, 3) := by decide +kernel
theorem dX5_loosens_118 : decode cX5_loosens 118 = .ok (.aload_n 0, 1) := by decide +kernel
theorem dX5_loosens_119 : decode cX5_loosens 119 = .ok (.getfield 13, 3) := by decide +kernel
theorem dX5_loosens_122 : decode cX5_loosens 122 = .ok (.iconst 4, 1) := by decide +kernel
theorem dX5_loosens_123 : decode cX5_loosens 123 = .ok (.iconst 2, 1) := by decide +kernel
theorem dX5_loosens_124 : decode cX5_loosens 124 = .ok (.iload 5, 2) := by decide +kernel
theorem dX5_loosens_126 : decode cX5_loosens 126 = .ok (.imul, 1) := by decide +kernel
theorem dX5_loosens_127 : decode cX5_loosens 127 = .ok (.iadd, 1) := by decide +kernel
theorem dX5_loosens_128 : decode cX5_loosens 128 = .ok (.iconst 1, 1) := by decide +kernel
theorem dX5_loosens_129 : decode cX5_loosens 129 = .ok (.iadd, 1) := by decide +kernel
theorem dX5_loosens_130 : decode cX5_loosens 130 = .ok (.iaload, 1) := by decide +kernel
theorem dX5_loosens_131 : decode cX5_loosens 131 = .ok (.iaload, 1) := by decide +kernel
theorem dX5_loosens_132 : decode cX5_loosens 132 = .ok (.invokevirtual 200, 3) := by decide +kernel
theorem dX5_loosens_135 : decode cX5_loosens 135 = .ok (.ior, 1) := by decide +kernel
theorem dX5_loosens_136 : decode cX5_loosens 136 = .ok (.istore 6, 2) := by decide +kernel
theorem dX5_loosens_138 : decode cX5_loosens 138 = .ok (.aload_n 0, 1) := by decide +kernel
theorem dX5_loosens_139 : decode cX5_loosens 139 = .ok (.getfield 13, 3) := by decide +kernel
theorem dX5_loosens_142 : decode cX5_loosens 142 = .ok (.iconst 4, 1) := by decide +kernel
theorem dX5_loosens_143 : decode cX5_loosens 143 = .ok (.iconst 2, 1) := by decide +kernel
theorem dX5_loosens_144 : decode cX5_loosens 144 = .ok (.iload 5, 2) := by decide +kernel
theorem dX5_loosens_146 : decode cX5_loosens 146 = .ok (.imul, 1) := by decide +kernel
theorem dX5_loosens_147 : decode cX5_loosens 147 = .ok (.iadd, 1) := by decide +kernel
theorem dX5_loosens_148 : decode cX5_loosens 148 = .ok (.iaload, 1) := by decide +kernel
theorem dX5_loosens_149 : decode cX5_loosens 149 = .ok (.istore 7, 2) := by decide +kernel
theorem dX5_loosens_151 : decode cX5_loosens 151 = .ok (.aload_n 0, 1) := by decide +kernel
theorem dX5_loosens_152 : decode cX5_loosens 152 = .ok (.getfield 49, 3) := by decide +kernel
theorem dX5_loosens_155 : decode cX5_loosens 155 = .ok (.iload 7, 2) := by decide +kernel
theorem dX5_loosens_157 : decode cX5_loosens 157 = .ok (.iaload, 1) := by decide +kernel
theorem dX5_loosens_158 : decode cX5_loosens 158 = .ok (.aload_n 0, 1) := by decide +kernel
theorem dX5_loosens_159 : decode cX5_loosens 159 = .ok (.iload_n 2, 1) := by decide +kernel
theorem dX5_loosens_160 : decode cX5_loosens 160 = .ok (.iconst 1, 1) := by decide +kernel
theorem dX5_loosens_161 : decode cX5_loosens 161 = .ok (.aload_n 0, 1) := by decide +kernel
theorem dX5_loosens_162 : decode cX5_loosens 162 = .ok (.getfield 49, 3) := by decide +kernel
theorem dX5_loosens_165 : decode cX5_loosens 165 = .ok (.iload_n 3, 1) := by decide +kernel
theorem dX5_loosens_166 : decode cX5_loosens 166 = .ok (.iaload, 1) := by decide +kernel
theorem dX5_loosens_167 : decode cX5_loosens 167 = .ok (.invokevirtual 200, 3) := by decide +kernel
theorem dX5_loosens_170 : decode cX5_loosens 170 = .ok (.ior, 1) := by decide +kernel
theorem dX5_loosens_171 : decode cX5_loosens 171 = .ok (.istore 8, 2) := by decide +kernel
theorem dX5_loosens_173 : decode cX5_loosens 173 = .ok (.iload_n 1, 1) := by decide +kernel
theorem dX5_loosens_174 : decode cX5_loosens 174 = .ok (.ifCond .ne 15, 3) := by decide +kernel
theorem dX5_loosens_177 : decode cX5_loosens 177 = .ok (.iload 8, 2) := by decide +kernel
theorem dX5_loosens_179 : decode cX5_loosens 179 = .ok (.aload_n 0, 1) := by decide +kernel
theorem dX5_loosens_180 : decode cX5_loosens 180 = .ok (.getfield 49, 3) := by decide +kernel
theorem dX5_loosens_183 : decode cX5_loosens 183 = .ok (.iload 7, 2) := by decide +kernel
theorem dX5_loosens_185 : decode cX5_loosens 185 = .ok (.iaload, 1) := by decide +kernel
theorem dX5_loosens_186 : decode cX5_loosens 186 = .ok (.if_icmp .eq 7, 3) := by decide +kernel
theorem dX5_loosens_189 : decode cX5_loosens 189 = .ok (.iconst 1, 1) := by decide +kernel
theorem dX5_loosens_190 : decode cX5_loosens 190 = .ok (.goto 4, 3) := by decide +kernel
theorem dX5_loosens_193 : decode cX5_loosens 193 = .ok (.iconst 0, 1) := by decide +kernel
theorem dX5_loosens_194 : decode cX5_loosens 194 = .ok (.istore_n 1, 1) := by decide +kernel
theorem dX5_loosens_195 : decode cX5_loosens 195 = .ok (.aload_n 0, 1) := by decide +kernel
theorem dX5_loosens_196 : decode cX5_loosens 196 = .ok (.getfield 49, 3) := by decide +kernel
theorem dX5_loosens_199 : decode cX5_loosens 199 = .ok (.iload 7, 2) := by decide +kernel
theorem dX5_loosens_201 : decode cX5_loosens 201 = .ok (.iload 8, 2) := by decide +kernel
theorem dX5_loosens_203 : decode cX5_loosens 203 = .ok (.iastore, 1) := by decide +kernel
theorem dX5_loosens_204 : decode cX5_loosens 204 = .ok (.iload_n 1, 1) := by decide +kernel
theorem dX5_loosens_205 : decode cX5_loosens 205 = .ok (.ifCond .ne 15, 3) := by decide +kernel
theorem dX5_loosens_208 : decode cX5_loosens 208 = .ok (.iload 6, 2) := by decide +kernel
theorem dX5_loosens_210 : decode cX5_loosens 210 = .ok (.aload_n 0, 1) := by decide +kernel
theorem dX5_loosens_211 : decode cX5_loosens 211 = .ok (.getfield 49, 3) := by decide +kernel
theorem dX5_loosens_214 : decode cX5_loosens 214 = .ok (.iload 4, 2) := by decide +kernel
theorem dX5_loosens_216 : decode cX5_loosens 216 = .ok (.iaload, 1) := by decide +kernel
theorem dX5_loosens_217 : decode cX5_loosens 217 = .ok (.if_icmp .eq 7, 3) := by decide +kernel
theorem dX5_loosens_220 : decode cX5_loosens 220 = .ok (.iconst 1, 1) := by decide +kernel
theorem dX5_loosens_221 : decode cX5_loosens 221 = .ok (.goto 4, 3) := by decide +kernel
theorem dX5_loosens_224 : decode cX5_loosens 224 = .ok (.iconst 0, 1) := by decide +kernel
theorem dX5_loosens_225 : decode cX5_loosens 225 = .ok (.istore_n 1, 1) := by decide +kernel
theorem dX5_loosens_226 : decode cX5_loosens 226 = .ok (.aload_n 0, 1) := by decide +kernel
theorem dX5_loosens_227 : decode cX5_loosens 227 = .ok (.getfield 49, 3) := by decide +kernel
theorem dX5_loosens_230 : decode cX5_loosens 230 = .ok (.iload 4, 2) := by decide +kernel
theorem dX5_loosens_232 : decode cX5_loosens 232 = .ok (.iload 6, 2) := by decide +kernel
theorem dX5_loosens_234 : decode cX5_loosens 234 = .ok (.iastore, 1) := by decide +kernel
theorem dX5_loosens_235 : decode cX5_loosens 235 = .ok (.iinc 2 1, 3) := by decide +kernel
theorem dX5_loosens_238 : decode cX5_loosens 238 = .ok (.goto (-190), 3) := by decide +kernel
theorem dX5_loosens_241 : decode cX5_loosens 241 = .ok (.goto (-201), 3) := by decide +kernel
theorem dX5_loosens_244 : decode cX5_loosens 244 = .ok (.return_, 1) := by decide +kernel
theorem dX5_looseAt_0 : decode cX5_looseAt 0 = .ok (.aload_n 0, 1) := by decide +kernel
theorem dX5_looseAt_1 : decode cX5_looseAt 1 = .ok (.invokevirtual 203, 3) := by decide +kernel
theorem dX5_looseAt_4 : decode cX5_looseAt 4 = .ok (.aload_n 0, 1) := by decide +kernel
theorem dX5_looseAt_5 : decode cX5_looseAt 5 = .ok (.getfield 49, 3) := by decide +kernel
theorem dX5_looseAt_8 : decode cX5_looseAt 8 = .ok (.iload_n 1, 1) := by decide +kernel
theorem dX5_looseAt_9 : decode cX5_looseAt 9 = .ok (.iaload, 1) := by decide +kernel
theorem dX5_looseAt_10 : decode cX5_looseAt 10 = .ok (.ireturn, 1) := by decide +kernel
theorem dX5_loose_0 : decode cX5_loose 0 = .ok (.aload_n 0, 1) := by decide +kernel
theorem dX5_loose_1 : decode cX5_loose 1 = .ok (.iload_n 1, 1) := by decide +kernel
theorem dX5_loose_2 : decode cX5_loose 2 = .ok (.invokevirtual 101, 3) := by decide +kernel
theorem dX5_loose_5 : decode cX5_loose 5 = .ok (.ifCond .eq 11, 3) := by decide +kernel
theorem dX5_loose_8 : decode cX5_loose 8 = .ok (.aload_n 0, 1) := by decide +kernel
theorem dX5_loose_9 : decode cX5_loose 9 = .ok (.iload_n 1, 1) := by decide +kernel
theorem dX5_loose_10 : decode cX5_loose 10 = .ok (.invokevirtual 206, 3) := by decide +kernel
theorem dX5_loose_13 : decode cX5_loose 13 = .ok (.goto 7, 3) := by decide +kernel
theorem dX5_loose_16 : decode cX5_loose 16 = .ok (.aload_n 0, 1) := by decide +kernel
theorem dX5_loose_17 : decode cX5_loose 17 = .ok (.invokevirtual 68, 3) := by decide +kernel
theorem dX5_loose_20 : decode cX5_loose 20 = .ok (.ireturn, 1) := by decide +kernel
theorem dX5_origins_0 : decode cX5_origins 0 = .ok (.aload_n 0, 1) := by decide +kernel
theorem dX5_origins_1 : decode cX5_origins 1 = .ok (.iload_n 1, 1) := by decide +kernel
theorem dX5_origins_2 : decode cX5_origins 2 = .ok (.invokevirtual 101, 3) := by decide +kernel
theorem dX5_origins_5 : decode cX5_origins 5 = .ok (.ifCond .eq 13, 3) := by decide +kernel
theorem dX5_origins_8 : decode cX5_origins 8 = .ok (.iload_n 2, 1) := by decide +kernel
theorem dX5_origins_9 : decode cX5_origins 9 = .ok (.iconst 0, 1) := by decide +kernel
theorem dX5_origins_10 : decode cX5_origins 10 = .ok (.bipush 7, 2) := by decide +kernel
theorem dX5_origins_12 : decode cX5_origins 12 = .ok (.invokestatic 89, 3) := by decide +kernel
theorem dX5_origins_15 : decode cX5_origins 15 = .ok (.ifCond .ne 8, 3) := by decide +kernel
theorem dX5_origins_18 : decode cX5_origins 18 = .ok (.aload_n 0, 1) := by decide +kernel
theorem dX5_origins_19 : decode cX5_origins 19 = .ok (.invokevirtual 68, 3) := by decide +kernel
theorem dX5_origins_22 : decode cX5_origins 22 = .ok (.ireturn, 1) := by decide +kernel
theorem dX5_origins_23 : decode cX5_origins 23 = .ok (.iconst 0, 1) := by decide +kernel
theorem dX5_origins_24 : decode cX5_origins 24 = .ok (.istore_n 3, 1) := by decide +kernel
theorem dX5_origins_25 : decode cX5_origins 25 = .ok (.iconst 0, 1) := by decide +kernel
theorem dX5_origins_26 : decode cX5_origins 26 = .ok (.istore 4, 2) := by decide +kernel
theorem dX5_origins_28 : decode cX5_origins 28 = .ok (.iload 4, 2) := by decide +kernel
theorem dX5_origins_30 : decode cX5_origins 30 = .ok (.bipush 8, 2) := by decide +kernel
theorem dX5_origins_32 : decode cX5_origins 32 = .ok (.if_icmp .ge 57, 3) := by decide +kernel
theorem dX5_origins_35 : decode cX5_origins 35 = .ok (.aload_n 0, 1) := by decide +kernel
theorem dX5_origins_36 : decode cX5_origins 36 = .ok (.invokevirtual 182, 3) := by decide +kernel
theorem dX5_origins_39 : decode cX5_origins 39 = .ok (.aload_n 0, 1) := by decide +kernel
theorem dX5_origins_40 : decode cX5_origins 40 = .ok (.iload 4, 2) := by decide +kernel
theorem dX5_origins_42 : decode cX5_origins 42 = .ok (.aload_n 0, 1) := by decide +kernel
theorem dX5_origins_43 : decode cX5_origins 43 = .ok (.getfield 13, 3) := by decide +kernel
theorem dX5_origins_46 : decode cX5_origins 46 = .ok (.iconst 4, 1) := by decide +kernel
theorem dX5_origins_47 : decode cX5_origins 47 = .ok (.iaload, 1) := by decide +kernel
theorem dX5_origins_48 : decode cX5_origins 48 = .ok (.iload 4, 2) := by decide +kernel
theorem dX5_origins_50 : decode cX5_origins 50 = .ok (.iconst (-1), 1) := by decide +kernel
theorem dX5_origins_51 : decode cX5_origins 51 = .ok (.iconst (-1), 1) := by decide +kernel
theorem dX5_origins_52 : decode cX5_origins 52 = .ok (.invokevirtual 164, 3) := by decide +kernel
theorem dX5_origins_55 : decode cX5_origins 55 = .ok (.aload_n 0, 1) := by decide +kernel
theorem dX5_origins_56 : decode cX5_origins 56 = .ok (.invokevirtual 185, 3) := by decide +kernel
theorem dX5_origins_59 : decode cX5_origins 59 = .ok (.iload_n 3, 1) := by decide +kernel
theorem dX5_origins_60 : decode cX5_origins 60 = .ok (.aload_n 0, 1) := by decide +kernel
theorem dX5_origins_61 : decode cX5_origins 61 = .ok (.iload_n 1, 1) := by decide +kernel
theorem dX5_origins_62 : decode cX5_origins 62 = .ok (.invokevirtual 191, 3) := by decide +kernel
theorem dX5_origins_65 : decode cX5_origins 65 = .ok (.iload_n 2, 1) := by decide +kernel
theorem dX5_origins_66 : decode cX5_origins 66 = .ok (.ishr, 1) := by decide +kernel
theorem dX5_origins_67 : decode cX5_origins 67 = .ok (.iconst 1, 1) := by decide +kernel
theorem dX5_origins_68 : decode cX5_origins 68 = .ok (.iand, 1) := by decide +kernel
theorem dX5_origins_69 : decode cX5_origins 69 = .ok (.iconst 1, 1) := by decide +kernel
theorem dX5_origins_70 : decode cX5_origins 70 = .ok (.if_icmp .ne 10, 3) := by decide +kernel
theorem dX5_origins_73 : decode cX5_origins 73 = .ok (.iconst 1, 1) := by decide +kernel
theorem dX5_origins_74 : decode cX5_origins 74 = .ok (.iload 4, 2) := by decide +kernel
theorem dX5_origins_76 : decode cX5_origins 76 = .ok (.ishl, 1) := by decide +kernel
theorem dX5_origins_77 : decode cX5_origins 77 = .ok (.goto 4, 3) := by decide +kernel
theorem dX5_origins_80 : decode cX5_origins 80 = .ok (.iconst 0, 1) := by decide +kernel
theorem dX5_origins_81 : decode cX5_origins 81 = .ok (.ior, 1) := by decide +kernel
theorem dX5_origins_82 : decode cX5_origins 82 = .ok (.istore_n 3, 1) := by decide +kernel
theorem dX5_origins_83 : decode cX5_origins 83 = .ok (.iinc 4 1, 3) := by decide +kernel
theorem dX5_origins_86 : decode cX5_origins 86 = .ok (.goto (-58), 3) := by decide +kernel
theorem dX5_origins_89 : decode cX5_origins 89 = .ok (.aload_n 0, 1) := by decide +kernel
theorem dX5_origins_90 : decode cX5_origins 90 = .ok (.iconst 0, 1) := by decide +kernel
theorem dX5_origins_91 : decode cX5_origins 91 = .ok (.putfield 77, 3) := by decide +kernel
theorem dX5_origins_94 : decode cX5_origins 94 = .ok (.iload_n 3, 1) := by decide +kernel
theorem dX5_origins_95 : decode cX5_origins 95 = .ok (.ireturn, 1) := by decide +kernel
theorem dX5_summary_0 : decode cX5_summary 0 = .ok (.aload_n 0, 1) := by decide +kernel
theorem dX5_summary_1 : decode cX5_summary 1 = .ok (.iload_n 1, 1) := by decide +kernel
theorem dX5_summary_2 : decode cX5_summary 2 = .ok (.invokevirtual 115, 3) := by decide +kernel
theorem dX5_summary_5 : decode cX5_summary 5 = .ok (.ifCond .eq 13, 3) := by decide +kernel
theorem dX5_summary_8 : decode cX5_summary 8 = .ok (.iload_n 2, 1) := by decide +kernel
theorem dX5_summary_9 : decode cX5_summary 9 = .ok (.iconst 0, 1) := by decide +kernel
theorem dX5_summary_10 : decode cX5_summary 10 = .ok (.bipush 7, 2) := by decide +kernel
theorem dX5_summary_12 : decode cX5_summary 12 = .ok (.invokestatic 89, 3) := by decide +kernel
theorem dX5_summary_15 : decode cX5_summary 15 = .ok (.ifCond .ne 8, 3) := by decide +kernel
theorem dX5_summary_18 : decode cX5_summary 18 = .ok (.aload_n 0, 1) := by decide +kernel
theorem dX5_summary_19 : decode cX5_summary 19 = .ok (.invokevirtual 68, 3) := by decide +kernel
theorem dX5_summary_22 : decode cX5_summary 22 = .ok (.ireturn, 1) := by decide +kernel
theorem dX5_summary_23 : decode cX5_summary 23 = .ok (.aload_n 0, 1) := by decide +kernel
theorem dX5_summary_24 : decode cX5_summary 24 = .ok (.iload_n 1, 1) := by decide +kernel
theorem dX5_summary_25 : decode cX5_summary 25 = .ok (.iconst 2, 1) := by decide +kernel
theorem dX5_summary_26 : decode cX5_summary 26 = .ok (.invokevirtual 118, 3) := by decide +kernel
theorem dX5_summary_29 : decode cX5_summary 29 = .ok (.istore_n 3, 1) := by decide +kernel
theorem dX5_summary_30 : decode cX5_summary 30 = .ok (.iload_n 3, 1) := by decide +kernel
theorem dX5_summary_31 : decode cX5_summary 31 = .ok (.iconst (-1), 1) := by decide +kernel
theorem dX5_summary_32 : decode cX5_summary 32 = .ok (.if_icmp .ne 8, 3) := by decide +kernel
theorem dX5_summary_35 : decode cX5_summary 35 = .ok (.aload_n 0, 1) := by decide +kernel
theorem dX5_summary_36 : decode cX5_summary 36 = .ok (.invokevirtual 71, 3) := by decide +kernel
theorem dX5_summary_39 : decode cX5_summary 39 = .ok (.ireturn, 1) := by decide +kernel
theorem dX5_summary_40 : decode cX5_summary 40 = .ok (.aload_n 0, 1) := by decide +kernel
theorem dX5_summary_41 : decode cX5_summary 41 = .ok (.invokevirtual 182, 3) := by decide +kernel
theorem dX5_summary_44 : decode cX5_summary 44 = .ok (.iconst 0, 1) := by decide +kernel
theorem dX5_summary_45 : decode cX5_summary 45 = .ok (.istore 4, 2) := by decide +kernel
theorem dX5_summary_47 : decode cX5_summary 47 = .ok (.iload 4, 2) := by decide +kernel
theorem dX5_summary_49 : decode cX5_summary 49 = .ok (.bipush 8, 2) := by decide +kernel
theorem dX5_summary_51 : decode cX5_summary 51 = .ok (.if_icmp .ge 45, 3) := by decide +kernel
theorem dX5_summary_54 : decode cX5_summary 54 = .ok (.aload_n 0, 1) := by decide +kernel
theorem dX5_summary_55 : decode cX5_summary 55 = .ok (.iload_n 1, 1) := by decide +kernel
theorem dX5_summary_56 : decode cX5_summary 56 = .ok (.iconst 1, 1) := by decide +kernel
theorem dX5_summary_57 : decode cX5_summary 57 = .ok (.iload_n 2, 1) := by decide +kernel
theorem dX5_summary_58 : decode cX5_summary 58 = .ok (.invokevirtual 124, 3) := by decide +kernel
theorem dX5_summary_61 : decode cX5_summary 61 = .ok (.iload 4, 2) := by decide +kernel
theorem dX5_summary_63 : decode cX5_summary 63 = .ok (.ishr, 1) := by decide +kernel
theorem dX5_summary_64 : decode cX5_summary 64 = .ok (.iconst 1, 1) := by decide +kernel
theorem dX5_summary_65 : decode cX5_summary 65 = .ok (.iand, 1) := by decide +kernel
theorem dX5_summary_66 : decode cX5_summary 66 = .ok (.iconst 1, 1) := by decide +kernel
theorem dX5_summary_67 : decode cX5_summary 67 = .ok (.if_icmp .ne 23, 3) := by decide +kernel
theorem dX5_summary_70 : decode cX5_summary 70 = .ok (.aload_n 0, 1) := by decide +kernel
theorem dX5_summary_71 : decode cX5_summary 71 = .ok (.iload 4, 2) := by decide +kernel
theorem dX5_summary_73 : decode cX5_summary 73 = .ok (.aload_n 0, 1) := by decide +kernel
theorem dX5_summary_74 : decode cX5_summary 74 = .ok (.getfield 13, 3) := by decide +kernel
theorem dX5_summary_77 : decode cX5_summary 77 = .ok (.iconst 4, 1) := by decide +kernel
theorem dX5_summary_78 : decode cX5_summary 78 = .ok (.iconst 2, 1) := by decide +kernel
theorem dX5_summary_79 : decode cX5_summary 79 = .ok (.iload_n 3, 1) := by decide +kernel
theorem dX5_summary_80 : decode cX5_summary 80 = .ok (.imul, 1) := by decide +kernel
theorem dX5_summary_81 : decode cX5_summary 81 = .ok (.iadd, 1) := by decide +kernel
theorem dX5_summary_82 : decode cX5_summary 82 = .ok (.iaload, 1) := by decide +kernel
theorem dX5_summary_83 : decode cX5_summary 83 = .ok (.iload 4, 2) := by decide +kernel
theorem dX5_summary_85 : decode cX5_summary 85 = .ok (.iconst (-1), 1) := by decide +kernel
theorem dX5_summary_86 : decode cX5_summary 86 = .ok (.iconst (-1), 1) := by decide +kernel
theorem dX5_summary_87 : decode cX5_summary 87 = .ok (.invokevirtual 164, 3) := by decide +kernel
theorem dX5_summary_90 : decode cX5_summary 90 = .ok (.iinc 4 1, 3) := by decide +kernel
theorem dX5_summary_93 : decode cX5_summary 93 = .ok (.goto (-46), 3) := by decide +kernel
theorem dX5_summary_96 : decode cX5_summary 96 = .ok (.aload_n 0, 1) := by decide +kernel
theorem dX5_summary_97 : decode cX5_summary 97 = .ok (.invokevirtual 185, 3) := by decide +kernel
theorem dX5_summary_100 : decode cX5_summary 100 = .ok (.iconst 0, 1) := by decide +kernel
theorem dX5_summary_101 : decode cX5_summary 101 = .ok (.istore 4, 2) := by decide +kernel
theorem dX5_summary_103 : decode cX5_summary 103 = .ok (.iconst 0, 1) := by decide +kernel
theorem dX5_summary_104 : decode cX5_summary 104 = .ok (.istore 5, 2) := by decide +kernel
theorem dX5_summary_106 : decode cX5_summary 106 = .ok (.iload 5, 2) := by decide +kernel
theorem dX5_summary_108 : decode cX5_summary 108 = .ok (.bipush 8, 2) := by decide +kernel
theorem dX5_summary_110 : decode cX5_summary 110 = .ok (.if_icmp .ge 97, 3) := by decide +kernel
theorem dX5_summary_113 : decode cX5_summary 113 = .ok (.iconst 0, 1) := by decide +kernel
theorem dX5_summary_114 : decode cX5_summary 114 = .ok (.istore 6, 2) := by decide +kernel
theorem dX5_summary_116 : decode cX5_summary 116 = .ok (.iload 6, 2) := by decide +kernel
theorem dX5_summary_118 : decode cX5_summary 118 = .ok (.bipush 8, 2) := by decide +kernel
theorem dX5_summary_120 : decode cX5_summary 120 = .ok (.if_icmp .ge 81, 3) := by decide +kernel
theorem dX5_summary_123 : decode cX5_summary 123 = .ok (.aload_n 0, 1) := by decide +kernel
theorem dX5_summary_124 : decode cX5_summary 124 = .ok (.iload_n 1, 1) := by decide +kernel
theorem dX5_summary_125 : decode cX5_summary 125 = .ok (.iconst 1, 1) := by decide +kernel
theorem dX5_summary_126 : decode cX5_summary 126 = .ok (.iload_n 2, 1) := by decide +kernel
theorem dX5_summary_127 : decode cX5_summary 127 = .ok (.invokevirtual 124, 3) := by decide +kernel
theorem dX5_summary_130 : decode cX5_summary 130 = .ok (.iload 5, 2) := by decide +kernel
theorem dX5_summary_132 : decode cX5_summary 132 = .ok (.ishr, 1) := by decide +kernel
theorem dX5_summary_133 : decode cX5_summary 133 = .ok (.iconst 1, 1) := by decide +kernel
theorem dX5_summary_134 : decode cX5_summary 134 = .ok (.iand, 1) := by decide +kernel
theorem dX5_summary_135 : decode cX5_summary 135 = .ok (.iconst 1, 1) := by decide +kernel
theorem dX5_summary_136 : decode cX5_summary 136 = .ok (.if_icmp .ne 34, 3) := by decide +kernel
theorem dX5_summary_139 : decode cX5_summary 139 = .ok (.aload_n 0, 1) := by decide +kernel
theorem dX5_summary_140 : decode cX5_summary 140 = .ok (.getfield 19, 3) := by decide +kernel
theorem dX5_summary_143 : decode cX5_summary 143 = .ok (.iload 5, 2) := by decide +kernel
theorem dX5_summary_145 : decode cX5_summary 145 = .ok (.aload_n 0, 1) := by decide +kernel
theorem dX5_summary_146 : decode cX5_summary 146 = .ok (.getfield 13, 3) := by decide +kernel
theorem dX5_summary_149 : decode cX5_summary 149 = .ok (.iconst 4, 1) := by decide +kernel
theorem dX5_summary_150 : decode cX5_summary 150 = .ok (.iconst 2, 1) := by decide +kernel
theorem dX5_summary_151 : decode cX5_summary 151 = .ok (.iload_n 3, 1) := by decide +kernel
theorem dX5_summary_152 : decode cX5_summary 152 = .ok (.imul, 1) := by decide +kernel
theorem dX5_summary_153 : decode cX5_summary 153 = .ok (.iadd, 1) := by decide +kernel
theorem dX5_summary_154 : decode cX5_summary 154 = .ok (.iconst 1, 1) := by decide +kernel
theorem dX5_summary_155 : decode cX5_summary 155 = .ok (.iadd, 1) := by decide +kernel
theorem dX5_summary_156 : decode cX5_summary 156 = .ok (.iaload, 1) := by decide +kernel
theorem dX5_summary_157 : decode cX5_summary 157 = .ok (.iload 6, 2) := by decide +kernel
theorem dX5_summary_159 : decode cX5_summary 159 = .ok (.invokestatic 161, 3) := by decide +kernel
theorem dX5_summary_162 : decode cX5_summary 162 = .ok (.iaload, 1) := by decide +kernel
theorem dX5_summary_163 : decode cX5_summary 163 = .ok (.ifCond .le 7, 3) := by decide +kernel
theorem dX5_summary_166 : decode cX5_summary 166 = .ok (.iconst 1, 1) := by decide +kernel
theorem dX5_summary_167 : decode cX5_summary 167 = .ok (.goto 4, 3) := by decide +kernel
theorem dX5_summary_170 : decode cX5_summary 170 = .ok (.iconst 0, 1) := by decide +kernel
theorem dX5_summary_171 : decode cX5_summary 171 = .ok (.istore 7, 2) := by decide +kernel
theorem dX5_summary_173 : decode cX5_summary 173 = .ok (.iload 4, 2) := by decide +kernel
theorem dX5_summary_175 : decode cX5_summary 175 = .ok (.iload 7, 2) := by decide +kernel
theorem dX5_summary_177 : decode cX5_summary 177 = .ok (.ifCond .eq 14, 3) := by decide +kernel
theorem dX5_summary_180 : decode cX5_summary 180 = .ok (.aload_n 0, 1) := by decide +kernel
theorem dX5_summary_181 : decode cX5_summary 181 = .ok (.iload_n 1, 1) := by decide +kernel
theorem dX5_summary_182 : decode cX5_summary 182 = .ok (.iconst 2, 1) := by decide +kernel
theorem dX5_summary_183 : decode cX5_summary 183 = .ok (.iload 6, 2) := by decide +kernel
theorem dX5_summary_185 : decode cX5_summary 185 = .ok (.invokevirtual 124, 3) := by decide +kernel
theorem dX5_summary_188 : decode cX5_summary 188 = .ok (.goto 4, 3) := by decide +kernel
theorem dX5_summary_191 : decode cX5_summary 191 = .ok (.iconst 0, 1) := by decide +kernel
theorem dX5_summary_192 : decode cX5_summary 192 = .ok (.ior, 1) := by decide +kernel
theorem dX5_summary_193 : decode cX5_summary 193 = .ok (.istore 4, 2) := by decide +kernel
theorem dX5_summary_195 : decode cX5_summary 195 = .ok (.iinc 6 1, 3) := by decide +kernel
theorem dX5_summary_198 : decode cX5_summary 198 = .ok (.goto (-82), 3) := by decide +kernel
theorem dX5_summary_201 : decode cX5_summary 201 = .ok (.iinc 5 1, 3) := by decide +kernel
theorem dX5_summary_204 : decode cX5_summary 204 = .ok (.goto (-98), 3) := by decide +kernel
theorem dX5_summary_207 : decode cX5_summary 207 = .ok (.aload_n 0, 1) := by decide +kernel
theorem dX5_summary_208 : decode cX5_summary 208 = .ok (.iconst 0, 1) := by decide +kernel
theorem dX5_summary_209 : decode cX5_summary 209 = .ok (.putfield 77, 3) := by decide +kernel
theorem dX5_summary_212 : decode cX5_summary 212 = .ok (.iload 4, 2) := by decide +kernel
theorem dX5_summary_214 : decode cX5_summary 214 = .ok (.ireturn, 1) := by decide +kernel
theorem dX5_entry_0 : decode cX5_entry 0 = .ok (.iload_n 1, 1) := by decide +kernel
theorem dX5_entry_1 : decode cX5_entry 1 = .ok (.ifCond .lt 12, 3) := by decide +kernel
theorem dX5_entry_4 : decode cX5_entry 4 = .ok (.iload_n 2, 1) := by decide +kernel
theorem dX5_entry_5 : decode cX5_entry 5 = .ok (.iconst 0, 1) := by decide +kernel
theorem dX5_entry_6 : decode cX5_entry 6 = .ok (.iconst 3, 1) := by decide +kernel
theorem dX5_entry_7 : decode cX5_entry 7 = .ok (.invokestatic 89, 3) := by decide +kernel
theorem dX5_entry_10 : decode cX5_entry 10 = .ok (.ifCond .ne 8, 3) := by decide +kernel
theorem dX5_entry_13 : decode cX5_entry 13 = .ok (.aload_n 0, 1) := by decide +kernel
theorem dX5_entry_14 : decode cX5_entry 14 = .ok (.invokevirtual 68, 3) := by decide +kernel
theorem dX5_entry_17 : decode cX5_entry 17 = .ok (.ireturn, 1) := by decide +kernel
theorem dX5_entry_18 : decode cX5_entry 18 = .ok (.aload_n 0, 1) := by decide +kernel
theorem dX5_entry_19 : decode cX5_entry 19 = .ok (.invokevirtual 188, 3) := by decide +kernel
theorem dX5_entry_22 : decode cX5_entry 22 = .ok (.iload_n 1, 1) := by decide +kernel
theorem dX5_entry_23 : decode cX5_entry 23 = .ok (.aload_n 0, 1) := by decide +kernel
theorem dX5_entry_24 : decode cX5_entry 24 = .ok (.getfield 155, 3) := by decide +kernel
theorem dX5_entry_27 : decode cX5_entry 27 = .ok (.if_icmp .lt 5, 3) := by decide +kernel
theorem dX5_entry_30 : decode cX5_entry 30 = .ok (.iconst (-1), 1) := by decide +kernel
theorem dX5_entry_31 : decode cX5_entry 31 = .ok (.ireturn, 1) := by decide +kernel
theorem dX5_entry_32 : decode cX5_entry 32 = .ok (.iload_n 2, 1) := by decide +kernel
theorem dX5_entry_33 : decode cX5_entry 33 = .ok (.ifCond .ne 16, 3) := by decide +kernel
theorem dX5_entry_36 : decode cX5_entry 36 = .ok (.aload_n 0, 1) := by decide +kernel
theorem dX5_entry_37 : decode cX5_entry 37 = .ok (.aload_n 0, 1) := by decide +kernel
theorem dX5_entry_38 : decode cX5_entry 38 = .ok (.getfield 25, 3) := by decide +kernel
theorem dX5_entry_41 : decode cX5_entry 41 = .ok (.iload_n 1, 1) := by decide +kernel
theorem dX5_entry_42 : decode cX5_entry 42 = .ok (.iaload, 1) := by decide +kernel
theorem dX5_entry_43 : decode cX5_entry 43 = .ok (.invokevirtual 104, 3) := by decide +kernel
theorem dX5_entry_46 : decode cX5_entry 46 = .ok (.goto 37, 3) := by decide +kernel
theorem dX5_entry_49 : decode cX5_entry 49 = .ok (.iload_n 2, 1) := by decide +kernel
theorem dX5_entry_50 : decode cX5_entry 50 = .ok (.iconst 1, 1) := by decide +kernel
theorem dX5_entry_51 : decode cX5_entry 51 = .ok (.if_icmp .ne 12, 3) := by decide +kernel
theorem dX5_entry_54 : decode cX5_entry 54 = .ok (.aload_n 0, 1) := by decide +kernel
theorem dX5_entry_55 : decode cX5_entry 55 = .ok (.getfield 22, 3) := by decide +kernel
theorem dX5_entry_58 : decode cX5_entry 58 = .ok (.iload_n 1, 1) := by decide +kernel
theorem dX5_entry_59 : decode cX5_entry 59 = .ok (.iaload, 1) := by decide +kernel
theorem dX5_entry_60 : decode cX5_entry 60 = .ok (.goto 23, 3) := by decide +kernel
theorem dX5_entry_63 : decode cX5_entry 63 = .ok (.iload_n 2, 1) := by decide +kernel
theorem dX5_entry_64 : decode cX5_entry 64 = .ok (.iconst 2, 1) := by decide +kernel
theorem dX5_entry_65 : decode cX5_entry 65 = .ok (.if_icmp .ne 12, 3) := by decide +kernel
theorem dX5_entry_68 : decode cX5_entry 68 = .ok (.aload_n 0, 1) := by decide +kernel
theorem dX5_entry_69 : decode cX5_entry 69 = .ok (.getfield 25, 3) := by decide +kernel
theorem dX5_entry_72 : decode cX5_entry 72 = .ok (.iload_n 1, 1) := by decide +kernel
theorem dX5_entry_73 : decode cX5_entry 73 = .ok (.iaload, 1) := by decide +kernel
theorem dX5_entry_74 : decode cX5_entry 74 = .ok (.goto 9, 3) := by decide +kernel
theorem dX5_entry_77 : decode cX5_entry 77 = .ok (.aload_n 0, 1) := by decide +kernel
theorem dX5_entry_78 : decode cX5_entry 78 = .ok (.getfield 28, 3) := by decide +kernel
theorem dX5_entry_81 : decode cX5_entry 81 = .ok (.iload_n 1, 1) := by decide +kernel
theorem dX5_entry_82 : decode cX5_entry 82 = .ok (.iaload, 1) := by decide +kernel
theorem dX5_entry_83 : decode cX5_entry 83 = .ok (.ireturn, 1) := by decide +kernel
theorem dX5_spells_0 : decode cX5_spells 0 = .ok (.aload_n 0, 1) := by decide +kernel
theorem dX5_spells_1 : decode cX5_spells 1 = .ok (.iconst 0, 1) := by decide +kernel
theorem dX5_spells_2 : decode cX5_spells 2 = .ok (.putfield 209, 3) := by decide +kernel
theorem dX5_spells_5 : decode cX5_spells 5 = .ok (.aload_n 0, 1) := by decide +kernel
theorem dX5_spells_6 : decode cX5_spells 6 = .ok (.getfield 52, 3) := by decide +kernel
theorem dX5_spells_9 : decode cX5_spells 9 = .ok (.iconst 0, 1) := by decide +kernel
theorem dX5_spells_10 : decode cX5_spells 10 = .ok (.iconst 4, 1) := by decide +kernel
theorem dX5_spells_11 : decode cX5_spells 11 = .ok (.iload_n 1, 1) := by decide +kernel
theorem dX5_spells_12 : decode cX5_spells 12 = .ok (.imul, 1) := by decide +kernel
theorem dX5_spells_13 : decode cX5_spells 13 = .ok (.iastore, 1) := by decide +kernel
theorem dX5_spells_14 : decode cX5_spells 14 = .ok (.aload_n 0, 1) := by decide +kernel
theorem dX5_spells_15 : decode cX5_spells 15 = .ok (.iconst 1, 1) := by decide +kernel
theorem dX5_spells_16 : decode cX5_spells 16 = .ok (.putfield 212, 3) := by decide +kernel
theorem dX5_spells_19 : decode cX5_spells 19 = .ok (.aload_n 0, 1) := by decide +kernel
theorem dX5_spells_20 : decode cX5_spells 20 = .ok (.getfield 212, 3) := by decide +kernel
theorem dX5_spells_23 : decode cX5_spells 23 = .ok (.ifCond .le 240, 3) := by decide +kernel
theorem dX5_spells_26 : decode cX5_spells 26 = .ok (.aload_n 0, 1) := by decide +kernel
theorem dX5_spells_27 : decode cX5_spells 27 = .ok (.getfield 209, 3) := by decide +kernel
theorem dX5_spells_30 : decode cX5_spells 30 = .ok (.sipush 1000, 3) := by decide +kernel
theorem dX5_spells_33 : decode cX5_spells 33 = .ok (.if_icmp .ge 230, 3) := by decide +kernel
theorem dX5_spells_36 : decode cX5_spells 36 = .ok (.aload_n 0, 1) := by decide +kernel
theorem dX5_spells_37 : decode cX5_spells 37 = .ok (.dup, 1) := by decide +kernel
theorem dX5_spells_38 : decode cX5_spells 38 = .ok (.getfield 212, 3) := by decide +kernel
theorem dX5_spells_41 : decode cX5_spells 41 = .ok (.iconst 1, 1) := by decide +kernel
theorem dX5_spells_42 : decode cX5_spells 42 = .ok (.isub, 1) := by decide +kernel
theorem dX5_spells_43 : decode cX5_spells 43 = .ok (.putfield 212, 3) := by decide +kernel
theorem dX5_spells_46 : decode cX5_spells 46 = .ok (.aload_n 0, 1) := by decide +kernel
theorem dX5_spells_47 : decode cX5_spells 47 = .ok (.getfield 52, 3) := by decide +kernel
theorem dX5_spells_50 : decode cX5_spells 50 = .ok (.aload_n 0, 1) := by decide +kernel
theorem dX5_spells_51 : decode cX5_spells 51 = .ok (.getfield 212, 3) := by decide +kernel
theorem dX5_spells_54 : decode cX5_spells 54 = .ok (.iaload, 1) := by decide +kernel
theorem dX5_spells_55 : decode cX5_spells 55 = .ok (.iconst 4, 1) := by decide +kernel
theorem dX5_spells_56 : decode cX5_spells 56 = .ok (.idiv, 1) := by decide +kernel
theorem dX5_spells_57 : decode cX5_spells 57 = .ok (.istore_n 2, 1) := by decide +kernel
theorem dX5_spells_58 : decode cX5_spells 58 = .ok (.aload_n 0, 1) := by decide +kernel
theorem dX5_spells_59 : decode cX5_spells 59 = .ok (.getfield 52, 3) := by decide +kernel
theorem dX5_spells_62 : decode cX5_spells 62 = .ok (.aload_n 0, 1) := by decide +kernel
theorem dX5_spells_63 : decode cX5_spells 63 = .ok (.getfield 212, 3) := by decide +kernel
theorem dX5_spells_66 : decode cX5_spells 66 = .ok (.iaload, 1) := by decide +kernel
theorem dX5_spells_67 : decode cX5_spells 67 = .ok (.iconst 4, 1) := by decide +kernel
theorem dX5_spells_68 : decode cX5_spells 68 = .ok (.irem, 1) := by decide +kernel
theorem dX5_spells_69 : decode cX5_spells 69 = .ok (.istore_n 3, 1) := by decide +kernel
theorem dX5_spells_70 : decode cX5_spells 70 = .ok (.aload_n 0, 1) := by decide +kernel
theorem dX5_spells_71 : decode cX5_spells 71 = .ok (.getfield 31, 3) := by decide +kernel
theorem dX5_spells_74 : decode cX5_spells 74 = .ok (.iload_n 2, 1) := by decide +kernel
theorem dX5_spells_75 : decode cX5_spells 75 = .ok (.iaload, 1) := by decide +kernel
theorem dX5_spells_76 : decode cX5_spells 76 = .ok (.iconst (-1), 1) := by decide +kernel
theorem dX5_spells_77 : decode cX5_spells 77 = .ok (.if_icmp .eq 36, 3) := by decide +kernel
theorem dX5_spells_80 : decode cX5_spells 80 = .ok (.iload_n 3, 1) := by decide +kernel
theorem dX5_spells_81 : decode cX5_spells 81 = .ok (.iconst 1, 1) := by decide +kernel
theorem dX5_spells_82 : decode cX5_spells 82 = .ok (.if_icmp .ne 35, 3) := by decide +kernel
theorem dX5_spells_85 : decode cX5_spells 85 = .ok (.aload_n 0, 1) := by decide +kernel
theorem dX5_spells_86 : decode cX5_spells 86 = .ok (.aload_n 0, 1) := by decide +kernel
theorem dX5_spells_87 : decode cX5_spells 87 = .ok (.getfield 25, 3) := by decide +kernel
theorem dX5_spells_90 : decode cX5_spells 90 = .ok (.iload_n 2, 1) := by decide +kernel
theorem dX5_spells_91 : decode cX5_spells 91 = .ok (.iaload, 1) := by decide +kernel
theorem dX5_spells_92 : decode cX5_spells 92 = .ok (.invokevirtual 108, 3) := by decide +kernel
theorem dX5_spells_95 : decode cX5_spells 95 = .ok (.ifCond .ne 22, 3) := by decide +kernel
theorem dX5_spells_98 : decode cX5_spells 98 = .ok (.aload_n 0, 1) := by decide +kernel
theorem dX5_spells_99 : decode cX5_spells 99 = .ok (.getfield 22, 3) := by decide +kernel
theorem dX5_spells_102 : decode cX5_spells 102 = .ok (.iload_n 2, 1) := by decide +kernel
theorem dX5_spells_103 : decode cX5_spells 103 = .ok (.iaload, 1) := by decide +kernel
theorem dX5_spells_104 : decode cX5_spells 104 = .ok (.aload_n 0, 1) := by decide +kernel
theorem dX5_spells_105 : decode cX5_spells 105 = .ok (.getfield 28, 3) := by decide +kernel
theorem dX5_spells_108 : decode cX5_spells 108 = .ok (.iload_n 2, 1) := by decide +kernel
theorem dX5_spells_109 : decode cX5_spells 109 = .ok (.iaload, 1) := by decide +kernel
theorem dX5_spells_110 : decode cX5_spells 110 = .ok (.if_icmp .ne 7, 3) := by decide +kernel
theorem dX5_spells_113 : decode cX5_spells 113 = .ok (.iconst 1, 1) := by decide +kernel
theorem dX5_spells_114 : decode cX5_spells 114 = .ok (.goto 4, 3) := by decide +kernel
theorem dX5_spells_117 : decode cX5_spells 117 = .ok (.iconst 0, 1) := by decide +kernel
theorem dX5_spells_118 : decode cX5_spells 118 = .ok (.istore 4, 2) := by decide +kernel
theorem dX5_spells_120 : decode cX5_spells 120 = .ok (.iload_n 3, 1) := by decide +kernel
theorem dX5_spells_121 : decode cX5_spells 121 = .ok (.iconst 2, 1) := by decide +kernel
theorem dX5_spells_122 : decode cX5_spells 122 = .ok (.if_icmp .eq 8, 3) := by decide +kernel
theorem dX5_spells_125 : decode cX5_spells 125 = .ok (.iload 4, 2) := by decide +kernel
theorem dX5_spells_127 : decode cX5_spells 127 = .ok (.ifCond .eq 41, 3) := by decide +kernel
theorem dX5_spells_130 : decode cX5_spells 130 = .ok (.aload_n 0, 1) := by decide +kernel
theorem dX5_spells_131 : decode cX5_spells 131 = .ok (.getfield 55, 3) := by decide +kernel
theorem dX5_spells_134 : decode cX5_spells 134 = .ok (.aload_n 0, 1) := by decide +kernel
theorem dX5_spells_135 : decode cX5_spells 135 = .ok (.getfield 209, 3) := by decide +kernel
theorem dX5_spells_138 : decode cX5_spells 138 = .ok (.bipush 10, 2) := by decide +kernel
theorem dX5_spells_140 : decode cX5_spells 140 = .ok (.aload_n 0, 1) := by decide +kernel
theorem dX5_spells_141 : decode cX5_spells 141 = .ok (.getfield 25, 3) := by decide +kernel
theorem dX5_spells_144 : decode cX5_spells 144 = .ok (.iload_n 2, 1) := by decide +kernel
theorem dX5_spells_145 : decode cX5_spells 145 = .ok (.iaload, 1) := by decide +kernel
theorem dX5_spells_146 : decode cX5_spells 146 = .ok (.imul, 1) := by decide +kernel
theorem dX5_spells_147 : decode cX5_spells 147 = .ok (.aload_n 0, 1) := by decide +kernel
theorem dX5_spells_148 : decode cX5_spells 148 = .ok (.getfield 28, 3) := by decide +kernel
theorem dX5_spells_151 : decode cX5_spells 151 = .ok (.iload_n 2, 1) := by decide +kernel
theorem dX5_spells_152 : decode cX5_spells 152 = .ok (.iaload, 1) := by decide +kernel
theorem dX5_spells_153 : decode cX5_spells 153 = .ok (.iadd, 1) := by decide +kernel
theorem dX5_spells_154 : decode cX5_spells 154 = .ok (.iastore, 1) := by decide +kernel
theorem dX5_spells_155 : decode cX5_spells 155 = .ok (.aload_n 0, 1) := by decide +kernel
theorem dX5_spells_156 : decode cX5_spells 156 = .ok (.dup, 1) := by decide +kernel
theorem dX5_spells_157 : decode cX5_spells 157 = .ok (.getfield 209, 3) := by decide +kernel
theorem dX5_spells_160 : decode cX5_spells 160 = .ok (.iconst 1, 1) := by decide +kernel
theorem dX5_spells_161 : decode cX5_spells 161 = .ok (.iadd, 1) := by decide +kernel
theorem dX5_spells_162 : decode cX5_spells 162 = .ok (.putfield 209, 3) := by decide +kernel
theorem dX5_spells_165 : decode cX5_spells 165 = .ok (.goto 95, 3) := by decide +kernel
theorem dX5_spells_168 : decode cX5_spells 168 = .ok (.aload_n 0, 1) := by decide +kernel
theorem dX5_spells_169 : decode cX5_spells 169 = .ok (.getfield 52, 3) := by decide +kernel
theorem dX5_spells_172 : decode cX5_spells 172 = .ok (.aload_n 0, 1) := by decide +kernel
theorem dX5_spells_173 : decode cX5_spells 173 = .ok (.getfield 212, 3) := by decide +kernel
theorem dX5_spells_176 : decode cX5_spells 176 = .ok (.iconst 4, 1) := by decide +kernel
theorem dX5_spells_177 : decode cX5_spells 177 = .ok (.iload_n 2, 1) := by decide +kernel
theorem dX5_spells_178 : decode cX5_spells 178 = .ok (.imul, 1) := by decide +kernel
theorem dX5_spells_179 : decode cX5_spells 179 = .ok (.iconst 2, 1) := by decide +kernel
theorem dX5_spells_180 : decode cX5_spells 180 = .ok (.iadd, 1) := by decide +kernel
theorem dX5_spells_181 : decode cX5_spells 181 = .ok (.iastore, 1) := by decide +kernel
theorem dX5_spells_182 : decode cX5_spells 182 = .ok (.aload_n 0, 1) := by decide +kernel
theorem dX5_spells_183 : decode cX5_spells 183 = .ok (.dup, 1) := by decide +kernel
theorem dX5_spells_184 : decode cX5_spells 184 = .ok (.getfield 212, 3) := by decide +kernel
theorem dX5_spells_187 : decode cX5_spells 187 = .ok (.iconst 1, 1) := by decide +kernel
theorem dX5_spells_188 : decode cX5_spells 188 = .ok (.iadd, 1) := by decide +kernel
theorem dX5_spells_189 : decode cX5_spells 189 = .ok (.putfield 212, 3) := by decide +kernel
theorem dX5_spells_192 : decode cX5_spells 192 = .ok (.aload_n 0, 1) := by decide +kernel
theorem dX5_spells_193 : decode cX5_spells 193 = .ok (.getfield 34, 3) := by decide +kernel
theorem dX5_spells_196 : decode cX5_spells 196 = .ok (.iload_n 2, 1) := by decide +kernel
theorem dX5_spells_197 : decode cX5_spells 197 = .ok (.iaload, 1) := by decide +kernel
theorem dX5_spells_198 : decode cX5_spells 198 = .ok (.iconst (-1), 1) := by decide +kernel
theorem dX5_spells_199 : decode cX5_spells 199 = .ok (.if_icmp .eq 32, 3) := by decide +kernel
theorem dX5_spells_202 : decode cX5_spells 202 = .ok (.aload_n 0, 1) := by decide +kernel
theorem dX5_spells_203 : decode cX5_spells 203 = .ok (.getfield 52, 3) := by decide +kernel
theorem dX5_spells_206 : decode cX5_spells 206 = .ok (.aload_n 0, 1) := by decide +kernel
theorem dX5_spells_207 : decode cX5_spells 207 = .ok (.getfield 212, 3) := by decide +kernel
theorem dX5_spells_210 : decode cX5_spells 210 = .ok (.iconst 4, 1) := by decide +kernel
theorem dX5_spells_211 : decode cX5_spells 211 = .ok (.aload_n 0, 1) := by decide +kernel
theorem dX5_spells_212 : decode cX5_spells 212 = .ok (.getfield 34, 3) := by decide +kernel
theorem dX5_spells_215 : decode cX5_spells 215 = .ok (.iload_n 2, 1) := by decide +kernel
theorem dX5_spells_216 : decode cX5_spells 216 = .ok (.iaload, 1) := by decide +kernel
theorem dX5_spells_217 : decode cX5_spells 217 = .ok (.imul, 1) := by decide +kernel
theorem dX5_spells_218 : decode cX5_spells 218 = .ok (.iconst 1, 1) := by decide +kernel
theorem dX5_spells_219 : decode cX5_spells 219 = .ok (.iadd, 1) := by decide +kernel
theorem dX5_spells_220 : decode cX5_spells 220 = .ok (.iastore, 1) := by decide +kernel
theorem dX5_spells_221 : decode cX5_spells 221 = .ok (.aload_n 0, 1) := by decide +kernel
theorem dX5_spells_222 : decode cX5_spells 222 = .ok (.dup, 1) := by decide +kernel
theorem dX5_spells_223 : decode cX5_spells 223 = .ok (.getfield 212, 3) := by decide +kernel
theorem dX5_spells_226 : decode cX5_spells 226 = .ok (.iconst 1, 1) := by decide +kernel
theorem dX5_spells_227 : decode cX5_spells 227 = .ok (.iadd, 1) := by decide +kernel
theorem dX5_spells_228 : decode cX5_spells 228 = .ok (.putfield 212, 3) := by decide +kernel
theorem dX5_spells_231 : decode cX5_spells 231 = .ok (.aload_n 0, 1) := by decide +kernel
theorem dX5_spells_232 : decode cX5_spells 232 = .ok (.getfield 52, 3) := by decide +kernel
theorem dX5_spells_235 : decode cX5_spells 235 = .ok (.aload_n 0, 1) := by decide +kernel
theorem dX5_spells_236 : decode cX5_spells 236 = .ok (.getfield 212, 3) := by decide +kernel
theorem dX5_spells_239 : decode cX5_spells 239 = .ok (.iconst 4, 1) := by decide +kernel
theorem dX5_spells_240 : decode cX5_spells 240 = .ok (.aload_n 0, 1) := by decide +kernel
theorem dX5_spells_241 : decode cX5_spells 241 = .ok (.getfield 31, 3) := by decide +kernel
theorem dX5_spells_244 : decode cX5_spells 244 = .ok (.iload_n 2, 1) := by decide +kernel
theorem dX5_spells_245 : decode cX5_spells 245 = .ok (.iaload, 1) := by decide +kernel
theorem dX5_spells_246 : decode cX5_spells 246 = .ok (.imul, 1) := by decide +kernel
theorem dX5_spells_247 : decode cX5_spells 247 = .ok (.iload_n 3, 1) := by decide +kernel
theorem dX5_spells_248 : decode cX5_spells 248 = .ok (.iadd, 1) := by decide +kernel
theorem dX5_spells_249 : decode cX5_spells 249 = .ok (.iastore, 1) := by decide +kernel
theorem dX5_spells_250 : decode cX5_spells 250 = .ok (.aload_n 0, 1) := by decide +kernel
theorem dX5_spells_251 : decode cX5_spells 251 = .ok (.dup, 1) := by decide +kernel
theorem dX5_spells_252 : decode cX5_spells 252 = .ok (.getfield 212, 3) := by decide +kernel
theorem dX5_spells_255 : decode cX5_spells 255 = .ok (.iconst 1, 1) := by decide +kernel
theorem dX5_spells_256 : decode cX5_spells 256 = .ok (.iadd, 1) := by decide +kernel
theorem dX5_spells_257 : decode cX5_spells 257 = .ok (.putfield 212, 3) := by decide +kernel
theorem dX5_spells_260 : decode cX5_spells 260 = .ok (.goto (-241), 3) := by decide +kernel
theorem dX5_spells_263 : decode cX5_spells 263 = .ok (.return_, 1) := by decide +kernel
theorem dX5_witness_0 : decode cX5_witness 0 = .ok (.aload_n 0, 1) := by decide +kernel
theorem dX5_witness_1 : decode cX5_witness 1 = .ok (.iload_n 1, 1) := by decide +kernel
theorem dX5_witness_2 : decode cX5_witness 2 = .ok (.invokevirtual 101, 3) := by decide +kernel
theorem dX5_witness_5 : decode cX5_witness 5 = .ok (.ifCond .eq 18, 3) := by decide +kernel
theorem dX5_witness_8 : decode cX5_witness 8 = .ok (.iload_n 2, 1) := by decide +kernel
theorem dX5_witness_9 : decode cX5_witness 9 = .ok (.iconst 0, 1) := by decide +kernel
theorem dX5_witness_10 : decode cX5_witness 10 = .ok (.bipush 7, 2) := by decide +kernel
theorem dX5_witness_12 : decode cX5_witness 12 = .ok (.invokestatic 89, 3) := by decide +kernel
theorem dX5_witness_15 : decode cX5_witness 15 = .ok (.ifCond .eq 8, 3) := by decide +kernel
theorem dX5_witness_18 : decode cX5_witness 18 = .ok (.iload_n 3, 1) := by decide +kernel
theorem dX5_witness_19 : decode cX5_witness 19 = .ok (.iconst (-1), 1) := by decide +kernel
theorem dX5_witness_20 : decode cX5_witness 20 = .ok (.if_icmp .ge 8, 3) := by decide +kernel
theorem dX5_witness_23 : decode cX5_witness 23 = .ok (.aload_n 0, 1) := by decide +kernel
theorem dX5_witness_24 : decode cX5_witness 24 = .ok (.invokevirtual 68, 3) := by decide +kernel
theorem dX5_witness_27 : decode cX5_witness 27 = .ok (.ireturn, 1) := by decide +kernel
theorem dX5_witness_28 : decode cX5_witness 28 = .ok (.aload_n 0, 1) := by decide +kernel
theorem dX5_witness_29 : decode cX5_witness 29 = .ok (.invokevirtual 188, 3) := by decide +kernel
theorem dX5_witness_32 : decode cX5_witness 32 = .ok (.sipush 1537, 3) := by decide +kernel
theorem dX5_witness_35 : decode cX5_witness 35 = .ok (.istore 4, 2) := by decide +kernel
theorem dX5_witness_37 : decode cX5_witness 37 = .ok (.iconst 0, 1) := by decide +kernel
theorem dX5_witness_38 : decode cX5_witness 38 = .ok (.istore 5, 2) := by decide +kernel
theorem dX5_witness_40 : decode cX5_witness 40 = .ok (.iload 5, 2) := by decide +kernel
theorem dX5_witness_42 : decode cX5_witness 42 = .ok (.bipush 8, 2) := by decide +kernel
theorem dX5_witness_44 : decode cX5_witness 44 = .ok (.if_icmp .ge 44, 3) := by decide +kernel
theorem dX5_witness_47 : decode cX5_witness 47 = .ok (.aload_n 0, 1) := by decide +kernel
theorem dX5_witness_48 : decode cX5_witness 48 = .ok (.getfield 19, 3) := by decide +kernel
theorem dX5_witness_51 : decode cX5_witness 51 = .ok (.iload 5, 2) := by decide +kernel
theorem dX5_witness_53 : decode cX5_witness 53 = .ok (.iload_n 1, 1) := by decide +kernel
theorem dX5_witness_54 : decode cX5_witness 54 = .ok (.iload_n 2, 1) := by decide +kernel
theorem dX5_witness_55 : decode cX5_witness 55 = .ok (.invokestatic 161, 3) := by decide +kernel
theorem dX5_witness_58 : decode cX5_witness 58 = .ok (.iaload, 1) := by decide +kernel
theorem dX5_witness_59 : decode cX5_witness 59 = .ok (.istore 6, 2) := by decide +kernel
theorem dX5_witness_61 : decode cX5_witness 61 = .ok (.iload 6, 2) := by decide +kernel
theorem dX5_witness_63 : decode cX5_witness 63 = .ok (.ifCond .le 15, 3) := by decide +kernel
theorem dX5_witness_66 : decode cX5_witness 66 = .ok (.iload 6, 2) := by decide +kernel
theorem dX5_witness_68 : decode cX5_witness 68 = .ok (.iload 4, 2) := by decide +kernel
theorem dX5_witness_70 : decode cX5_witness 70 = .ok (.if_icmp .ge 8, 3) := by decide +kernel
theorem dX5_witness_73 : decode cX5_witness 73 = .ok (.iload 6, 2) := by decide +kernel
theorem dX5_witness_75 : decode cX5_witness 75 = .ok (.goto 5, 3) := by decide +kernel
theorem dX5_witness_78 : decode cX5_witness 78 = .ok (.iload 4, 2) := by decide +kernel
theorem dX5_witness_80 : decode cX5_witness 80 = .ok (.istore 4, 2) := by decide +kernel
theorem dX5_witness_82 : decode cX5_witness 82 = .ok (.iinc 5 1, 3) := by decide +kernel
theorem dX5_witness_85 : decode cX5_witness 85 = .ok (.goto (-45), 3) := by decide +kernel
theorem dX5_witness_88 : decode cX5_witness 88 = .ok (.iload 4, 2) := by decide +kernel
theorem dX5_witness_90 : decode cX5_witness 90 = .ok (.sipush 1536, 3) := by decide +kernel
theorem dX5_witness_93 : decode cX5_witness 93 = .ok (.if_icmp .le 5, 3) := by decide +kernel
theorem dX5_witness_96 : decode cX5_witness 96 = .ok (.iconst (-1), 1) := by decide +kernel
theorem dX5_witness_97 : decode cX5_witness 97 = .ok (.ireturn, 1) := by decide +kernel
theorem dX5_witness_98 : decode cX5_witness 98 = .ok (.aload_n 0, 1) := by decide +kernel
theorem dX5_witness_99 : decode cX5_witness 99 = .ok (.iload 4, 2) := by decide +kernel
theorem dX5_witness_101 : decode cX5_witness 101 = .ok (.iconst 1, 1) := by decide +kernel
theorem dX5_witness_102 : decode cX5_witness 102 = .ok (.isub, 1) := by decide +kernel
theorem dX5_witness_103 : decode cX5_witness 103 = .ok (.invokevirtual 215, 3) := by decide +kernel
theorem dX5_witness_106 : decode cX5_witness 106 = .ok (.iload_n 3, 1) := by decide +kernel
theorem dX5_witness_107 : decode cX5_witness 107 = .ok (.iconst (-1), 1) := by decide +kernel
theorem dX5_witness_108 : decode cX5_witness 108 = .ok (.if_icmp .ne 10, 3) := by decide +kernel
theorem dX5_witness_111 : decode cX5_witness 111 = .ok (.aload_n 0, 1) := by decide +kernel
theorem dX5_witness_112 : decode cX5_witness 112 = .ok (.getfield 209, 3) := by decide +kernel
theorem dX5_witness_115 : decode cX5_witness 115 = .ok (.goto 21, 3) := by decide +kernel
theorem dX5_witness_118 : decode cX5_witness 118 = .ok (.iload_n 3, 1) := by decide +kernel
theorem dX5_witness_119 : decode cX5_witness 119 = .ok (.aload_n 0, 1) := by decide +kernel
theorem dX5_witness_120 : decode cX5_witness 120 = .ok (.getfield 209, 3) := by decide +kernel
theorem dX5_witness_123 : decode cX5_witness 123 = .ok (.if_icmp .ge 12, 3) := by decide +kernel
theorem dX5_witness_126 : decode cX5_witness 126 = .ok (.aload_n 0, 1) := by decide +kernel
theorem dX5_witness_127 : decode cX5_witness 127 = .ok (.getfield 55, 3) := by decide +kernel
theorem dX5_witness_130 : decode cX5_witness 130 = .ok (.iload_n 3, 1) := by decide +kernel
theorem dX5_witness_131 : decode cX5_witness 131 = .ok (.iaload, 1) := by decide +kernel
theorem dX5_witness_132 : decode cX5_witness 132 = .ok (.goto 4, 3) := by decide +kernel
theorem dX5_witness_135 : decode cX5_witness 135 = .ok (.iconst (-1), 1) := by decide +kernel
theorem dX5_witness_136 : decode cX5_witness 136 = .ok (.ireturn, 1) := by decide +kernel
theorem dX5_type_0 : decode cX5_type 0 = .ok (.iload_n 1, 1) := by decide +kernel
theorem dX5_type_1 : decode cX5_type 1 = .ok (.iconst 0, 1) := by decide +kernel
theorem dX5_type_2 : decode cX5_type 2 = .ok (.bipush 127, 2) := by decide +kernel
theorem dX5_type_4 : decode cX5_type 4 = .ok (.invokestatic 89, 3) := by decide +kernel
theorem dX5_type_7 : decode cX5_type 7 = .ok (.ifCond .ne 8, 3) := by decide +kernel
theorem dX5_type_10 : decode cX5_type 10 = .ok (.aload_n 0, 1) := by decide +kernel
theorem dX5_type_11 : decode cX5_type 11 = .ok (.invokevirtual 68, 3) := by decide +kernel
theorem dX5_type_14 : decode cX5_type 14 = .ok (.ireturn, 1) := by decide +kernel
theorem dX5_type_15 : decode cX5_type 15 = .ok (.aload_n 0, 1) := by decide +kernel
theorem dX5_type_16 : decode cX5_type 16 = .ok (.getfield 218, 3) := by decide +kernel
theorem dX5_type_19 : decode cX5_type 19 = .ok (.bipush 120, 2) := by decide +kernel
theorem dX5_type_21 : decode cX5_type 21 = .ok (.if_icmp .ne 8, 3) := by decide +kernel
theorem dX5_type_24 : decode cX5_type 24 = .ok (.aload_n 0, 1) := by decide +kernel
theorem dX5_type_25 : decode cX5_type 25 = .ok (.invokevirtual 74, 3) := by decide +kernel
theorem dX5_type_28 : decode cX5_type 28 = .ok (.ireturn, 1) := by decide +kernel
theorem dX5_type_29 : decode cX5_type 29 = .ok (.aload_n 0, 1) := by decide +kernel
theorem dX5_type_30 : decode cX5_type 30 = .ok (.getfield 58, 3) := by decide +kernel
theorem dX5_type_33 : decode cX5_type 33 = .ok (.aload_n 0, 1) := by decide +kernel
theorem dX5_type_34 : decode cX5_type 34 = .ok (.getfield 218, 3) := by decide +kernel
theorem dX5_type_37 : decode cX5_type 37 = .ok (.iload_n 1, 1) := by decide +kernel
theorem dX5_type_38 : decode cX5_type 38 = .ok (.iastore, 1) := by decide +kernel
theorem dX5_type_39 : decode cX5_type 39 = .ok (.aload_n 0, 1) := by decide +kernel
theorem dX5_type_40 : decode cX5_type 40 = .ok (.dup, 1) := by decide +kernel
theorem dX5_type_41 : decode cX5_type 41 = .ok (.getfield 218, 3) := by decide +kernel
theorem dX5_type_44 : decode cX5_type 44 = .ok (.iconst 1, 1) := by decide +kernel
theorem dX5_type_45 : decode cX5_type 45 = .ok (.iadd, 1) := by decide +kernel
theorem dX5_type_46 : decode cX5_type 46 = .ok (.putfield 218, 3) := by decide +kernel
theorem dX5_type_49 : decode cX5_type 49 = .ok (.aload_n 0, 1) := by decide +kernel
theorem dX5_type_50 : decode cX5_type 50 = .ok (.getfield 218, 3) := by decide +kernel
theorem dX5_type_53 : decode cX5_type 53 = .ok (.ireturn, 1) := by decide +kernel
theorem dX5_clear_0 : decode cX5_clear 0 = .ok (.aload_n 0, 1) := by decide +kernel
theorem dX5_clear_1 : decode cX5_clear 1 = .ok (.getfield 218, 3) := by decide +kernel
theorem dX5_clear_4 : decode cX5_clear 4 = .ok (.istore_n 1, 1) := by decide +kernel
theorem dX5_clear_5 : decode cX5_clear 5 = .ok (.aload_n 0, 1) := by decide +kernel
theorem dX5_clear_6 : decode cX5_clear 6 = .ok (.iconst 0, 1) := by decide +kernel
theorem dX5_clear_7 : decode cX5_clear 7 = .ok (.putfield 218, 3) := by decide +kernel
theorem dX5_clear_10 : decode cX5_clear 10 = .ok (.iload_n 1, 1) := by decide +kernel
theorem dX5_clear_11 : decode cX5_clear 11 = .ok (.ireturn, 1) := by decide +kernel
theorem dX5_byteAt_0 : decode cX5_byteAt 0 = .ok (.iload_n 1, 1) := by decide +kernel
theorem dX5_byteAt_1 : decode cX5_byteAt 1 = .ok (.aload_n 0, 1) := by decide +kernel
theorem dX5_byteAt_2 : decode cX5_byteAt 2 = .ok (.getfield 218, 3) := by decide +kernel
theorem dX5_byteAt_5 : decode cX5_byteAt 5 = .ok (.if_icmp .ge 12, 3) := by decide +kernel
theorem dX5_byteAt_8 : decode cX5_byteAt 8 = .ok (.aload_n 0, 1) := by decide +kernel
theorem dX5_byteAt_9 : decode cX5_byteAt 9 = .ok (.getfield 58, 3) := by decide +kernel
theorem dX5_byteAt_12 : decode cX5_byteAt 12 = .ok (.iload_n 1, 1) := by decide +kernel
theorem dX5_byteAt_13 : decode cX5_byteAt 13 = .ok (.iaload, 1) := by decide +kernel
theorem dX5_byteAt_14 : decode cX5_byteAt 14 = .ok (.goto 4, 3) := by decide +kernel
theorem dX5_byteAt_17 : decode cX5_byteAt 17 = .ok (.iconst (-1), 1) := by decide +kernel
theorem dX5_byteAt_18 : decode cX5_byteAt 18 = .ok (.ireturn, 1) := by decide +kernel
theorem dX5_isFigure_0 : decode cX5_isFigure 0 = .ok (.aload_n 0, 1) := by decide +kernel
theorem dX5_isFigure_1 : decode cX5_isFigure 1 = .ok (.iload_n 1, 1) := by decide +kernel
theorem dX5_isFigure_2 : decode cX5_isFigure 2 = .ok (.invokevirtual 221, 3) := by decide +kernel
theorem dX5_isFigure_5 : decode cX5_isFigure 5 = .ok (.bipush 48, 2) := by decide +kernel
theorem dX5_isFigure_7 : decode cX5_isFigure 7 = .ok (.bipush 57, 2) := by decide +kernel
theorem dX5_isFigure_9 : decode cX5_isFigure 9 = .ok (.invokestatic 89, 3) := by decide +kernel
theorem dX5_isFigure_12 : decode cX5_isFigure 12 = .ok (.ireturn, 1) := by decide +kernel
theorem dX5_blanks_0 : decode cX5_blanks 0 = .ok (.aload_n 0, 1) := by decide +kernel
theorem dX5_blanks_1 : decode cX5_blanks 1 = .ok (.aload_n 0, 1) := by decide +kernel
theorem dX5_blanks_2 : decode cX5_blanks 2 = .ok (.getfield 224, 3) := by decide +kernel
theorem dX5_blanks_5 : decode cX5_blanks 5 = .ok (.invokevirtual 221, 3) := by decide +kernel
theorem dX5_blanks_8 : decode cX5_blanks 8 = .ok (.bipush 32, 2) := by decide +kernel
theorem dX5_blanks_10 : decode cX5_blanks 10 = .ok (.if_icmp .ne 16, 3) := by decide +kernel
theorem dX5_blanks_13 : decode cX5_blanks 13 = .ok (.aload_n 0, 1) := by decide +kernel
theorem dX5_blanks_14 : decode cX5_blanks 14 = .ok (.dup, 1) := by decide +kernel
theorem dX5_blanks_15 : decode cX5_blanks 15 = .ok (.getfield 224, 3) := by decide +kernel
theorem dX5_blanks_18 : decode cX5_blanks 18 = .ok (.iconst 1, 1) := by decide +kernel
theorem dX5_blanks_19 : decode cX5_blanks 19 = .ok (.iadd, 1) := by decide +kernel
theorem dX5_blanks_20 : decode cX5_blanks 20 = .ok (.putfield 224, 3) := by decide +kernel
theorem dX5_blanks_23 : decode cX5_blanks 23 = .ok (.goto (-23), 3) := by decide +kernel
theorem dX5_blanks_26 : decode cX5_blanks 26 = .ok (.return_, 1) := by decide +kernel
theorem dX5_wants_0 : decode cX5_wants 0 = .ok (.iload_n 0, 1) := by decide +kernel
theorem dX5_wants_1 : decode cX5_wants 1 = .ok (.bipush 112, 2) := by decide +kernel
theorem dX5_wants_3 : decode cX5_wants 3 = .ok (.if_icmp .ne 7, 3) := by decide +kernel
theorem dX5_wants_6 : decode cX5_wants 6 = .ok (.iconst 0, 1) := by decide +kernel
theorem dX5_wants_7 : decode cX5_wants 7 = .ok (.goto 56, 3) := by decide +kernel
theorem dX5_wants_10 : decode cX5_wants 10 = .ok (.iload_n 0, 1) := by decide +kernel
theorem dX5_wants_11 : decode cX5_wants 11 = .ok (.bipush 110, 2) := by decide +kernel
theorem dX5_wants_13 : decode cX5_wants 13 = .ok (.if_icmp .eq 15, 3) := by decide +kernel
theorem dX5_wants_16 : decode cX5_wants 16 = .ok (.iload_n 0, 1) := by decide +kernel
theorem dX5_wants_17 : decode cX5_wants 17 = .ok (.bipush 115, 2) := by decide +kernel
theorem dX5_wants_19 : decode cX5_wants 19 = .ok (.if_icmp .eq 9, 3) := by decide +kernel
theorem dX5_wants_22 : decode cX5_wants 22 = .ok (.iload_n 0, 1) := by decide +kernel
theorem dX5_wants_23 : decode cX5_wants 23 = .ok (.bipush 120, 2) := by decide +kernel
theorem dX5_wants_25 : decode cX5_wants 25 = .ok (.if_icmp .ne 7, 3) := by decide +kernel
theorem dX5_wants_28 : decode cX5_wants 28 = .ok (.iconst 1, 1) := by decide +kernel
theorem dX5_wants_29 : decode cX5_wants 29 = .ok (.goto 34, 3) := by decide +kernel
theorem dX5_wants_32 : decode cX5_wants 32 = .ok (.iload_n 0, 1) := by decide +kernel
theorem dX5_wants_33 : decode cX5_wants 33 = .ok (.bipush 101, 2) := by decide +kernel
theorem dX5_wants_35 : decode cX5_wants 35 = .ok (.if_icmp .ne 7, 3) := by decide +kernel
theorem dX5_wants_38 : decode cX5_wants 38 = .ok (.iconst 2, 1) := by decide +kernel
theorem dX5_wants_39 : decode cX5_wants 39 = .ok (.goto 24, 3) := by decide +kernel
theorem dX5_wants_42 : decode cX5_wants 42 = .ok (.iload_n 0, 1) := by decide +kernel
theorem dX5_wants_43 : decode cX5_wants 43 = .ok (.bipush 99, 2) := by decide +kernel
theorem dX5_wants_45 : decode cX5_wants 45 = .ok (.if_icmp .ne 7, 3) := by decide +kernel
theorem dX5_wants_48 : decode cX5_wants 48 = .ok (.iconst 3, 1) := by decide +kernel
theorem dX5_wants_49 : decode cX5_wants 49 = .ok (.goto 14, 3) := by decide +kernel
theorem dX5_wants_52 : decode cX5_wants 52 = .ok (.iload_n 0, 1) := by decide +kernel
theorem dX5_wants_53 : decode cX5_wants 53 = .ok (.bipush 102, 2) := by decide +kernel
theorem dX5_wants_55 : decode cX5_wants 55 = .ok (.if_icmp .ne 7, 3) := by decide +kernel
theorem dX5_wants_58 : decode cX5_wants 58 = .ok (.iconst 4, 1) := by decide +kernel
theorem dX5_wants_59 : decode cX5_wants 59 = .ok (.goto 4, 3) := by decide +kernel
theorem dX5_wants_62 : decode cX5_wants 62 = .ok (.iconst (-1), 1) := by decide +kernel
theorem dX5_wants_63 : decode cX5_wants 63 = .ok (.ireturn, 1) := by decide +kernel
theorem dX5_number_0 : decode cX5_number 0 = .ok (.aload_n 0, 1) := by decide +kernel
theorem dX5_number_1 : decode cX5_number 1 = .ok (.aload_n 0, 1) := by decide +kernel
theorem dX5_number_2 : decode cX5_number 2 = .ok (.getfield 224, 3) := by decide +kernel
theorem dX5_number_5 : decode cX5_number 5 = .ok (.invokevirtual 227, 3) := by decide +kernel
theorem dX5_number_8 : decode cX5_number 8 = .ok (.ifCond .ne 5, 3) := by decide +kernel
theorem dX5_number_11 : decode cX5_number 11 = .ok (.iconst (-1), 1) := by decide +kernel
theorem dX5_number_12 : decode cX5_number 12 = .ok (.ireturn, 1) := by decide +kernel
theorem dX5_number_13 : decode cX5_number 13 = .ok (.iconst 0, 1) := by decide +kernel
theorem dX5_number_14 : decode cX5_number 14 = .ok (.istore_n 1, 1) := by decide +kernel
theorem dX5_number_15 : decode cX5_number 15 = .ok (.iconst 0, 1) := by decide +kernel
theorem dX5_number_16 : decode cX5_number 16 = .ok (.istore_n 2, 1) := by decide +kernel
theorem dX5_number_17 : decode cX5_number 17 = .ok (.aload_n 0, 1) := by decide +kernel
theorem dX5_number_18 : decode cX5_number 18 = .ok (.aload_n 0, 1) := by decide +kernel
theorem dX5_number_19 : decode cX5_number 19 = .ok (.getfield 224, 3) := by decide +kernel
theorem dX5_number_22 : decode cX5_number 22 = .ok (.invokevirtual 227, 3) := by decide +kernel
theorem dX5_number_25 : decode cX5_number 25 = .ok (.ifCond .eq 41, 3) := by decide +kernel
theorem dX5_number_28 : decode cX5_number 28 = .ok (.iload_n 2, 1) := by decide +kernel
theorem dX5_number_29 : decode cX5_number 29 = .ok (.iconst 3, 1) := by decide +kernel
theorem dX5_number_30 : decode cX5_number 30 = .ok (.if_icmp .ge 36, 3) := by decide +kernel
theorem dX5_number_33 : decode cX5_number 33 = .ok (.bipush 10, 2) := by decide +kernel
theorem dX5_number_35 : decode cX5_number 35 = .ok (.iload_n 1, 1) := by decide +kernel
theorem dX5_number_36 : decode cX5_number 36 = .ok (.imul, 1) := by decide +kernel
theorem dX5_number_37 : decode cX5_number 37 = .ok (.aload_n 0, 1) := by decide +kernel
theorem dX5_number_38 : decode cX5_number 38 = .ok (.aload_n 0, 1) := by decide +kernel
theorem dX5_number_39 : decode cX5_number 39 = .ok (.getfield 224, 3) := by decide +kernel
theorem dX5_number_42 : decode cX5_number 42 = .ok (.invokevirtual 221, 3) := by decide +kernel
theorem dX5_number_45 : decode cX5_number 45 = .ok (.iadd, 1) := by decide +kernel
theorem dX5_number_46 : decode cX5_number 46 = .ok (.bipush 48, 2) := by decide +kernel
theorem dX5_number_48 : decode cX5_number 48 = .ok (.isub, 1) := by decide +kernel
theorem dX5_number_49 : decode cX5_number 49 = .ok (.istore_n 1, 1) := by decide +kernel
theorem dX5_number_50 : decode cX5_number 50 = .ok (.aload_n 0, 1) := by decide +kernel
theorem dX5_number_51 : decode cX5_number 51 = .ok (.dup, 1) := by decide +kernel
theorem dX5_number_52 : decode cX5_number 52 = .ok (.getfield 224, 3) := by decide +kernel
theorem dX5_number_55 : decode cX5_number 55 = .ok (.iconst 1, 1) := by decide +kernel
theorem dX5_number_56 : decode cX5_number 56 = .ok (.iadd, 1) := by decide +kernel
theorem dX5_number_57 : decode cX5_number 57 = .ok (.putfield 224, 3) := by decide +kernel
theorem dX5_number_60 : decode cX5_number 60 = .ok (.iinc 2 1, 3) := by decide +kernel
theorem dX5_number_63 : decode cX5_number 63 = .ok (.goto (-46), 3) := by decide +kernel
theorem dX5_number_66 : decode cX5_number 66 = .ok (.aload_n 0, 1) := by decide +kernel
theorem dX5_number_67 : decode cX5_number 67 = .ok (.aload_n 0, 1) := by decide +kernel
theorem dX5_number_68 : decode cX5_number 68 = .ok (.getfield 224, 3) := by decide +kernel
theorem dX5_number_71 : decode cX5_number 71 = .ok (.invokevirtual 227, 3) := by decide +kernel
theorem dX5_number_74 : decode cX5_number 74 = .ok (.ifCond .eq 5, 3) := by decide +kernel
theorem dX5_number_77 : decode cX5_number 77 = .ok (.iconst (-1), 1) := by decide +kernel
theorem dX5_number_78 : decode cX5_number 78 = .ok (.ireturn, 1) := by decide +kernel
theorem dX5_number_79 : decode cX5_number 79 = .ok (.aload_n 0, 1) := by decide +kernel
theorem dX5_number_80 : decode cX5_number 80 = .ok (.invokevirtual 230, 3) := by decide +kernel
theorem dX5_number_83 : decode cX5_number 83 = .ok (.iload_n 1, 1) := by decide +kernel
theorem dX5_number_84 : decode cX5_number 84 = .ok (.ireturn, 1) := by decide +kernel
theorem dX5_reads_0 : decode cX5_reads 0 = .ok (.aload_n 0, 1) := by decide +kernel
theorem dX5_reads_1 : decode cX5_reads 1 = .ok (.aload_n 0, 1) := by decide +kernel
theorem dX5_reads_2 : decode cX5_reads 2 = .ok (.getfield 224, 3) := by decide +kernel
theorem dX5_reads_5 : decode cX5_reads 5 = .ok (.invokevirtual 221, 3) := by decide +kernel
theorem dX5_reads_8 : decode cX5_reads 8 = .ok (.istore_n 1, 1) := by decide +kernel
theorem dX5_reads_9 : decode cX5_reads 9 = .ok (.iload_n 1, 1) := by decide +kernel
theorem dX5_reads_10 : decode cX5_reads 10 = .ok (.invokestatic 233, 3) := by decide +kernel
theorem dX5_reads_13 : decode cX5_reads 13 = .ok (.istore_n 2, 1) := by decide +kernel
theorem dX5_reads_14 : decode cX5_reads 14 = .ok (.iload_n 2, 1) := by decide +kernel
theorem dX5_reads_15 : decode cX5_reads 15 = .ok (.iconst (-1), 1) := by decide +kernel
theorem dX5_reads_16 : decode cX5_reads 16 = .ok (.if_icmp .ne 5, 3) := by decide +kernel
theorem dX5_reads_19 : decode cX5_reads 19 = .ok (.iconst 0, 1) := by decide +kernel
theorem dX5_reads_20 : decode cX5_reads 20 = .ok (.ireturn, 1) := by decide +kernel
theorem dX5_reads_21 : decode cX5_reads 21 = .ok (.aload_n 0, 1) := by decide +kernel
theorem dX5_reads_22 : decode cX5_reads 22 = .ok (.dup, 1) := by decide +kernel
theorem dX5_reads_23 : decode cX5_reads 23 = .ok (.getfield 224, 3) := by decide +kernel
theorem dX5_reads_26 : decode cX5_reads 26 = .ok (.iconst 1, 1) := by decide +kernel
theorem dX5_reads_27 : decode cX5_reads 27 = .ok (.iadd, 1) := by decide +kernel
theorem dX5_reads_28 : decode cX5_reads 28 = .ok (.putfield 224, 3) := by decide +kernel
theorem dX5_reads_31 : decode cX5_reads 31 = .ok (.aload_n 0, 1) := by decide +kernel
theorem dX5_reads_32 : decode cX5_reads 32 = .ok (.invokevirtual 230, 3) := by decide +kernel
theorem dX5_reads_35 : decode cX5_reads 35 = .ok (.aload_n 0, 1) := by decide +kernel
theorem dX5_reads_36 : decode cX5_reads 36 = .ok (.getfield 61, 3) := by decide +kernel
theorem dX5_reads_39 : decode cX5_reads 39 = .ok (.iconst 5, 1) := by decide +kernel
theorem dX5_reads_40 : decode cX5_reads 40 = .ok (.aload_n 0, 1) := by decide +kernel
theorem dX5_reads_41 : decode cX5_reads 41 = .ok (.getfield 236, 3) := by decide +kernel
theorem dX5_reads_44 : decode cX5_reads 44 = .ok (.imul, 1) := by decide +kernel
theorem dX5_reads_45 : decode cX5_reads 45 = .ok (.iload_n 1, 1) := by decide +kernel
theorem dX5_reads_46 : decode cX5_reads 46 = .ok (.iastore, 1) := by decide +kernel
theorem dX5_reads_47 : decode cX5_reads 47 = .ok (.iconst 0, 1) := by decide +kernel
theorem dX5_reads_48 : decode cX5_reads 48 = .ok (.istore_n 3, 1) := by decide +kernel
theorem dX5_reads_49 : decode cX5_reads 49 = .ok (.iload_n 3, 1) := by decide +kernel
theorem dX5_reads_50 : decode cX5_reads 50 = .ok (.iload_n 2, 1) := by decide +kernel
theorem dX5_reads_51 : decode cX5_reads 51 = .ok (.if_icmp .ge 40, 3) := by decide +kernel
theorem dX5_reads_54 : decode cX5_reads 54 = .ok (.aload_n 0, 1) := by decide +kernel
theorem dX5_reads_55 : decode cX5_reads 55 = .ok (.invokevirtual 239, 3) := by decide +kernel
theorem dX5_reads_58 : decode cX5_reads 58 = .ok (.istore 4, 2) := by decide +kernel
theorem dX5_reads_60 : decode cX5_reads 60 = .ok (.iload 4, 2) := by decide +kernel
theorem dX5_reads_62 : decode cX5_reads 62 = .ok (.iconst (-1), 1) := by decide +kernel
theorem dX5_reads_63 : decode cX5_reads 63 = .ok (.if_icmp .ne 5, 3) := by decide +kernel
theorem dX5_reads_66 : decode cX5_reads 66 = .ok (.iconst 0, 1) := by decide +kernel
theorem dX5_reads_67 : decode cX5_reads 67 = .ok (.ireturn, 1) := by decide +kernel
theorem dX5_reads_68 : decode cX5_reads 68 = .ok (.aload_n 0, 1) := by decide +kernel
theorem dX5_reads_69 : decode cX5_reads 69 = .ok (.getfield 61, 3) := by decide +kernel
theorem dX5_reads_72 : decode cX5_reads 72 = .ok (.iconst 5, 1) := by decide +kernel
theorem dX5_reads_73 : decode cX5_reads 73 = .ok (.aload_n 0, 1) := by decide +kernel
theorem dX5_reads_74 : decode cX5_reads 74 = .ok (.getfield 236, 3) := by decide +kernel
theorem dX5_reads_77 : decode cX5_reads 77 = .ok (.imul, 1) := by decide +kernel
theorem dX5_reads_78 : decode cX5_reads 78 = .ok (.iconst 1, 1) := by decide +kernel
theorem dX5_reads_79 : decode cX5_reads 79 = .ok (.iadd, 1) := by decide +kernel
theorem dX5_reads_80 : decode cX5_reads 80 = .ok (.iload_n 3, 1) := by decide +kernel
theorem dX5_reads_81 : decode cX5_reads 81 = .ok (.iadd, 1) := by decide +kernel
theorem dX5_reads_82 : decode cX5_reads 82 = .ok (.iload 4, 2) := by decide +kernel
theorem dX5_reads_84 : decode cX5_reads 84 = .ok (.iastore, 1) := by decide +kernel
theorem dX5_reads_85 : decode cX5_reads 85 = .ok (.iinc 3 1, 3) := by decide +kernel
theorem dX5_reads_88 : decode cX5_reads 88 = .ok (.goto (-39), 3) := by decide +kernel
theorem dX5_reads_91 : decode cX5_reads 91 = .ok (.aload_n 0, 1) := by decide +kernel
theorem dX5_reads_92 : decode cX5_reads 92 = .ok (.aload_n 0, 1) := by decide +kernel
theorem dX5_reads_93 : decode cX5_reads 93 = .ok (.getfield 224, 3) := by decide +kernel
theorem dX5_reads_96 : decode cX5_reads 96 = .ok (.invokevirtual 221, 3) := by decide +kernel
theorem dX5_reads_99 : decode cX5_reads 99 = .ok (.bipush 59, 2) := by decide +kernel
theorem dX5_reads_101 : decode cX5_reads 101 = .ok (.if_icmp .eq 5, 3) := by decide +kernel
theorem dX5_reads_104 : decode cX5_reads 104 = .ok (.iconst 0, 1) := by decide +kernel
theorem dX5_reads_105 : decode cX5_reads 105 = .ok (.ireturn, 1) := by decide +kernel
theorem dX5_reads_106 : decode cX5_reads 106 = .ok (.aload_n 0, 1) := by decide +kernel
theorem dX5_reads_107 : decode cX5_reads 107 = .ok (.dup, 1) := by decide +kernel
theorem dX5_reads_108 : decode cX5_reads 108 = .ok (.getfield 224, 3) := by decide +kernel
theorem dX5_reads_111 : decode cX5_reads 111 = .ok (.iconst 1, 1) := by decide +kernel
theorem dX5_reads_112 : decode cX5_reads 112 = .ok (.iadd, 1) := by decide +kernel
theorem dX5_reads_113 : decode cX5_reads 113 = .ok (.putfield 224, 3) := by decide +kernel
theorem dX5_reads_116 : decode cX5_reads 116 = .ok (.aload_n 0, 1) := by decide +kernel
theorem dX5_reads_117 : decode cX5_reads 117 = .ok (.invokevirtual 230, 3) := by decide +kernel
theorem dX5_reads_120 : decode cX5_reads 120 = .ok (.aload_n 0, 1) := by decide +kernel
theorem dX5_reads_121 : decode cX5_reads 121 = .ok (.dup, 1) := by decide +kernel
theorem dX5_reads_122 : decode cX5_reads 122 = .ok (.getfield 236, 3) := by decide +kernel
theorem dX5_reads_125 : decode cX5_reads 125 = .ok (.iconst 1, 1) := by decide +kernel
theorem dX5_reads_126 : decode cX5_reads 126 = .ok (.iadd, 1) := by decide +kernel
theorem dX5_reads_127 : decode cX5_reads 127 = .ok (.putfield 236, 3) := by decide +kernel
theorem dX5_reads_130 : decode cX5_reads 130 = .ok (.iconst 1, 1) := by decide +kernel
theorem dX5_reads_131 : decode cX5_reads 131 = .ok (.ireturn, 1) := by decide +kernel
theorem dX5_acted_0 : decode cX5_acted 0 = .ok (.aload_n 0, 1) := by decide +kernel
theorem dX5_acted_1 : decode cX5_acted 1 = .ok (.getfield 61, 3) := by decide +kernel
theorem dX5_acted_4 : decode cX5_acted 4 = .ok (.iconst 5, 1) := by decide +kernel
theorem dX5_acted_5 : decode cX5_acted 5 = .ok (.iload_n 1, 1) := by decide +kernel
theorem dX5_acted_6 : decode cX5_acted 6 = .ok (.imul, 1) := by decide +kernel
theorem dX5_acted_7 : decode cX5_acted 7 = .ok (.iaload, 1) := by decide +kernel
theorem dX5_acted_8 : decode cX5_acted 8 = .ok (.istore_n 2, 1) := by decide +kernel
theorem dX5_acted_9 : decode cX5_acted 9 = .ok (.aload_n 0, 1) := by decide +kernel
theorem dX5_acted_10 : decode cX5_acted 10 = .ok (.getfield 61, 3) := by decide +kernel
theorem dX5_acted_13 : decode cX5_acted 13 = .ok (.iconst 5, 1) := by decide +kernel
theorem dX5_acted_14 : decode cX5_acted 14 = .ok (.iload_n 1, 1) := by decide +kernel
theorem dX5_acted_15 : decode cX5_acted 15 = .ok (.imul, 1) := by decide +kernel
theorem dX5_acted_16 : decode cX5_acted 16 = .ok (.iconst 1, 1) := by decide +kernel
theorem dX5_acted_17 : decode cX5_acted 17 = .ok (.iadd, 1) := by decide +kernel
theorem dX5_acted_18 : decode cX5_acted 18 = .ok (.iaload, 1) := by decide +kernel
theorem dX5_acted_19 : decode cX5_acted 19 = .ok (.istore_n 3, 1) := by decide +kernel
theorem dX5_acted_20 : decode cX5_acted 20 = .ok (.aload_n 0, 1) := by decide +kernel
theorem dX5_acted_21 : decode cX5_acted 21 = .ok (.getfield 61, 3) := by decide +kernel
theorem dX5_acted_24 : decode cX5_acted 24 = .ok (.iconst 5, 1) := by decide +kernel
theorem dX5_acted_25 : decode cX5_acted 25 = .ok (.iload_n 1, 1) := by decide +kernel
theorem dX5_acted_26 : decode cX5_acted 26 = .ok (.imul, 1) := by decide +kernel
theorem dX5_acted_27 : decode cX5_acted 27 = .ok (.iconst 2, 1) := by decide +kernel
theorem dX5_acted_28 : decode cX5_acted 28 = .ok (.iadd, 1) := by decide +kernel
theorem dX5_acted_29 : decode cX5_acted 29 = .ok (.iaload, 1) := by decide +kernel
theorem dX5_acted_30 : decode cX5_acted 30 = .ok (.istore 4, 2) := by decide +kernel
theorem dX5_acted_32 : decode cX5_acted 32 = .ok (.aload_n 0, 1) := by decide +kernel
theorem dX5_acted_33 : decode cX5_acted 33 = .ok (.getfield 61, 3) := by decide +kernel
theorem dX5_acted_36 : decode cX5_acted 36 = .ok (.iconst 5, 1) := by decide +kernel
theorem dX5_acted_37 : decode cX5_acted 37 = .ok (.iload_n 1, 1) := by decide +kernel
theorem dX5_acted_38 : decode cX5_acted 38 = .ok (.imul, 1) := by decide +kernel
theorem dX5_acted_39 : decode cX5_acted 39 = .ok (.iconst 3, 1) := by decide +kernel
theorem dX5_acted_40 : decode cX5_acted 40 = .ok (.iadd, 1) := by decide +kernel
theorem dX5_acted_41 : decode cX5_acted 41 = .ok (.iaload, 1) := by decide +kernel
theorem dX5_acted_42 : decode cX5_acted 42 = .ok (.istore 5, 2) := by decide +kernel
theorem dX5_acted_44 : decode cX5_acted 44 = .ok (.iload_n 2, 1) := by decide +kernel
theorem dX5_acted_45 : decode cX5_acted 45 = .ok (.bipush 112, 2) := by decide +kernel
theorem dX5_acted_47 : decode cX5_acted 47 = .ok (.if_icmp .ne 10, 3) := by decide +kernel
theorem dX5_acted_50 : decode cX5_acted 50 = .ok (.aload_n 0, 1) := by decide +kernel
theorem dX5_acted_51 : decode cX5_acted 51 = .ok (.invokevirtual 64, 3) := by decide +kernel
theorem dX5_acted_54 : decode cX5_acted 54 = .ok (.goto 99, 3) := by decide +kernel
theorem dX5_acted_57 : decode cX5_acted 57 = .ok (.iload_n 2, 1) := by decide +kernel
theorem dX5_acted_58 : decode cX5_acted 58 = .ok (.bipush 110, 2) := by decide +kernel
theorem dX5_acted_60 : decode cX5_acted 60 = .ok (.if_icmp .ne 11, 3) := by decide +kernel
theorem dX5_acted_63 : decode cX5_acted 63 = .ok (.aload_n 0, 1) := by decide +kernel
theorem dX5_acted_64 : decode cX5_acted 64 = .ok (.iload_n 3, 1) := by decide +kernel
theorem dX5_acted_65 : decode cX5_acted 65 = .ok (.invokevirtual 139, 3) := by decide +kernel
theorem dX5_acted_68 : decode cX5_acted 68 = .ok (.goto 85, 3) := by decide +kernel
theorem dX5_acted_71 : decode cX5_acted 71 = .ok (.iload_n 2, 1) := by decide +kernel
theorem dX5_acted_72 : decode cX5_acted 72 = .ok (.bipush 101, 2) := by decide +kernel
theorem dX5_acted_74 : decode cX5_acted 74 = .ok (.if_icmp .ne 14, 3) := by decide +kernel
theorem dX5_acted_77 : decode cX5_acted 77 = .ok (.aload_n 0, 1) := by decide +kernel
theorem dX5_acted_78 : decode cX5_acted 78 = .ok (.iload_n 3, 1) := by decide +kernel
theorem dX5_acted_79 : decode cX5_acted 79 = .ok (.iload 4, 2) := by decide +kernel
theorem dX5_acted_81 : decode cX5_acted 81 = .ok (.iconst (-1), 1) := by decide +kernel
theorem dX5_acted_82 : decode cX5_acted 82 = .ok (.invokevirtual 111, 3) := by decide +kernel
theorem dX5_acted_85 : decode cX5_acted 85 = .ok (.goto 68, 3) := by decide +kernel
theorem dX5_acted_88 : decode cX5_acted 88 = .ok (.iload_n 2, 1) := by decide +kernel
theorem dX5_acted_89 : decode cX5_acted 89 = .ok (.bipush 99, 2) := by decide +kernel
theorem dX5_acted_91 : decode cX5_acted 91 = .ok (.if_icmp .ne 15, 3) := by decide +kernel
theorem dX5_acted_94 : decode cX5_acted 94 = .ok (.aload_n 0, 1) := by decide +kernel
theorem dX5_acted_95 : decode cX5_acted 95 = .ok (.iload_n 3, 1) := by decide +kernel
theorem dX5_acted_96 : decode cX5_acted 96 = .ok (.iload 4, 2) := by decide +kernel
theorem dX5_acted_98 : decode cX5_acted 98 = .ok (.iload 5, 2) := by decide +kernel
theorem dX5_acted_100 : decode cX5_acted 100 = .ok (.invokevirtual 142, 3) := by decide +kernel
theorem dX5_acted_103 : decode cX5_acted 103 = .ok (.goto 50, 3) := by decide +kernel
theorem dX5_acted_106 : decode cX5_acted 106 = .ok (.iload_n 2, 1) := by decide +kernel
theorem dX5_acted_107 : decode cX5_acted 107 = .ok (.bipush 102, 2) := by decide +kernel
theorem dX5_acted_109 : decode cX5_acted 109 = .ok (.if_icmp .ne 25, 3) := by decide +kernel
theorem dX5_acted_112 : decode cX5_acted 112 = .ok (.aload_n 0, 1) := by decide +kernel
theorem dX5_acted_113 : decode cX5_acted 113 = .ok (.iload_n 3, 1) := by decide +kernel
theorem dX5_acted_114 : decode cX5_acted 114 = .ok (.iload 4, 2) := by decide +kernel
theorem dX5_acted_116 : decode cX5_acted 116 = .ok (.iload 5, 2) := by decide +kernel
theorem dX5_acted_118 : decode cX5_acted 118 = .ok (.aload_n 0, 1) := by decide +kernel
theorem dX5_acted_119 : decode cX5_acted 119 = .ok (.getfield 61, 3) := by decide +kernel
theorem dX5_acted_122 : decode cX5_acted 122 = .ok (.iconst 5, 1) := by decide +kernel
theorem dX5_acted_123 : decode cX5_acted 123 = .ok (.iload_n 1, 1) := by decide +kernel
theorem dX5_acted_124 : decode cX5_acted 124 = .ok (.imul, 1) := by decide +kernel
theorem dX5_acted_125 : decode cX5_acted 125 = .ok (.iconst 4, 1) := by decide +kernel
theorem dX5_acted_126 : decode cX5_acted 126 = .ok (.iadd, 1) := by decide +kernel
theorem dX5_acted_127 : decode cX5_acted 127 = .ok (.iaload, 1) := by decide +kernel
theorem dX5_acted_128 : decode cX5_acted 128 = .ok (.invokevirtual 145, 3) := by decide +kernel
theorem dX5_acted_131 : decode cX5_acted 131 = .ok (.goto 22, 3) := by decide +kernel
theorem dX5_acted_134 : decode cX5_acted 134 = .ok (.iload_n 2, 1) := by decide +kernel
theorem dX5_acted_135 : decode cX5_acted 135 = .ok (.bipush 115, 2) := by decide +kernel
theorem dX5_acted_137 : decode cX5_acted 137 = .ok (.if_icmp .ne 11, 3) := by decide +kernel
theorem dX5_acted_140 : decode cX5_acted 140 = .ok (.aload_n 0, 1) := by decide +kernel
theorem dX5_acted_141 : decode cX5_acted 141 = .ok (.iload_n 3, 1) := by decide +kernel
theorem dX5_acted_142 : decode cX5_acted 142 = .ok (.invokevirtual 149, 3) := by decide +kernel
theorem dX5_acted_145 : decode cX5_acted 145 = .ok (.goto 8, 3) := by decide +kernel
theorem dX5_acted_148 : decode cX5_acted 148 = .ok (.aload_n 0, 1) := by decide +kernel
theorem dX5_acted_149 : decode cX5_acted 149 = .ok (.iload_n 3, 1) := by decide +kernel
theorem dX5_acted_150 : decode cX5_acted 150 = .ok (.invokevirtual 152, 3) := by decide +kernel
theorem dX5_acted_153 : decode cX5_acted 153 = .ok (.ireturn, 1) := by decide +kernel
theorem dX5_does_0 : decode cX5_does 0 = .ok (.aload_n 0, 1) := by decide +kernel
theorem dX5_does_1 : decode cX5_does 1 = .ok (.iconst 0, 1) := by decide +kernel
theorem dX5_does_2 : decode cX5_does 2 = .ok (.putfield 224, 3) := by decide +kernel
theorem dX5_does_5 : decode cX5_does 5 = .ok (.aload_n 0, 1) := by decide +kernel
theorem dX5_does_6 : decode cX5_does 6 = .ok (.iconst 0, 1) := by decide +kernel
theorem dX5_does_7 : decode cX5_does 7 = .ok (.putfield 236, 3) := by decide +kernel
theorem dX5_does_10 : decode cX5_does 10 = .ok (.aload_n 0, 1) := by decide +kernel
theorem dX5_does_11 : decode cX5_does 11 = .ok (.invokevirtual 230, 3) := by decide +kernel
theorem dX5_does_14 : decode cX5_does 14 = .ok (.iconst 1, 1) := by decide +kernel
theorem dX5_does_15 : decode cX5_does 15 = .ok (.istore_n 1, 1) := by decide +kernel
theorem dX5_does_16 : decode cX5_does 16 = .ok (.iconst 0, 1) := by decide +kernel
theorem dX5_does_17 : decode cX5_does 17 = .ok (.istore_n 2, 1) := by decide +kernel
theorem dX5_does_18 : decode cX5_does 18 = .ok (.iload_n 1, 1) := by decide +kernel
theorem dX5_does_19 : decode cX5_does 19 = .ok (.ifCond .eq 28, 3) := by decide +kernel
theorem dX5_does_22 : decode cX5_does 22 = .ok (.iload_n 2, 1) := by decide +kernel
theorem dX5_does_23 : decode cX5_does 23 = .ok (.ifCond .eq 14, 3) := by decide +kernel
theorem dX5_does_26 : decode cX5_does 26 = .ok (.aload_n 0, 1) := by decide +kernel
theorem dX5_does_27 : decode cX5_does 27 = .ok (.getfield 224, 3) := by decide +kernel
theorem dX5_does_30 : decode cX5_does 30 = .ok (.aload_n 0, 1) := by decide +kernel
theorem dX5_does_31 : decode cX5_does 31 = .ok (.getfield 218, 3) := by decide +kernel
theorem dX5_does_34 : decode cX5_does 34 = .ok (.if_icmp .ge 13, 3) := by decide +kernel
theorem dX5_does_37 : decode cX5_does 37 = .ok (.iconst 1, 1) := by decide +kernel
theorem dX5_does_38 : decode cX5_does 38 = .ok (.istore_n 2, 1) := by decide +kernel
theorem dX5_does_39 : decode cX5_does 39 = .ok (.aload_n 0, 1) := by decide +kernel
theorem dX5_does_40 : decode cX5_does 40 = .ok (.invokevirtual 242, 3) := by decide +kernel
theorem dX5_does_43 : decode cX5_does 43 = .ok (.istore_n 1, 1) := by decide +kernel
theorem dX5_does_44 : decode cX5_does 44 = .ok (.goto (-26), 3) := by decide +kernel
theorem dX5_does_47 : decode cX5_does 47 = .ok (.iload_n 1, 1) := by decide +kernel
theorem dX5_does_48 : decode cX5_does 48 = .ok (.ifCond .ne 11, 3) := by decide +kernel
theorem dX5_does_51 : decode cX5_does 51 = .ok (.bipush (-10), 2) := by decide +kernel
theorem dX5_does_53 : decode cX5_does 53 = .ok (.aload_n 0, 1) := by decide +kernel
theorem dX5_does_54 : decode cX5_does 54 = .ok (.getfield 224, 3) := by decide +kernel
theorem dX5_does_57 : decode cX5_does 57 = .ok (.isub, 1) := by decide +kernel
theorem dX5_does_58 : decode cX5_does 58 = .ok (.ireturn, 1) := by decide +kernel
theorem dX5_does_59 : decode cX5_does 59 = .ok (.aload_n 0, 1) := by decide +kernel
theorem dX5_does_60 : decode cX5_does 60 = .ok (.iconst 5, 1) := by decide +kernel
theorem dX5_does_61 : decode cX5_does 61 = .ok (.invokevirtual 133, 3) := by decide +kernel
theorem dX5_does_64 : decode cX5_does 64 = .ok (.iconst 0, 1) := by decide +kernel
theorem dX5_does_65 : decode cX5_does 65 = .ok (.istore_n 3, 1) := by decide +kernel
theorem dX5_does_66 : decode cX5_does 66 = .ok (.iload_n 3, 1) := by decide +kernel
theorem dX5_does_67 : decode cX5_does 67 = .ok (.aload_n 0, 1) := by decide +kernel
theorem dX5_does_68 : decode cX5_does 68 = .ok (.getfield 236, 3) := by decide +kernel
theorem dX5_does_71 : decode cX5_does 71 = .ok (.if_icmp .ge 28, 3) := by decide +kernel
theorem dX5_does_74 : decode cX5_does 74 = .ok (.aload_n 0, 1) := by decide +kernel
theorem dX5_does_75 : decode cX5_does 75 = .ok (.iload_n 3, 1) := by decide +kernel
theorem dX5_does_76 : decode cX5_does 76 = .ok (.invokevirtual 246, 3) := by decide +kernel
theorem dX5_does_79 : decode cX5_does 79 = .ok (.ifCond .ge 14, 3) := by decide +kernel
theorem dX5_does_82 : decode cX5_does 82 = .ok (.aload_n 0, 1) := by decide +kernel
theorem dX5_does_83 : decode cX5_does 83 = .ok (.iconst 5, 1) := by decide +kernel
theorem dX5_does_84 : decode cX5_does 84 = .ok (.invokevirtual 85, 3) := by decide +kernel
theorem dX5_does_87 : decode cX5_does 87 = .ok (.sipush (-1000), 3) := by decide +kernel
theorem dX5_does_90 : decode cX5_does 90 = .ok (.iload_n 3, 1) := by decide +kernel
theorem dX5_does_91 : decode cX5_does 91 = .ok (.isub, 1) := by decide +kernel
theorem dX5_does_92 : decode cX5_does 92 = .ok (.ireturn, 1) := by decide +kernel
theorem dX5_does_93 : decode cX5_does 93 = .ok (.iinc 3 1, 3) := by decide +kernel
theorem dX5_does_96 : decode cX5_does 96 = .ok (.goto (-30), 3) := by decide +kernel
theorem dX5_does_99 : decode cX5_does 99 = .ok (.aload_n 0, 1) := by decide +kernel
theorem dX5_does_100 : decode cX5_does 100 = .ok (.invokevirtual 130, 3) := by decide +kernel
theorem dX5_does_103 : decode cX5_does 103 = .ok (.aload_n 0, 1) := by decide +kernel
theorem dX5_does_104 : decode cX5_does 104 = .ok (.getfield 236, 3) := by decide +kernel
theorem dX5_does_107 : decode cX5_does 107 = .ok (.ireturn, 1) := by decide +kernel
theorem dX5_toldOf_0 : decode cX5_toldOf 0 = .ok (.iload_n 1, 1) := by decide +kernel
theorem dX5_toldOf_1 : decode cX5_toldOf 1 = .ok (.iconst 3, 1) := by decide +kernel
theorem dX5_toldOf_2 : decode cX5_toldOf 2 = .ok (.if_icmp .ge 12, 3) := by decide +kernel
theorem dX5_toldOf_5 : decode cX5_toldOf 5 = .ok (.aload_n 0, 1) := by decide +kernel
theorem dX5_toldOf_6 : decode cX5_toldOf 6 = .ok (.getfield 7, 3) := by decide +kernel
theorem dX5_toldOf_9 : decode cX5_toldOf 9 = .ok (.iload_n 1, 1) := by decide +kernel
theorem dX5_toldOf_10 : decode cX5_toldOf 10 = .ok (.iaload, 1) := by decide +kernel
theorem dX5_toldOf_11 : decode cX5_toldOf 11 = .ok (.goto 19, 3) := by decide +kernel
theorem dX5_toldOf_14 : decode cX5_toldOf 14 = .ok (.iload_n 1, 1) := by decide +kernel
theorem dX5_toldOf_15 : decode cX5_toldOf 15 = .ok (.iconst 3, 1) := by decide +kernel
theorem dX5_toldOf_16 : decode cX5_toldOf 16 = .ok (.if_icmp .ne 10, 3) := by decide +kernel
theorem dX5_toldOf_19 : decode cX5_toldOf 19 = .ok (.aload_n 0, 1) := by decide +kernel
theorem dX5_toldOf_20 : decode cX5_toldOf 20 = .ok (.getfield 218, 3) := by decide +kernel
theorem dX5_toldOf_23 : decode cX5_toldOf 23 = .ok (.goto 7, 3) := by decide +kernel
theorem dX5_toldOf_26 : decode cX5_toldOf 26 = .ok (.aload_n 0, 1) := by decide +kernel
theorem dX5_toldOf_27 : decode cX5_toldOf 27 = .ok (.getfield 81, 3) := by decide +kernel
theorem dX5_toldOf_30 : decode cX5_toldOf 30 = .ok (.ireturn, 1) := by decide +kernel
theorem dX5_told_0 : decode cX5_told 0 = .ok (.iload_n 1, 1) := by decide +kernel
theorem dX5_told_1 : decode cX5_told 1 = .ok (.iconst 0, 1) := by decide +kernel
theorem dX5_told_2 : decode cX5_told 2 = .ok (.iconst 4, 1) := by decide +kernel
theorem dX5_told_3 : decode cX5_told 3 = .ok (.invokestatic 89, 3) := by decide +kernel
theorem dX5_told_6 : decode cX5_told 6 = .ok (.ifCond .eq 11, 3) := by decide +kernel
theorem dX5_told_9 : decode cX5_told 9 = .ok (.aload_n 0, 1) := by decide +kernel
theorem dX5_told_10 : decode cX5_told 10 = .ok (.iload_n 1, 1) := by decide +kernel
theorem dX5_told_11 : decode cX5_told 11 = .ok (.invokevirtual 249, 3) := by decide +kernel
theorem dX5_told_14 : decode cX5_told 14 = .ok (.goto 7, 3) := by decide +kernel
theorem dX5_told_17 : decode cX5_told 17 = .ok (.aload_n 0, 1) := by decide +kernel
theorem dX5_told_18 : decode cX5_told 18 = .ok (.invokevirtual 68, 3) := by decide +kernel
theorem dX5_told_21 : decode cX5_told 21 = .ok (.ireturn, 1) := by decide +kernel
theorem dX5_digest_0 : decode cX5_digest 0 = .ok (.ldc2_w 252, 3) := by decide +kernel
theorem dX5_digest_3 : decode cX5_digest 3 = .ok (.lstore_n 1, 1) := by decide +kernel
theorem dX5_digest_4 : decode cX5_digest 4 = .ok (.iconst 0, 1) := by decide +kernel
theorem dX5_digest_5 : decode cX5_digest 5 = .ok (.istore_n 3, 1) := by decide +kernel
theorem dX5_digest_6 : decode cX5_digest 6 = .ok (.iload_n 3, 1) := by decide +kernel
theorem dX5_digest_7 : decode cX5_digest 7 = .ok (.iconst 5, 1) := by decide +kernel
theorem dX5_digest_8 : decode cX5_digest 8 = .ok (.if_icmp .ge 22, 3) := by decide +kernel
theorem dX5_digest_11 : decode cX5_digest 11 = .ok (.ldc2_w 254, 3) := by decide +kernel
theorem dX5_digest_14 : decode cX5_digest 14 = .ok (.lload_n 1, 1) := by decide +kernel
theorem dX5_digest_15 : decode cX5_digest 15 = .ok (.lmul, 1) := by decide +kernel
theorem dX5_digest_16 : decode cX5_digest 16 = .ok (.aload_n 0, 1) := by decide +kernel
theorem dX5_digest_17 : decode cX5_digest 17 = .ok (.iload_n 3, 1) := by decide +kernel
theorem dX5_digest_18 : decode cX5_digest 18 = .ok (.invokevirtual 249, 3) := by decide +kernel
theorem dX5_digest_21 : decode cX5_digest 21 = .ok (.i2l, 1) := by decide +kernel
theorem dX5_digest_22 : decode cX5_digest 22 = .ok (.ladd, 1) := by decide +kernel
theorem dX5_digest_23 : decode cX5_digest 23 = .ok (.lstore_n 1, 1) := by decide +kernel
theorem dX5_digest_24 : decode cX5_digest 24 = .ok (.iinc 3 1, 3) := by decide +kernel
theorem dX5_digest_27 : decode cX5_digest 27 = .ok (.goto (-21), 3) := by decide +kernel
theorem dX5_digest_30 : decode cX5_digest 30 = .ok (.iconst 0, 1) := by decide +kernel
theorem dX5_digest_31 : decode cX5_digest 31 = .ok (.istore_n 3, 1) := by decide +kernel
theorem dX5_digest_32 : decode cX5_digest 32 = .ok (.iload_n 3, 1) := by decide +kernel
theorem dX5_digest_33 : decode cX5_digest 33 = .ok (.bipush 6, 2) := by decide +kernel
theorem dX5_digest_35 : decode cX5_digest 35 = .ok (.if_icmp .ge 22, 3) := by decide +kernel
theorem dX5_digest_38 : decode cX5_digest 38 = .ok (.ldc2_w 254, 3) := by decide +kernel
theorem dX5_digest_41 : decode cX5_digest 41 = .ok (.lload_n 1, 1) := by decide +kernel
theorem dX5_digest_42 : decode cX5_digest 42 = .ok (.lmul, 1) := by decide +kernel
theorem dX5_digest_43 : decode cX5_digest 43 = .ok (.aload_n 0, 1) := by decide +kernel
theorem dX5_digest_44 : decode cX5_digest 44 = .ok (.iload_n 3, 1) := by decide +kernel
theorem dX5_digest_45 : decode cX5_digest 45 = .ok (.invokevirtual 194, 3) := by decide +kernel
theorem dX5_digest_48 : decode cX5_digest 48 = .ok (.i2l, 1) := by decide +kernel
theorem dX5_digest_49 : decode cX5_digest 49 = .ok (.ladd, 1) := by decide +kernel
theorem dX5_digest_50 : decode cX5_digest 50 = .ok (.lstore_n 1, 1) := by decide +kernel
theorem dX5_digest_51 : decode cX5_digest 51 = .ok (.iinc 3 1, 3) := by decide +kernel
theorem dX5_digest_54 : decode cX5_digest 54 = .ok (.goto (-22), 3) := by decide +kernel
theorem dX5_digest_57 : decode cX5_digest 57 = .ok (.aload_n 0, 1) := by decide +kernel
theorem dX5_digest_58 : decode cX5_digest 58 = .ok (.invokevirtual 203, 3) := by decide +kernel
theorem dX5_digest_61 : decode cX5_digest 61 = .ok (.iconst 0, 1) := by decide +kernel
theorem dX5_digest_62 : decode cX5_digest 62 = .ok (.istore_n 3, 1) := by decide +kernel
theorem dX5_digest_63 : decode cX5_digest 63 = .ok (.iload_n 3, 1) := by decide +kernel
theorem dX5_digest_64 : decode cX5_digest 64 = .ok (.aload_n 0, 1) := by decide +kernel
theorem dX5_digest_65 : decode cX5_digest 65 = .ok (.getfield 13, 3) := by decide +kernel
theorem dX5_digest_68 : decode cX5_digest 68 = .ok (.iconst 1, 1) := by decide +kernel
theorem dX5_digest_69 : decode cX5_digest 69 = .ok (.iaload, 1) := by decide +kernel
theorem dX5_digest_70 : decode cX5_digest 70 = .ok (.if_icmp .ge 62, 3) := by decide +kernel
theorem dX5_digest_73 : decode cX5_digest 73 = .ok (.ldc2_w 254, 3) := by decide +kernel
theorem dX5_digest_76 : decode cX5_digest 76 = .ok (.lload_n 1, 1) := by decide +kernel
theorem dX5_digest_77 : decode cX5_digest 77 = .ok (.lmul, 1) := by decide +kernel
theorem dX5_digest_78 : decode cX5_digest 78 = .ok (.aload_n 0, 1) := by decide +kernel
theorem dX5_digest_79 : decode cX5_digest 79 = .ok (.iload_n 3, 1) := by decide +kernel
theorem dX5_digest_80 : decode cX5_digest 80 = .ok (.invokevirtual 104, 3) := by decide +kernel
theorem dX5_digest_83 : decode cX5_digest 83 = .ok (.i2l, 1) := by decide +kernel
theorem dX5_digest_84 : decode cX5_digest 84 = .ok (.ladd, 1) := by decide +kernel
theorem dX5_digest_85 : decode cX5_digest 85 = .ok (.lstore_n 1, 1) := by decide +kernel
theorem dX5_digest_86 : decode cX5_digest 86 = .ok (.ldc2_w 254, 3) := by decide +kernel
theorem dX5_digest_89 : decode cX5_digest 89 = .ok (.lload_n 1, 1) := by decide +kernel
theorem dX5_digest_90 : decode cX5_digest 90 = .ok (.lmul, 1) := by decide +kernel
theorem dX5_digest_91 : decode cX5_digest 91 = .ok (.aload_n 0, 1) := by decide +kernel
theorem dX5_digest_92 : decode cX5_digest 92 = .ok (.iload_n 3, 1) := by decide +kernel
theorem dX5_digest_93 : decode cX5_digest 93 = .ok (.invokevirtual 108, 3) := by decide +kernel
theorem dX5_digest_96 : decode cX5_digest 96 = .ok (.i2l, 1) := by decide +kernel
theorem dX5_digest_97 : decode cX5_digest 97 = .ok (.ladd, 1) := by decide +kernel
theorem dX5_digest_98 : decode cX5_digest 98 = .ok (.lstore_n 1, 1) := by decide +kernel
theorem dX5_digest_99 : decode cX5_digest 99 = .ok (.ldc2_w 254, 3) := by decide +kernel
theorem dX5_digest_102 : decode cX5_digest 102 = .ok (.lload_n 1, 1) := by decide +kernel
theorem dX5_digest_103 : decode cX5_digest 103 = .ok (.lmul, 1) := by decide +kernel
theorem dX5_digest_104 : decode cX5_digest 104 = .ok (.aload_n 0, 1) := by decide +kernel
theorem dX5_digest_105 : decode cX5_digest 105 = .ok (.iload_n 3, 1) := by decide +kernel
theorem dX5_digest_106 : decode cX5_digest 106 = .ok (.invokevirtual 191, 3) := by decide +kernel
theorem dX5_digest_109 : decode cX5_digest 109 = .ok (.i2l, 1) := by decide +kernel
theorem dX5_digest_110 : decode cX5_digest 110 = .ok (.ladd, 1) := by decide +kernel
theorem dX5_digest_111 : decode cX5_digest 111 = .ok (.lstore_n 1, 1) := by decide +kernel
theorem dX5_digest_112 : decode cX5_digest 112 = .ok (.ldc2_w 254, 3) := by decide +kernel
theorem dX5_digest_115 : decode cX5_digest 115 = .ok (.lload_n 1, 1) := by decide +kernel
theorem dX5_digest_116 : decode cX5_digest 116 = .ok (.lmul, 1) := by decide +kernel
theorem dX5_digest_117 : decode cX5_digest 117 = .ok (.aload_n 0, 1) := by decide +kernel
theorem dX5_digest_118 : decode cX5_digest 118 = .ok (.getfield 49, 3) := by decide +kernel
theorem dX5_digest_121 : decode cX5_digest 121 = .ok (.iload_n 3, 1) := by decide +kernel
theorem dX5_digest_122 : decode cX5_digest 122 = .ok (.iaload, 1) := by decide +kernel
theorem dX5_digest_123 : decode cX5_digest 123 = .ok (.i2l, 1) := by decide +kernel
theorem dX5_digest_124 : decode cX5_digest 124 = .ok (.ladd, 1) := by decide +kernel
theorem dX5_digest_125 : decode cX5_digest 125 = .ok (.lstore_n 1, 1) := by decide +kernel
theorem dX5_digest_126 : decode cX5_digest 126 = .ok (.iinc 3 1, 3) := by decide +kernel
theorem dX5_digest_129 : decode cX5_digest 129 = .ok (.goto (-66), 3) := by decide +kernel
theorem dX5_digest_132 : decode cX5_digest 132 = .ok (.iconst 0, 1) := by decide +kernel
theorem dX5_digest_133 : decode cX5_digest 133 = .ok (.istore_n 3, 1) := by decide +kernel
theorem dX5_digest_134 : decode cX5_digest 134 = .ok (.iload_n 3, 1) := by decide +kernel
theorem dX5_digest_135 : decode cX5_digest 135 = .ok (.aload_n 0, 1) := by decide +kernel
theorem dX5_digest_136 : decode cX5_digest 136 = .ok (.getfield 13, 3) := by decide +kernel
theorem dX5_digest_139 : decode cX5_digest 139 = .ok (.iconst 2, 1) := by decide +kernel
theorem dX5_digest_140 : decode cX5_digest 140 = .ok (.iaload, 1) := by decide +kernel
theorem dX5_digest_141 : decode cX5_digest 141 = .ok (.if_icmp .ge 95, 3) := by decide +kernel
theorem dX5_digest_144 : decode cX5_digest 144 = .ok (.iconst 0, 1) := by decide +kernel
theorem dX5_digest_145 : decode cX5_digest 145 = .ok (.istore 4, 2) := by decide +kernel
theorem dX5_digest_147 : decode cX5_digest 147 = .ok (.iload 4, 2) := by decide +kernel
theorem dX5_digest_149 : decode cX5_digest 149 = .ok (.iconst 3, 1) := by decide +kernel
theorem dX5_digest_150 : decode cX5_digest 150 = .ok (.if_icmp .ge 24, 3) := by decide +kernel
theorem dX5_digest_153 : decode cX5_digest 153 = .ok (.ldc2_w 254, 3) := by decide +kernel
theorem dX5_digest_156 : decode cX5_digest 156 = .ok (.lload_n 1, 1) := by decide +kernel
theorem dX5_digest_157 : decode cX5_digest 157 = .ok (.lmul, 1) := by decide +kernel
theorem dX5_digest_158 : decode cX5_digest 158 = .ok (.aload_n 0, 1) := by decide +kernel
theorem dX5_digest_159 : decode cX5_digest 159 = .ok (.iload_n 3, 1) := by decide +kernel
theorem dX5_digest_160 : decode cX5_digest 160 = .ok (.iload 4, 2) := by decide +kernel
theorem dX5_digest_162 : decode cX5_digest 162 = .ok (.invokevirtual 118, 3) := by decide +kernel
theorem dX5_digest_165 : decode cX5_digest 165 = .ok (.i2l, 1) := by decide +kernel
theorem dX5_digest_166 : decode cX5_digest 166 = .ok (.ladd, 1) := by decide +kernel
theorem dX5_digest_167 : decode cX5_digest 167 = .ok (.lstore_n 1, 1) := by decide +kernel
theorem dX5_digest_168 : decode cX5_digest 168 = .ok (.iinc 4 1, 3) := by decide +kernel
theorem dX5_digest_171 : decode cX5_digest 171 = .ok (.goto (-24), 3) := by decide +kernel
theorem dX5_digest_174 : decode cX5_digest 174 = .ok (.iconst 0, 1) := by decide +kernel
theorem dX5_digest_175 : decode cX5_digest 175 = .ok (.istore 4, 2) := by decide +kernel
theorem dX5_digest_177 : decode cX5_digest 177 = .ok (.iload 4, 2) := by decide +kernel
theorem dX5_digest_179 : decode cX5_digest 179 = .ok (.aload_n 0, 1) := by decide +kernel
theorem dX5_digest_180 : decode cX5_digest 180 = .ok (.iload_n 3, 1) := by decide +kernel
theorem dX5_digest_181 : decode cX5_digest 181 = .ok (.iconst 2, 1) := by decide +kernel
theorem dX5_digest_182 : decode cX5_digest 182 = .ok (.invokevirtual 118, 3) := by decide +kernel
theorem dX5_digest_185 : decode cX5_digest 185 = .ok (.iconst (-1), 1) := by decide +kernel
theorem dX5_digest_186 : decode cX5_digest 186 = .ok (.if_icmp .ne 8, 3) := by decide +kernel
theorem dX5_digest_189 : decode cX5_digest 189 = .ok (.bipush 8, 2) := by decide +kernel
theorem dX5_digest_191 : decode cX5_digest 191 = .ok (.goto 5, 3) := by decide +kernel
theorem dX5_digest_194 : decode cX5_digest 194 = .ok (.bipush 24, 2) := by decide +kernel
theorem dX5_digest_196 : decode cX5_digest 196 = .ok (.if_icmp .ge 34, 3) := by decide +kernel
theorem dX5_digest_199 : decode cX5_digest 199 = .ok (.ldc2_w 254, 3) := by decide +kernel
theorem dX5_digest_202 : decode cX5_digest 202 = .ok (.lload_n 1, 1) := by decide +kernel
theorem dX5_digest_203 : decode cX5_digest 203 = .ok (.lmul, 1) := by decide +kernel
theorem dX5_digest_204 : decode cX5_digest 204 = .ok (.aload_n 0, 1) := by decide +kernel
theorem dX5_digest_205 : decode cX5_digest 205 = .ok (.getfield 13, 3) := by decide +kernel
theorem dX5_digest_208 : decode cX5_digest 208 = .ok (.bipush 62, 2) := by decide +kernel
theorem dX5_digest_210 : decode cX5_digest 210 = .ok (.bipush 27, 2) := by decide +kernel
theorem dX5_digest_212 : decode cX5_digest 212 = .ok (.iload_n 3, 1) := by decide +kernel
theorem dX5_digest_213 : decode cX5_digest 213 = .ok (.imul, 1) := by decide +kernel
theorem dX5_digest_214 : decode cX5_digest 214 = .ok (.iadd, 1) := by decide +kernel
theorem dX5_digest_215 : decode cX5_digest 215 = .ok (.iconst 3, 1) := by decide +kernel
theorem dX5_digest_216 : decode cX5_digest 216 = .ok (.iadd, 1) := by decide +kernel
theorem dX5_digest_217 : decode cX5_digest 217 = .ok (.iload 4, 2) := by decide +kernel
theorem dX5_digest_219 : decode cX5_digest 219 = .ok (.iadd, 1) := by decide +kernel
theorem dX5_digest_220 : decode cX5_digest 220 = .ok (.iaload, 1) := by decide +kernel
theorem dX5_digest_221 : decode cX5_digest 221 = .ok (.i2l, 1) := by decide +kernel
theorem dX5_digest_222 : decode cX5_digest 222 = .ok (.ladd, 1) := by decide +kernel
theorem dX5_digest_223 : decode cX5_digest 223 = .ok (.lstore_n 1, 1) := by decide +kernel
theorem dX5_digest_224 : decode cX5_digest 224 = .ok (.iinc 4 1, 3) := by decide +kernel
theorem dX5_digest_227 : decode cX5_digest 227 = .ok (.goto (-50), 3) := by decide +kernel
theorem dX5_digest_230 : decode cX5_digest 230 = .ok (.iinc 3 1, 3) := by decide +kernel
theorem dX5_digest_233 : decode cX5_digest 233 = .ok (.goto (-99), 3) := by decide +kernel
theorem dX5_digest_236 : decode cX5_digest 236 = .ok (.lload_n 1, 1) := by decide +kernel
theorem dX5_digest_237 : decode cX5_digest 237 = .ok (.lreturn, 1) := by decide +kernel
theorem dJ9_min_7cf53_0 : decode cJ9_min_7cf53 0 = .ok (.iload_n 0, 1) := by decide +kernel
theorem dJ9_min_7cf53_1 : decode cJ9_min_7cf53 1 = .ok (.iload_n 1, 1) := by decide +kernel
theorem dJ9_min_7cf53_2 : decode cJ9_min_7cf53 2 = .ok (.if_icmp .gt 7, 3) := by decide +kernel
theorem dJ9_min_7cf53_5 : decode cJ9_min_7cf53 5 = .ok (.iload_n 0, 1) := by decide +kernel
theorem dJ9_min_7cf53_6 : decode cJ9_min_7cf53 6 = .ok (.goto 4, 3) := by decide +kernel
theorem dJ9_min_7cf53_9 : decode cJ9_min_7cf53 9 = .ok (.iload_n 1, 1) := by decide +kernel
theorem dJ9_min_7cf53_10 : decode cJ9_min_7cf53 10 = .ok (.ireturn, 1) := by decide +kernel
theorem dL_law_0 : decode cL_law 0 = .ok (.new 7, 3) := by decide +kernel
theorem dL_law_3 : decode cL_law 3 = .ok (.dup, 1) := by decide +kernel
theorem dL_law_4 : decode cL_law 4 = .ok (.invokespecial 9, 3) := by decide +kernel
theorem dL_law_7 : decode cL_law 7 = .ok (.astore_n 1, 1) := by decide +kernel
theorem dL_law_8 : decode cL_law 8 = .ok (.new 10, 3) := by decide +kernel
theorem dL_law_11 : decode cL_law 11 = .ok (.dup, 1) := by decide +kernel
theorem dL_law_12 : decode cL_law 12 = .ok (.invokespecial 12, 3) := by decide +kernel
theorem dL_law_15 : decode cL_law 15 = .ok (.astore_n 2, 1) := by decide +kernel
theorem dL_law_16 : decode cL_law 16 = .ok (.iconst 0, 1) := by decide +kernel
theorem dL_law_17 : decode cL_law 17 = .ok (.istore_n 3, 1) := by decide +kernel
theorem dL_law_18 : decode cL_law 18 = .ok (.iload_n 3, 1) := by decide +kernel
theorem dL_law_19 : decode cL_law 19 = .ok (.aload_n 0, 1) := by decide +kernel
theorem dL_law_20 : decode cL_law 20 = .ok (.arraylength, 1) := by decide +kernel
theorem dL_law_21 : decode cL_law 21 = .ok (.iconst 5, 1) := by decide +kernel
theorem dL_law_22 : decode cL_law 22 = .ok (.isub, 1) := by decide +kernel
theorem dL_law_23 : decode cL_law 23 = .ok (.if_icmp .gt 753, 3) := by decide +kernel
theorem dL_law_26 : decode cL_law 26 = .ok (.aload_n 0, 1) := by decide +kernel
theorem dL_law_27 : decode cL_law 27 = .ok (.iload_n 3, 1) := by decide +kernel
theorem dL_law_28 : decode cL_law 28 = .ok (.iaload, 1) := by decide +kernel
theorem dL_law_29 : decode cL_law 29 = .ok (.bipush 31, 2) := by decide +kernel
theorem dL_law_31 : decode cL_law 31 = .ok (.iand, 1) := by decide +kernel
theorem dL_law_32 : decode cL_law 32 = .ok (.tableswitch 738 0 22 #[108, 121, 144, 177, 220, 273, 296, 319, 352, 385, 428, 451, 474, 497, 530, 563, 596, 639, 662, 675, 688, 701, 724], 108) := by decide +kernel
theorem dL_law_140 : decode cL_law 140 = .ok (.aload_n 1, 1) := by decide +kernel
theorem dL_law_141 : decode cL_law 141 = .ok (.invokevirtual 13, 3) := by decide +kernel
theorem dL_law_144 : decode cL_law 144 = .ok (.aload_n 2, 1) := by decide +kernel
theorem dL_law_145 : decode cL_law 145 = .ok (.invokevirtual 17, 3) := by decide +kernel
theorem dL_law_148 : decode cL_law 148 = .ok (.if_icmp .eq 622, 3) := by decide +kernel
theorem dL_law_151 : decode cL_law 151 = .ok (.iconst 0, 1) := by decide +kernel
theorem dL_law_152 : decode cL_law 152 = .ok (.ireturn, 1) := by decide +kernel
theorem dL_law_153 : decode cL_law 153 = .ok (.aload_n 1, 1) := by decide +kernel
theorem dL_law_154 : decode cL_law 154 = .ok (.aload_n 0, 1) := by decide +kernel
theorem dL_law_155 : decode cL_law 155 = .ok (.iload_n 3, 1) := by decide +kernel
theorem dL_law_156 : decode cL_law 156 = .ok (.iconst 1, 1) := by decide +kernel
theorem dL_law_157 : decode cL_law 157 = .ok (.iadd, 1) := by decide +kernel
theorem dL_law_158 : decode cL_law 158 = .ok (.iaload, 1) := by decide +kernel
theorem dL_law_159 : decode cL_law 159 = .ok (.invokevirtual 18, 3) := by decide +kernel
theorem dL_law_162 : decode cL_law 162 = .ok (.aload_n 2, 1) := by decide +kernel
theorem dL_law_163 : decode cL_law 163 = .ok (.aload_n 0, 1) := by decide +kernel
theorem dL_law_164 : decode cL_law 164 = .ok (.iload_n 3, 1) := by decide +kernel
theorem dL_law_165 : decode cL_law 165 = .ok (.iconst 1, 1) := by decide +kernel
theorem dL_law_166 : decode cL_law 166 = .ok (.iadd, 1) := by decide +kernel
theorem dL_law_167 : decode cL_law 167 = .ok (.iaload, 1) := by decide +kernel
theorem dL_law_168 : decode cL_law 168 = .ok (.invokevirtual 22, 3) := by decide +kernel
theorem dL_law_171 : decode cL_law 171 = .ok (.if_icmp .eq 599, 3) := by decide +kernel
theorem dL_law_174 : decode cL_law 174 = .ok (.iconst 0, 1) := by decide +kernel
theorem dL_law_175 : decode cL_law 175 = .ok (.ireturn, 1) := by decide +kernel
theorem dL_law_176 : decode cL_law 176 = .ok (.aload_n 1, 1) := by decide +kernel
theorem dL_law_177 : decode cL_law 177 = .ok (.aload_n 0, 1) := by decide +kernel
theorem dL_law_178 : decode cL_law 178 = .ok (.iload_n 3, 1) := by decide +kernel
theorem dL_law_179 : decode cL_law 179 = .ok (.iconst 1, 1) := by decide +kernel
theorem dL_law_180 : decode cL_law 180 = .ok (.iadd, 1) := by decide +kernel
theorem dL_law_181 : decode cL_law 181 = .ok (.iaload, 1) := by decide +kernel
theorem dL_law_182 : decode cL_law 182 = .ok (.aload_n 0, 1) := by decide +kernel
theorem dL_law_183 : decode cL_law 183 = .ok (.iload_n 3, 1) := by decide +kernel
theorem dL_law_184 : decode cL_law 184 = .ok (.iconst 2, 1) := by decide +kernel
theorem dL_law_185 : decode cL_law 185 = .ok (.iadd, 1) := by decide +kernel
theorem dL_law_186 : decode cL_law 186 = .ok (.iaload, 1) := by decide +kernel
theorem dL_law_187 : decode cL_law 187 = .ok (.invokevirtual 23, 3) := by decide +kernel
theorem dL_law_190 : decode cL_law 190 = .ok (.aload_n 2, 1) := by decide +kernel
theorem dL_law_191 : decode cL_law 191 = .ok (.aload_n 0, 1) := by decide +kernel
theorem dL_law_192 : decode cL_law 192 = .ok (.iload_n 3, 1) := by decide +kernel
theorem dL_law_193 : decode cL_law 193 = .ok (.iconst 1, 1) := by decide +kernel
theorem dL_law_194 : decode cL_law 194 = .ok (.iadd, 1) := by decide +kernel
theorem dL_law_195 : decode cL_law 195 = .ok (.iaload, 1) := by decide +kernel
theorem dL_law_196 : decode cL_law 196 = .ok (.aload_n 0, 1) := by decide +kernel
theorem dL_law_197 : decode cL_law 197 = .ok (.iload_n 3, 1) := by decide +kernel
theorem dL_law_198 : decode cL_law 198 = .ok (.iconst 2, 1) := by decide +kernel
theorem dL_law_199 : decode cL_law 199 = .ok (.iadd, 1) := by decide +kernel
theorem dL_law_200 : decode cL_law 200 = .ok (.iaload, 1) := by decide +kernel
theorem dL_law_201 : decode cL_law 201 = .ok (.invokevirtual 27, 3) := by decide +kernel
theorem dL_law_204 : decode cL_law 204 = .ok (.if_icmp .eq 566, 3) := by decide +kernel
theorem dL_law_207 : decode cL_law 207 = .ok (.iconst 0, 1) := by decide +kernel
theorem dL_law_208 : decode cL_law 208 = .ok (.ireturn, 1) := by decide +kernel
theorem dL_law_209 : decode cL_law 209 = .ok (.aload_n 1, 1) := by decide +kernel
theorem dL_law_210 : decode cL_law 210 = .ok (.aload_n 0, 1) := by decide +kernel
theorem dL_law_211 : decode cL_law 211 = .ok (.iload_n 3, 1) := by decide +kernel
theorem dL_law_212 : decode cL_law 212 = .ok (.iconst 1, 1) := by decide +kernel
theorem dL_law_213 : decode cL_law 213 = .ok (.iadd, 1) := by decide +kernel
theorem dL_law_214 : decode cL_law 214 = .ok (.iaload, 1) := by decide +kernel
theorem dL_law_215 : decode cL_law 215 = .ok (.aload_n 0, 1) := by decide +kernel
theorem dL_law_216 : decode cL_law 216 = .ok (.iload_n 3, 1) := by decide +kernel
theorem dL_law_217 : decode cL_law 217 = .ok (.iconst 2, 1) := by decide +kernel
theorem dL_law_218 : decode cL_law 218 = .ok (.iadd, 1) := by decide +kernel
theorem dL_law_219 : decode cL_law 219 = .ok (.iaload, 1) := by decide +kernel
theorem dL_law_220 : decode cL_law 220 = .ok (.aload_n 0, 1) := by decide +kernel
theorem dL_law_221 : decode cL_law 221 = .ok (.iload_n 3, 1) := by decide +kernel
theorem dL_law_222 : decode cL_law 222 = .ok (.iconst 3, 1) := by decide +kernel
theorem dL_law_223 : decode cL_law 223 = .ok (.iadd, 1) := by decide +kernel
theorem dL_law_224 : decode cL_law 224 = .ok (.iaload, 1) := by decide +kernel
theorem dL_law_225 : decode cL_law 225 = .ok (.invokevirtual 28, 3) := by decide +kernel
theorem dL_law_228 : decode cL_law 228 = .ok (.aload_n 2, 1) := by decide +kernel
theorem dL_law_229 : decode cL_law 229 = .ok (.aload_n 0, 1) := by decide +kernel
theorem dL_law_230 : decode cL_law 230 = .ok (.iload_n 3, 1) := by decide +kernel
theorem dL_law_231 : decode cL_law 231 = .ok (.iconst 1, 1) := by decide +kernel
theorem dL_law_232 : decode cL_law 232 = .ok (.iadd, 1) := by decide +kernel
theorem dL_law_233 : decode cL_law 233 = .ok (.iaload, 1) := by decide +kernel
theorem dL_law_234 : decode cL_law 234 = .ok (.aload_n 0, 1) := by decide +kernel
theorem dL_law_235 : decode cL_law 235 = .ok (.iload_n 3, 1) := by decide +kernel
theorem dL_law_236 : decode cL_law 236 = .ok (.iconst 2, 1) := by decide +kernel
theorem dL_law_237 : decode cL_law 237 = .ok (.iadd, 1) := by decide +kernel
theorem dL_law_238 : decode cL_law 238 = .ok (.iaload, 1) := by decide +kernel
theorem dL_law_239 : decode cL_law 239 = .ok (.aload_n 0, 1) := by decide +kernel
theorem dL_law_240 : decode cL_law 240 = .ok (.iload_n 3, 1) := by decide +kernel
theorem dL_law_241 : decode cL_law 241 = .ok (.iconst 3, 1) := by decide +kernel
theorem dL_law_242 : decode cL_law 242 = .ok (.iadd, 1) := by decide +kernel
theorem dL_law_243 : decode cL_law 243 = .ok (.iaload, 1) := by decide +kernel
theorem dL_law_244 : decode cL_law 244 = .ok (.invokevirtual 32, 3) := by decide +kernel
theorem dL_law_247 : decode cL_law 247 = .ok (.if_icmp .eq 523, 3) := by decide +kernel
theorem dL_law_250 : decode cL_law 250 = .ok (.iconst 0, 1) := by decide +kernel
theorem dL_law_251 : decode cL_law 251 = .ok (.ireturn, 1) := by decide +kernel
theorem dL_law_252 : decode cL_law 252 = .ok (.aload_n 1, 1) := by decide +kernel
theorem dL_law_253 : decode cL_law 253 = .ok (.aload_n 0, 1) := by decide +kernel
theorem dL_law_254 : decode cL_law 254 = .ok (.iload_n 3, 1) := by decide +kernel
theorem dL_law_255 : decode cL_law 255 = .ok (.iconst 1, 1) := by decide +kernel
theorem dL_law_256 : decode cL_law 256 = .ok (.iadd, 1) := by decide +kernel
theorem dL_law_257 : decode cL_law 257 = .ok (.iaload, 1) := by decide +kernel
theorem dL_law_258 : decode cL_law 258 = .ok (.aload_n 0, 1) := by decide +kernel
theorem dL_law_259 : decode cL_law 259 = .ok (.iload_n 3, 1) := by decide +kernel
theorem dL_law_260 : decode cL_law 260 = .ok (.iconst 2, 1) := by decide +kernel
theorem dL_law_261 : decode cL_law 261 = .ok (.iadd, 1) := by decide +kernel
theorem dL_law_262 : decode cL_law 262 = .ok (.iaload, 1) := by decide +kernel
theorem dL_law_263 : decode cL_law 263 = .ok (.aload_n 0, 1) := by decide +kernel
theorem dL_law_264 : decode cL_law 264 = .ok (.iload_n 3, 1) := by decide +kernel
theorem dL_law_265 : decode cL_law 265 = .ok (.iconst 3, 1) := by decide +kernel
theorem dL_law_266 : decode cL_law 266 = .ok (.iadd, 1) := by decide +kernel
theorem dL_law_267 : decode cL_law 267 = .ok (.iaload, 1) := by decide +kernel
theorem dL_law_268 : decode cL_law 268 = .ok (.aload_n 0, 1) := by decide +kernel
theorem dL_law_269 : decode cL_law 269 = .ok (.iload_n 3, 1) := by decide +kernel
theorem dL_law_270 : decode cL_law 270 = .ok (.iconst 4, 1) := by decide +kernel
theorem dL_law_271 : decode cL_law 271 = .ok (.iadd, 1) := by decide +kernel
theorem dL_law_272 : decode cL_law 272 = .ok (.iaload, 1) := by decide +kernel
theorem dL_law_273 : decode cL_law 273 = .ok (.invokevirtual 33, 3) := by decide +kernel
theorem dL_law_276 : decode cL_law 276 = .ok (.aload_n 2, 1) := by decide +kernel
theorem dL_law_277 : decode cL_law 277 = .ok (.aload_n 0, 1) := by decide +kernel
theorem dL_law_278 : decode cL_law 278 = .ok (.iload_n 3, 1) := by decide +kernel
theorem dL_law_279 : decode cL_law 279 = .ok (.iconst 1, 1) := by decide +kernel
theorem dL_law_280 : decode cL_law 280 = .ok (.iadd, 1) := by decide +kernel
theorem dL_law_281 : decode cL_law 281 = .ok (.iaload, 1) := by decide +kernel
theorem dL_law_282 : decode cL_law 282 = .ok (.aload_n 0, 1) := by decide +kernel
theorem dL_law_283 : decode cL_law 283 = .ok (.iload_n 3, 1) := by decide +kernel
theorem dL_law_284 : decode cL_law 284 = .ok (.iconst 2, 1) := by decide +kernel
theorem dL_law_285 : decode cL_law 285 = .ok (.iadd, 1) := by decide +kernel
theorem dL_law_286 : decode cL_law 286 = .ok (.iaload, 1) := by decide +kernel
theorem dL_law_287 : decode cL_law 287 = .ok (.aload_n 0, 1) := by decide +kernel
theorem dL_law_288 : decode cL_law 288 = .ok (.iload_n 3, 1) := by decide +kernel
theorem dL_law_289 : decode cL_law 289 = .ok (.iconst 3, 1) := by decide +kernel
theorem dL_law_290 : decode cL_law 290 = .ok (.iadd, 1) := by decide +kernel
theorem dL_law_291 : decode cL_law 291 = .ok (.iaload, 1) := by decide +kernel
theorem dL_law_292 : decode cL_law 292 = .ok (.aload_n 0, 1) := by decide +kernel
theorem dL_law_293 : decode cL_law 293 = .ok (.iload_n 3, 1) := by decide +kernel
theorem dL_law_294 : decode cL_law 294 = .ok (.iconst 4, 1) := by decide +kernel
theorem dL_law_295 : decode cL_law 295 = .ok (.iadd, 1) := by decide +kernel
theorem dL_law_296 : decode cL_law 296 = .ok (.iaload, 1) := by decide +kernel
theorem dL_law_297 : decode cL_law 297 = .ok (.invokevirtual 37, 3) := by decide +kernel
theorem dL_law_300 : decode cL_law 300 = .ok (.if_icmp .eq 470, 3) := by decide +kernel
theorem dL_law_303 : decode cL_law 303 = .ok (.iconst 0, 1) := by decide +kernel
theorem dL_law_304 : decode cL_law 304 = .ok (.ireturn, 1) := by decide +kernel
theorem dL_law_305 : decode cL_law 305 = .ok (.aload_n 1, 1) := by decide +kernel
theorem dL_law_306 : decode cL_law 306 = .ok (.aload_n 0, 1) := by decide +kernel
theorem dL_law_307 : decode cL_law 307 = .ok (.iload_n 3, 1) := by decide +kernel
theorem dL_law_308 : decode cL_law 308 = .ok (.iconst 1, 1) := by decide +kernel
theorem dL_law_309 : decode cL_law 309 = .ok (.iadd, 1) := by decide +kernel
theorem dL_law_310 : decode cL_law 310 = .ok (.iaload, 1) := by decide +kernel
theorem dL_law_311 : decode cL_law 311 = .ok (.invokevirtual 38, 3) := by decide +kernel
theorem dL_law_314 : decode cL_law 314 = .ok (.aload_n 2, 1) := by decide +kernel
theorem dL_law_315 : decode cL_law 315 = .ok (.aload_n 0, 1) := by decide +kernel
theorem dL_law_316 : decode cL_law 316 = .ok (.iload_n 3, 1) := by decide +kernel
theorem dL_law_317 : decode cL_law 317 = .ok (.iconst 1, 1) := by decide +kernel
theorem dL_law_318 : decode cL_law 318 = .ok (.iadd, 1) := by decide +kernel
theorem dL_law_319 : decode cL_law 319 = .ok (.iaload, 1) := by decide +kernel
theorem dL_law_320 : decode cL_law 320 = .ok (.invokevirtual 41, 3) := by decide +kernel
theorem dL_law_323 : decode cL_law 323 = .ok (.if_icmp .eq 447, 3) := by decide +kernel
theorem dL_law_326 : decode cL_law 326 = .ok (.iconst 0, 1) := by decide +kernel
theorem dL_law_327 : decode cL_law 327 = .ok (.ireturn, 1) := by decide +kernel
theorem dL_law_328 : decode cL_law 328 = .ok (.aload_n 1, 1) := by decide +kernel
theorem dL_law_329 : decode cL_law 329 = .ok (.aload_n 0, 1) := by decide +kernel
theorem dL_law_330 : decode cL_law 330 = .ok (.iload_n 3, 1) := by decide +kernel
theorem dL_law_331 : decode cL_law 331 = .ok (.iconst 1, 1) := by decide +kernel
theorem dL_law_332 : decode cL_law 332 = .ok (.iadd, 1) := by decide +kernel
theorem dL_law_333 : decode cL_law 333 = .ok (.iaload, 1) := by decide +kernel
theorem dL_law_334 : decode cL_law 334 = .ok (.invokevirtual 42, 3) := by decide +kernel
theorem dL_law_337 : decode cL_law 337 = .ok (.aload_n 2, 1) := by decide +kernel
theorem dL_law_338 : decode cL_law 338 = .ok (.aload_n 0, 1) := by decide +kernel
theorem dL_law_339 : decode cL_law 339 = .ok (.iload_n 3, 1) := by decide +kernel
theorem dL_law_340 : decode cL_law 340 = .ok (.iconst 1, 1) := by decide +kernel
theorem dL_law_341 : decode cL_law 341 = .ok (.iadd, 1) := by decide +kernel
theorem dL_law_342 : decode cL_law 342 = .ok (.iaload, 1) := by decide +kernel
theorem dL_law_343 : decode cL_law 343 = .ok (.invokevirtual 45, 3) := by decide +kernel
theorem dL_law_346 : decode cL_law 346 = .ok (.if_icmp .eq 424, 3) := by decide +kernel
theorem dL_law_349 : decode cL_law 349 = .ok (.iconst 0, 1) := by decide +kernel
theorem dL_law_350 : decode cL_law 350 = .ok (.ireturn, 1) := by decide +kernel
theorem dL_law_351 : decode cL_law 351 = .ok (.aload_n 1, 1) := by decide +kernel
theorem dL_law_352 : decode cL_law 352 = .ok (.aload_n 0, 1) := by decide +kernel
theorem dL_law_353 : decode cL_law 353 = .ok (.iload_n 3, 1) := by decide +kernel
theorem dL_law_354 : decode cL_law 354 = .ok (.iconst 1, 1) := by decide +kernel
theorem dL_law_355 : decode cL_law 355 = .ok (.iadd, 1) := by decide +kernel
theorem dL_law_356 : decode cL_law 356 = .ok (.iaload, 1) := by decide +kernel
theorem dL_law_357 : decode cL_law 357 = .ok (.aload_n 0, 1) := by decide +kernel
theorem dL_law_358 : decode cL_law 358 = .ok (.iload_n 3, 1) := by decide +kernel
theorem dL_law_359 : decode cL_law 359 = .ok (.iconst 2, 1) := by decide +kernel
theorem dL_law_360 : decode cL_law 360 = .ok (.iadd, 1) := by decide +kernel
theorem dL_law_361 : decode cL_law 361 = .ok (.iaload, 1) := by decide +kernel
theorem dL_law_362 : decode cL_law 362 = .ok (.invokevirtual 46, 3) := by decide +kernel
theorem dL_law_365 : decode cL_law 365 = .ok (.aload_n 2, 1) := by decide +kernel
theorem dL_law_366 : decode cL_law 366 = .ok (.aload_n 0, 1) := by decide +kernel
theorem dL_law_367 : decode cL_law 367 = .ok (.iload_n 3, 1) := by decide +kernel
theorem dL_law_368 : decode cL_law 368 = .ok (.iconst 1, 1) := by decide +kernel
theorem dL_law_369 : decode cL_law 369 = .ok (.iadd, 1) := by decide +kernel
theorem dL_law_370 : decode cL_law 370 = .ok (.iaload, 1) := by decide +kernel
theorem dL_law_371 : decode cL_law 371 = .ok (.aload_n 0, 1) := by decide +kernel
theorem dL_law_372 : decode cL_law 372 = .ok (.iload_n 3, 1) := by decide +kernel
theorem dL_law_373 : decode cL_law 373 = .ok (.iconst 2, 1) := by decide +kernel
theorem dL_law_374 : decode cL_law 374 = .ok (.iadd, 1) := by decide +kernel
theorem dL_law_375 : decode cL_law 375 = .ok (.iaload, 1) := by decide +kernel
theorem dL_law_376 : decode cL_law 376 = .ok (.invokevirtual 49, 3) := by decide +kernel
theorem dL_law_379 : decode cL_law 379 = .ok (.if_icmp .eq 391, 3) := by decide +kernel
theorem dL_law_382 : decode cL_law 382 = .ok (.iconst 0, 1) := by decide +kernel
theorem dL_law_383 : decode cL_law 383 = .ok (.ireturn, 1) := by decide +kernel
theorem dL_law_384 : decode cL_law 384 = .ok (.aload_n 1, 1) := by decide +kernel
theorem dL_law_385 : decode cL_law 385 = .ok (.aload_n 0, 1) := by decide +kernel
theorem dL_law_386 : decode cL_law 386 = .ok (.iload_n 3, 1) := by decide +kernel
theorem dL_law_387 : decode cL_law 387 = .ok (.iconst 1, 1) := by decide +kernel
theorem dL_law_388 : decode cL_law 388 = .ok (.iadd, 1) := by decide +kernel
theorem dL_law_389 : decode cL_law 389 = .ok (.iaload, 1) := by decide +kernel
theorem dL_law_390 : decode cL_law 390 = .ok (.aload_n 0, 1) := by decide +kernel
theorem dL_law_391 : decode cL_law 391 = .ok (.iload_n 3, 1) := by decide +kernel
theorem dL_law_392 : decode cL_law 392 = .ok (.iconst 2, 1) := by decide +kernel
theorem dL_law_393 : decode cL_law 393 = .ok (.iadd, 1) := by decide +kernel
theorem dL_law_394 : decode cL_law 394 = .ok (.iaload, 1) := by decide +kernel
theorem dL_law_395 : decode cL_law 395 = .ok (.invokevirtual 50, 3) := by decide +kernel
theorem dL_law_398 : decode cL_law 398 = .ok (.aload_n 2, 1) := by decide +kernel
theorem dL_law_399 : decode cL_law 399 = .ok (.aload_n 0, 1) := by decide +kernel
theorem dL_law_400 : decode cL_law 400 = .ok (.iload_n 3, 1) := by decide +kernel
theorem dL_law_401 : decode cL_law 401 = .ok (.iconst 1, 1) := by decide +kernel
theorem dL_law_402 : decode cL_law 402 = .ok (.iadd, 1) := by decide +kernel
theorem dL_law_403 : decode cL_law 403 = .ok (.iaload, 1) := by decide +kernel
theorem dL_law_404 : decode cL_law 404 = .ok (.aload_n 0, 1) := by decide +kernel
theorem dL_law_405 : decode cL_law 405 = .ok (.iload_n 3, 1) := by decide +kernel
theorem dL_law_406 : decode cL_law 406 = .ok (.iconst 2, 1) := by decide +kernel
theorem dL_law_407 : decode cL_law 407 = .ok (.iadd, 1) := by decide +kernel
theorem dL_law_408 : decode cL_law 408 = .ok (.iaload, 1) := by decide +kernel
theorem dL_law_409 : decode cL_law 409 = .ok (.invokevirtual 53, 3) := by decide +kernel
theorem dL_law_412 : decode cL_law 412 = .ok (.if_icmp .eq 358, 3) := by decide +kernel
theorem dL_law_415 : decode cL_law 415 = .ok (.iconst 0, 1) := by decide +kernel
theorem dL_law_416 : decode cL_law 416 = .ok (.ireturn, 1) := by decide +kernel
theorem dL_law_417 : decode cL_law 417 = .ok (.aload_n 1, 1) := by decide +kernel
theorem dL_law_418 : decode cL_law 418 = .ok (.aload_n 0, 1) := by decide +kernel
theorem dL_law_419 : decode cL_law 419 = .ok (.iload_n 3, 1) := by decide +kernel
theorem dL_law_420 : decode cL_law 420 = .ok (.iconst 1, 1) := by decide +kernel
theorem dL_law_421 : decode cL_law 421 = .ok (.iadd, 1) := by decide +kernel
theorem dL_law_422 : decode cL_law 422 = .ok (.iaload, 1) := by decide +kernel
theorem dL_law_423 : decode cL_law 423 = .ok (.aload_n 0, 1) := by decide +kernel
theorem dL_law_424 : decode cL_law 424 = .ok (.iload_n 3, 1) := by decide +kernel
theorem dL_law_425 : decode cL_law 425 = .ok (.iconst 2, 1) := by decide +kernel
theorem dL_law_426 : decode cL_law 426 = .ok (.iadd, 1) := by decide +kernel
theorem dL_law_427 : decode cL_law 427 = .ok (.iaload, 1) := by decide +kernel
theorem dL_law_428 : decode cL_law 428 = .ok (.aload_n 0, 1) := by decide +kernel
theorem dL_law_429 : decode cL_law 429 = .ok (.iload_n 3, 1) := by decide +kernel
theorem dL_law_430 : decode cL_law 430 = .ok (.iconst 3, 1) := by decide +kernel
theorem dL_law_431 : decode cL_law 431 = .ok (.iadd, 1) := by decide +kernel
theorem dL_law_432 : decode cL_law 432 = .ok (.iaload, 1) := by decide +kernel
theorem dL_law_433 : decode cL_law 433 = .ok (.invokevirtual 54, 3) := by decide +kernel
theorem dL_law_436 : decode cL_law 436 = .ok (.aload_n 2, 1) := by decide +kernel
theorem dL_law_437 : decode cL_law 437 = .ok (.aload_n 0, 1) := by decide +kernel
theorem dL_law_438 : decode cL_law 438 = .ok (.iload_n 3, 1) := by decide +kernel
theorem dL_law_439 : decode cL_law 439 = .ok (.iconst 1, 1) := by decide +kernel
theorem dL_law_440 : decode cL_law 440 = .ok (.iadd, 1) := by decide +kernel
theorem dL_law_441 : decode cL_law 441 = .ok (.iaload, 1) := by decide +kernel
theorem dL_law_442 : decode cL_law 442 = .ok (.aload_n 0, 1) := by decide +kernel
theorem dL_law_443 : decode cL_law 443 = .ok (.iload_n 3, 1) := by decide +kernel
theorem dL_law_444 : decode cL_law 444 = .ok (.iconst 2, 1) := by decide +kernel
theorem dL_law_445 : decode cL_law 445 = .ok (.iadd, 1) := by decide +kernel
theorem dL_law_446 : decode cL_law 446 = .ok (.iaload, 1) := by decide +kernel
theorem dL_law_447 : decode cL_law 447 = .ok (.aload_n 0, 1) := by decide +kernel
theorem dL_law_448 : decode cL_law 448 = .ok (.iload_n 3, 1) := by decide +kernel
theorem dL_law_449 : decode cL_law 449 = .ok (.iconst 3, 1) := by decide +kernel
theorem dL_law_450 : decode cL_law 450 = .ok (.iadd, 1) := by decide +kernel
theorem dL_law_451 : decode cL_law 451 = .ok (.iaload, 1) := by decide +kernel
theorem dL_law_452 : decode cL_law 452 = .ok (.invokevirtual 57, 3) := by decide +kernel
theorem dL_law_455 : decode cL_law 455 = .ok (.if_icmp .eq 315, 3) := by decide +kernel
theorem dL_law_458 : decode cL_law 458 = .ok (.iconst 0, 1) := by decide +kernel
theorem dL_law_459 : decode cL_law 459 = .ok (.ireturn, 1) := by decide +kernel
theorem dL_law_460 : decode cL_law 460 = .ok (.aload_n 1, 1) := by decide +kernel
theorem dL_law_461 : decode cL_law 461 = .ok (.aload_n 0, 1) := by decide +kernel
theorem dL_law_462 : decode cL_law 462 = .ok (.iload_n 3, 1) := by decide +kernel
theorem dL_law_463 : decode cL_law 463 = .ok (.iconst 1, 1) := by decide +kernel
theorem dL_law_464 : decode cL_law 464 = .ok (.iadd, 1) := by decide +kernel
theorem dL_law_465 : decode cL_law 465 = .ok (.iaload, 1) := by decide +kernel
theorem dL_law_466 : decode cL_law 466 = .ok (.invokevirtual 58, 3) := by decide +kernel
theorem dL_law_469 : decode cL_law 469 = .ok (.aload_n 2, 1) := by decide +kernel
theorem dL_law_470 : decode cL_law 470 = .ok (.aload_n 0, 1) := by decide +kernel
theorem dL_law_471 : decode cL_law 471 = .ok (.iload_n 3, 1) := by decide +kernel
theorem dL_law_472 : decode cL_law 472 = .ok (.iconst 1, 1) := by decide +kernel
theorem dL_law_473 : decode cL_law 473 = .ok (.iadd, 1) := by decide +kernel
theorem dL_law_474 : decode cL_law 474 = .ok (.iaload, 1) := by decide +kernel
theorem dL_law_475 : decode cL_law 475 = .ok (.invokevirtual 61, 3) := by decide +kernel
theorem dL_law_478 : decode cL_law 478 = .ok (.if_icmp .eq 292, 3) := by decide +kernel
theorem dL_law_481 : decode cL_law 481 = .ok (.iconst 0, 1) := by decide +kernel
theorem dL_law_482 : decode cL_law 482 = .ok (.ireturn, 1) := by decide +kernel
theorem dL_law_483 : decode cL_law 483 = .ok (.aload_n 1, 1) := by decide +kernel
theorem dL_law_484 : decode cL_law 484 = .ok (.aload_n 0, 1) := by decide +kernel
theorem dL_law_485 : decode cL_law 485 = .ok (.iload_n 3, 1) := by decide +kernel
theorem dL_law_486 : decode cL_law 486 = .ok (.iconst 1, 1) := by decide +kernel
theorem dL_law_487 : decode cL_law 487 = .ok (.iadd, 1) := by decide +kernel
theorem dL_law_488 : decode cL_law 488 = .ok (.iaload, 1) := by decide +kernel
theorem dL_law_489 : decode cL_law 489 = .ok (.invokevirtual 62, 3) := by decide +kernel
theorem dL_law_492 : decode cL_law 492 = .ok (.aload_n 2, 1) := by decide +kernel
theorem dL_law_493 : decode cL_law 493 = .ok (.aload_n 0, 1) := by decide +kernel
theorem dL_law_494 : decode cL_law 494 = .ok (.iload_n 3, 1) := by decide +kernel
theorem dL_law_495 : decode cL_law 495 = .ok (.iconst 1, 1) := by decide +kernel
theorem dL_law_496 : decode cL_law 496 = .ok (.iadd, 1) := by decide +kernel
theorem dL_law_497 : decode cL_law 497 = .ok (.iaload, 1) := by decide +kernel
theorem dL_law_498 : decode cL_law 498 = .ok (.invokevirtual 65, 3) := by decide +kernel
theorem dL_law_501 : decode cL_law 501 = .ok (.if_icmp .eq 269, 3) := by decide +kernel
theorem dL_law_504 : decode cL_law 504 = .ok (.iconst 0, 1) := by decide +kernel
theorem dL_law_505 : decode cL_law 505 = .ok (.ireturn, 1) := by decide +kernel
theorem dL_law_506 : decode cL_law 506 = .ok (.aload_n 1, 1) := by decide +kernel
theorem dL_law_507 : decode cL_law 507 = .ok (.aload_n 0, 1) := by decide +kernel
theorem dL_law_508 : decode cL_law 508 = .ok (.iload_n 3, 1) := by decide +kernel
theorem dL_law_509 : decode cL_law 509 = .ok (.iconst 1, 1) := by decide +kernel
theorem dL_law_510 : decode cL_law 510 = .ok (.iadd, 1) := by decide +kernel
theorem dL_law_511 : decode cL_law 511 = .ok (.iaload, 1) := by decide +kernel
theorem dL_law_512 : decode cL_law 512 = .ok (.invokevirtual 66, 3) := by decide +kernel
theorem dL_law_515 : decode cL_law 515 = .ok (.aload_n 2, 1) := by decide +kernel
theorem dL_law_516 : decode cL_law 516 = .ok (.aload_n 0, 1) := by decide +kernel
theorem dL_law_517 : decode cL_law 517 = .ok (.iload_n 3, 1) := by decide +kernel
theorem dL_law_518 : decode cL_law 518 = .ok (.iconst 1, 1) := by decide +kernel
theorem dL_law_519 : decode cL_law 519 = .ok (.iadd, 1) := by decide +kernel
theorem dL_law_520 : decode cL_law 520 = .ok (.iaload, 1) := by decide +kernel
theorem dL_law_521 : decode cL_law 521 = .ok (.invokevirtual 69, 3) := by decide +kernel
theorem dL_law_524 : decode cL_law 524 = .ok (.if_icmp .eq 246, 3) := by decide +kernel
theorem dL_law_527 : decode cL_law 527 = .ok (.iconst 0, 1) := by decide +kernel
theorem dL_law_528 : decode cL_law 528 = .ok (.ireturn, 1) := by decide +kernel
theorem dL_law_529 : decode cL_law 529 = .ok (.aload_n 1, 1) := by decide +kernel
theorem dL_law_530 : decode cL_law 530 = .ok (.aload_n 0, 1) := by decide +kernel
theorem dL_law_531 : decode cL_law 531 = .ok (.iload_n 3, 1) := by decide +kernel
theorem dL_law_532 : decode cL_law 532 = .ok (.iconst 1, 1) := by decide +kernel
theorem dL_law_533 : decode cL_law 533 = .ok (.iadd, 1) := by decide +kernel
theorem dL_law_534 : decode cL_law 534 = .ok (.iaload, 1) := by decide +kernel
theorem dL_law_535 : decode cL_law 535 = .ok (.aload_n 0, 1) := by decide +kernel
theorem dL_law_536 : decode cL_law 536 = .ok (.iload_n 3, 1) := by decide +kernel
theorem dL_law_537 : decode cL_law 537 = .ok (.iconst 2, 1) := by decide +kernel
theorem dL_law_538 : decode cL_law 538 = .ok (.iadd, 1) := by decide +kernel
theorem dL_law_539 : decode cL_law 539 = .ok (.iaload, 1) := by decide +kernel
theorem dL_law_540 : decode cL_law 540 = .ok (.invokevirtual 70, 3) := by decide +kernel
theorem dL_law_543 : decode cL_law 543 = .ok (.aload_n 2, 1) := by decide +kernel
theorem dL_law_544 : decode cL_law 544 = .ok (.aload_n 0, 1) := by decide +kernel
theorem dL_law_545 : decode cL_law 545 = .ok (.iload_n 3, 1) := by decide +kernel
theorem dL_law_546 : decode cL_law 546 = .ok (.iconst 1, 1) := by decide +kernel
theorem dL_law_547 : decode cL_law 547 = .ok (.iadd, 1) := by decide +kernel
theorem dL_law_548 : decode cL_law 548 = .ok (.iaload, 1) := by decide +kernel
theorem dL_law_549 : decode cL_law 549 = .ok (.aload_n 0, 1) := by decide +kernel
theorem dL_law_550 : decode cL_law 550 = .ok (.iload_n 3, 1) := by decide +kernel
theorem dL_law_551 : decode cL_law 551 = .ok (.iconst 2, 1) := by decide +kernel
theorem dL_law_552 : decode cL_law 552 = .ok (.iadd, 1) := by decide +kernel
theorem dL_law_553 : decode cL_law 553 = .ok (.iaload, 1) := by decide +kernel
theorem dL_law_554 : decode cL_law 554 = .ok (.invokevirtual 73, 3) := by decide +kernel
theorem dL_law_557 : decode cL_law 557 = .ok (.if_icmp .eq 213, 3) := by decide +kernel
theorem dL_law_560 : decode cL_law 560 = .ok (.iconst 0, 1) := by decide +kernel
theorem dL_law_561 : decode cL_law 561 = .ok (.ireturn, 1) := by decide +kernel
theorem dL_law_562 : decode cL_law 562 = .ok (.aload_n 1, 1) := by decide +kernel
theorem dL_law_563 : decode cL_law 563 = .ok (.aload_n 0, 1) := by decide +kernel
theorem dL_law_564 : decode cL_law 564 = .ok (.iload_n 3, 1) := by decide +kernel
theorem dL_law_565 : decode cL_law 565 = .ok (.iconst 1, 1) := by decide +kernel
theorem dL_law_566 : decode cL_law 566 = .ok (.iadd, 1) := by decide +kernel
theorem dL_law_567 : decode cL_law 567 = .ok (.iaload, 1) := by decide +kernel
theorem dL_law_568 : decode cL_law 568 = .ok (.aload_n 0, 1) := by decide +kernel
theorem dL_law_569 : decode cL_law 569 = .ok (.iload_n 3, 1) := by decide +kernel
theorem dL_law_570 : decode cL_law 570 = .ok (.iconst 2, 1) := by decide +kernel
theorem dL_law_571 : decode cL_law 571 = .ok (.iadd, 1) := by decide +kernel
theorem dL_law_572 : decode cL_law 572 = .ok (.iaload, 1) := by decide +kernel
theorem dL_law_573 : decode cL_law 573 = .ok (.invokevirtual 74, 3) := by decide +kernel
theorem dL_law_576 : decode cL_law 576 = .ok (.aload_n 2, 1) := by decide +kernel
theorem dL_law_577 : decode cL_law 577 = .ok (.aload_n 0, 1) := by decide +kernel
theorem dL_law_578 : decode cL_law 578 = .ok (.iload_n 3, 1) := by decide +kernel
theorem dL_law_579 : decode cL_law 579 = .ok (.iconst 1, 1) := by decide +kernel
theorem dL_law_580 : decode cL_law 580 = .ok (.iadd, 1) := by decide +kernel
theorem dL_law_581 : decode cL_law 581 = .ok (.iaload, 1) := by decide +kernel
theorem dL_law_582 : decode cL_law 582 = .ok (.aload_n 0, 1) := by decide +kernel
theorem dL_law_583 : decode cL_law 583 = .ok (.iload_n 3, 1) := by decide +kernel
theorem dL_law_584 : decode cL_law 584 = .ok (.iconst 2, 1) := by decide +kernel
theorem dL_law_585 : decode cL_law 585 = .ok (.iadd, 1) := by decide +kernel
theorem dL_law_586 : decode cL_law 586 = .ok (.iaload, 1) := by decide +kernel
theorem dL_law_587 : decode cL_law 587 = .ok (.invokevirtual 77, 3) := by decide +kernel
theorem dL_law_590 : decode cL_law 590 = .ok (.if_icmp .eq 180, 3) := by decide +kernel
theorem dL_law_593 : decode cL_law 593 = .ok (.iconst 0, 1) := by decide +kernel
theorem dL_law_594 : decode cL_law 594 = .ok (.ireturn, 1) := by decide +kernel
theorem dL_law_595 : decode cL_law 595 = .ok (.aload_n 1, 1) := by decide +kernel
theorem dL_law_596 : decode cL_law 596 = .ok (.aload_n 0, 1) := by decide +kernel
theorem dL_law_597 : decode cL_law 597 = .ok (.iload_n 3, 1) := by decide +kernel
theorem dL_law_598 : decode cL_law 598 = .ok (.iconst 1, 1) := by decide +kernel
theorem dL_law_599 : decode cL_law 599 = .ok (.iadd, 1) := by decide +kernel
theorem dL_law_600 : decode cL_law 600 = .ok (.iaload, 1) := by decide +kernel
theorem dL_law_601 : decode cL_law 601 = .ok (.aload_n 0, 1) := by decide +kernel
theorem dL_law_602 : decode cL_law 602 = .ok (.iload_n 3, 1) := by decide +kernel
theorem dL_law_603 : decode cL_law 603 = .ok (.iconst 2, 1) := by decide +kernel
theorem dL_law_604 : decode cL_law 604 = .ok (.iadd, 1) := by decide +kernel
theorem dL_law_605 : decode cL_law 605 = .ok (.iaload, 1) := by decide +kernel
theorem dL_law_606 : decode cL_law 606 = .ok (.invokevirtual 78, 3) := by decide +kernel
theorem dL_law_609 : decode cL_law 609 = .ok (.aload_n 2, 1) := by decide +kernel
theorem dL_law_610 : decode cL_law 610 = .ok (.aload_n 0, 1) := by decide +kernel
theorem dL_law_611 : decode cL_law 611 = .ok (.iload_n 3, 1) := by decide +kernel
theorem dL_law_612 : decode cL_law 612 = .ok (.iconst 1, 1) := by decide +kernel
theorem dL_law_613 : decode cL_law 613 = .ok (.iadd, 1) := by decide +kernel
theorem dL_law_614 : decode cL_law 614 = .ok (.iaload, 1) := by decide +kernel
theorem dL_law_615 : decode cL_law 615 = .ok (.aload_n 0, 1) := by decide +kernel
theorem dL_law_616 : decode cL_law 616 = .ok (.iload_n 3, 1) := by decide +kernel
theorem dL_law_617 : decode cL_law 617 = .ok (.iconst 2, 1) := by decide +kernel
theorem dL_law_618 : decode cL_law 618 = .ok (.iadd, 1) := by decide +kernel
theorem dL_law_619 : decode cL_law 619 = .ok (.iaload, 1) := by decide +kernel
theorem dL_law_620 : decode cL_law 620 = .ok (.invokevirtual 81, 3) := by decide +kernel
theorem dL_law_623 : decode cL_law 623 = .ok (.if_icmp .eq 147, 3) := by decide +kernel
theorem dL_law_626 : decode cL_law 626 = .ok (.iconst 0, 1) := by decide +kernel
theorem dL_law_627 : decode cL_law 627 = .ok (.ireturn, 1) := by decide +kernel
theorem dL_law_628 : decode cL_law 628 = .ok (.aload_n 1, 1) := by decide +kernel
theorem dL_law_629 : decode cL_law 629 = .ok (.aload_n 0, 1) := by decide +kernel
theorem dL_law_630 : decode cL_law 630 = .ok (.iload_n 3, 1) := by decide +kernel
theorem dL_law_631 : decode cL_law 631 = .ok (.iconst 1, 1) := by decide +kernel
theorem dL_law_632 : decode cL_law 632 = .ok (.iadd, 1) := by decide +kernel
theorem dL_law_633 : decode cL_law 633 = .ok (.iaload, 1) := by decide +kernel
theorem dL_law_634 : decode cL_law 634 = .ok (.aload_n 0, 1) := by decide +kernel
theorem dL_law_635 : decode cL_law 635 = .ok (.iload_n 3, 1) := by decide +kernel
theorem dL_law_636 : decode cL_law 636 = .ok (.iconst 2, 1) := by decide +kernel
theorem dL_law_637 : decode cL_law 637 = .ok (.iadd, 1) := by decide +kernel
theorem dL_law_638 : decode cL_law 638 = .ok (.iaload, 1) := by decide +kernel
theorem dL_law_639 : decode cL_law 639 = .ok (.aload_n 0, 1) := by decide +kernel
theorem dL_law_640 : decode cL_law 640 = .ok (.iload_n 3, 1) := by decide +kernel
theorem dL_law_641 : decode cL_law 641 = .ok (.iconst 3, 1) := by decide +kernel
theorem dL_law_642 : decode cL_law 642 = .ok (.iadd, 1) := by decide +kernel
theorem dL_law_643 : decode cL_law 643 = .ok (.iaload, 1) := by decide +kernel
theorem dL_law_644 : decode cL_law 644 = .ok (.invokevirtual 82, 3) := by decide +kernel
theorem dL_law_647 : decode cL_law 647 = .ok (.aload_n 2, 1) := by decide +kernel
theorem dL_law_648 : decode cL_law 648 = .ok (.aload_n 0, 1) := by decide +kernel
theorem dL_law_649 : decode cL_law 649 = .ok (.iload_n 3, 1) := by decide +kernel
theorem dL_law_650 : decode cL_law 650 = .ok (.iconst 1, 1) := by decide +kernel
theorem dL_law_651 : decode cL_law 651 = .ok (.iadd, 1) := by decide +kernel
theorem dL_law_652 : decode cL_law 652 = .ok (.iaload, 1) := by decide +kernel
theorem dL_law_653 : decode cL_law 653 = .ok (.aload_n 0, 1) := by decide +kernel
theorem dL_law_654 : decode cL_law 654 = .ok (.iload_n 3, 1) := by decide +kernel
theorem dL_law_655 : decode cL_law 655 = .ok (.iconst 2, 1) := by decide +kernel
theorem dL_law_656 : decode cL_law 656 = .ok (.iadd, 1) := by decide +kernel
theorem dL_law_657 : decode cL_law 657 = .ok (.iaload, 1) := by decide +kernel
theorem dL_law_658 : decode cL_law 658 = .ok (.aload_n 0, 1) := by decide +kernel
theorem dL_law_659 : decode cL_law 659 = .ok (.iload_n 3, 1) := by decide +kernel
theorem dL_law_660 : decode cL_law 660 = .ok (.iconst 3, 1) := by decide +kernel
theorem dL_law_661 : decode cL_law 661 = .ok (.iadd, 1) := by decide +kernel
theorem dL_law_662 : decode cL_law 662 = .ok (.iaload, 1) := by decide +kernel
theorem dL_law_663 : decode cL_law 663 = .ok (.invokevirtual 85, 3) := by decide +kernel
theorem dL_law_666 : decode cL_law 666 = .ok (.if_icmp .eq 104, 3) := by decide +kernel
theorem dL_law_669 : decode cL_law 669 = .ok (.iconst 0, 1) := by decide +kernel
theorem dL_law_670 : decode cL_law 670 = .ok (.ireturn, 1) := by decide +kernel
theorem dL_law_671 : decode cL_law 671 = .ok (.aload_n 1, 1) := by decide +kernel
theorem dL_law_672 : decode cL_law 672 = .ok (.aload_n 0, 1) := by decide +kernel
theorem dL_law_673 : decode cL_law 673 = .ok (.iload_n 3, 1) := by decide +kernel
theorem dL_law_674 : decode cL_law 674 = .ok (.iconst 1, 1) := by decide +kernel
theorem dL_law_675 : decode cL_law 675 = .ok (.iadd, 1) := by decide +kernel
theorem dL_law_676 : decode cL_law 676 = .ok (.iaload, 1) := by decide +kernel
theorem dL_law_677 : decode cL_law 677 = .ok (.invokevirtual 86, 3) := by decide +kernel
theorem dL_law_680 : decode cL_law 680 = .ok (.aload_n 2, 1) := by decide +kernel
theorem dL_law_681 : decode cL_law 681 = .ok (.aload_n 0, 1) := by decide +kernel
theorem dL_law_682 : decode cL_law 682 = .ok (.iload_n 3, 1) := by decide +kernel
theorem dL_law_683 : decode cL_law 683 = .ok (.iconst 1, 1) := by decide +kernel
theorem dL_law_684 : decode cL_law 684 = .ok (.iadd, 1) := by decide +kernel
theorem dL_law_685 : decode cL_law 685 = .ok (.iaload, 1) := by decide +kernel
theorem dL_law_686 : decode cL_law 686 = .ok (.invokevirtual 89, 3) := by decide +kernel
theorem dL_law_689 : decode cL_law 689 = .ok (.if_icmp .eq 81, 3) := by decide +kernel
theorem dL_law_692 : decode cL_law 692 = .ok (.iconst 0, 1) := by decide +kernel
theorem dL_law_693 : decode cL_law 693 = .ok (.ireturn, 1) := by decide +kernel
theorem dL_law_694 : decode cL_law 694 = .ok (.aload_n 1, 1) := by decide +kernel
theorem dL_law_695 : decode cL_law 695 = .ok (.invokevirtual 90, 3) := by decide +kernel
theorem dL_law_698 : decode cL_law 698 = .ok (.aload_n 2, 1) := by decide +kernel
theorem dL_law_699 : decode cL_law 699 = .ok (.invokevirtual 93, 3) := by decide +kernel
theorem dL_law_702 : decode cL_law 702 = .ok (.if_icmp .eq 68, 3) := by decide +kernel
theorem dL_law_705 : decode cL_law 705 = .ok (.iconst 0, 1) := by decide +kernel
theorem dL_law_706 : decode cL_law 706 = .ok (.ireturn, 1) := by decide +kernel
theorem dL_law_707 : decode cL_law 707 = .ok (.aload_n 1, 1) := by decide +kernel
theorem dL_law_708 : decode cL_law 708 = .ok (.invokevirtual 94, 3) := by decide +kernel
theorem dL_law_711 : decode cL_law 711 = .ok (.aload_n 2, 1) := by decide +kernel
theorem dL_law_712 : decode cL_law 712 = .ok (.invokevirtual 97, 3) := by decide +kernel
theorem dL_law_715 : decode cL_law 715 = .ok (.if_icmp .eq 55, 3) := by decide +kernel
theorem dL_law_718 : decode cL_law 718 = .ok (.iconst 0, 1) := by decide +kernel
theorem dL_law_719 : decode cL_law 719 = .ok (.ireturn, 1) := by decide +kernel
theorem dL_law_720 : decode cL_law 720 = .ok (.aload_n 1, 1) := by decide +kernel
theorem dL_law_721 : decode cL_law 721 = .ok (.invokevirtual 98, 3) := by decide +kernel
theorem dL_law_724 : decode cL_law 724 = .ok (.aload_n 2, 1) := by decide +kernel
theorem dL_law_725 : decode cL_law 725 = .ok (.invokevirtual 101, 3) := by decide +kernel
theorem dL_law_728 : decode cL_law 728 = .ok (.if_icmp .eq 42, 3) := by decide +kernel
theorem dL_law_731 : decode cL_law 731 = .ok (.iconst 0, 1) := by decide +kernel
theorem dL_law_732 : decode cL_law 732 = .ok (.ireturn, 1) := by decide +kernel
theorem dL_law_733 : decode cL_law 733 = .ok (.aload_n 1, 1) := by decide +kernel
theorem dL_law_734 : decode cL_law 734 = .ok (.aload_n 0, 1) := by decide +kernel
theorem dL_law_735 : decode cL_law 735 = .ok (.iload_n 3, 1) := by decide +kernel
theorem dL_law_736 : decode cL_law 736 = .ok (.iconst 1, 1) := by decide +kernel
theorem dL_law_737 : decode cL_law 737 = .ok (.iadd, 1) := by decide +kernel
theorem dL_law_738 : decode cL_law 738 = .ok (.iaload, 1) := by decide +kernel
theorem dL_law_739 : decode cL_law 739 = .ok (.invokevirtual 102, 3) := by decide +kernel
theorem dL_law_742 : decode cL_law 742 = .ok (.aload_n 2, 1) := by decide +kernel
theorem dL_law_743 : decode cL_law 743 = .ok (.aload_n 0, 1) := by decide +kernel
theorem dL_law_744 : decode cL_law 744 = .ok (.iload_n 3, 1) := by decide +kernel
theorem dL_law_745 : decode cL_law 745 = .ok (.iconst 1, 1) := by decide +kernel
theorem dL_law_746 : decode cL_law 746 = .ok (.iadd, 1) := by decide +kernel
theorem dL_law_747 : decode cL_law 747 = .ok (.iaload, 1) := by decide +kernel
theorem dL_law_748 : decode cL_law 748 = .ok (.invokevirtual 105, 3) := by decide +kernel
theorem dL_law_751 : decode cL_law 751 = .ok (.if_icmp .eq 19, 3) := by decide +kernel
theorem dL_law_754 : decode cL_law 754 = .ok (.iconst 0, 1) := by decide +kernel
theorem dL_law_755 : decode cL_law 755 = .ok (.ireturn, 1) := by decide +kernel
theorem dL_law_756 : decode cL_law 756 = .ok (.aload_n 1, 1) := by decide +kernel
theorem dL_law_757 : decode cL_law 757 = .ok (.invokevirtual 106, 3) := by decide +kernel
theorem dL_law_760 : decode cL_law 760 = .ok (.aload_n 2, 1) := by decide +kernel
theorem dL_law_761 : decode cL_law 761 = .ok (.invokevirtual 110, 3) := by decide +kernel
theorem dL_law_764 : decode cL_law 764 = .ok (.lcmp, 1) := by decide +kernel
theorem dL_law_765 : decode cL_law 765 = .ok (.ifCond .eq 5, 3) := by decide +kernel
theorem dL_law_768 : decode cL_law 768 = .ok (.iconst 0, 1) := by decide +kernel
theorem dL_law_769 : decode cL_law 769 = .ok (.ireturn, 1) := by decide +kernel
theorem dL_law_770 : decode cL_law 770 = .ok (.iinc 3 5, 3) := by decide +kernel
theorem dL_law_773 : decode cL_law 773 = .ok (.goto (-755), 3) := by decide +kernel
theorem dL_law_776 : decode cL_law 776 = .ok (.iconst 1, 1) := by decide +kernel
theorem dL_law_777 : decode cL_law 777 = .ok (.ireturn, 1) := by decide +kernel
end
section
/-- the words of the tables that stay good over a run: every contract carries them all -/
def TT : List Cond := lw_tbl.filter goodWord
theorem tt_of {w : Cond} (h : w ∈ lw_tbl) (g : goodWord w = true) : w ∈ TT := List.mem_filter.mpr ⟨h, g⟩
theorem tt_lw {w : Cond} (h : w ∈ TT) : w ∈ lw_tbl := (List.mem_filter.mp h).1
theorem tt_1 {w : Cond} (i : Nat) (h0 : tables_1_1[i]? = some w) (g : goodWord w = true) : w ∈ TT := by
  have h := List.mem_of_getElem? h0
  exact tt_of (List.mem_append_right _ (show w ∈ tables_1_1 ++ (tables_1_2 ++ (tables_1_3 ++ tables_1_4)) from List.mem_append_left _ h)) g
theorem tt_2 {w : Cond} (i : Nat) (h0 : tables_1_2[i]? = some w) (g : goodWord w = true) : w ∈ TT := by
  have h := List.mem_of_getElem? h0
  exact tt_of (List.mem_append_right _ (show w ∈ tables_1_1 ++ (tables_1_2 ++ (tables_1_3 ++ tables_1_4)) from (List.mem_append_right _ (List.mem_append_left _ h)))) g
theorem tt_3 {w : Cond} (i : Nat) (h0 : tables_1_3[i]? = some w) (g : goodWord w = true) : w ∈ TT := by
  have h := List.mem_of_getElem? h0
  exact tt_of (List.mem_append_right _ (show w ∈ tables_1_1 ++ (tables_1_2 ++ (tables_1_3 ++ tables_1_4)) from (List.mem_append_right _ (List.mem_append_right _ (List.mem_append_left _ h))))) g
theorem tt_4 {w : Cond} (i : Nat) (h0 : tables_1_4[i]? = some w) (g : goodWord w = true) : w ∈ TT := by
  have h := List.mem_of_getElem? h0
  exact tt_of (List.mem_append_right _ (show w ∈ tables_1_1 ++ (tables_1_2 ++ (tables_1_3 ++ tables_1_4)) from List.mem_append_right _ (List.mem_append_right _ (List.mem_append_right _ h)))) g
theorem tt_s {w : Cond} (i : Nat) (h0 : (k2_sels lw_privs)[i]? = some w) (g : goodWord w = true) : w ∈ TT := tt_of (List.mem_append_left _ (List.mem_of_getElem? h0)) g
theorem k_0 : Cond.initialized RL ∈ TT := tt_1 0 (by decide +kernel) (by decide +kernel)
theorem k_1 : Cond.initialized RX4 ∈ TT := tt_1 1 (by decide +kernel) (by decide +kernel)
theorem k_2 : Cond.initialized RX2 ∈ TT := tt_1 2 (by decide +kernel) (by decide +kernel)
theorem k_3 : Cond.initialized RX1 ∈ TT := tt_1 3 (by decide +kernel) (by decide +kernel)
theorem k_4 : Cond.initialized RX3 ∈ TT := tt_1 4 (by decide +kernel) (by decide +kernel)
theorem k_5 : Cond.initialized RX0 ∈ TT := tt_1 5 (by decide +kernel) (by decide +kernel)
theorem k_6 : Cond.initialized RX5 ∈ TT := tt_1 6 (by decide +kernel) (by decide +kernel)
theorem k_7 : Cond.initialized RJ10 ∈ TT := tt_1 7 (by decide +kernel) (by decide +kernel)
theorem k_8 : Cond.initialized RJ9 ∈ TT := tt_1 8 (by decide +kernel) (by decide +kernel)
theorem k_9 : Cond.classLink RL 7 RX4 ∈ TT := tt_1 9 (by decide +kernel) (by decide +kernel)
theorem k_10 : Cond.instantiable RX4 9 ∈ TT := tt_1 10 (by decide +kernel) (by decide +kernel)
theorem k_11 : Cond.methodLink RL 9 yX4_init ∈ TT := tt_1 11 (by decide +kernel) (by decide +kernel)
theorem k_12 : Cond.instanceMethod yX4_init ∈ TT := tt_1 12 (by decide +kernel) (by decide +kernel)
theorem k_13 : Cond.code yX4_init cX4_init 2 none ∈ TT := tt_1 13 (by decide +kernel) (by decide +kernel)
theorem k_14 : Cond.methodLink RX4 3 objectInit ∈ TT := tt_1 14 (by decide +kernel) (by decide +kernel)
theorem k_15 : Cond.instanceMethod objectInit ∈ TT := tt_1 15 (by decide +kernel) (by decide +kernel)
theorem k_17 : Cond.classLink RX4 9 RX0 ∈ TT := tt_1 17 (by decide +kernel) (by decide +kernel)
theorem k_19 : Cond.classLink RX4 22 RX2 ∈ TT := tt_1 19 (by decide +kernel) (by decide +kernel)
theorem k_20 : Cond.instantiable RX2 13 ∈ TT := tt_1 20 (by decide +kernel) (by decide +kernel)
theorem k_22 : Cond.instanceMethod yX2_init ∈ TT := tt_1 22 (by decide +kernel) (by decide +kernel)
theorem k_23 : Cond.code yX2_init cX2_init 1 none ∈ TT := tt_1 23 (by decide +kernel) (by decide +kernel)
theorem k_24 : Cond.methodLink RX2 5 objectInit ∈ TT := tt_1 24 (by decide +kernel) (by decide +kernel)
theorem k_25 : Cond.fieldLink RX2 11 "MatchedFlows$Table" "ready" "Z" ∈ TT := tt_1 25 (by decide +kernel) (by decide +kernel)
theorem k_26 : Cond.fieldLink RX4 211 "MatchedFlows$Table" "ready" "Z" ∈ TT := tt_1 26 (by decide +kernel) (by decide +kernel)
theorem k_27 : Cond.fieldLink RX2 15 "MatchedFlows$Table" "seedProc" "I" ∈ TT := tt_1 27 (by decide +kernel) (by decide +kernel)
theorem k_28 : Cond.fieldLink RX2 19 "MatchedFlows$Table" "seedFacts" "I" ∈ TT := tt_1 28 (by decide +kernel) (by decide +kernel)
theorem k_29 : Cond.fieldLink RX2 22 "MatchedFlows$Table" "size" "I" ∈ TT := tt_1 29 (by decide +kernel) (by decide +kernel)
theorem k_30 : Cond.fieldLink RX4 155 "MatchedFlows$Table" "size" "I" ∈ TT := tt_1 30 (by decide +kernel) (by decide +kernel)
theorem k_31 : Cond.fieldLink RX2 25 "MatchedFlows$Table" "seen" "[I" ∈ TT := tt_1 31 (by decide +kernel) (by decide +kernel)
theorem k_32 : Cond.fieldLink RX4 143 "MatchedFlows$Table" "seen" "[I" ∈ TT := tt_1 32 (by decide +kernel) (by decide +kernel)
theorem k_33 : Cond.fieldLink RX2 29 "MatchedFlows$Table" "keys" "[I" ∈ TT := tt_1 33 (by decide +kernel) (by decide +kernel)
theorem k_34 : Cond.fieldLink RX2 32 "MatchedFlows$Table" "placeOf" "[I" ∈ TT := tt_1 34 (by decide +kernel) (by decide +kernel)
theorem k_35 : Cond.fieldLink RX2 35 "MatchedFlows$Table" "before" "[I" ∈ TT := tt_1 35 (by decide +kernel) (by decide +kernel)
theorem k_36 : Cond.fieldLink RX2 38 "MatchedFlows$Table" "through" "[I" ∈ TT := tt_1 36 (by decide +kernel) (by decide +kernel)
theorem k_37 : Cond.fieldLink RX2 41 "MatchedFlows$Table" "way" "[I" ∈ TT := tt_1 37 (by decide +kernel) (by decide +kernel)
theorem k_38 : Cond.fieldLink RX4 164 "MatchedFlows$Table" "way" "[I" ∈ TT := tt_1 38 (by decide +kernel) (by decide +kernel)
theorem k_39 : Cond.fieldLink RX2 44 "MatchedFlows$Table" "inner" "[I" ∈ TT := tt_1 39 (by decide +kernel) (by decide +kernel)
theorem k_40 : Cond.fieldLink RX2 47 "MatchedFlows$Table" "sites" "[I" ∈ TT := tt_1 40 (by decide +kernel) (by decide +kernel)
theorem k_41 : Cond.fieldLink RX2 50 "MatchedFlows$Table" "siteCount" "I" ∈ TT := tt_1 41 (by decide +kernel) (by decide +kernel)
theorem k_69 : Cond.arrayClass .int ∈ TT := tt_1 69 (by decide +kernel) (by decide +kernel)
theorem k_70 : Cond.classLink RX4 29 RX1 ∈ TT := tt_1 70 (by decide +kernel) (by decide +kernel)
theorem k_71 : Cond.instantiable RX1 2 ∈ TT := tt_1 71 (by decide +kernel) (by decide +kernel)
theorem k_73 : Cond.instanceMethod yX1_init ∈ TT := tt_1 73 (by decide +kernel) (by decide +kernel)
theorem k_74 : Cond.code yX1_init cX1_init 1 none ∈ TT := tt_1 74 (by decide +kernel) (by decide +kernel)
theorem k_75 : Cond.methodLink RX1 3 objectInit ∈ TT := tt_1 75 (by decide +kernel) (by decide +kernel)
theorem k_76 : Cond.fieldLink RX1 9 "MatchedFlows$Spread" "ready" "Z" ∈ TT := tt_1 76 (by decide +kernel) (by decide +kernel)
theorem k_77 : Cond.fieldLink RX4 215 "MatchedFlows$Spread" "ready" "Z" ∈ TT := tt_1 77 (by decide +kernel) (by decide +kernel)
theorem k_78 : Cond.fieldLink RX1 15 "MatchedFlows$Spread" "reached" "[I" ∈ TT := tt_1 78 (by decide +kernel) (by decide +kernel)
theorem k_79 : Cond.fieldLink RX4 134 "MatchedFlows$Spread" "reached" "[I" ∈ TT := tt_1 79 (by decide +kernel) (by decide +kernel)
theorem k_85 : Cond.classLink RX4 36 RX3 ∈ TT := tt_1 85 (by decide +kernel) (by decide +kernel)
theorem k_86 : Cond.instantiable RX3 5 ∈ TT := tt_1 86 (by decide +kernel) (by decide +kernel)
theorem k_88 : Cond.instanceMethod yX3_init ∈ TT := tt_1 88 (by decide +kernel) (by decide +kernel)
theorem k_89 : Cond.code yX3_init cX3_init 1 none ∈ TT := tt_1 89 (by decide +kernel) (by decide +kernel)
theorem k_90 : Cond.methodLink RX3 3 objectInit ∈ TT := tt_1 90 (by decide +kernel) (by decide +kernel)
theorem k_91 : Cond.fieldLink RX3 9 "MatchedFlows$Text" "length" "I" ∈ TT := tt_1 91 (by decide +kernel) (by decide +kernel)
theorem k_92 : Cond.fieldLink RX4 173 "MatchedFlows$Text" "length" "I" ∈ TT := tt_1 92 (by decide +kernel) (by decide +kernel)
theorem k_93 : Cond.fieldLink RX3 15 "MatchedFlows$Text" "orders" "I" ∈ TT := tt_1 93 (by decide +kernel) (by decide +kernel)
theorem k_94 : Cond.fieldLink RX4 179 "MatchedFlows$Text" "orders" "I" ∈ TT := tt_1 94 (by decide +kernel) (by decide +kernel)
theorem k_95 : Cond.fieldLink RX3 18 "MatchedFlows$Text" "bytes" "[I" ∈ TT := tt_1 95 (by decide +kernel) (by decide +kernel)
theorem k_96 : Cond.fieldLink RX3 22 "MatchedFlows$Text" "parts" "[I" ∈ TT := tt_1 96 (by decide +kernel) (by decide +kernel)
theorem k_97 : Cond.fieldLink RX3 25 "MatchedFlows$Text" "place" "I" ∈ TT := tt_1 97 (by decide +kernel) (by decide +kernel)
theorem k_109 : Cond.instantiable RX0 12 ∈ TT := tt_1 109 (by decide +kernel) (by decide +kernel)
theorem k_111 : Cond.instanceMethod yX0_init ∈ TT := tt_1 111 (by decide +kernel) (by decide +kernel)
theorem k_112 : Cond.code yX0_init cX0_init 1 none ∈ TT := tt_1 112 (by decide +kernel) (by decide +kernel)
theorem k_113 : Cond.methodLink RX0 3 objectInit ∈ TT := tt_1 113 (by decide +kernel) (by decide +kernel)
theorem k_114 : Cond.fieldLink RX0 9 "MatchedFlows$Program" "procs" "I" ∈ TT := tt_1 114 (by decide +kernel) (by decide +kernel)
theorem k_115 : Cond.fieldLink RX4 231 "MatchedFlows$Program" "procs" "I" ∈ TT := tt_1 115 (by decide +kernel) (by decide +kernel)
theorem k_116 : Cond.fieldLink RX0 15 "MatchedFlows$Program" "nodes" "I" ∈ TT := tt_1 116 (by decide +kernel) (by decide +kernel)
theorem k_117 : Cond.fieldLink RX4 234 "MatchedFlows$Program" "nodes" "I" ∈ TT := tt_1 117 (by decide +kernel) (by decide +kernel)
theorem k_118 : Cond.fieldLink RX0 18 "MatchedFlows$Program" "edges" "I" ∈ TT := tt_1 118 (by decide +kernel) (by decide +kernel)
theorem k_119 : Cond.fieldLink RX1 28 "MatchedFlows$Program" "edges" "I" ∈ TT := tt_1 119 (by decide +kernel) (by decide +kernel)
theorem k_120 : Cond.fieldLink RX2 92 "MatchedFlows$Program" "edges" "I" ∈ TT := tt_1 120 (by decide +kernel) (by decide +kernel)
theorem k_121 : Cond.fieldLink RX4 237 "MatchedFlows$Program" "edges" "I" ∈ TT := tt_1 121 (by decide +kernel) (by decide +kernel)
theorem k_122 : Cond.fieldLink RX0 21 "MatchedFlows$Program" "start" "I" ∈ TT := tt_1 122 (by decide +kernel) (by decide +kernel)
theorem k_123 : Cond.fieldLink RX1 24 "MatchedFlows$Program" "start" "I" ∈ TT := tt_1 123 (by decide +kernel) (by decide +kernel)
theorem k_124 : Cond.fieldLink RX4 117 "MatchedFlows$Program" "start" "I" ∈ TT := tt_1 124 (by decide +kernel) (by decide +kernel)
theorem k_125 : Cond.fieldLink RX0 24 "MatchedFlows$Program" "entryOf" "[I" ∈ TT := tt_1 125 (by decide +kernel) (by decide +kernel)
theorem k_126 : Cond.fieldLink RX1 19 "MatchedFlows$Program" "entryOf" "[I" ∈ TT := tt_1 126 (by decide +kernel) (by decide +kernel)
theorem k_127 : Cond.fieldLink RX2 57 "MatchedFlows$Program" "entryOf" "[I" ∈ TT := tt_1 127 (by decide +kernel) (by decide +kernel)
theorem k_128 : Cond.fieldLink RX0 28 "MatchedFlows$Program" "exitOf" "[I" ∈ TT := tt_1 128 (by decide +kernel) (by decide +kernel)
theorem k_129 : Cond.fieldLink RX1 52 "MatchedFlows$Program" "exitOf" "[I" ∈ TT := tt_1 129 (by decide +kernel) (by decide +kernel)
theorem k_130 : Cond.fieldLink RX2 123 "MatchedFlows$Program" "exitOf" "[I" ∈ TT := tt_1 130 (by decide +kernel) (by decide +kernel)
theorem k_131 : Cond.fieldLink RX4 146 "MatchedFlows$Program" "exitOf" "[I" ∈ TT := tt_1 131 (by decide +kernel) (by decide +kernel)
theorem k_132 : Cond.fieldLink RX0 31 "MatchedFlows$Program" "procOf" "[I" ∈ TT := tt_1 132 (by decide +kernel) (by decide +kernel)
theorem k_133 : Cond.fieldLink RX4 93 "MatchedFlows$Program" "procOf" "[I" ∈ TT := tt_1 133 (by decide +kernel) (by decide +kernel)
theorem k_134 : Cond.fieldLink RX2 130 "MatchedFlows$Program" "procOf" "[I" ∈ TT := tt_1 134 (by decide +kernel) (by decide +kernel)
theorem k_135 : Cond.fieldLink RX0 34 "MatchedFlows$Program" "kindOf" "[I" ∈ TT := tt_1 135 (by decide +kernel) (by decide +kernel)
theorem k_136 : Cond.fieldLink RX2 86 "MatchedFlows$Program" "kindOf" "[I" ∈ TT := tt_1 136 (by decide +kernel) (by decide +kernel)
theorem k_137 : Cond.fieldLink RX4 97 "MatchedFlows$Program" "kindOf" "[I" ∈ TT := tt_1 137 (by decide +kernel) (by decide +kernel)
theorem k_138 : Cond.fieldLink RX0 37 "MatchedFlows$Program" "from" "[I" ∈ TT := tt_1 138 (by decide +kernel) (by decide +kernel)
theorem k_139 : Cond.fieldLink RX1 35 "MatchedFlows$Program" "from" "[I" ∈ TT := tt_1 139 (by decide +kernel) (by decide +kernel)
theorem k_140 : Cond.fieldLink RX2 95 "MatchedFlows$Program" "from" "[I" ∈ TT := tt_1 140 (by decide +kernel) (by decide +kernel)
theorem k_141 : Cond.fieldLink RX4 216 "MatchedFlows$Program" "from" "[I" ∈ TT := tt_1 141 (by decide +kernel) (by decide +kernel)
theorem k_142 : Cond.fieldLink RX0 40 "MatchedFlows$Program" "to" "[I" ∈ TT := tt_1 142 (by decide +kernel) (by decide +kernel)
theorem k_143 : Cond.fieldLink RX1 38 "MatchedFlows$Program" "to" "[I" ∈ TT := tt_1 143 (by decide +kernel) (by decide +kernel)
theorem k_144 : Cond.fieldLink RX2 113 "MatchedFlows$Program" "to" "[I" ∈ TT := tt_1 144 (by decide +kernel) (by decide +kernel)
theorem k_145 : Cond.fieldLink RX4 219 "MatchedFlows$Program" "to" "[I" ∈ TT := tt_1 145 (by decide +kernel) (by decide +kernel)
theorem k_146 : Cond.fieldLink RX0 43 "MatchedFlows$Program" "callee" "[I" ∈ TT := tt_1 146 (by decide +kernel) (by decide +kernel)
theorem k_147 : Cond.fieldLink RX1 41 "MatchedFlows$Program" "callee" "[I" ∈ TT := tt_1 147 (by decide +kernel) (by decide +kernel)
theorem k_148 : Cond.fieldLink RX2 98 "MatchedFlows$Program" "callee" "[I" ∈ TT := tt_1 148 (by decide +kernel) (by decide +kernel)
theorem k_149 : Cond.fieldLink RX4 140 "MatchedFlows$Program" "callee" "[I" ∈ TT := tt_1 149 (by decide +kernel) (by decide +kernel)
theorem k_150 : Cond.fieldLink RX0 46 "MatchedFlows$Program" "flow" "[J" ∈ TT := tt_1 150 (by decide +kernel) (by decide +kernel)
theorem k_176 : Cond.arrayClass .long ∈ TT := tt_1 176 (by decide +kernel) (by decide +kernel)
theorem k_177 : Cond.methodLink RX4 53 yX0_addProc ∈ TT := tt_1 177 (by decide +kernel) (by decide +kernel)
theorem k_178 : Cond.instanceMethod yX0_addProc ∈ TT := tt_1 178 (by decide +kernel) (by decide +kernel)
theorem k_179 : Cond.selects RX0 yX0_addProc yX0_addProc ∈ TT := tt_1 179 (by decide +kernel) (by decide +kernel)
theorem k_180 : Cond.code yX0_addProc cX0_addProc 1 (some .int) ∈ TT := tt_1 180 (by decide +kernel) (by decide +kernel)
theorem k_181 : Cond.methodLink RX0 75 yX0_placeNode ∈ TT := tt_1 181 (by decide +kernel) (by decide +kernel)
theorem k_183 : Cond.instanceMethod yX0_placeNode ∈ TT := tt_1 183 (by decide +kernel) (by decide +kernel)
theorem k_184 : Cond.code yX0_placeNode cX0_placeNode 3 (some .int) ∈ TT := tt_1 184 (by decide +kernel) (by decide +kernel)
theorem k_185 : Cond.fieldLink RX4 11 "MatchedFlows" "rows" "[LMatchedFlows$Program;" ∈ TT := tt_1 185 (by decide +kernel) (by decide +kernel)
theorem k_186 : Cond.fieldLink RX4 15 "MatchedFlows" "now" "I" ∈ TT := tt_1 186 (by decide +kernel) (by decide +kernel)
theorem k_187 : Cond.fieldLink RX4 19 "MatchedFlows" "states" "I" ∈ TT := tt_1 187 (by decide +kernel) (by decide +kernel)
theorem k_188 : Cond.fieldLink RX4 25 "MatchedFlows" "table" "LMatchedFlows$Table;" ∈ TT := tt_1 188 (by decide +kernel) (by decide +kernel)
theorem k_189 : Cond.fieldLink RX4 32 "MatchedFlows" "spread" "LMatchedFlows$Spread;" ∈ TT := tt_1 189 (by decide +kernel) (by decide +kernel)
theorem k_190 : Cond.fieldLink RX4 39 "MatchedFlows" "text" "LMatchedFlows$Text;" ∈ TT := tt_1 190 (by decide +kernel) (by decide +kernel)
theorem k_191 : Cond.fieldLink RX4 43 "MatchedFlows" "timesBad" "I" ∈ TT := tt_1 191 (by decide +kernel) (by decide +kernel)
theorem k_192 : Cond.fieldLink RX4 46 "MatchedFlows" "timesNo" "I" ∈ TT := tt_1 192 (by decide +kernel) (by decide +kernel)
theorem k_193 : Cond.fieldLink RX4 49 "MatchedFlows" "timesFull" "I" ∈ TT := tt_1 193 (by decide +kernel) (by decide +kernel)
theorem k_213 : Cond.methodLink RL 13 yX4_proc ∈ TT := tt_1 213 (by decide +kernel) (by decide +kernel)
theorem k_214 : Cond.instanceMethod yX4_proc ∈ TT := tt_1 214 (by decide +kernel) (by decide +kernel)
theorem k_215 : Cond.selects RX4 yX4_proc yX4_proc ∈ TT := tt_1 215 (by decide +kernel) (by decide +kernel)
theorem k_216 : Cond.code yX4_proc cX4_proc 1 (some .int) ∈ TT := tt_1 216 (by decide +kernel) (by decide +kernel)
theorem k_217 : Cond.methodLink RX4 57 yX4_draft ∈ TT := tt_1 217 (by decide +kernel) (by decide +kernel)
theorem k_219 : Cond.instanceMethod yX4_draft ∈ TT := tt_1 219 (by decide +kernel) (by decide +kernel)
theorem k_220 : Cond.code yX4_draft cX4_draft 2 (some (.object "MatchedFlows$Program")) ∈ TT := tt_1 220 (by decide +kernel) (by decide +kernel)
theorem k_221 : Cond.methodLink RX4 203 yX0_copy ∈ TT := tt_1 221 (by decide +kernel) (by decide +kernel)
theorem k_222 : Cond.instanceMethod yX0_copy ∈ TT := tt_1 222 (by decide +kernel) (by decide +kernel)
theorem k_223 : Cond.selects RX0 yX0_copy yX0_copy ∈ TT := tt_1 223 (by decide +kernel) (by decide +kernel)
theorem k_224 : Cond.code yX0_copy cX0_copy 2 none ∈ TT := tt_1 224 (by decide +kernel) (by decide +kernel)
theorem k_225 : Cond.methodLink RX0 50 arraycopyName ∈ TT := tt_1 225 (by decide +kernel) (by decide +kernel)
theorem k_226 : Cond.static arraycopyName ∈ TT := tt_1 226 (by decide +kernel) (by decide +kernel)
theorem k_227 : Cond.native arraycopyName ∈ TT := tt_1 227 (by decide +kernel) (by decide +kernel)
theorem k_228 : Cond.methodLink RX4 61 yX4_settled ∈ TT := tt_1 228 (by decide +kernel) (by decide +kernel)
theorem k_230 : Cond.instanceMethod yX4_settled ∈ TT := tt_1 230 (by decide +kernel) (by decide +kernel)
theorem k_231 : Cond.code yX4_settled cX4_settled 2 (some .int) ∈ TT := tt_1 231 (by decide +kernel) (by decide +kernel)
theorem k_232 : Cond.methodLink RX4 90 yX4_refused ∈ TT := tt_1 232 (by decide +kernel) (by decide +kernel)
theorem k_234 : Cond.instanceMethod yX4_refused ∈ TT := tt_1 234 (by decide +kernel) (by decide +kernel)
theorem k_235 : Cond.code yX4_refused cX4_refused 2 (some .int) ∈ TT := tt_1 235 (by decide +kernel) (by decide +kernel)
theorem k_236 : Cond.methodLink RX4 206 yJ9_min_7cf53 ∈ TT := tt_1 236 (by decide +kernel) (by decide +kernel)
theorem k_237 : Cond.static yJ9_min_7cf53 ∈ TT := tt_1 237 (by decide +kernel) (by decide +kernel)
theorem k_238 : Cond.code yJ9_min_7cf53 cJ9_min_7cf53 2 (some .int) ∈ TT := tt_1 238 (by decide +kernel) (by decide +kernel)
theorem k_239 : Cond.methodLink RX4 185 yX4_moveTo ∈ TT := tt_1 239 (by decide +kernel) (by decide +kernel)
theorem k_241 : Cond.instanceMethod yX4_moveTo ∈ TT := tt_2 1 (by decide +kernel) (by decide +kernel)
theorem k_242 : Cond.code yX4_moveTo cX4_moveTo 2 none ∈ TT := tt_2 2 (by decide +kernel) (by decide +kernel)
theorem k_243 : Cond.methodLink RL 18 yX4_node ∈ TT := tt_2 3 (by decide +kernel) (by decide +kernel)
theorem k_244 : Cond.instanceMethod yX4_node ∈ TT := tt_2 4 (by decide +kernel) (by decide +kernel)
theorem k_245 : Cond.selects RX4 yX4_node yX4_node ∈ TT := tt_2 5 (by decide +kernel) (by decide +kernel)
theorem k_246 : Cond.code yX4_node cX4_node 2 (some .int) ∈ TT := tt_2 6 (by decide +kernel) (by decide +kernel)
theorem k_247 : Cond.methodLink RX4 65 yX0_addNode ∈ TT := tt_2 7 (by decide +kernel) (by decide +kernel)
theorem k_248 : Cond.instanceMethod yX0_addNode ∈ TT := tt_2 8 (by decide +kernel) (by decide +kernel)
theorem k_249 : Cond.selects RX0 yX0_addNode yX0_addNode ∈ TT := tt_2 9 (by decide +kernel) (by decide +kernel)
theorem k_250 : Cond.code yX0_addNode cX0_addNode 2 (some .int) ∈ TT := tt_2 10 (by decide +kernel) (by decide +kernel)
theorem k_251 : Cond.methodLink RX0 79 yX0_isProc ∈ TT := tt_2 11 (by decide +kernel) (by decide +kernel)
theorem k_252 : Cond.instanceMethod yX0_isProc ∈ TT := tt_2 12 (by decide +kernel) (by decide +kernel)
theorem k_253 : Cond.selects RX0 yX0_isProc yX0_isProc ∈ TT := tt_2 13 (by decide +kernel) (by decide +kernel)
theorem k_254 : Cond.code yX0_isProc cX0_isProc 2 (some .boolean) ∈ TT := tt_2 14 (by decide +kernel) (by decide +kernel)
theorem k_255 : Cond.methodLink RL 23 yX4_edge ∈ TT := tt_2 15 (by decide +kernel) (by decide +kernel)
theorem k_256 : Cond.instanceMethod yX4_edge ∈ TT := tt_2 16 (by decide +kernel) (by decide +kernel)
theorem k_257 : Cond.selects RX4 yX4_edge yX4_edge ∈ TT := tt_2 17 (by decide +kernel) (by decide +kernel)
theorem k_258 : Cond.code yX4_edge cX4_edge 3 (some .int) ∈ TT := tt_2 18 (by decide +kernel) (by decide +kernel)
theorem k_259 : Cond.methodLink RX4 68 yX0_addPlain ∈ TT := tt_2 19 (by decide +kernel) (by decide +kernel)
theorem k_260 : Cond.instanceMethod yX0_addPlain ∈ TT := tt_2 20 (by decide +kernel) (by decide +kernel)
theorem k_261 : Cond.selects RX0 yX0_addPlain yX0_addPlain ∈ TT := tt_2 21 (by decide +kernel) (by decide +kernel)
theorem k_262 : Cond.code yX0_addPlain cX0_addPlain 3 (some .int) ∈ TT := tt_2 22 (by decide +kernel) (by decide +kernel)
theorem k_263 : Cond.methodLink RX0 82 yX0_joins ∈ TT := tt_2 23 (by decide +kernel) (by decide +kernel)
theorem k_264 : Cond.instanceMethod yX0_joins ∈ TT := tt_2 24 (by decide +kernel) (by decide +kernel)
theorem k_265 : Cond.selects RX0 yX0_joins yX0_joins ∈ TT := tt_2 25 (by decide +kernel) (by decide +kernel)
theorem k_266 : Cond.code yX0_joins cX0_joins 3 (some .boolean) ∈ TT := tt_2 26 (by decide +kernel) (by decide +kernel)
theorem k_267 : Cond.methodLink RX0 56 yX0_isNode ∈ TT := tt_2 27 (by decide +kernel) (by decide +kernel)
theorem k_268 : Cond.instanceMethod yX0_isNode ∈ TT := tt_2 28 (by decide +kernel) (by decide +kernel)
theorem k_269 : Cond.selects RX0 yX0_isNode yX0_isNode ∈ TT := tt_2 29 (by decide +kernel) (by decide +kernel)
theorem k_270 : Cond.code yX0_isNode cX0_isNode 2 (some .boolean) ∈ TT := tt_2 30 (by decide +kernel) (by decide +kernel)
theorem k_271 : Cond.methodLink RX0 85 yX0_addEdge ∈ TT := tt_2 31 (by decide +kernel) (by decide +kernel)
theorem k_273 : Cond.instanceMethod yX0_addEdge ∈ TT := tt_2 33 (by decide +kernel) (by decide +kernel)
theorem k_274 : Cond.code yX0_addEdge cX0_addEdge 5 (some .int) ∈ TT := tt_2 34 (by decide +kernel) (by decide +kernel)
theorem k_275 : Cond.constantLong RX0 88 (-9205322385119247871) ∈ TT := tt_2 35 (by decide +kernel) (by decide +kernel)
theorem k_276 : Cond.methodLink RL 28 yX4_call ∈ TT := tt_2 36 (by decide +kernel) (by decide +kernel)
theorem k_277 : Cond.instanceMethod yX4_call ∈ TT := tt_2 37 (by decide +kernel) (by decide +kernel)
theorem k_278 : Cond.selects RX4 yX4_call yX4_call ∈ TT := tt_2 38 (by decide +kernel) (by decide +kernel)
theorem k_279 : Cond.code yX4_call cX4_call 4 (some .int) ∈ TT := tt_2 39 (by decide +kernel) (by decide +kernel)
theorem k_280 : Cond.methodLink RX4 72 yX0_addCall ∈ TT := tt_2 40 (by decide +kernel) (by decide +kernel)
theorem k_281 : Cond.instanceMethod yX0_addCall ∈ TT := tt_2 41 (by decide +kernel) (by decide +kernel)
theorem k_282 : Cond.selects RX0 yX0_addCall yX0_addCall ∈ TT := tt_2 42 (by decide +kernel) (by decide +kernel)
theorem k_283 : Cond.code yX0_addCall cX0_addCall 4 (some .int) ∈ TT := tt_2 43 (by decide +kernel) (by decide +kernel)
theorem k_284 : Cond.methodLink RL 33 yX4_flows ∈ TT := tt_2 44 (by decide +kernel) (by decide +kernel)
theorem k_285 : Cond.instanceMethod yX4_flows ∈ TT := tt_2 45 (by decide +kernel) (by decide +kernel)
theorem k_286 : Cond.selects RX4 yX4_flows yX4_flows ∈ TT := tt_2 46 (by decide +kernel) (by decide +kernel)
theorem k_287 : Cond.code yX4_flows cX4_flows 5 (some .int) ∈ TT := tt_2 47 (by decide +kernel) (by decide +kernel)
theorem k_288 : Cond.methodLink RX4 76 yX0_setFlow ∈ TT := tt_2 48 (by decide +kernel) (by decide +kernel)
theorem k_289 : Cond.instanceMethod yX0_setFlow ∈ TT := tt_2 49 (by decide +kernel) (by decide +kernel)
theorem k_290 : Cond.selects RX0 yX0_setFlow yX0_setFlow ∈ TT := tt_2 50 (by decide +kernel) (by decide +kernel)
theorem k_291 : Cond.code yX0_setFlow cX0_setFlow 9 (some .int) ∈ TT := tt_2 51 (by decide +kernel) (by decide +kernel)
theorem k_292 : Cond.methodLink RX0 90 yX0_hasFlow ∈ TT := tt_2 52 (by decide +kernel) (by decide +kernel)
theorem k_293 : Cond.instanceMethod yX0_hasFlow ∈ TT := tt_2 53 (by decide +kernel) (by decide +kernel)
theorem k_294 : Cond.selects RX0 yX0_hasFlow yX0_hasFlow ∈ TT := tt_2 54 (by decide +kernel) (by decide +kernel)
theorem k_295 : Cond.code yX0_hasFlow cX0_hasFlow 3 (some .boolean) ∈ TT := tt_2 55 (by decide +kernel) (by decide +kernel)
theorem k_296 : Cond.methodLink RX0 60 yX0_isEdge ∈ TT := tt_2 56 (by decide +kernel) (by decide +kernel)
theorem k_297 : Cond.instanceMethod yX0_isEdge ∈ TT := tt_2 57 (by decide +kernel) (by decide +kernel)
theorem k_298 : Cond.selects RX0 yX0_isEdge yX0_isEdge ∈ TT := tt_2 58 (by decide +kernel) (by decide +kernel)
theorem k_299 : Cond.code yX0_isEdge cX0_isEdge 2 (some .boolean) ∈ TT := tt_2 59 (by decide +kernel) (by decide +kernel)
theorem k_300 : Cond.methodLink RX0 63 yX0_flowsOf ∈ TT := tt_2 60 (by decide +kernel) (by decide +kernel)
theorem k_301 : Cond.instanceMethod yX0_flowsOf ∈ TT := tt_2 61 (by decide +kernel) (by decide +kernel)
theorem k_302 : Cond.selects RX0 yX0_flowsOf yX0_flowsOf ∈ TT := tt_2 62 (by decide +kernel) (by decide +kernel)
theorem k_303 : Cond.code yX0_flowsOf cX0_flowsOf 2 (some .int) ∈ TT := tt_2 63 (by decide +kernel) (by decide +kernel)
theorem k_305 : Cond.static yX4_isFact ∈ TT := tt_2 65 (by decide +kernel) (by decide +kernel)
theorem k_306 : Cond.code yX4_isFact cX4_isFact 1 (some .boolean) ∈ TT := tt_2 66 (by decide +kernel) (by decide +kernel)
theorem k_308 : Cond.static yX4_isFacts ∈ TT := tt_2 68 (by decide +kernel) (by decide +kernel)
theorem k_309 : Cond.code yX4_isFacts cX4_isFacts 1 (some .boolean) ∈ TT := tt_2 69 (by decide +kernel) (by decide +kernel)
theorem k_311 : Cond.static yX4_has ∈ TT := tt_2 71 (by decide +kernel) (by decide +kernel)
theorem k_312 : Cond.code yX4_has cX4_has 2 (some .boolean) ∈ TT := tt_2 72 (by decide +kernel) (by decide +kernel)
theorem k_313 : Cond.methodLink RX0 71 yX0_reach ∈ TT := tt_2 73 (by decide +kernel) (by decide +kernel)
theorem k_314 : Cond.instanceMethod yX0_reach ∈ TT := tt_2 74 (by decide +kernel) (by decide +kernel)
theorem k_315 : Cond.selects RX0 yX0_reach yX0_reach ∈ TT := tt_2 75 (by decide +kernel) (by decide +kernel)
theorem k_316 : Cond.code yX0_reach cX0_reach 4 (some .int) ∈ TT := tt_2 76 (by decide +kernel) (by decide +kernel)
theorem k_317 : Cond.constantLong RX0 99 (255) ∈ TT := tt_2 77 (by decide +kernel) (by decide +kernel)
theorem k_318 : Cond.constantLong RX0 101 (-1) ∈ TT := tt_2 78 (by decide +kernel) (by decide +kernel)
theorem k_319 : Cond.methodLink RL 38 yX4_starts ∈ TT := tt_2 79 (by decide +kernel) (by decide +kernel)
theorem k_320 : Cond.instanceMethod yX4_starts ∈ TT := tt_2 80 (by decide +kernel) (by decide +kernel)
theorem k_321 : Cond.selects RX4 yX4_starts yX4_starts ∈ TT := tt_2 81 (by decide +kernel) (by decide +kernel)
theorem k_322 : Cond.code yX4_starts cX4_starts 2 (some .int) ∈ TT := tt_2 82 (by decide +kernel) (by decide +kernel)
theorem k_323 : Cond.methodLink RX4 80 yX0_setStart ∈ TT := tt_2 83 (by decide +kernel) (by decide +kernel)
theorem k_324 : Cond.instanceMethod yX0_setStart ∈ TT := tt_2 84 (by decide +kernel) (by decide +kernel)
theorem k_325 : Cond.selects RX0 yX0_setStart yX0_setStart ∈ TT := tt_2 85 (by decide +kernel) (by decide +kernel)
theorem k_326 : Cond.code yX0_setStart cX0_setStart 3 (some .int) ∈ TT := tt_2 86 (by decide +kernel) (by decide +kernel)
theorem k_327 : Cond.methodLink RL 42 yX4_cuts ∈ TT := tt_2 87 (by decide +kernel) (by decide +kernel)
theorem k_328 : Cond.instanceMethod yX4_cuts ∈ TT := tt_2 88 (by decide +kernel) (by decide +kernel)
theorem k_329 : Cond.selects RX4 yX4_cuts yX4_cuts ∈ TT := tt_2 89 (by decide +kernel) (by decide +kernel)
theorem k_330 : Cond.code yX4_cuts cX4_cuts 2 (some .int) ∈ TT := tt_2 90 (by decide +kernel) (by decide +kernel)
theorem k_331 : Cond.methodLink RX4 83 yX0_cutEdge ∈ TT := tt_2 91 (by decide +kernel) (by decide +kernel)
theorem k_332 : Cond.instanceMethod yX0_cutEdge ∈ TT := tt_2 92 (by decide +kernel) (by decide +kernel)
theorem k_333 : Cond.selects RX0 yX0_cutEdge yX0_cutEdge ∈ TT := tt_2 93 (by decide +kernel) (by decide +kernel)
theorem k_334 : Cond.code yX0_cutEdge cX0_cutEdge 4 (some .int) ∈ TT := tt_2 94 (by decide +kernel) (by decide +kernel)
theorem k_335 : Cond.methodLink RL 46 yX4_at ∈ TT := tt_2 95 (by decide +kernel) (by decide +kernel)
theorem k_336 : Cond.instanceMethod yX4_at ∈ TT := tt_2 96 (by decide +kernel) (by decide +kernel)
theorem k_337 : Cond.selects RX4 yX4_at yX4_at ∈ TT := tt_2 97 (by decide +kernel) (by decide +kernel)
theorem k_338 : Cond.code yX4_at cX4_at 4 (some .int) ∈ TT := tt_2 98 (by decide +kernel) (by decide +kernel)
theorem k_339 : Cond.methodLink RX4 86 yX0_isNode ∈ TT := tt_2 99 (by decide +kernel) (by decide +kernel)
theorem k_340 : Cond.methodLink RL 50 yX4_about ∈ TT := tt_2 100 (by decide +kernel) (by decide +kernel)
theorem k_341 : Cond.instanceMethod yX4_about ∈ TT := tt_2 101 (by decide +kernel) (by decide +kernel)
theorem k_342 : Cond.selects RX4 yX4_about yX4_about ∈ TT := tt_2 102 (by decide +kernel) (by decide +kernel)
theorem k_343 : Cond.code yX4_about cX4_about 4 (some .int) ∈ TT := tt_2 103 (by decide +kernel) (by decide +kernel)
theorem k_344 : Cond.methodLink RX4 100 yX0_isEdge ∈ TT := tt_2 104 (by decide +kernel) (by decide +kernel)
theorem k_345 : Cond.methodLink RX4 103 yX4_partOfEdge ∈ TT := tt_2 105 (by decide +kernel) (by decide +kernel)
theorem k_347 : Cond.instanceMethod yX4_partOfEdge ∈ TT := tt_2 107 (by decide +kernel) (by decide +kernel)
theorem k_348 : Cond.code yX4_partOfEdge cX4_partOfEdge 4 (some .int) ∈ TT := tt_2 108 (by decide +kernel) (by decide +kernel)
theorem k_349 : Cond.methodLink RL 54 yX4_goes ∈ TT := tt_2 109 (by decide +kernel) (by decide +kernel)
theorem k_350 : Cond.instanceMethod yX4_goes ∈ TT := tt_2 110 (by decide +kernel) (by decide +kernel)
theorem k_351 : Cond.selects RX4 yX4_goes yX4_goes ∈ TT := tt_2 111 (by decide +kernel) (by decide +kernel)
theorem k_352 : Cond.code yX4_goes cX4_goes 5 (some .int) ∈ TT := tt_2 112 (by decide +kernel) (by decide +kernel)
theorem k_353 : Cond.methodLink RX4 107 yX0_hasFlow ∈ TT := tt_2 113 (by decide +kernel) (by decide +kernel)
theorem k_354 : Cond.methodLink RX4 111 yX4_isFact ∈ TT := tt_2 114 (by decide +kernel) (by decide +kernel)
theorem k_355 : Cond.methodLink RX4 114 yX0_reach ∈ TT := tt_2 115 (by decide +kernel) (by decide +kernel)
theorem k_356 : Cond.methodLink RL 58 yX4_count ∈ TT := tt_2 116 (by decide +kernel) (by decide +kernel)
theorem k_357 : Cond.instanceMethod yX4_count ∈ TT := tt_2 117 (by decide +kernel) (by decide +kernel)
theorem k_358 : Cond.selects RX4 yX4_count yX4_count ∈ TT := tt_2 118 (by decide +kernel) (by decide +kernel)
theorem k_359 : Cond.code yX4_count cX4_count 3 (some .int) ∈ TT := tt_2 119 (by decide +kernel) (by decide +kernel)
theorem k_360 : Cond.methodLink RX4 120 yX2_fill ∈ TT := tt_2 120 (by decide +kernel) (by decide +kernel)
theorem k_361 : Cond.instanceMethod yX2_fill ∈ TT := tt_2 121 (by decide +kernel) (by decide +kernel)
theorem k_362 : Cond.selects RX2 yX2_fill yX2_fill ∈ TT := tt_2 122 (by decide +kernel) (by decide +kernel)
theorem k_363 : Cond.code yX2_fill cX2_fill 5 none ∈ TT := tt_2 123 (by decide +kernel) (by decide +kernel)
theorem k_366 : Cond.static yX4_cell ∈ TT := tt_2 126 (by decide +kernel) (by decide +kernel)
theorem k_367 : Cond.code yX4_cell cX4_cell 2 (some .int) ∈ TT := tt_2 127 (by decide +kernel) (by decide +kernel)
theorem k_368 : Cond.methodLink RX2 66 yX2_come ∈ TT := tt_2 128 (by decide +kernel) (by decide +kernel)
theorem k_370 : Cond.instanceMethod yX2_come ∈ TT := tt_2 130 (by decide +kernel) (by decide +kernel)
theorem k_371 : Cond.code yX2_come cX2_come 13 none ∈ TT := tt_2 131 (by decide +kernel) (by decide +kernel)
theorem k_372 : Cond.methodLink RX2 74 yJ9_min_7cf53 ∈ TT := tt_2 132 (by decide +kernel) (by decide +kernel)
theorem k_373 : Cond.methodLink RX2 70 yX2_take ∈ TT := tt_2 133 (by decide +kernel) (by decide +kernel)
theorem k_375 : Cond.instanceMethod yX2_take ∈ TT := tt_2 135 (by decide +kernel) (by decide +kernel)
theorem k_376 : Cond.code yX2_take cX2_take 5 none ∈ TT := tt_2 136 (by decide +kernel) (by decide +kernel)
theorem k_377 : Cond.methodLink RX2 79 yX2_nodeOf ∈ TT := tt_2 137 (by decide +kernel) (by decide +kernel)
theorem k_378 : Cond.instanceMethod yX2_nodeOf ∈ TT := tt_2 138 (by decide +kernel) (by decide +kernel)
theorem k_379 : Cond.selects RX2 yX2_nodeOf yX2_nodeOf ∈ TT := tt_2 139 (by decide +kernel) (by decide +kernel)
theorem k_380 : Cond.code yX2_nodeOf cX2_nodeOf 2 (some .int) ∈ TT := tt_2 140 (by decide +kernel) (by decide +kernel)
theorem k_381 : Cond.methodLink RX2 89 yX2_returnToCallers ∈ TT := tt_2 141 (by decide +kernel) (by decide +kernel)
theorem k_383 : Cond.instanceMethod yX2_returnToCallers ∈ TT := tt_2 143 (by decide +kernel) (by decide +kernel)
theorem k_384 : Cond.code yX2_returnToCallers cX2_returnToCallers 8 none ∈ TT := tt_2 144 (by decide +kernel) (by decide +kernel)
theorem k_385 : Cond.methodLink RX2 116 yX2_factAtEntry ∈ TT := tt_2 145 (by decide +kernel) (by decide +kernel)
theorem k_386 : Cond.instanceMethod yX2_factAtEntry ∈ TT := tt_2 146 (by decide +kernel) (by decide +kernel)
theorem k_387 : Cond.selects RX2 yX2_factAtEntry yX2_factAtEntry ∈ TT := tt_2 147 (by decide +kernel) (by decide +kernel)
theorem k_388 : Cond.code yX2_factAtEntry cX2_factAtEntry 2 (some .int) ∈ TT := tt_2 148 (by decide +kernel) (by decide +kernel)
theorem k_389 : Cond.methodLink RX2 83 yX2_factOf ∈ TT := tt_2 149 (by decide +kernel) (by decide +kernel)
theorem k_390 : Cond.instanceMethod yX2_factOf ∈ TT := tt_2 150 (by decide +kernel) (by decide +kernel)
theorem k_391 : Cond.selects RX2 yX2_factOf yX2_factOf ∈ TT := tt_2 151 (by decide +kernel) (by decide +kernel)
theorem k_392 : Cond.code yX2_factOf cX2_factOf 2 (some .int) ∈ TT := tt_2 152 (by decide +kernel) (by decide +kernel)
theorem k_393 : Cond.methodLink RX2 109 yX0_reach ∈ TT := tt_2 153 (by decide +kernel) (by decide +kernel)
theorem k_394 : Cond.methodLink RX2 105 yX2_landing ∈ TT := tt_2 154 (by decide +kernel) (by decide +kernel)
theorem k_396 : Cond.instanceMethod yX2_landing ∈ TT := tt_2 156 (by decide +kernel) (by decide +kernel)
theorem k_397 : Cond.code yX2_landing cX2_landing 4 (some .int) ∈ TT := tt_2 157 (by decide +kernel) (by decide +kernel)
theorem k_398 : Cond.methodLink RX2 101 yX2_enter ∈ TT := tt_2 158 (by decide +kernel) (by decide +kernel)
theorem k_400 : Cond.instanceMethod yX2_enter ∈ TT := tt_2 160 (by decide +kernel) (by decide +kernel)
theorem k_401 : Cond.code yX2_enter cX2_enter 7 none ∈ TT := tt_2 161 (by decide +kernel) (by decide +kernel)
theorem k_402 : Cond.methodLink RX2 119 yX2_noteSite ∈ TT := tt_2 162 (by decide +kernel) (by decide +kernel)
theorem k_404 : Cond.instanceMethod yX2_noteSite ∈ TT := tt_2 164 (by decide +kernel) (by decide +kernel)
theorem k_405 : Cond.code yX2_noteSite cX2_noteSite 3 none ∈ TT := tt_2 165 (by decide +kernel) (by decide +kernel)
theorem k_406 : Cond.methodLink RX2 126 yX2_leaveAsKnown ∈ TT := tt_2 166 (by decide +kernel) (by decide +kernel)
theorem k_408 : Cond.instanceMethod yX2_leaveAsKnown ∈ TT := tt_2 168 (by decide +kernel) (by decide +kernel)
theorem k_409 : Cond.code yX2_leaveAsKnown cX2_leaveAsKnown 7 none ∈ TT := tt_2 169 (by decide +kernel) (by decide +kernel)
theorem k_410 : Cond.methodLink RX4 124 yX4_counted ∈ TT := tt_2 170 (by decide +kernel) (by decide +kernel)
theorem k_412 : Cond.instanceMethod yX4_counted ∈ TT := tt_2 172 (by decide +kernel) (by decide +kernel)
theorem k_413 : Cond.code yX4_counted cX4_counted 3 (some .int) ∈ TT := tt_2 173 (by decide +kernel) (by decide +kernel)
theorem k_414 : Cond.methodLink RX4 240 yX4_nodesReached ∈ TT := tt_2 174 (by decide +kernel) (by decide +kernel)
theorem k_416 : Cond.instanceMethod yX4_nodesReached ∈ TT := tt_2 176 (by decide +kernel) (by decide +kernel)
theorem k_417 : Cond.code yX4_nodesReached cX4_nodesReached 4 (some .int) ∈ TT := tt_2 177 (by decide +kernel) (by decide +kernel)
theorem k_418 : Cond.methodLink RX4 128 yX2_factsAt ∈ TT := tt_2 178 (by decide +kernel) (by decide +kernel)
theorem k_419 : Cond.instanceMethod yX2_factsAt ∈ TT := tt_2 179 (by decide +kernel) (by decide +kernel)
theorem k_420 : Cond.selects RX2 yX2_factsAt yX2_factsAt ∈ TT := tt_2 180 (by decide +kernel) (by decide +kernel)
theorem k_421 : Cond.code yX2_factsAt cX2_factsAt 4 (some .int) ∈ TT := tt_2 181 (by decide +kernel) (by decide +kernel)
theorem k_422 : Cond.methodLink RL 62 yX4_holds ∈ TT := tt_2 182 (by decide +kernel) (by decide +kernel)
theorem k_423 : Cond.instanceMethod yX4_holds ∈ TT := tt_2 183 (by decide +kernel) (by decide +kernel)
theorem k_424 : Cond.selects RX4 yX4_holds yX4_holds ∈ TT := tt_2 184 (by decide +kernel) (by decide +kernel)
theorem k_425 : Cond.code yX4_holds cX4_holds 3 (some .int) ∈ TT := tt_2 185 (by decide +kernel) (by decide +kernel)
theorem k_426 : Cond.methodLink RL 66 yX4_loose ∈ TT := tt_2 186 (by decide +kernel) (by decide +kernel)
theorem k_427 : Cond.instanceMethod yX4_loose ∈ TT := tt_2 187 (by decide +kernel) (by decide +kernel)
theorem k_428 : Cond.selects RX4 yX4_loose yX4_loose ∈ TT := tt_2 188 (by decide +kernel) (by decide +kernel)
theorem k_429 : Cond.code yX4_loose cX4_loose 3 (some .int) ∈ TT := tt_2 189 (by decide +kernel) (by decide +kernel)
theorem k_430 : Cond.methodLink RX4 131 yX1_fill ∈ TT := tt_2 190 (by decide +kernel) (by decide +kernel)
theorem k_431 : Cond.instanceMethod yX1_fill ∈ TT := tt_2 191 (by decide +kernel) (by decide +kernel)
theorem k_432 : Cond.selects RX1 yX1_fill yX1_fill ∈ TT := tt_2 192 (by decide +kernel) (by decide +kernel)
theorem k_433 : Cond.code yX1_fill cX1_fill 5 none ∈ TT := tt_2 193 (by decide +kernel) (by decide +kernel)
theorem k_434 : Cond.methodLink RX1 31 yX1_stepAlong ∈ TT := tt_2 194 (by decide +kernel) (by decide +kernel)
theorem k_436 : Cond.instanceMethod yX1_stepAlong ∈ TT := tt_2 196 (by decide +kernel) (by decide +kernel)
theorem k_437 : Cond.code yX1_stepAlong cX1_stepAlong 7 (some .boolean) ∈ TT := tt_2 197 (by decide +kernel) (by decide +kernel)
theorem k_438 : Cond.methodLink RX1 44 yX0_carry ∈ TT := tt_2 198 (by decide +kernel) (by decide +kernel)
theorem k_439 : Cond.instanceMethod yX0_carry ∈ TT := tt_2 199 (by decide +kernel) (by decide +kernel)
theorem k_440 : Cond.selects RX0 yX0_carry yX0_carry ∈ TT := tt_2 200 (by decide +kernel) (by decide +kernel)
theorem k_441 : Cond.code yX0_carry cX0_carry 6 (some .int) ∈ TT := tt_2 201 (by decide +kernel) (by decide +kernel)
theorem k_442 : Cond.methodLink RX1 48 yX1_addTo ∈ TT := tt_2 202 (by decide +kernel) (by decide +kernel)
theorem k_444 : Cond.instanceMethod yX1_addTo ∈ TT := tt_2 204 (by decide +kernel) (by decide +kernel)
theorem k_445 : Cond.code yX1_addTo cX1_addTo 4 (some .boolean) ∈ TT := tt_2 205 (by decide +kernel) (by decide +kernel)
theorem k_446 : Cond.methodLink RL 70 yX4_origins ∈ TT := tt_2 206 (by decide +kernel) (by decide +kernel)
theorem k_447 : Cond.instanceMethod yX4_origins ∈ TT := tt_2 207 (by decide +kernel) (by decide +kernel)
theorem k_448 : Cond.selects RX4 yX4_origins yX4_origins ∈ TT := tt_2 208 (by decide +kernel) (by decide +kernel)
theorem k_449 : Cond.code yX4_origins cX4_origins 6 (some .int) ∈ TT := tt_2 209 (by decide +kernel) (by decide +kernel)
theorem k_450 : Cond.methodLink RX4 137 yX4_has ∈ TT := tt_2 210 (by decide +kernel) (by decide +kernel)
theorem k_451 : Cond.methodLink RL 74 yX4_summary ∈ TT := tt_2 211 (by decide +kernel) (by decide +kernel)
theorem k_452 : Cond.instanceMethod yX4_summary ∈ TT := tt_2 212 (by decide +kernel) (by decide +kernel)
theorem k_453 : Cond.selects RX4 yX4_summary yX4_summary ∈ TT := tt_2 213 (by decide +kernel) (by decide +kernel)
theorem k_454 : Cond.code yX4_summary cX4_summary 8 (some .int) ∈ TT := tt_2 214 (by decide +kernel) (by decide +kernel)
theorem k_455 : Cond.methodLink RX4 149 yX4_cell ∈ TT := tt_2 215 (by decide +kernel) (by decide +kernel)
theorem k_456 : Cond.methodLink RX4 152 yX0_carry ∈ TT := tt_2 216 (by decide +kernel) (by decide +kernel)
theorem k_457 : Cond.methodLink RL 78 yX4_entry ∈ TT := tt_2 217 (by decide +kernel) (by decide +kernel)
theorem k_458 : Cond.instanceMethod yX4_entry ∈ TT := tt_2 218 (by decide +kernel) (by decide +kernel)
theorem k_459 : Cond.selects RX4 yX4_entry yX4_entry ∈ TT := tt_2 219 (by decide +kernel) (by decide +kernel)
theorem k_460 : Cond.code yX4_entry cX4_entry 4 (some .int) ∈ TT := tt_2 220 (by decide +kernel) (by decide +kernel)
theorem k_461 : Cond.methodLink RX4 158 yX4_partOfEntry ∈ TT := tt_2 221 (by decide +kernel) (by decide +kernel)
theorem k_463 : Cond.instanceMethod yX4_partOfEntry ∈ TT := tt_2 223 (by decide +kernel) (by decide +kernel)
theorem k_464 : Cond.code yX4_partOfEntry cX4_partOfEntry 4 (some .int) ∈ TT := tt_2 224 (by decide +kernel) (by decide +kernel)
theorem k_465 : Cond.methodLink RX4 222 yX2_nodeOf ∈ TT := tt_2 225 (by decide +kernel) (by decide +kernel)
theorem k_466 : Cond.methodLink RX4 225 yX2_factAtEntry ∈ TT := tt_2 226 (by decide +kernel) (by decide +kernel)
theorem k_467 : Cond.methodLink RX4 228 yX2_factOf ∈ TT := tt_2 227 (by decide +kernel) (by decide +kernel)
theorem k_468 : Cond.methodLink RL 82 yX4_witness ∈ TT := tt_2 228 (by decide +kernel) (by decide +kernel)
theorem k_469 : Cond.instanceMethod yX4_witness ∈ TT := tt_2 229 (by decide +kernel) (by decide +kernel)
theorem k_470 : Cond.selects RX4 yX4_witness yX4_witness ∈ TT := tt_2 230 (by decide +kernel) (by decide +kernel)
theorem k_471 : Cond.code yX4_witness cX4_witness 6 (some .int) ∈ TT := tt_2 231 (by decide +kernel) (by decide +kernel)
theorem k_472 : Cond.methodLink RX4 161 yX2_firstWith ∈ TT := tt_2 232 (by decide +kernel) (by decide +kernel)
theorem k_473 : Cond.instanceMethod yX2_firstWith ∈ TT := tt_2 233 (by decide +kernel) (by decide +kernel)
theorem k_474 : Cond.selects RX2 yX2_firstWith yX2_firstWith ∈ TT := tt_2 234 (by decide +kernel) (by decide +kernel)
theorem k_475 : Cond.code yX2_firstWith cX2_firstWith 6 (some .int) ∈ TT := tt_2 235 (by decide +kernel) (by decide +kernel)
theorem k_476 : Cond.methodLink RX4 167 yX2_pairOfWay ∈ TT := tt_2 236 (by decide +kernel) (by decide +kernel)
theorem k_477 : Cond.instanceMethod yX2_pairOfWay ∈ TT := tt_2 237 (by decide +kernel) (by decide +kernel)
theorem k_478 : Cond.selects RX2 yX2_pairOfWay yX2_pairOfWay ∈ TT := tt_2 238 (by decide +kernel) (by decide +kernel)
theorem k_479 : Cond.code yX2_pairOfWay cX2_pairOfWay 9 (some .int) ∈ TT := tt_2 239 (by decide +kernel) (by decide +kernel)
theorem k_480 : Cond.methodLink RL 86 yX4_type ∈ TT := tt_3 0 (by decide +kernel) (by decide +kernel)
theorem k_481 : Cond.instanceMethod yX4_type ∈ TT := tt_3 1 (by decide +kernel) (by decide +kernel)
theorem k_482 : Cond.selects RX4 yX4_type yX4_type ∈ TT := tt_3 2 (by decide +kernel) (by decide +kernel)
theorem k_483 : Cond.code yX4_type cX4_type 2 (some .int) ∈ TT := tt_3 3 (by decide +kernel) (by decide +kernel)
theorem k_484 : Cond.methodLink RX4 170 yX3_append ∈ TT := tt_3 4 (by decide +kernel) (by decide +kernel)
theorem k_485 : Cond.instanceMethod yX3_append ∈ TT := tt_3 5 (by decide +kernel) (by decide +kernel)
theorem k_486 : Cond.selects RX3 yX3_append yX3_append ∈ TT := tt_3 6 (by decide +kernel) (by decide +kernel)
theorem k_487 : Cond.code yX3_append cX3_append 2 (some .boolean) ∈ TT := tt_3 7 (by decide +kernel) (by decide +kernel)
theorem k_488 : Cond.methodLink RL 90 yX4_clear ∈ TT := tt_3 8 (by decide +kernel) (by decide +kernel)
theorem k_489 : Cond.instanceMethod yX4_clear ∈ TT := tt_3 9 (by decide +kernel) (by decide +kernel)
theorem k_490 : Cond.selects RX4 yX4_clear yX4_clear ∈ TT := tt_3 10 (by decide +kernel) (by decide +kernel)
theorem k_491 : Cond.code yX4_clear cX4_clear 2 (some .int) ∈ TT := tt_3 11 (by decide +kernel) (by decide +kernel)
theorem k_492 : Cond.methodLink RL 94 yX4_does ∈ TT := tt_3 12 (by decide +kernel) (by decide +kernel)
theorem k_493 : Cond.instanceMethod yX4_does ∈ TT := tt_3 13 (by decide +kernel) (by decide +kernel)
theorem k_494 : Cond.selects RX4 yX4_does yX4_does ∈ TT := tt_3 14 (by decide +kernel) (by decide +kernel)
theorem k_495 : Cond.code yX4_does cX4_does 4 (some .int) ∈ TT := tt_3 15 (by decide +kernel) (by decide +kernel)
theorem k_496 : Cond.methodLink RX4 176 yX3_read ∈ TT := tt_3 16 (by decide +kernel) (by decide +kernel)
theorem k_497 : Cond.instanceMethod yX3_read ∈ TT := tt_3 17 (by decide +kernel) (by decide +kernel)
theorem k_498 : Cond.selects RX3 yX3_read yX3_read ∈ TT := tt_3 18 (by decide +kernel) (by decide +kernel)
theorem k_499 : Cond.code yX3_read cX3_read 2 (some .int) ∈ TT := tt_3 19 (by decide +kernel) (by decide +kernel)
theorem k_500 : Cond.methodLink RX3 28 yX3_skipBlanks ∈ TT := tt_3 20 (by decide +kernel) (by decide +kernel)
theorem k_502 : Cond.instanceMethod yX3_skipBlanks ∈ TT := tt_3 22 (by decide +kernel) (by decide +kernel)
theorem k_503 : Cond.code yX3_skipBlanks cX3_skipBlanks 1 none ∈ TT := tt_3 23 (by decide +kernel) (by decide +kernel)
theorem k_504 : Cond.methodLink RX3 31 yX3_readOrder ∈ TT := tt_3 24 (by decide +kernel) (by decide +kernel)
theorem k_506 : Cond.instanceMethod yX3_readOrder ∈ TT := tt_3 26 (by decide +kernel) (by decide +kernel)
theorem k_507 : Cond.code yX3_readOrder cX3_readOrder 5 (some .boolean) ∈ TT := tt_3 27 (by decide +kernel) (by decide +kernel)
theorem k_508 : Cond.methodLink RX3 35 yX3_numbersBehind ∈ TT := tt_3 28 (by decide +kernel) (by decide +kernel)
theorem k_509 : Cond.static yX3_numbersBehind ∈ TT := tt_3 29 (by decide +kernel) (by decide +kernel)
theorem k_510 : Cond.code yX3_numbersBehind cX3_numbersBehind 1 (some .int) ∈ TT := tt_3 30 (by decide +kernel) (by decide +kernel)
theorem k_511 : Cond.methodLink RX3 39 yX3_readNumber ∈ TT := tt_3 31 (by decide +kernel) (by decide +kernel)
theorem k_513 : Cond.instanceMethod yX3_readNumber ∈ TT := tt_3 33 (by decide +kernel) (by decide +kernel)
theorem k_514 : Cond.code yX3_readNumber cX3_readNumber 4 (some .boolean) ∈ TT := tt_3 34 (by decide +kernel) (by decide +kernel)
theorem k_515 : Cond.methodLink RX3 42 yX3_isFigure ∈ TT := tt_3 35 (by decide +kernel) (by decide +kernel)
theorem k_517 : Cond.instanceMethod yX3_isFigure ∈ TT := tt_3 37 (by decide +kernel) (by decide +kernel)
theorem k_518 : Cond.code yX3_isFigure cX3_isFigure 1 (some .boolean) ∈ TT := tt_3 38 (by decide +kernel) (by decide +kernel)
theorem k_519 : Cond.methodLink RX4 182 yX4_obeyed ∈ TT := tt_3 39 (by decide +kernel) (by decide +kernel)
theorem k_521 : Cond.instanceMethod yX4_obeyed ∈ TT := tt_3 41 (by decide +kernel) (by decide +kernel)
theorem k_522 : Cond.code yX4_obeyed cX4_obeyed 6 (some .int) ∈ TT := tt_3 42 (by decide +kernel) (by decide +kernel)
theorem k_523 : Cond.methodLink RX4 244 yX3_part ∈ TT := tt_3 43 (by decide +kernel) (by decide +kernel)
theorem k_524 : Cond.instanceMethod yX3_part ∈ TT := tt_3 44 (by decide +kernel) (by decide +kernel)
theorem k_525 : Cond.selects RX3 yX3_part yX3_part ∈ TT := tt_3 45 (by decide +kernel) (by decide +kernel)
theorem k_526 : Cond.code yX3_part cX3_part 3 (some .int) ∈ TT := tt_3 46 (by decide +kernel) (by decide +kernel)
theorem k_527 : Cond.methodLink RL 98 yX4_back ∈ TT := tt_3 47 (by decide +kernel) (by decide +kernel)
theorem k_528 : Cond.instanceMethod yX4_back ∈ TT := tt_3 48 (by decide +kernel) (by decide +kernel)
theorem k_529 : Cond.selects RX4 yX4_back yX4_back ∈ TT := tt_3 49 (by decide +kernel) (by decide +kernel)
theorem k_530 : Cond.code yX4_back cX4_back 1 (some .int) ∈ TT := tt_3 50 (by decide +kernel) (by decide +kernel)
theorem k_531 : Cond.methodLink RL 102 yX4_told ∈ TT := tt_3 51 (by decide +kernel) (by decide +kernel)
theorem k_532 : Cond.instanceMethod yX4_told ∈ TT := tt_3 52 (by decide +kernel) (by decide +kernel)
theorem k_533 : Cond.selects RX4 yX4_told yX4_told ∈ TT := tt_3 53 (by decide +kernel) (by decide +kernel)
theorem k_534 : Cond.code yX4_told cX4_told 2 (some .int) ∈ TT := tt_3 54 (by decide +kernel) (by decide +kernel)
theorem k_535 : Cond.methodLink RX4 189 yX4_tally ∈ TT := tt_3 55 (by decide +kernel) (by decide +kernel)
theorem k_537 : Cond.instanceMethod yX4_tally ∈ TT := tt_3 57 (by decide +kernel) (by decide +kernel)
theorem k_538 : Cond.code yX4_tally cX4_tally 2 (some .int) ∈ TT := tt_3 58 (by decide +kernel) (by decide +kernel)
theorem k_539 : Cond.methodLink RL 106 yX4_digest ∈ TT := tt_3 59 (by decide +kernel) (by decide +kernel)
theorem k_540 : Cond.instanceMethod yX4_digest ∈ TT := tt_3 60 (by decide +kernel) (by decide +kernel)
theorem k_541 : Cond.selects RX4 yX4_digest yX4_digest ∈ TT := tt_3 61 (by decide +kernel) (by decide +kernel)
theorem k_542 : Cond.code yX4_digest cX4_digest 5 (some .long) ∈ TT := tt_3 62 (by decide +kernel) (by decide +kernel)
theorem k_543 : Cond.constantLong RX4 192 (1807) ∈ TT := tt_3 63 (by decide +kernel) (by decide +kernel)
theorem k_544 : Cond.constantLong RX4 194 (31) ∈ TT := tt_3 64 (by decide +kernel) (by decide +kernel)
theorem k_545 : Cond.methodLink RX4 196 yX4_digestOfNodes ∈ TT := tt_3 65 (by decide +kernel) (by decide +kernel)
theorem k_547 : Cond.instanceMethod yX4_digestOfNodes ∈ TT := tt_3 67 (by decide +kernel) (by decide +kernel)
theorem k_548 : Cond.code yX4_digestOfNodes cX4_digestOfNodes 7 (some .long) ∈ TT := tt_3 68 (by decide +kernel) (by decide +kernel)
theorem k_549 : Cond.methodLink RX4 200 yX4_digestOfEdges ∈ TT := tt_3 69 (by decide +kernel) (by decide +kernel)
theorem k_551 : Cond.instanceMethod yX4_digestOfEdges ∈ TT := tt_3 71 (by decide +kernel) (by decide +kernel)
theorem k_552 : Cond.code yX4_digestOfEdges cX4_digestOfEdges 9 (some .long) ∈ TT := tt_3 72 (by decide +kernel) (by decide +kernel)
theorem k_553 : Cond.methodLink RX4 247 yX0_flowsOf ∈ TT := tt_3 73 (by decide +kernel) (by decide +kernel)
theorem k_554 : Cond.classLink RL 10 RX5 ∈ TT := tt_3 74 (by decide +kernel) (by decide +kernel)
theorem k_555 : Cond.instantiable RX5 27 ∈ TT := tt_3 75 (by decide +kernel) (by decide +kernel)
theorem k_556 : Cond.methodLink RL 12 yX5_init ∈ TT := tt_3 76 (by decide +kernel) (by decide +kernel)
theorem k_557 : Cond.instanceMethod yX5_init ∈ TT := tt_3 77 (by decide +kernel) (by decide +kernel)
theorem k_558 : Cond.code yX5_init cX5_init 1 none ∈ TT := tt_3 78 (by decide +kernel) (by decide +kernel)
theorem k_559 : Cond.methodLink RX5 1 objectInit ∈ TT := tt_3 79 (by decide +kernel) (by decide +kernel)
theorem k_560 : Cond.methodLink RX5 64 yX5_addProc ∈ TT := tt_3 80 (by decide +kernel) (by decide +kernel)
theorem k_562 : Cond.instanceMethod yX5_addProc ∈ TT := tt_3 82 (by decide +kernel) (by decide +kernel)
theorem k_563 : Cond.code yX5_addProc cX5_addProc 2 (some .int) ∈ TT := tt_3 83 (by decide +kernel) (by decide +kernel)
theorem k_564 : Cond.methodLink RX5 93 yX5_addNode ∈ TT := tt_3 84 (by decide +kernel) (by decide +kernel)
theorem k_566 : Cond.instanceMethod yX5_addNode ∈ TT := tt_3 86 (by decide +kernel) (by decide +kernel)
theorem k_567 : Cond.code yX5_addNode cX5_addNode 4 (some .int) ∈ TT := tt_3 87 (by decide +kernel) (by decide +kernel)
theorem k_568 : Cond.fieldLink RX5 7 "MatchedFlowsModel" "refused" "[I" ∈ TT := tt_3 88 (by decide +kernel) (by decide +kernel)
theorem k_569 : Cond.fieldLink RX5 13 "MatchedFlowsModel" "now" "[I" ∈ TT := tt_3 89 (by decide +kernel) (by decide +kernel)
theorem k_570 : Cond.fieldLink RX5 16 "MatchedFlowsModel" "kept" "[I" ∈ TT := tt_3 90 (by decide +kernel) (by decide +kernel)
theorem k_571 : Cond.fieldLink RX5 81 "MatchedFlowsModel" "states" "I" ∈ TT := tt_3 91 (by decide +kernel) (by decide +kernel)
theorem k_572 : Cond.fieldLink RX5 19 "MatchedFlowsModel" "place" "[I" ∈ TT := tt_3 92 (by decide +kernel) (by decide +kernel)
theorem k_573 : Cond.fieldLink RX5 22 "MatchedFlowsModel" "startFact" "[I" ∈ TT := tt_3 93 (by decide +kernel) (by decide +kernel)
theorem k_574 : Cond.fieldLink RX5 25 "MatchedFlowsModel" "node" "[I" ∈ TT := tt_3 94 (by decide +kernel) (by decide +kernel)
theorem k_575 : Cond.fieldLink RX5 28 "MatchedFlowsModel" "fact" "[I" ∈ TT := tt_3 95 (by decide +kernel) (by decide +kernel)
theorem k_576 : Cond.fieldLink RX5 31 "MatchedFlowsModel" "ahead" "[I" ∈ TT := tt_3 96 (by decide +kernel) (by decide +kernel)
theorem k_577 : Cond.fieldLink RX5 34 "MatchedFlowsModel" "inside" "[I" ∈ TT := tt_3 97 (by decide +kernel) (by decide +kernel)
theorem k_578 : Cond.fieldLink RX5 155 "MatchedFlowsModel" "entries" "I" ∈ TT := tt_3 98 (by decide +kernel) (by decide +kernel)
theorem k_579 : Cond.fieldLink RX5 37 "MatchedFlowsModel" "caller" "[I" ∈ TT := tt_3 99 (by decide +kernel) (by decide +kernel)
theorem k_580 : Cond.fieldLink RX5 40 "MatchedFlowsModel" "following" "[I" ∈ TT := tt_3 100 (by decide +kernel) (by decide +kernel)
theorem k_581 : Cond.fieldLink RX5 43 "MatchedFlowsModel" "firstCaller" "[I" ∈ TT := tt_3 101 (by decide +kernel) (by decide +kernel)
theorem k_582 : Cond.fieldLink RX5 46 "MatchedFlowsModel" "lastCaller" "[I" ∈ TT := tt_3 102 (by decide +kernel) (by decide +kernel)
theorem k_583 : Cond.fieldLink RX5 158 "MatchedFlowsModel" "callers" "I" ∈ TT := tt_3 103 (by decide +kernel) (by decide +kernel)
theorem k_584 : Cond.fieldLink RX5 77 "MatchedFlowsModel" "known" "Z" ∈ TT := tt_3 104 (by decide +kernel) (by decide +kernel)
theorem k_585 : Cond.fieldLink RX5 49 "MatchedFlowsModel" "loose" "[I" ∈ TT := tt_3 105 (by decide +kernel) (by decide +kernel)
theorem k_586 : Cond.fieldLink RX5 52 "MatchedFlowsModel" "stack" "[I" ∈ TT := tt_3 106 (by decide +kernel) (by decide +kernel)
theorem k_587 : Cond.fieldLink RX5 212 "MatchedFlowsModel" "high" "I" ∈ TT := tt_3 107 (by decide +kernel) (by decide +kernel)
theorem k_588 : Cond.fieldLink RX5 55 "MatchedFlowsModel" "pairs" "[I" ∈ TT := tt_3 108 (by decide +kernel) (by decide +kernel)
theorem k_589 : Cond.fieldLink RX5 209 "MatchedFlowsModel" "told" "I" ∈ TT := tt_3 109 (by decide +kernel) (by decide +kernel)
theorem k_590 : Cond.fieldLink RX5 58 "MatchedFlowsModel" "text" "[I" ∈ TT := tt_3 110 (by decide +kernel) (by decide +kernel)
theorem k_591 : Cond.fieldLink RX5 218 "MatchedFlowsModel" "typed" "I" ∈ TT := tt_3 111 (by decide +kernel) (by decide +kernel)
theorem k_592 : Cond.fieldLink RX5 61 "MatchedFlowsModel" "orders" "[I" ∈ TT := tt_3 112 (by decide +kernel) (by decide +kernel)
theorem k_593 : Cond.fieldLink RX5 236 "MatchedFlowsModel" "written" "I" ∈ TT := tt_3 113 (by decide +kernel) (by decide +kernel)
theorem k_594 : Cond.fieldLink RX5 224 "MatchedFlowsModel" "look" "I" ∈ TT := tt_3 114 (by decide +kernel) (by decide +kernel)
theorem k_650 : Cond.methodLink RL 101 yX5_back ∈ TT := tt_3 170 (by decide +kernel) (by decide +kernel)
theorem k_651 : Cond.instanceMethod yX5_back ∈ TT := tt_3 171 (by decide +kernel) (by decide +kernel)
theorem k_652 : Cond.selects RX5 yX5_back yX5_back ∈ TT := tt_3 172 (by decide +kernel) (by decide +kernel)
theorem k_653 : Cond.code yX5_back cX5_back 1 (some .int) ∈ TT := tt_3 173 (by decide +kernel) (by decide +kernel)
theorem k_654 : Cond.methodLink RX5 71 yX5_no ∈ TT := tt_3 174 (by decide +kernel) (by decide +kernel)
theorem k_656 : Cond.instanceMethod yX5_no ∈ TT := tt_3 176 (by decide +kernel) (by decide +kernel)
theorem k_657 : Cond.code yX5_no cX5_no 1 (some .int) ∈ TT := tt_3 177 (by decide +kernel) (by decide +kernel)
theorem k_658 : Cond.methodLink RX5 85 yX5_takes ∈ TT := tt_3 178 (by decide +kernel) (by decide +kernel)
theorem k_660 : Cond.instanceMethod yX5_takes ∈ TT := tt_3 180 (by decide +kernel) (by decide +kernel)
theorem k_661 : Cond.code yX5_takes cX5_takes 3 none ∈ TT := tt_3 181 (by decide +kernel) (by decide +kernel)
theorem k_662 : Cond.methodLink RL 17 yX5_proc ∈ TT := tt_3 182 (by decide +kernel) (by decide +kernel)
theorem k_663 : Cond.instanceMethod yX5_proc ∈ TT := tt_3 183 (by decide +kernel) (by decide +kernel)
theorem k_664 : Cond.selects RX5 yX5_proc yX5_proc ∈ TT := tt_3 184 (by decide +kernel) (by decide +kernel)
theorem k_665 : Cond.code yX5_proc cX5_proc 1 (some .int) ∈ TT := tt_3 185 (by decide +kernel) (by decide +kernel)
theorem k_666 : Cond.methodLink RX5 133 yX5_puts ∈ TT := tt_3 186 (by decide +kernel) (by decide +kernel)
theorem k_668 : Cond.instanceMethod yX5_puts ∈ TT := tt_3 188 (by decide +kernel) (by decide +kernel)
theorem k_669 : Cond.code yX5_puts cX5_puts 3 none ∈ TT := tt_3 189 (by decide +kernel) (by decide +kernel)
theorem k_670 : Cond.methodLink RX5 136 yX5_done ∈ TT := tt_3 190 (by decide +kernel) (by decide +kernel)
theorem k_672 : Cond.instanceMethod yX5_done ∈ TT := tt_3 192 (by decide +kernel) (by decide +kernel)
theorem k_673 : Cond.code yX5_done cX5_done 2 (some .int) ∈ TT := tt_3 193 (by decide +kernel) (by decide +kernel)
theorem k_674 : Cond.methodLink RX5 127 yX5_counted ∈ TT := tt_3 194 (by decide +kernel) (by decide +kernel)
theorem k_676 : Cond.instanceMethod yX5_counted ∈ TT := tt_3 196 (by decide +kernel) (by decide +kernel)
theorem k_677 : Cond.code yX5_counted cX5_counted 2 (some .int) ∈ TT := tt_3 197 (by decide +kernel) (by decide +kernel)
theorem k_678 : Cond.methodLink RX5 68 yX5_bad ∈ TT := tt_3 198 (by decide +kernel) (by decide +kernel)
theorem k_680 : Cond.instanceMethod yX5_bad ∈ TT := tt_3 200 (by decide +kernel) (by decide +kernel)
theorem k_681 : Cond.code yX5_bad cX5_bad 1 (some .int) ∈ TT := tt_3 201 (by decide +kernel) (by decide +kernel)
theorem k_682 : Cond.methodLink RX5 74 yX5_full ∈ TT := tt_3 202 (by decide +kernel) (by decide +kernel)
theorem k_684 : Cond.instanceMethod yX5_full ∈ TT := tt_3 204 (by decide +kernel) (by decide +kernel)
theorem k_685 : Cond.code yX5_full cX5_full 1 (some .int) ∈ TT := tt_3 205 (by decide +kernel) (by decide +kernel)
theorem k_686 : Cond.methodLink RX5 130 yX5_leavesState ∈ TT := tt_3 206 (by decide +kernel) (by decide +kernel)
theorem k_688 : Cond.instanceMethod yX5_leavesState ∈ TT := tt_3 208 (by decide +kernel) (by decide +kernel)
theorem k_689 : Cond.code yX5_leavesState cX5_leavesState 2 none ∈ TT := tt_3 209 (by decide +kernel) (by decide +kernel)
theorem k_690 : Cond.methodLink RL 22 yX5_node ∈ TT := tt_3 210 (by decide +kernel) (by decide +kernel)
theorem k_691 : Cond.instanceMethod yX5_node ∈ TT := tt_3 211 (by decide +kernel) (by decide +kernel)
theorem k_692 : Cond.selects RX5 yX5_node yX5_node ∈ TT := tt_3 212 (by decide +kernel) (by decide +kernel)
theorem k_693 : Cond.code yX5_node cX5_node 2 (some .int) ∈ TT := tt_3 213 (by decide +kernel) (by decide +kernel)
theorem k_694 : Cond.methodLink RX5 139 yX5_addAny ∈ TT := tt_3 214 (by decide +kernel) (by decide +kernel)
theorem k_696 : Cond.instanceMethod yX5_addAny ∈ TT := tt_3 216 (by decide +kernel) (by decide +kernel)
theorem k_697 : Cond.code yX5_addAny cX5_addAny 2 (some .int) ∈ TT := tt_3 217 (by decide +kernel) (by decide +kernel)
theorem k_698 : Cond.methodLink RX5 97 yX5_isProc ∈ TT := tt_3 218 (by decide +kernel) (by decide +kernel)
theorem k_700 : Cond.instanceMethod yX5_isProc ∈ TT := tt_3 220 (by decide +kernel) (by decide +kernel)
theorem k_701 : Cond.code yX5_isProc cX5_isProc 2 (some .boolean) ∈ TT := tt_3 221 (by decide +kernel) (by decide +kernel)
theorem k_702 : Cond.methodLink RX5 89 yX5_in ∈ TT := tt_3 222 (by decide +kernel) (by decide +kernel)
theorem k_703 : Cond.static yX5_in ∈ TT := tt_3 223 (by decide +kernel) (by decide +kernel)
theorem k_704 : Cond.code yX5_in cX5_in 3 (some .boolean) ∈ TT := tt_3 224 (by decide +kernel) (by decide +kernel)
theorem k_705 : Cond.methodLink RL 27 yX5_edge ∈ TT := tt_3 225 (by decide +kernel) (by decide +kernel)
theorem k_706 : Cond.instanceMethod yX5_edge ∈ TT := tt_3 226 (by decide +kernel) (by decide +kernel)
theorem k_707 : Cond.selects RX5 yX5_edge yX5_edge ∈ TT := tt_3 227 (by decide +kernel) (by decide +kernel)
theorem k_708 : Cond.code yX5_edge cX5_edge 3 (some .int) ∈ TT := tt_3 228 (by decide +kernel) (by decide +kernel)
theorem k_709 : Cond.methodLink RX5 111 yX5_addEdge ∈ TT := tt_3 229 (by decide +kernel) (by decide +kernel)
theorem k_711 : Cond.instanceMethod yX5_addEdge ∈ TT := tt_3 231 (by decide +kernel) (by decide +kernel)
theorem k_712 : Cond.code yX5_addEdge cX5_addEdge 6 (some .int) ∈ TT := tt_3 232 (by decide +kernel) (by decide +kernel)
theorem k_713 : Cond.methodLink RX5 101 yX5_isNode ∈ TT := tt_3 233 (by decide +kernel) (by decide +kernel)
theorem k_715 : Cond.instanceMethod yX5_isNode ∈ TT := tt_3 235 (by decide +kernel) (by decide +kernel)
theorem k_716 : Cond.code yX5_isNode cX5_isNode 2 (some .boolean) ∈ TT := tt_3 236 (by decide +kernel) (by decide +kernel)
theorem k_717 : Cond.methodLink RX5 104 yX5_procOf ∈ TT := tt_3 237 (by decide +kernel) (by decide +kernel)
theorem k_719 : Cond.instanceMethod yX5_procOf ∈ TT := tt_3 239 (by decide +kernel) (by decide +kernel)
theorem k_720 : Cond.code yX5_procOf cX5_procOf 2 (some .int) ∈ TT := tt_4 0 (by decide +kernel) (by decide +kernel)
theorem k_721 : Cond.methodLink RX5 108 yX5_sortOf ∈ TT := tt_4 1 (by decide +kernel) (by decide +kernel)
theorem k_723 : Cond.instanceMethod yX5_sortOf ∈ TT := tt_4 3 (by decide +kernel) (by decide +kernel)
theorem k_724 : Cond.code yX5_sortOf cX5_sortOf 2 (some .int) ∈ TT := tt_4 4 (by decide +kernel) (by decide +kernel)
theorem k_725 : Cond.methodLink RL 32 yX5_call ∈ TT := tt_4 5 (by decide +kernel) (by decide +kernel)
theorem k_726 : Cond.instanceMethod yX5_call ∈ TT := tt_4 6 (by decide +kernel) (by decide +kernel)
theorem k_727 : Cond.selects RX5 yX5_call yX5_call ∈ TT := tt_4 7 (by decide +kernel) (by decide +kernel)
theorem k_728 : Cond.code yX5_call cX5_call 4 (some .int) ∈ TT := tt_4 8 (by decide +kernel) (by decide +kernel)
theorem k_729 : Cond.methodLink RX5 142 yX5_addCall ∈ TT := tt_4 9 (by decide +kernel) (by decide +kernel)
theorem k_731 : Cond.instanceMethod yX5_addCall ∈ TT := tt_4 11 (by decide +kernel) (by decide +kernel)
theorem k_732 : Cond.code yX5_addCall cX5_addCall 4 (some .int) ∈ TT := tt_4 12 (by decide +kernel) (by decide +kernel)
theorem k_733 : Cond.methodLink RL 37 yX5_flows ∈ TT := tt_4 13 (by decide +kernel) (by decide +kernel)
theorem k_734 : Cond.instanceMethod yX5_flows ∈ TT := tt_4 14 (by decide +kernel) (by decide +kernel)
theorem k_735 : Cond.selects RX5 yX5_flows yX5_flows ∈ TT := tt_4 15 (by decide +kernel) (by decide +kernel)
theorem k_736 : Cond.code yX5_flows cX5_flows 5 (some .int) ∈ TT := tt_4 16 (by decide +kernel) (by decide +kernel)
theorem k_737 : Cond.methodLink RX5 145 yX5_setFlow ∈ TT := tt_4 17 (by decide +kernel) (by decide +kernel)
theorem k_739 : Cond.instanceMethod yX5_setFlow ∈ TT := tt_4 19 (by decide +kernel) (by decide +kernel)
theorem k_740 : Cond.code yX5_setFlow cX5_setFlow 6 (some .int) ∈ TT := tt_4 20 (by decide +kernel) (by decide +kernel)
theorem k_741 : Cond.methodLink RX5 121 yX5_isFlow ∈ TT := tt_4 21 (by decide +kernel) (by decide +kernel)
theorem k_743 : Cond.instanceMethod yX5_isFlow ∈ TT := tt_4 23 (by decide +kernel) (by decide +kernel)
theorem k_744 : Cond.code yX5_isFlow cX5_isFlow 4 (some .boolean) ∈ TT := tt_4 24 (by decide +kernel) (by decide +kernel)
theorem k_745 : Cond.methodLink RX5 115 yX5_isEdge ∈ TT := tt_4 25 (by decide +kernel) (by decide +kernel)
theorem k_747 : Cond.instanceMethod yX5_isEdge ∈ TT := tt_4 27 (by decide +kernel) (by decide +kernel)
theorem k_748 : Cond.code yX5_isEdge cX5_isEdge 2 (some .boolean) ∈ TT := tt_4 28 (by decide +kernel) (by decide +kernel)
theorem k_749 : Cond.methodLink RX5 118 yX5_edgeOf ∈ TT := tt_4 29 (by decide +kernel) (by decide +kernel)
theorem k_751 : Cond.instanceMethod yX5_edgeOf ∈ TT := tt_4 31 (by decide +kernel) (by decide +kernel)
theorem k_752 : Cond.code yX5_edgeOf cX5_edgeOf 3 (some .int) ∈ TT := tt_4 32 (by decide +kernel) (by decide +kernel)
theorem k_753 : Cond.methodLink RX5 124 yX5_flowOf ∈ TT := tt_4 33 (by decide +kernel) (by decide +kernel)
theorem k_755 : Cond.instanceMethod yX5_flowOf ∈ TT := tt_4 35 (by decide +kernel) (by decide +kernel)
theorem k_756 : Cond.code yX5_flowOf cX5_flowOf 4 (some .int) ∈ TT := tt_4 36 (by decide +kernel) (by decide +kernel)
theorem k_757 : Cond.methodLink RL 41 yX5_starts ∈ TT := tt_4 37 (by decide +kernel) (by decide +kernel)
theorem k_758 : Cond.instanceMethod yX5_starts ∈ TT := tt_4 38 (by decide +kernel) (by decide +kernel)
theorem k_759 : Cond.selects RX5 yX5_starts yX5_starts ∈ TT := tt_4 39 (by decide +kernel) (by decide +kernel)
theorem k_760 : Cond.code yX5_starts cX5_starts 2 (some .int) ∈ TT := tt_4 40 (by decide +kernel) (by decide +kernel)
theorem k_761 : Cond.methodLink RX5 149 yX5_setStart ∈ TT := tt_4 41 (by decide +kernel) (by decide +kernel)
theorem k_763 : Cond.instanceMethod yX5_setStart ∈ TT := tt_4 43 (by decide +kernel) (by decide +kernel)
theorem k_764 : Cond.code yX5_setStart cX5_setStart 3 (some .int) ∈ TT := tt_4 44 (by decide +kernel) (by decide +kernel)
theorem k_765 : Cond.methodLink RL 45 yX5_cuts ∈ TT := tt_4 45 (by decide +kernel) (by decide +kernel)
theorem k_766 : Cond.instanceMethod yX5_cuts ∈ TT := tt_4 46 (by decide +kernel) (by decide +kernel)
theorem k_767 : Cond.selects RX5 yX5_cuts yX5_cuts ∈ TT := tt_4 47 (by decide +kernel) (by decide +kernel)
theorem k_768 : Cond.code yX5_cuts cX5_cuts 2 (some .int) ∈ TT := tt_4 48 (by decide +kernel) (by decide +kernel)
theorem k_769 : Cond.methodLink RX5 152 yX5_cutEdge ∈ TT := tt_4 49 (by decide +kernel) (by decide +kernel)
theorem k_771 : Cond.instanceMethod yX5_cutEdge ∈ TT := tt_4 51 (by decide +kernel) (by decide +kernel)
theorem k_772 : Cond.code yX5_cutEdge cX5_cutEdge 3 (some .int) ∈ TT := tt_4 52 (by decide +kernel) (by decide +kernel)
theorem k_773 : Cond.methodLink RL 49 yX5_at ∈ TT := tt_4 53 (by decide +kernel) (by decide +kernel)
theorem k_774 : Cond.instanceMethod yX5_at ∈ TT := tt_4 54 (by decide +kernel) (by decide +kernel)
theorem k_775 : Cond.selects RX5 yX5_at yX5_at ∈ TT := tt_4 55 (by decide +kernel) (by decide +kernel)
theorem k_776 : Cond.code yX5_at cX5_at 3 (some .int) ∈ TT := tt_4 56 (by decide +kernel) (by decide +kernel)
theorem k_777 : Cond.methodLink RL 53 yX5_about ∈ TT := tt_4 57 (by decide +kernel) (by decide +kernel)
theorem k_778 : Cond.instanceMethod yX5_about ∈ TT := tt_4 58 (by decide +kernel) (by decide +kernel)
theorem k_779 : Cond.selects RX5 yX5_about yX5_about ∈ TT := tt_4 59 (by decide +kernel) (by decide +kernel)
theorem k_780 : Cond.code yX5_about cX5_about 3 (some .int) ∈ TT := tt_4 60 (by decide +kernel) (by decide +kernel)
theorem k_781 : Cond.methodLink RL 57 yX5_goes ∈ TT := tt_4 61 (by decide +kernel) (by decide +kernel)
theorem k_782 : Cond.instanceMethod yX5_goes ∈ TT := tt_4 62 (by decide +kernel) (by decide +kernel)
theorem k_783 : Cond.selects RX5 yX5_goes yX5_goes ∈ TT := tt_4 63 (by decide +kernel) (by decide +kernel)
theorem k_784 : Cond.code yX5_goes cX5_goes 4 (some .int) ∈ TT := tt_4 64 (by decide +kernel) (by decide +kernel)
theorem k_785 : Cond.methodLink RL 61 yX5_count ∈ TT := tt_4 65 (by decide +kernel) (by decide +kernel)
theorem k_786 : Cond.instanceMethod yX5_count ∈ TT := tt_4 66 (by decide +kernel) (by decide +kernel)
theorem k_787 : Cond.selects RX5 yX5_count yX5_count ∈ TT := tt_4 67 (by decide +kernel) (by decide +kernel)
theorem k_788 : Cond.code yX5_count cX5_count 2 (some .int) ∈ TT := tt_4 68 (by decide +kernel) (by decide +kernel)
theorem k_789 : Cond.methodLink RX5 194 yX5_countOf ∈ TT := tt_4 69 (by decide +kernel) (by decide +kernel)
theorem k_791 : Cond.instanceMethod yX5_countOf ∈ TT := tt_4 71 (by decide +kernel) (by decide +kernel)
theorem k_792 : Cond.code yX5_countOf cX5_countOf 4 (some .int) ∈ TT := tt_4 72 (by decide +kernel) (by decide +kernel)
theorem k_793 : Cond.methodLink RX5 188 yX5_knows ∈ TT := tt_4 73 (by decide +kernel) (by decide +kernel)
theorem k_795 : Cond.instanceMethod yX5_knows ∈ TT := tt_4 75 (by decide +kernel) (by decide +kernel)
theorem k_796 : Cond.code yX5_knows cX5_knows 2 none ∈ TT := tt_4 76 (by decide +kernel) (by decide +kernel)
theorem k_797 : Cond.methodLink RX5 182 yX5_clearTable ∈ TT := tt_4 77 (by decide +kernel) (by decide +kernel)
theorem k_799 : Cond.instanceMethod yX5_clearTable ∈ TT := tt_4 79 (by decide +kernel) (by decide +kernel)
theorem k_800 : Cond.code yX5_clearTable cX5_clearTable 2 none ∈ TT := tt_4 80 (by decide +kernel) (by decide +kernel)
theorem k_801 : Cond.methodLink RX5 164 yX5_comes ∈ TT := tt_4 81 (by decide +kernel) (by decide +kernel)
theorem k_803 : Cond.instanceMethod yX5_comes ∈ TT := tt_4 83 (by decide +kernel) (by decide +kernel)
theorem k_804 : Cond.code yX5_comes cX5_comes 7 none ∈ TT := tt_4 84 (by decide +kernel) (by decide +kernel)
theorem k_805 : Cond.methodLink RX5 161 yX5_key ∈ TT := tt_4 85 (by decide +kernel) (by decide +kernel)
theorem k_806 : Cond.static yX5_key ∈ TT := tt_4 86 (by decide +kernel) (by decide +kernel)
theorem k_807 : Cond.code yX5_key cX5_key 3 (some .int) ∈ TT := tt_4 87 (by decide +kernel) (by decide +kernel)
theorem k_808 : Cond.methodLink RX5 185 yX5_fills ∈ TT := tt_4 88 (by decide +kernel) (by decide +kernel)
theorem k_810 : Cond.instanceMethod yX5_fills ∈ TT := tt_4 90 (by decide +kernel) (by decide +kernel)
theorem k_811 : Cond.code yX5_fills cX5_fills 2 none ∈ TT := tt_4 91 (by decide +kernel) (by decide +kernel)
theorem k_812 : Cond.methodLink RX5 179 yX5_takesEntry ∈ TT := tt_4 92 (by decide +kernel) (by decide +kernel)
theorem k_814 : Cond.instanceMethod yX5_takesEntry ∈ TT := tt_4 94 (by decide +kernel) (by decide +kernel)
theorem k_815 : Cond.code yX5_takesEntry cX5_takesEntry 6 none ∈ TT := tt_4 95 (by decide +kernel) (by decide +kernel)
theorem k_816 : Cond.methodLink RX5 172 yX5_allCome ∈ TT := tt_4 96 (by decide +kernel) (by decide +kernel)
theorem k_818 : Cond.instanceMethod yX5_allCome ∈ TT := tt_4 98 (by decide +kernel) (by decide +kernel)
theorem k_819 : Cond.code yX5_allCome cX5_allCome 7 none ∈ TT := tt_4 99 (by decide +kernel) (by decide +kernel)
theorem k_820 : Cond.methodLink RX5 175 yX5_takesCall ∈ TT := tt_4 100 (by decide +kernel) (by decide +kernel)
theorem k_822 : Cond.instanceMethod yX5_takesCall ∈ TT := tt_4 102 (by decide +kernel) (by decide +kernel)
theorem k_823 : Cond.code yX5_takesCall cX5_takesCall 8 none ∈ TT := tt_4 103 (by decide +kernel) (by decide +kernel)
theorem k_824 : Cond.methodLink RX5 168 yX5_notes ∈ TT := tt_4 104 (by decide +kernel) (by decide +kernel)
theorem k_826 : Cond.instanceMethod yX5_notes ∈ TT := tt_4 106 (by decide +kernel) (by decide +kernel)
theorem k_827 : Cond.code yX5_notes cX5_notes 6 none ∈ TT := tt_4 107 (by decide +kernel) (by decide +kernel)
theorem k_828 : Cond.methodLink RX5 191 yX5_held ∈ TT := tt_4 108 (by decide +kernel) (by decide +kernel)
theorem k_830 : Cond.instanceMethod yX5_held ∈ TT := tt_4 110 (by decide +kernel) (by decide +kernel)
theorem k_831 : Cond.code yX5_held cX5_held 5 (some .int) ∈ TT := tt_4 111 (by decide +kernel) (by decide +kernel)
theorem k_832 : Cond.methodLink RL 65 yX5_holds ∈ TT := tt_4 112 (by decide +kernel) (by decide +kernel)
theorem k_833 : Cond.instanceMethod yX5_holds ∈ TT := tt_4 113 (by decide +kernel) (by decide +kernel)
theorem k_834 : Cond.selects RX5 yX5_holds yX5_holds ∈ TT := tt_4 114 (by decide +kernel) (by decide +kernel)
theorem k_835 : Cond.code yX5_holds cX5_holds 2 (some .int) ∈ TT := tt_4 115 (by decide +kernel) (by decide +kernel)
theorem k_836 : Cond.methodLink RX5 197 yX5_holdsAt ∈ TT := tt_4 116 (by decide +kernel) (by decide +kernel)
theorem k_838 : Cond.instanceMethod yX5_holdsAt ∈ TT := tt_4 118 (by decide +kernel) (by decide +kernel)
theorem k_839 : Cond.code yX5_holdsAt cX5_holdsAt 2 (some .int) ∈ TT := tt_4 119 (by decide +kernel) (by decide +kernel)
theorem k_840 : Cond.methodLink RL 69 yX5_loose ∈ TT := tt_4 120 (by decide +kernel) (by decide +kernel)
theorem k_841 : Cond.instanceMethod yX5_loose ∈ TT := tt_4 121 (by decide +kernel) (by decide +kernel)
theorem k_842 : Cond.selects RX5 yX5_loose yX5_loose ∈ TT := tt_4 122 (by decide +kernel) (by decide +kernel)
theorem k_843 : Cond.code yX5_loose cX5_loose 2 (some .int) ∈ TT := tt_4 123 (by decide +kernel) (by decide +kernel)
theorem k_844 : Cond.methodLink RX5 206 yX5_looseAt ∈ TT := tt_4 124 (by decide +kernel) (by decide +kernel)
theorem k_846 : Cond.instanceMethod yX5_looseAt ∈ TT := tt_4 126 (by decide +kernel) (by decide +kernel)
theorem k_847 : Cond.code yX5_looseAt cX5_looseAt 2 (some .int) ∈ TT := tt_4 127 (by decide +kernel) (by decide +kernel)
theorem k_848 : Cond.methodLink RX5 203 yX5_loosens ∈ TT := tt_4 128 (by decide +kernel) (by decide +kernel)
theorem k_850 : Cond.instanceMethod yX5_loosens ∈ TT := tt_4 130 (by decide +kernel) (by decide +kernel)
theorem k_851 : Cond.code yX5_loosens cX5_loosens 9 none ∈ TT := tt_4 131 (by decide +kernel) (by decide +kernel)
theorem k_852 : Cond.methodLink RX5 200 yX5_carried ∈ TT := tt_4 132 (by decide +kernel) (by decide +kernel)
theorem k_854 : Cond.instanceMethod yX5_carried ∈ TT := tt_4 134 (by decide +kernel) (by decide +kernel)
theorem k_855 : Cond.code yX5_carried cX5_carried 6 (some .int) ∈ TT := tt_4 135 (by decide +kernel) (by decide +kernel)
theorem k_856 : Cond.methodLink RL 73 yX5_origins ∈ TT := tt_4 136 (by decide +kernel) (by decide +kernel)
theorem k_857 : Cond.instanceMethod yX5_origins ∈ TT := tt_4 137 (by decide +kernel) (by decide +kernel)
theorem k_858 : Cond.selects RX5 yX5_origins yX5_origins ∈ TT := tt_4 138 (by decide +kernel) (by decide +kernel)
theorem k_859 : Cond.code yX5_origins cX5_origins 5 (some .int) ∈ TT := tt_4 139 (by decide +kernel) (by decide +kernel)
theorem k_860 : Cond.methodLink RL 77 yX5_summary ∈ TT := tt_4 140 (by decide +kernel) (by decide +kernel)
theorem k_861 : Cond.instanceMethod yX5_summary ∈ TT := tt_4 141 (by decide +kernel) (by decide +kernel)
theorem k_862 : Cond.selects RX5 yX5_summary yX5_summary ∈ TT := tt_4 142 (by decide +kernel) (by decide +kernel)
theorem k_863 : Cond.code yX5_summary cX5_summary 8 (some .int) ∈ TT := tt_4 143 (by decide +kernel) (by decide +kernel)
theorem k_864 : Cond.methodLink RL 81 yX5_entry ∈ TT := tt_4 144 (by decide +kernel) (by decide +kernel)
theorem k_865 : Cond.instanceMethod yX5_entry ∈ TT := tt_4 145 (by decide +kernel) (by decide +kernel)
theorem k_866 : Cond.selects RX5 yX5_entry yX5_entry ∈ TT := tt_4 146 (by decide +kernel) (by decide +kernel)
theorem k_867 : Cond.code yX5_entry cX5_entry 3 (some .int) ∈ TT := tt_4 147 (by decide +kernel) (by decide +kernel)
theorem k_868 : Cond.methodLink RL 85 yX5_witness ∈ TT := tt_4 148 (by decide +kernel) (by decide +kernel)
theorem k_869 : Cond.instanceMethod yX5_witness ∈ TT := tt_4 149 (by decide +kernel) (by decide +kernel)
theorem k_870 : Cond.selects RX5 yX5_witness yX5_witness ∈ TT := tt_4 150 (by decide +kernel) (by decide +kernel)
theorem k_871 : Cond.code yX5_witness cX5_witness 7 (some .int) ∈ TT := tt_4 151 (by decide +kernel) (by decide +kernel)
theorem k_872 : Cond.methodLink RX5 215 yX5_spells ∈ TT := tt_4 152 (by decide +kernel) (by decide +kernel)
theorem k_874 : Cond.instanceMethod yX5_spells ∈ TT := tt_4 154 (by decide +kernel) (by decide +kernel)
theorem k_875 : Cond.code yX5_spells cX5_spells 5 none ∈ TT := tt_4 155 (by decide +kernel) (by decide +kernel)
theorem k_876 : Cond.methodLink RL 89 yX5_type ∈ TT := tt_4 156 (by decide +kernel) (by decide +kernel)
theorem k_877 : Cond.instanceMethod yX5_type ∈ TT := tt_4 157 (by decide +kernel) (by decide +kernel)
theorem k_878 : Cond.selects RX5 yX5_type yX5_type ∈ TT := tt_4 158 (by decide +kernel) (by decide +kernel)
theorem k_879 : Cond.code yX5_type cX5_type 2 (some .int) ∈ TT := tt_4 159 (by decide +kernel) (by decide +kernel)
theorem k_880 : Cond.methodLink RL 93 yX5_clear ∈ TT := tt_4 160 (by decide +kernel) (by decide +kernel)
theorem k_881 : Cond.instanceMethod yX5_clear ∈ TT := tt_4 161 (by decide +kernel) (by decide +kernel)
theorem k_882 : Cond.selects RX5 yX5_clear yX5_clear ∈ TT := tt_4 162 (by decide +kernel) (by decide +kernel)
theorem k_883 : Cond.code yX5_clear cX5_clear 2 (some .int) ∈ TT := tt_4 163 (by decide +kernel) (by decide +kernel)
theorem k_884 : Cond.methodLink RL 97 yX5_does ∈ TT := tt_4 164 (by decide +kernel) (by decide +kernel)
theorem k_885 : Cond.instanceMethod yX5_does ∈ TT := tt_4 165 (by decide +kernel) (by decide +kernel)
theorem k_886 : Cond.selects RX5 yX5_does yX5_does ∈ TT := tt_4 166 (by decide +kernel) (by decide +kernel)
theorem k_887 : Cond.code yX5_does cX5_does 4 (some .int) ∈ TT := tt_4 167 (by decide +kernel) (by decide +kernel)
theorem k_888 : Cond.methodLink RX5 230 yX5_blanks ∈ TT := tt_4 168 (by decide +kernel) (by decide +kernel)
theorem k_890 : Cond.instanceMethod yX5_blanks ∈ TT := tt_4 170 (by decide +kernel) (by decide +kernel)
theorem k_891 : Cond.code yX5_blanks cX5_blanks 1 none ∈ TT := tt_4 171 (by decide +kernel) (by decide +kernel)
theorem k_892 : Cond.methodLink RX5 221 yX5_byteAt ∈ TT := tt_4 172 (by decide +kernel) (by decide +kernel)
theorem k_894 : Cond.instanceMethod yX5_byteAt ∈ TT := tt_4 174 (by decide +kernel) (by decide +kernel)
theorem k_895 : Cond.code yX5_byteAt cX5_byteAt 2 (some .int) ∈ TT := tt_4 175 (by decide +kernel) (by decide +kernel)
theorem k_896 : Cond.methodLink RX5 242 yX5_reads ∈ TT := tt_4 176 (by decide +kernel) (by decide +kernel)
theorem k_898 : Cond.instanceMethod yX5_reads ∈ TT := tt_4 178 (by decide +kernel) (by decide +kernel)
theorem k_899 : Cond.code yX5_reads cX5_reads 5 (some .boolean) ∈ TT := tt_4 179 (by decide +kernel) (by decide +kernel)
theorem k_900 : Cond.methodLink RX5 233 yX5_wants ∈ TT := tt_4 180 (by decide +kernel) (by decide +kernel)
theorem k_901 : Cond.static yX5_wants ∈ TT := tt_4 181 (by decide +kernel) (by decide +kernel)
theorem k_902 : Cond.code yX5_wants cX5_wants 1 (some .int) ∈ TT := tt_4 182 (by decide +kernel) (by decide +kernel)
theorem k_903 : Cond.methodLink RX5 239 yX5_number ∈ TT := tt_4 183 (by decide +kernel) (by decide +kernel)
theorem k_905 : Cond.instanceMethod yX5_number ∈ TT := tt_4 185 (by decide +kernel) (by decide +kernel)
theorem k_906 : Cond.code yX5_number cX5_number 3 (some .int) ∈ TT := tt_4 186 (by decide +kernel) (by decide +kernel)
theorem k_907 : Cond.methodLink RX5 227 yX5_isFigure ∈ TT := tt_4 187 (by decide +kernel) (by decide +kernel)
theorem k_909 : Cond.instanceMethod yX5_isFigure ∈ TT := tt_4 189 (by decide +kernel) (by decide +kernel)
theorem k_910 : Cond.code yX5_isFigure cX5_isFigure 2 (some .boolean) ∈ TT := tt_4 190 (by decide +kernel) (by decide +kernel)
theorem k_911 : Cond.methodLink RX5 246 yX5_acted ∈ TT := tt_4 191 (by decide +kernel) (by decide +kernel)
theorem k_913 : Cond.instanceMethod yX5_acted ∈ TT := tt_4 193 (by decide +kernel) (by decide +kernel)
theorem k_914 : Cond.code yX5_acted cX5_acted 6 (some .int) ∈ TT := tt_4 194 (by decide +kernel) (by decide +kernel)
theorem k_915 : Cond.methodLink RL 105 yX5_told ∈ TT := tt_4 195 (by decide +kernel) (by decide +kernel)
theorem k_916 : Cond.instanceMethod yX5_told ∈ TT := tt_4 196 (by decide +kernel) (by decide +kernel)
theorem k_917 : Cond.selects RX5 yX5_told yX5_told ∈ TT := tt_4 197 (by decide +kernel) (by decide +kernel)
theorem k_918 : Cond.code yX5_told cX5_told 2 (some .int) ∈ TT := tt_4 198 (by decide +kernel) (by decide +kernel)
theorem k_919 : Cond.methodLink RX5 249 yX5_toldOf ∈ TT := tt_4 199 (by decide +kernel) (by decide +kernel)
theorem k_921 : Cond.instanceMethod yX5_toldOf ∈ TT := tt_4 201 (by decide +kernel) (by decide +kernel)
theorem k_922 : Cond.code yX5_toldOf cX5_toldOf 2 (some .int) ∈ TT := tt_4 202 (by decide +kernel) (by decide +kernel)
theorem k_923 : Cond.methodLink RL 110 yX5_digest ∈ TT := tt_4 203 (by decide +kernel) (by decide +kernel)
theorem k_924 : Cond.instanceMethod yX5_digest ∈ TT := tt_4 204 (by decide +kernel) (by decide +kernel)
theorem k_925 : Cond.selects RX5 yX5_digest yX5_digest ∈ TT := tt_4 205 (by decide +kernel) (by decide +kernel)
theorem k_926 : Cond.code yX5_digest cX5_digest 5 (some .long) ∈ TT := tt_4 206 (by decide +kernel) (by decide +kernel)
theorem k_927 : Cond.constantLong RX5 252 (1807) ∈ TT := tt_4 207 (by decide +kernel) (by decide +kernel)
theorem k_928 : Cond.constantLong RX5 254 (31) ∈ TT := tt_4 208 (by decide +kernel) (by decide +kernel)
theorem k_16 : Cond.code objectInit ⟨#[0xb1]⟩ 1 none ∈ TT := tt_1 16 (by decide +kernel) (by decide +kernel)
theorem ks_yX0_placeNode : Cond.selects RX0 yX0_placeNode yX0_placeNode ∈ TT := tt_s 0 (by decide +kernel) (by decide +kernel)
theorem ks_yX4_draft : Cond.selects RX4 yX4_draft yX4_draft ∈ TT := tt_s 1 (by decide +kernel) (by decide +kernel)
theorem ks_yX4_settled : Cond.selects RX4 yX4_settled yX4_settled ∈ TT := tt_s 2 (by decide +kernel) (by decide +kernel)
theorem ks_yX4_refused : Cond.selects RX4 yX4_refused yX4_refused ∈ TT := tt_s 3 (by decide +kernel) (by decide +kernel)
theorem ks_yX4_moveTo : Cond.selects RX4 yX4_moveTo yX4_moveTo ∈ TT := tt_s 4 (by decide +kernel) (by decide +kernel)
theorem ks_yX0_addEdge : Cond.selects RX0 yX0_addEdge yX0_addEdge ∈ TT := tt_s 5 (by decide +kernel) (by decide +kernel)
theorem ks_yX4_partOfEdge : Cond.selects RX4 yX4_partOfEdge yX4_partOfEdge ∈ TT := tt_s 6 (by decide +kernel) (by decide +kernel)
theorem ks_yX2_come : Cond.selects RX2 yX2_come yX2_come ∈ TT := tt_s 7 (by decide +kernel) (by decide +kernel)
theorem ks_yX2_take : Cond.selects RX2 yX2_take yX2_take ∈ TT := tt_s 8 (by decide +kernel) (by decide +kernel)
theorem ks_yX2_returnToCallers : Cond.selects RX2 yX2_returnToCallers yX2_returnToCallers ∈ TT := tt_s 9 (by decide +kernel) (by decide +kernel)
theorem ks_yX2_landing : Cond.selects RX2 yX2_landing yX2_landing ∈ TT := tt_s 10 (by decide +kernel) (by decide +kernel)
theorem ks_yX2_enter : Cond.selects RX2 yX2_enter yX2_enter ∈ TT := tt_s 11 (by decide +kernel) (by decide +kernel)
theorem ks_yX2_noteSite : Cond.selects RX2 yX2_noteSite yX2_noteSite ∈ TT := tt_s 12 (by decide +kernel) (by decide +kernel)
theorem ks_yX2_leaveAsKnown : Cond.selects RX2 yX2_leaveAsKnown yX2_leaveAsKnown ∈ TT := tt_s 13 (by decide +kernel) (by decide +kernel)
theorem ks_yX4_counted : Cond.selects RX4 yX4_counted yX4_counted ∈ TT := tt_s 14 (by decide +kernel) (by decide +kernel)
theorem ks_yX4_nodesReached : Cond.selects RX4 yX4_nodesReached yX4_nodesReached ∈ TT := tt_s 15 (by decide +kernel) (by decide +kernel)
theorem ks_yX1_stepAlong : Cond.selects RX1 yX1_stepAlong yX1_stepAlong ∈ TT := tt_s 16 (by decide +kernel) (by decide +kernel)
theorem ks_yX1_addTo : Cond.selects RX1 yX1_addTo yX1_addTo ∈ TT := tt_s 17 (by decide +kernel) (by decide +kernel)
theorem ks_yX4_partOfEntry : Cond.selects RX4 yX4_partOfEntry yX4_partOfEntry ∈ TT := tt_s 18 (by decide +kernel) (by decide +kernel)
theorem ks_yX3_skipBlanks : Cond.selects RX3 yX3_skipBlanks yX3_skipBlanks ∈ TT := tt_s 19 (by decide +kernel) (by decide +kernel)
theorem ks_yX3_readOrder : Cond.selects RX3 yX3_readOrder yX3_readOrder ∈ TT := tt_s 20 (by decide +kernel) (by decide +kernel)
theorem ks_yX3_readNumber : Cond.selects RX3 yX3_readNumber yX3_readNumber ∈ TT := tt_s 21 (by decide +kernel) (by decide +kernel)
theorem ks_yX3_isFigure : Cond.selects RX3 yX3_isFigure yX3_isFigure ∈ TT := tt_s 22 (by decide +kernel) (by decide +kernel)
theorem ks_yX4_obeyed : Cond.selects RX4 yX4_obeyed yX4_obeyed ∈ TT := tt_s 23 (by decide +kernel) (by decide +kernel)
theorem ks_yX4_tally : Cond.selects RX4 yX4_tally yX4_tally ∈ TT := tt_s 24 (by decide +kernel) (by decide +kernel)
theorem ks_yX4_digestOfNodes : Cond.selects RX4 yX4_digestOfNodes yX4_digestOfNodes ∈ TT := tt_s 25 (by decide +kernel) (by decide +kernel)
theorem ks_yX4_digestOfEdges : Cond.selects RX4 yX4_digestOfEdges yX4_digestOfEdges ∈ TT := tt_s 26 (by decide +kernel) (by decide +kernel)
theorem ks_yX5_addProc : Cond.selects RX5 yX5_addProc yX5_addProc ∈ TT := tt_s 27 (by decide +kernel) (by decide +kernel)
theorem ks_yX5_addNode : Cond.selects RX5 yX5_addNode yX5_addNode ∈ TT := tt_s 28 (by decide +kernel) (by decide +kernel)
theorem ks_yX5_no : Cond.selects RX5 yX5_no yX5_no ∈ TT := tt_s 29 (by decide +kernel) (by decide +kernel)
theorem ks_yX5_takes : Cond.selects RX5 yX5_takes yX5_takes ∈ TT := tt_s 30 (by decide +kernel) (by decide +kernel)
theorem ks_yX5_puts : Cond.selects RX5 yX5_puts yX5_puts ∈ TT := tt_s 31 (by decide +kernel) (by decide +kernel)
theorem ks_yX5_done : Cond.selects RX5 yX5_done yX5_done ∈ TT := tt_s 32 (by decide +kernel) (by decide +kernel)
theorem ks_yX5_counted : Cond.selects RX5 yX5_counted yX5_counted ∈ TT := tt_s 33 (by decide +kernel) (by decide +kernel)
theorem ks_yX5_bad : Cond.selects RX5 yX5_bad yX5_bad ∈ TT := tt_s 34 (by decide +kernel) (by decide +kernel)
theorem ks_yX5_full : Cond.selects RX5 yX5_full yX5_full ∈ TT := tt_s 35 (by decide +kernel) (by decide +kernel)
theorem ks_yX5_leavesState : Cond.selects RX5 yX5_leavesState yX5_leavesState ∈ TT := tt_s 36 (by decide +kernel) (by decide +kernel)
theorem ks_yX5_addAny : Cond.selects RX5 yX5_addAny yX5_addAny ∈ TT := tt_s 37 (by decide +kernel) (by decide +kernel)
theorem ks_yX5_isProc : Cond.selects RX5 yX5_isProc yX5_isProc ∈ TT := tt_s 38 (by decide +kernel) (by decide +kernel)
theorem ks_yX5_addEdge : Cond.selects RX5 yX5_addEdge yX5_addEdge ∈ TT := tt_s 39 (by decide +kernel) (by decide +kernel)
theorem ks_yX5_isNode : Cond.selects RX5 yX5_isNode yX5_isNode ∈ TT := tt_s 40 (by decide +kernel) (by decide +kernel)
theorem ks_yX5_procOf : Cond.selects RX5 yX5_procOf yX5_procOf ∈ TT := tt_s 41 (by decide +kernel) (by decide +kernel)
theorem ks_yX5_sortOf : Cond.selects RX5 yX5_sortOf yX5_sortOf ∈ TT := tt_s 42 (by decide +kernel) (by decide +kernel)
theorem ks_yX5_addCall : Cond.selects RX5 yX5_addCall yX5_addCall ∈ TT := tt_s 43 (by decide +kernel) (by decide +kernel)
theorem ks_yX5_setFlow : Cond.selects RX5 yX5_setFlow yX5_setFlow ∈ TT := tt_s 44 (by decide +kernel) (by decide +kernel)
theorem ks_yX5_isFlow : Cond.selects RX5 yX5_isFlow yX5_isFlow ∈ TT := tt_s 45 (by decide +kernel) (by decide +kernel)
theorem ks_yX5_isEdge : Cond.selects RX5 yX5_isEdge yX5_isEdge ∈ TT := tt_s 46 (by decide +kernel) (by decide +kernel)
theorem ks_yX5_edgeOf : Cond.selects RX5 yX5_edgeOf yX5_edgeOf ∈ TT := tt_s 47 (by decide +kernel) (by decide +kernel)
theorem ks_yX5_flowOf : Cond.selects RX5 yX5_flowOf yX5_flowOf ∈ TT := tt_s 48 (by decide +kernel) (by decide +kernel)
theorem ks_yX5_setStart : Cond.selects RX5 yX5_setStart yX5_setStart ∈ TT := tt_s 49 (by decide +kernel) (by decide +kernel)
theorem ks_yX5_cutEdge : Cond.selects RX5 yX5_cutEdge yX5_cutEdge ∈ TT := tt_s 50 (by decide +kernel) (by decide +kernel)
theorem ks_yX5_countOf : Cond.selects RX5 yX5_countOf yX5_countOf ∈ TT := tt_s 51 (by decide +kernel) (by decide +kernel)
theorem ks_yX5_knows : Cond.selects RX5 yX5_knows yX5_knows ∈ TT := tt_s 52 (by decide +kernel) (by decide +kernel)
theorem ks_yX5_clearTable : Cond.selects RX5 yX5_clearTable yX5_clearTable ∈ TT := tt_s 53 (by decide +kernel) (by decide +kernel)
theorem ks_yX5_comes : Cond.selects RX5 yX5_comes yX5_comes ∈ TT := tt_s 54 (by decide +kernel) (by decide +kernel)
theorem ks_yX5_fills : Cond.selects RX5 yX5_fills yX5_fills ∈ TT := tt_s 55 (by decide +kernel) (by decide +kernel)
theorem ks_yX5_takesEntry : Cond.selects RX5 yX5_takesEntry yX5_takesEntry ∈ TT := tt_s 56 (by decide +kernel) (by decide +kernel)
theorem ks_yX5_allCome : Cond.selects RX5 yX5_allCome yX5_allCome ∈ TT := tt_s 57 (by decide +kernel) (by decide +kernel)
theorem ks_yX5_takesCall : Cond.selects RX5 yX5_takesCall yX5_takesCall ∈ TT := tt_s 58 (by decide +kernel) (by decide +kernel)
theorem ks_yX5_notes : Cond.selects RX5 yX5_notes yX5_notes ∈ TT := tt_s 59 (by decide +kernel) (by decide +kernel)
theorem ks_yX5_held : Cond.selects RX5 yX5_held yX5_held ∈ TT := tt_s 60 (by decide +kernel) (by decide +kernel)
theorem ks_yX5_holdsAt : Cond.selects RX5 yX5_holdsAt yX5_holdsAt ∈ TT := tt_s 61 (by decide +kernel) (by decide +kernel)
theorem ks_yX5_looseAt : Cond.selects RX5 yX5_looseAt yX5_looseAt ∈ TT := tt_s 62 (by decide +kernel) (by decide +kernel)
theorem ks_yX5_loosens : Cond.selects RX5 yX5_loosens yX5_loosens ∈ TT := tt_s 63 (by decide +kernel) (by decide +kernel)
theorem ks_yX5_carried : Cond.selects RX5 yX5_carried yX5_carried ∈ TT := tt_s 64 (by decide +kernel) (by decide +kernel)
theorem ks_yX5_spells : Cond.selects RX5 yX5_spells yX5_spells ∈ TT := tt_s 65 (by decide +kernel) (by decide +kernel)
theorem ks_yX5_blanks : Cond.selects RX5 yX5_blanks yX5_blanks ∈ TT := tt_s 66 (by decide +kernel) (by decide +kernel)
theorem ks_yX5_byteAt : Cond.selects RX5 yX5_byteAt yX5_byteAt ∈ TT := tt_s 67 (by decide +kernel) (by decide +kernel)
theorem ks_yX5_reads : Cond.selects RX5 yX5_reads yX5_reads ∈ TT := tt_s 68 (by decide +kernel) (by decide +kernel)
theorem ks_yX5_number : Cond.selects RX5 yX5_number yX5_number ∈ TT := tt_s 69 (by decide +kernel) (by decide +kernel)
theorem ks_yX5_isFigure : Cond.selects RX5 yX5_isFigure yX5_isFigure ∈ TT := tt_s 70 (by decide +kernel) (by decide +kernel)
theorem ks_yX5_acted : Cond.selects RX5 yX5_acted yX5_acted ∈ TT := tt_s 71 (by decide +kernel) (by decide +kernel)
theorem ks_yX5_toldOf : Cond.selects RX5 yX5_toldOf yX5_toldOf ∈ TT := tt_s 72 (by decide +kernel) (by decide +kernel)
theorem kl_0 : ∀ w ∈ wsX00, w ∈ TT := by
  intro w hw
  obtain ⟨k, hk, rfl⟩ := List.mem_map.mp hw
  have hk := List.mem_range.mp hk
  match k, hk with
  | 0, _ => exact tt_1 151 (by decide +kernel) (by decide +kernel)
  | 1, _ => exact tt_1 153 (by decide +kernel) (by decide +kernel)
  | 2, _ => exact tt_1 155 (by decide +kernel) (by decide +kernel)
  | 3, _ => exact tt_1 157 (by decide +kernel) (by decide +kernel)
  | 4, _ => exact tt_1 159 (by decide +kernel) (by decide +kernel)
  | 5, _ => exact tt_1 161 (by decide +kernel) (by decide +kernel)
  | 6, _ => exact tt_1 163 (by decide +kernel) (by decide +kernel)
  | 7, _ => exact tt_1 165 (by decide +kernel) (by decide +kernel)
  | 8, _ => exact tt_1 167 (by decide +kernel) (by decide +kernel)
  | 9, _ => exact tt_1 169 (by decide +kernel) (by decide +kernel)
  | 10, _ => exact tt_1 171 (by decide +kernel) (by decide +kernel)
  | 11, _ => exact tt_1 173 (by decide +kernel) (by decide +kernel)
  | k + 12, h => exact absurd h (by omega)
theorem kl_1 : ∀ w ∈ wsX10, w ∈ TT := by
  intro w hw
  obtain ⟨k, hk, rfl⟩ := List.mem_map.mp hw
  have hk := List.mem_range.mp hk
  match k, hk with
  | 0, _ => exact tt_1 80 (by decide +kernel) (by decide +kernel)
  | 1, _ => exact tt_1 82 (by decide +kernel) (by decide +kernel)
  | k + 2, h => exact absurd h (by omega)
theorem kl_2 : ∀ w ∈ wsX20, w ∈ TT := by
  intro w hw
  obtain ⟨k, hk, rfl⟩ := List.mem_map.mp hw
  have hk := List.mem_range.mp hk
  match k, hk with
  | 0, _ => exact tt_1 42 (by decide +kernel) (by decide +kernel)
  | 1, _ => exact tt_1 44 (by decide +kernel) (by decide +kernel)
  | 2, _ => exact tt_1 46 (by decide +kernel) (by decide +kernel)
  | 3, _ => exact tt_1 48 (by decide +kernel) (by decide +kernel)
  | 4, _ => exact tt_1 50 (by decide +kernel) (by decide +kernel)
  | 5, _ => exact tt_1 52 (by decide +kernel) (by decide +kernel)
  | 6, _ => exact tt_1 54 (by decide +kernel) (by decide +kernel)
  | 7, _ => exact tt_1 56 (by decide +kernel) (by decide +kernel)
  | 8, _ => exact tt_1 58 (by decide +kernel) (by decide +kernel)
  | 9, _ => exact tt_1 60 (by decide +kernel) (by decide +kernel)
  | 10, _ => exact tt_1 62 (by decide +kernel) (by decide +kernel)
  | 11, _ => exact tt_1 64 (by decide +kernel) (by decide +kernel)
  | 12, _ => exact tt_1 66 (by decide +kernel) (by decide +kernel)
  | k + 13, h => exact absurd h (by omega)
theorem kl_3 : ∀ w ∈ wsX30, w ∈ TT := by
  intro w hw
  obtain ⟨k, hk, rfl⟩ := List.mem_map.mp hw
  have hk := List.mem_range.mp hk
  match k, hk with
  | 0, _ => exact tt_1 98 (by decide +kernel) (by decide +kernel)
  | 1, _ => exact tt_1 100 (by decide +kernel) (by decide +kernel)
  | 2, _ => exact tt_1 102 (by decide +kernel) (by decide +kernel)
  | 3, _ => exact tt_1 104 (by decide +kernel) (by decide +kernel)
  | 4, _ => exact tt_1 106 (by decide +kernel) (by decide +kernel)
  | k + 5, h => exact absurd h (by omega)
theorem kl_4 : ∀ w ∈ wsX40, w ∈ TT := by
  intro w hw
  obtain ⟨k, hk, rfl⟩ := List.mem_map.mp hw
  have hk := List.mem_range.mp hk
  match k, hk with
  | 0, _ => exact tt_1 194 (by decide +kernel) (by decide +kernel)
  | 1, _ => exact tt_1 196 (by decide +kernel) (by decide +kernel)
  | 2, _ => exact tt_1 198 (by decide +kernel) (by decide +kernel)
  | 3, _ => exact tt_1 200 (by decide +kernel) (by decide +kernel)
  | 4, _ => exact tt_1 202 (by decide +kernel) (by decide +kernel)
  | 5, _ => exact tt_1 204 (by decide +kernel) (by decide +kernel)
  | 6, _ => exact tt_1 206 (by decide +kernel) (by decide +kernel)
  | 7, _ => exact tt_1 208 (by decide +kernel) (by decide +kernel)
  | 8, _ => exact tt_1 210 (by decide +kernel) (by decide +kernel)
  | k + 9, h => exact absurd h (by omega)
theorem kl_5 : ∀ w ∈ wsX50, w ∈ TT := by
  intro w hw
  obtain ⟨k, hk, rfl⟩ := List.mem_map.mp hw
  have hk := List.mem_range.mp hk
  match k, hk with
  | 0, _ => exact tt_3 115 (by decide +kernel) (by decide +kernel)
  | 1, _ => exact tt_3 117 (by decide +kernel) (by decide +kernel)
  | 2, _ => exact tt_3 119 (by decide +kernel) (by decide +kernel)
  | 3, _ => exact tt_3 121 (by decide +kernel) (by decide +kernel)
  | 4, _ => exact tt_3 123 (by decide +kernel) (by decide +kernel)
  | 5, _ => exact tt_3 125 (by decide +kernel) (by decide +kernel)
  | 6, _ => exact tt_3 127 (by decide +kernel) (by decide +kernel)
  | 7, _ => exact tt_3 129 (by decide +kernel) (by decide +kernel)
  | 8, _ => exact tt_3 131 (by decide +kernel) (by decide +kernel)
  | 9, _ => exact tt_3 133 (by decide +kernel) (by decide +kernel)
  | 10, _ => exact tt_3 135 (by decide +kernel) (by decide +kernel)
  | 11, _ => exact tt_3 137 (by decide +kernel) (by decide +kernel)
  | 12, _ => exact tt_3 139 (by decide +kernel) (by decide +kernel)
  | 13, _ => exact tt_3 141 (by decide +kernel) (by decide +kernel)
  | 14, _ => exact tt_3 143 (by decide +kernel) (by decide +kernel)
  | 15, _ => exact tt_3 145 (by decide +kernel) (by decide +kernel)
  | 16, _ => exact tt_3 147 (by decide +kernel) (by decide +kernel)
  | 17, _ => exact tt_3 149 (by decide +kernel) (by decide +kernel)
  | 18, _ => exact tt_3 151 (by decide +kernel) (by decide +kernel)
  | 19, _ => exact tt_3 153 (by decide +kernel) (by decide +kernel)
  | 20, _ => exact tt_3 155 (by decide +kernel) (by decide +kernel)
  | 21, _ => exact tt_3 157 (by decide +kernel) (by decide +kernel)
  | 22, _ => exact tt_3 159 (by decide +kernel) (by decide +kernel)
  | 23, _ => exact tt_3 161 (by decide +kernel) (by decide +kernel)
  | 24, _ => exact tt_3 163 (by decide +kernel) (by decide +kernel)
  | 25, _ => exact tt_3 165 (by decide +kernel) (by decide +kernel)
  | 26, _ => exact tt_3 167 (by decide +kernel) (by decide +kernel)
  | k + 27, h => exact absurd h (by omega)
end
section
/-! numbers: every int of the walk is iI of an Int, every long lI of an Int, every int row iA of a function on Int -/
def iI (z : Int) : Int32 := Int32.ofInt z
def lI (z : Int) : Int64 := Int64.ofInt z
abbrev rg (z : Int) : Prop := -2147483648 ≤ z ∧ z < 2147483648
def iA (f : Int → Int) : Nat → Int32 := fun j => iI (f (j : Int))
def lA (f : Int → Int64) : Nat → Int64 := fun j => f (j : Int)
def up {α : Type} (f : Int → α) (i : Int) (v : α) : Int → α := fun j => if j = i then v else f j
theorem up_s {α : Type} (f : Int → α) (i : Int) (v : α) : up f i v i = v := by simp [up]
theorem up_n {α : Type} (f : Int → α) {i j : Int} (v : α) (h : j ≠ i) : up f i v j = f j := by simp [up, h]
theorem up_a {α : Type} (f : Int → α) (i j : Int) (v : α) : up f i v j = if j = i then v else f j := rfl
theorem iI_toInt {z : Int} (h : rg z) : (iI z).toInt = z := Int32.toInt_ofInt_of_le h.1 h.2
theorem iI_of (x : Int32) : ∃ z : Int, rg z ∧ x = iI z := ⟨x.toInt, ⟨x.le_toInt, x.toInt_lt⟩, by simp [iI]⟩
theorem iI_add (a b : Int) : iI a + iI b = iI (a + b) := (Int32.ofInt_add a b).symm
theorem iI_sub (a b : Int) : iI a - iI b = iI (a - b) := (Int32.ofInt_sub a b).symm
theorem iI_mul (a b : Int) : iI a * iI b = iI (a * b) := (Int32.ofInt_mul a b).symm
theorem iI_lt {a b : Int} (ha : rg a) (hb : rg b) : iI a < iI b ↔ a < b := by rw [Int32.lt_iff_toInt_lt, iI_toInt ha, iI_toInt hb]
theorem iI_le {a b : Int} (ha : rg a) (hb : rg b) : iI a ≤ iI b ↔ a ≤ b := by rw [Int32.le_iff_toInt_le, iI_toInt ha, iI_toInt hb]
theorem iI_eq {a b : Int} (ha : rg a) (hb : rg b) : iI a = iI b ↔ a = b := by rw [← Int32.toInt_inj, iI_toInt ha, iI_toInt hb]
theorem iI_nat (n : Nat) : iI (n : Int) = nI n := Int32.ofInt_eq_ofNat
theorem iI_nn {z : Int} (h : 0 ≤ z) : iI z = nI z.toNat := by rw [← iI_nat, Int.toNat_of_nonneg h]
theorem iI_0 : iI 0 = 0 := rfl
theorem iI_clamp {z : Int} (h0 : 0 ≤ z) (h : z < 2147483648) : (iI z).toNatClampNeg = z.toNat := by
  rw [iI_nn h0]; exact nI_clamp (by omega)
theorem iI_in {z : Int} {n : Nat} (h0 : 0 ≤ z) (h : z < n) (hn : n < 2147483648) : vp_in (iI z) n := by
  rw [iI_nn h0]; exact vp_in_nI (by omega) hn
theorem iA_at (f : Int → Int) {z : Int} (h0 : 0 ≤ z) (h : z < 2147483648) : iA f (iI z).toNatClampNeg = iI (f z) := by
  rw [iI_clamp h0 h]; unfold iA; rw [Int.toNat_of_nonneg h0]
theorem lA_at (f : Int → Int64) {z : Int} (h0 : 0 ≤ z) (h : z < 2147483648) : lA f (iI z).toNatClampNeg = f z := by
  rw [iI_clamp h0 h]; unfold lA; rw [Int.toNat_of_nonneg h0]
theorem iA_up (f : Int → Int) {z : Int} (v : Int) (h0 : 0 ≤ z) (h : z < 2147483648) : upd (iA f) (iI z).toNatClampNeg (iI v) = iA (up f z v) := by
  funext j
  rw [iI_clamp h0 h]
  unfold upd iA up
  by_cases hj : j = z.toNat
  · have : (j : Int) = z := by omega
    simp [hj, this, Int.toNat_of_nonneg h0]
  · have : (j : Int) ≠ z := by omega
    simp [hj, this]
theorem lA_up (f : Int → Int64) {z : Int} (v : Int64) (h0 : 0 ≤ z) (h : z < 2147483648) : vp_updL (lA f) (iI z).toNatClampNeg v = lA (up f z v) := by
  funext j
  rw [iI_clamp h0 h]
  unfold vp_updL lA up
  by_cases hj : j = z.toNat
  · have : (j : Int) = z := by omega
    simp [hj, this, Int.toNat_of_nonneg h0]
  · have : (j : Int) ≠ z := by omega
    simp [hj, this]
theorem iI_div {a b : Int} (ha : 0 ≤ a) (ha2 : a < 2147483648) (hb : 0 < b) (hb2 : b < 2147483648) : iI a / iI b = iI (a / b) := by
  rw [iI_nn ha, iI_nn (by omega : 0 ≤ b), pk_div (by omega) (by omega) (by omega), iI_nn (Int.ediv_nonneg ha (by omega))]
  congr 1
  rw [← Int.ofNat_inj]
  rw [Int.toNat_of_nonneg (Int.ediv_nonneg ha (by omega))]
  simp [Int.toNat_of_nonneg ha, Int.toNat_of_nonneg (show 0 ≤ b by omega)]
theorem iI_rem {a b : Int} (ha : 0 ≤ a) (ha2 : a < 2147483648) (hb : 0 < b) (hb2 : b < 2147483648) : iI a - iI a / iI b * iI b = iI (a % b) := by
  rw [iI_div ha ha2 hb hb2, iI_mul, iI_sub]
  congr 1
  rw [Int.emod_def, Int.mul_comm]
/-! sets of FACTS as bits -/
def bO (a b : Int) : Int := ((a.toNat ||| b.toNat : Nat) : Int)
def bA (a b : Int) : Int := ((a.toNat &&& b.toNat : Nat) : Int)
def bD (a b : Int) : Int := ((a.toNat ^^^ (a.toNat &&& b.toNat) : Nat) : Int)
def p2 (k : Int) : Int := ((2 ^ k.toNat : Nat) : Int)
def tb (a k : Int) : Bool := a.toNat.testBit k.toNat
theorem iI_or {a b : Int} (ha : 0 ≤ a) (hb : 0 ≤ b) : iI a ||| iI b = iI (bO a b) := by
  rw [iI_nn ha, iI_nn hb]; unfold bO; rw [iI_nat]
  apply Int32.toBitVec.inj
  simp [nI]
theorem iI_and {a b : Int} (ha : 0 ≤ a) (hb : 0 ≤ b) : iI a &&& iI b = iI (bA a b) := by
  rw [iI_nn ha, iI_nn hb]; unfold bA; rw [iI_nat]
  apply Int32.toBitVec.inj
  simp [nI]
theorem iI_not (a : Int) : iI a ^^^ iI (-1) = iI (-1 - a) := by
  have h : iI a ^^^ iI (-1) = ~~~ (iI a) := by
    apply Int32.toBitVec.inj
    have : (iI (-1)).toBitVec = BitVec.allOnes 32 := by decide
    rw [Int32.toBitVec_xor, this, BitVec.xor_allOnes, Int32.toBitVec_not]
  rw [h]
  have h2 : ~~~ (iI a) = -(iI a) - 1 := by
    apply Int32.toBitVec.inj
    have := BitVec.neg_eq_not_add (iI a).toBitVec
    simp only [Int32.toBitVec_not, Int32.toBitVec_sub, Int32.toBitVec_neg]
    rw [this]; exact (BitVec.add_sub_cancel _ _).symm
  rw [h2, show (1 : Int32) = iI 1 from rfl, show -(iI a) = iI (-a) from (Int32.ofInt_neg a).symm, iI_sub]
  congr 1; omega
theorem iI_andnot {a b : Int} (ha : 0 ≤ a) (ha2 : a < 2147483648) (hb : 0 ≤ b) : iI a &&& iI (-1 - b) = iI (bD a b) := by
  rw [← iI_not, iI_nn ha, iI_nn hb]; unfold bD; rw [iI_nat]
  apply Int32.toBitVec.inj
  have h1 : (iI (-1)).toBitVec = BitVec.allOnes 32 := by decide
  simp only [nI, Int32.toBitVec_and, Int32.toBitVec_xor, h1, BitVec.xor_allOnes]
  apply BitVec.eq_of_getLsbD_eq
  intro i hi
  simp only [BitVec.getLsbD_and, BitVec.getLsbD_not, Int32.toBitVec_ofNat', BitVec.getLsbD_ofNat, hi, decide_true, Bool.true_and, Nat.testBit_xor, Nat.testBit_and]
  cases a.toNat.testBit i <;> cases b.toNat.testBit i <;> rfl
theorem iI_shr {a k : Int} (ha : 0 ≤ a) (ha2 : a < 2147483648) (hk : 0 ≤ k) (hk2 : k < 31) : iI a >>> (iI k &&& 31) = iI (a / p2 k) := by
  have hs : ∀ n, n < 31 → ((nI n &&& 31).toBitVec.smod 32).toNat = n := by decide
  rw [iI_nn ha, iI_nn hk, pk_shrN (by omega) _ k.toNat (hs _ (by omega)), ← iI_nat]
  congr 1
  unfold p2
  rw [Int.natCast_ediv, Int.toNat_of_nonneg ha]
theorem iI_shl1 {k : Int} (hk : 0 ≤ k) (hk2 : k < 31) : iI 1 <<< (iI k &&& 31) = iI (p2 k) := by
  have hs : ∀ n, n < 31 → (1 : Int32) <<< (nI n &&& 31) = nI (2 ^ n) := by decide
  rw [iI_nn hk]
  unfold p2
  rw [iI_nat]
  exact hs _ (by omega)
theorem bO_0 (a b : Int) : 0 ≤ bO a b := Int.natCast_nonneg _
theorem bA_0 (a b : Int) : 0 ≤ bA a b := Int.natCast_nonneg _
theorem bD_0 (a b : Int) : 0 ≤ bD a b := Int.natCast_nonneg _
theorem p2_0 (a : Int) : 0 < p2 a := by unfold p2; have := Nat.two_pow_pos a.toNat; omega
theorem bO_8 {a b : Int} (ha : a < 256) (hb : b < 256) : bO a b < 256 := by
  have := Nat.or_lt_two_pow (x := a.toNat) (y := b.toNat) (n := 8) (by omega) (by omega)
  unfold bO; omega
theorem bA_8 {a : Int} (b : Int) (ha : a < 256) : bA a b < 256 := by
  have := Nat.and_le_left (n := a.toNat) (m := b.toNat)
  unfold bA; omega
theorem bD_8 {a : Int} (b : Int) (ha : a < 256) : bD a b < 256 := by
  have h := Nat.and_le_left (n := a.toNat) (m := b.toNat)
  have := Nat.xor_lt_two_pow (x := a.toNat) (y := a.toNat &&& b.toNat) (n := 8) (by omega) (by omega)
  unfold bD; omega
theorem p2_8 {k : Int} (h : k < 8) : p2 k < 256 := by
  unfold p2
  have : 2 ^ k.toNat ≤ 2 ^ 7 := Nat.pow_le_pow_right (by decide) (by omega)
  omega
theorem tb_O (a b k : Int) : tb (bO a b) k = (tb a k || tb b k) := by unfold tb bO; simp [Nat.testBit_or]
theorem tb_A (a b k : Int) : tb (bA a b) k = (tb a k && tb b k) := by unfold tb bA; simp [Nat.testBit_and]
theorem tb_D (a b k : Int) : tb (bD a b) k = (tb a k && !tb b k) := by
  unfold tb bD; simp only [Int.toNat_natCast, Nat.testBit_xor, Nat.testBit_and]
  cases a.toNat.testBit k.toNat <;> cases b.toNat.testBit k.toNat <;> rfl
theorem tb_p2 (a k : Int) : tb (p2 a) k = decide (a.toNat = k.toNat) := by unfold tb p2; rw [Int.toNat_natCast, Nat.testBit_two_pow]
theorem tb_0 (k : Int) : tb 0 k = false := by simp [tb]
theorem tb_ext {a b : Int} (ha : 0 ≤ a) (ha2 : a < 256) (hb : 0 ≤ b) (hb2 : b < 256) (h : ∀ k : Int, 0 ≤ k → k < 8 → tb a k = tb b k) : a = b := by
  have : a.toNat = b.toNat := by
    apply Nat.eq_of_testBit_eq
    intro i
    by_cases hi : i < 8
    · have := h i (by omega) (by omega)
      simpa [tb] using this
    · rw [Nat.testBit_lt_two_pow (Nat.lt_of_lt_of_le (by omega : a.toNat < 2 ^ 8) (Nat.pow_le_pow_right (by decide) (by omega))), Nat.testBit_lt_two_pow (Nat.lt_of_lt_of_le (by omega : b.toNat < 2 ^ 8) (Nat.pow_le_pow_right (by decide) (by omega)))]
  omega
theorem tb_z {a : Int} (ha : 0 ≤ a) (ha2 : a < 256) : a = 0 ↔ ∀ k : Int, 0 ≤ k → k < 8 → tb a k = false := by
  constructor
  · intro h k _ _; rw [h]; exact tb_0 k
  · intro h; exact tb_ext ha ha2 (by decide) (by decide) (fun k h1 h2 => by rw [h k h1 h2, tb_0])
/-- facts >> f & 1 -/
theorem tb_bit {a k : Int} (ha : 0 ≤ a) (hk : 0 ≤ k) : bA (a / p2 k) 1 = if tb a k then 1 else 0 := by
  have h : (a / p2 k).toNat = a.toNat / 2 ^ k.toNat := by
    unfold p2
    rw [← Int.toNat_natCast (a.toNat / 2 ^ k.toNat), Int.natCast_ediv, Int.toNat_of_nonneg ha]
  unfold bA tb
  rw [h, Nat.testBit_eq_decide_div_mod_eq]
  simp only [show (1 : Int).toNat = 1 from rfl, Nat.and_one_is_mod]
  have := Nat.mod_two_eq_zero_or_one (a.toNat / 2 ^ k.toNat)
  rcases this with h0 | h0 <;> rw [h0] <;> rfl
theorem tb_odd {a : Int} (ha : 0 ≤ a) : bA a 1 = if tb a 0 then 1 else 0 := by
  have := tb_bit (a := a) (k := 0) ha (by decide)
  have h1 : p2 0 = 1 := rfl
  rw [h1, Int.ediv_one] at this
  exact this
/-- a truth as an int -/
def bI (c : Prop) [Decidable c] : Int := if c then 1 else 0
theorem bI_t {c : Prop} [Decidable c] (h : c) : bI c = 1 := if_pos h
theorem bI_f {c : Prop} [Decidable c] (h : ¬ c) : bI c = 0 := if_neg h
theorem bI_r (c : Prop) [Decidable c] : bI c = 0 ∨ bI c = 1 := by by_cases h : c <;> simp [bI, h]
/-- longs -/
theorem lI_add (a b : Int) : lI a + lI b = lI (a + b) := (Int64.ofInt_add a b).symm
theorem lI_mul (a b : Int) : lI a * lI b = lI (a * b) := (Int64.ofInt_mul a b).symm
theorem lI_i {a : Int} (h : rg a) : (iI a).toInt64 = lI a := by
  have : (iI a).toInt64 = Int64.ofInt (iI a).toInt := rfl
  rw [this, iI_toInt h]; rfl
/-- for i = i0 .. i0 + n - 1 -/
def it {σ : Type} (f : Int → σ → σ) : Nat → Int → σ → σ
  | 0, _, s => s
  | n + 1, i, s => it f n (i + 1) (f i s)
theorem it_0 {σ : Type} (f : Int → σ → σ) (i : Int) (s : σ) : it f 0 i s = s := rfl
theorem it_s {σ : Type} (f : Int → σ → σ) (n : Nat) (i : Int) (s : σ) : it f (n + 1) i s = it f n (i + 1) (f i s) := rfl
/-- what stays over a loop -/
theorem it_inv {σ : Type} {f : Int → σ → σ} (I : Int → σ → Prop) {b : Int} (n : Nat) : ∀ (i : Int) (s : σ), i + n = b → I i s → (∀ j t, i ≤ j → j < b → I j t → I (j + 1) (f j t)) → I b (it f n i s) := by
  induction n with
  | zero => intro i s h h0 _; have : i = b := by omega
            subst this; exact h0
  | succ n ih =>
    intro i s h h0 hs
    rw [it_s]
    exact ih (i + 1) (f i s) (by omega) (hs i s (by omega) (by omega) h0) (fun j t h1 h2 h3 => hs j t (by omega) h2 h3)
/-- one more at the end -/
theorem it_last {σ : Type} (f : Int → σ → σ) (n : Nat) : ∀ (i : Int) (s : σ), it f (n + 1) i s = f (i + n) (it f n i s) := by
  induction n with
  | zero => intro i s; simp [it]
  | succ n ih => intro i s; rw [it_s, ih, it_s]; congr 1; omega
end
section
abbrev GG : Type := va_G × ClassId × ClassId × ClassId
def nestW : List Cond := [.methodLinkNest RX4 24 yX2_init "MatchedFlows", .methodLinkNest RX4 31 yX1_init "MatchedFlows", .methodLinkNest RX4 38 yX3_init "MatchedFlows", .methodLinkNest RX4 52 yX0_init "MatchedFlows", .methodLinkNest RX0 93 yX4_isFact "MatchedFlows", .methodLinkNest RX0 96 yX4_isFacts "MatchedFlows", .methodLinkNest RX0 67 yX4_has "MatchedFlows", .methodLinkNest RX2 53 yX4_has "MatchedFlows", .methodLinkNest RX2 62 yX4_cell "MatchedFlows"]
/-- what the tables say: the classes, the kinds of rows, the links within the nest -/
def KK (g : GG) (U : State) : Prop := va_K g.1 vwCl [(g.2.1, .int), (g.2.2.1, .long), (g.2.2.2, .object "MatchedFlows$Program")] U ∧ ∀ w ∈ nestW, va_Nw w U
def nestQ (w : Cond) : Prop := ∃ (a : String) (i : Nat) (x : MethodName) (h : String), w = .methodLinkNest a i x h
theorem nestW_q : ∀ w ∈ nestW, nestQ w := by
  intro w hw
  simp only [nestW, List.mem_cons, List.not_mem_nil, or_false] at hw
  rcases hw with rfl | rfl | rfl | rfl | rfl | rfl | rfl | rfl | rfl <;> exact ⟨_, _, _, _, rfl⟩
theorem KK.moved {g : GG} {s U : State} (hW : s.WarmedH U.vm) (h : KK g s) : KK g U := ⟨va_K.moved hW.alike h.1, fun w hw => by
  obtain ⟨a, i, x, y, rfl⟩ := nestW_q w hw
  exact va_Nw.warmM hW (h.2 _ hw)⟩
theorem KK.blind {g : GG} {U : State} (f : JFrame) (mk : MethodId) (a : Array Value) (h : KK g U) : KK g (U.calling f mk a) := ⟨va_K.moved (u := U) (U := U.calling f mk a) (Vm.Alike.refl U.vm) h.1, fun w hw => va_Nw.same (by obtain ⟨a, i, x, y, rfl⟩ := nestW_q w hw; rfl) (rfl : U.vm = (U.calling f mk a).vm) (h.2 w hw)⟩
/-- a method that stands at its code -/
def Cx (g : GG) (p : Program) (m : MethodId) (c : Code) (cc : ByteArray) (nL : Nat) (s : State) (args : Array Value) (own : String) : Prop := CallFix p m c cc nL s args TT own ∧ KK g s
/-- the world: its cells, apart, in A; nothing else has changed -/
def HW (g : GG) (A : Nat → Prop) (H0 : Heap) (ws : va_W) (H : Heap) (locs : List Loc) : Prop := va_P g.1 vwCl ws H ∧ va_D A ws ∧ va_S A H0 H locs
/-- a field by its entry in a class's pool -/
def FL (own : String) (idx ci k : Nat) : Prop := ∃ (C : String) (T : u_T) (N : Nat) (ty : Nat → FieldType), vwCl[ci]? = some (C, T, N) ∧ k < N ∧ (∀ w ∈ u_ws C T N, w ∈ TT) ∧ Cond.fieldLink own idx (T k).1 (T k).2.1 (T k).2.2.1 ∈ TT ∧ (∀ k, k < N → parseFieldDescriptor (T k).2.2.1 = some (ty k)) ∧ ∀ a, a < N → ∀ b, b < N → a ≠ b → (T a).2.1 ≠ (T b).2.1
/-- and that it may be written, with its type -/
def FP (ci k : Nat) (ty : FieldType) : Prop := ∀ (C : String) (T : u_T) (N : Nat), vwCl[ci]? = some (C, T, N) → (T k).2.2.2 = false ∧ parseFieldDescriptor (T k).2.2.1 = some ty
section RO
variable {g : GG} {p : Program} {l : Launch} {e : Env} {R : Room} {s : State} {m : MethodId} {args : Array Value} {below : List Frame} {meth : Method} {c : Code} {H H0 : Heap} {locs : List Loc} {cells slots : Nat} {Q : State → Prop} {cc : ByteArray} {nL pc : Nat} {own : String} {ls : Array Slot} {rest : List Value} {A : Nat → Prop} {ws : va_W} {a : Nat}
theorem r_iconst (C : Cx g p m c cc nL s args own) {n z : Int} (hd : decode cc pc = .ok (.iconst n, 1)) (hv : Int32.ofInt n = iI z) (k : W p l e R s m args below meth c H locs cells slots Q (F0 m (pc + 1) ls (.int (iI z) :: rest))) : W p l e R s m args below meth c H locs cells slots Q (F0 m pc ls rest) :=
  lv_iconst C.1.1 C.1.2.1 hd hv k
theorem r_bipush (C : Cx g p m c cc nL s args own) {n z : Int} (hd : decode cc pc = .ok (.bipush n, 2)) (hv : (Int8.ofInt n).toInt32 = iI z) (k : W p l e R s m args below meth c H locs cells slots Q (F0 m (pc + 2) ls (.int (iI z) :: rest))) : W p l e R s m args below meth c H locs cells slots Q (F0 m pc ls rest) :=
  lv_bipush C.1.1 C.1.2.1 hd hv k
theorem r_sipush (C : Cx g p m c cc nL s args own) {n z : Int} (hd : decode cc pc = .ok (.sipush n, 3)) (hv : (Int16.ofInt n).toInt32 = iI z) (k : W p l e R s m args below meth c H locs cells slots Q (F0 m (pc + 3) ls (.int (iI z) :: rest))) : W p l e R s m args below meth c H locs cells slots Q (F0 m pc ls rest) :=
  lv_sipush C.1.1 C.1.2.1 hd hv k
theorem r_iload_n (C : Cx g p m c cc nL s args own) {k : Fin 4} {x : Int32} {lv : List (Nat × Value)} (hd : decode cc pc = .ok (.iload_n k, 1)) (hl : lv_has ls nL lv) (j : Nat) (hj : lv[j]? = some ((k : Nat), .int x)) (kk : W p l e R s m args below meth c H locs cells slots Q (F0 m (pc + 1) ls (.int x :: rest))) : W p l e R s m args below meth c H locs cells slots Q (F0 m pc ls rest) :=
  lv_iload_n C.1.1 C.1.2.1 hd rfl (lv_at hl j hj) kk
theorem r_iload (C : Cx g p m c cc nL s args own) {k : Nat} {x : Int32} {lv : List (Nat × Value)} (hd : decode cc pc = .ok (.iload k, 2)) (hl : lv_has ls nL lv) (j : Nat) (hj : lv[j]? = some (k, .int x)) (kk : W p l e R s m args below meth c H locs cells slots Q (F0 m (pc + 2) ls (.int x :: rest))) : W p l e R s m args below meth c H locs cells slots Q (F0 m pc ls rest) :=
  lv_iload C.1.1 C.1.2.1 hd (lv_at hl j hj) kk
theorem r_lload_n (C : Cx g p m c cc nL s args own) {k : Fin 4} {x : Int64} {lv : List (Nat × Value)} (hd : decode cc pc = .ok (.lload_n k, 1)) (hl : lv_has ls nL lv) (j : Nat) (hj : lv[j]? = some ((k : Nat), .long x)) (kk : W p l e R s m args below meth c H locs cells slots Q (F0 m (pc + 1) ls (.long x :: rest))) : W p l e R s m args below meth c H locs cells slots Q (F0 m pc ls rest) :=
  lv_lload_n C.1.1 C.1.2.1 hd rfl (lv_at hl j hj) kk
theorem r_lload (C : Cx g p m c cc nL s args own) {k : Nat} {x : Int64} {lv : List (Nat × Value)} (hd : decode cc pc = .ok (.lload k, 2)) (hl : lv_has ls nL lv) (j : Nat) (hj : lv[j]? = some (k, .long x)) (kk : W p l e R s m args below meth c H locs cells slots Q (F0 m (pc + 2) ls (.long x :: rest))) : W p l e R s m args below meth c H locs cells slots Q (F0 m pc ls rest) :=
  lv_lload C.1.1 C.1.2.1 hd (lv_at hl j hj) kk
theorem r_aload_n (C : Cx g p m c cc nL s args own) {k : Fin 4} {x : Nat} {lv : List (Nat × Value)} (hd : decode cc pc = .ok (.aload_n k, 1)) (hl : lv_has ls nL lv) (j : Nat) (hj : lv[j]? = some ((k : Nat), .ref x)) (kk : W p l e R s m args below meth c H locs cells slots Q (F0 m (pc + 1) ls (.ref x :: rest))) : W p l e R s m args below meth c H locs cells slots Q (F0 m pc ls rest) :=
  lv_aload_n C.1.1 C.1.2.1 hd rfl (lv_at hl j hj) kk
theorem r_aload (C : Cx g p m c cc nL s args own) {k : Nat} {x : Nat} {lv : List (Nat × Value)} (hd : decode cc pc = .ok (.aload k, 2)) (hl : lv_has ls nL lv) (j : Nat) (hj : lv[j]? = some (k, .ref x)) (kk : W p l e R s m args below meth c H locs cells slots Q (F0 m (pc + 2) ls (.ref x :: rest))) : W p l e R s m args below meth c H locs cells slots Q (F0 m pc ls rest) :=
  lv_aload C.1.1 C.1.2.1 hd (lv_at hl j hj) kk
theorem r_istore_n (C : Cx g p m c cc nL s args own) {k : Fin 4} {x : Int32} {lv : List (Nat × Value)} (lv1 : List (Nat × Value)) (hd : decode cc pc = .ok (.istore_n k, 1)) (hl : lv_has ls nL lv) (hn : (k : Nat) < nL) (he : ((k : Nat), Value.int x) :: lv.filter (fun q => !(q.1 == (k : Nat)) && !(q.1 + 1 == (k : Nat) && q.2.category == 2)) = lv1) (kk : ∀ ls1 : Array Slot, lv_has ls1 nL lv1 → W p l e R s m args below meth c H locs cells slots Q (F0 m (pc + 1) ls1 rest)) : W p l e R s m args below meth c H locs cells slots Q (F0 m pc ls (.int x :: rest)) :=
  lv_istore_n C.1.1 C.1.2.1 hd rfl hl hn he kk
theorem r_istore (C : Cx g p m c cc nL s args own) {k : Nat} {x : Int32} {lv : List (Nat × Value)} (lv1 : List (Nat × Value)) (hd : decode cc pc = .ok (.istore k, 2)) (hl : lv_has ls nL lv) (hn : k < nL) (he : (k, Value.int x) :: lv.filter (fun q => !(q.1 == k) && !(q.1 + 1 == k && q.2.category == 2)) = lv1) (kk : ∀ ls1 : Array Slot, lv_has ls1 nL lv1 → W p l e R s m args below meth c H locs cells slots Q (F0 m (pc + 2) ls1 rest)) : W p l e R s m args below meth c H locs cells slots Q (F0 m pc ls (.int x :: rest)) :=
  lv_istore C.1.1 C.1.2.1 hd hl hn he kk
theorem r_lstore_n (C : Cx g p m c cc nL s args own) {k : Fin 4} {x : Int64} {lv : List (Nat × Value)} (lv1 : List (Nat × Value)) (hd : decode cc pc = .ok (.lstore_n k, 1)) (hl : lv_has ls nL lv) (hn : (k : Nat) + 1 < nL) (he : ((k : Nat), Value.long x) :: lv.filter (fun q => !(q.1 == (k : Nat)) && (!(q.1 == (k : Nat) + 1) && !(q.1 + 1 == (k : Nat) && q.2.category == 2))) = lv1) (kk : ∀ ls1 : Array Slot, lv_has ls1 nL lv1 → W p l e R s m args below meth c H locs cells slots Q (F0 m (pc + 1) ls1 rest)) : W p l e R s m args below meth c H locs cells slots Q (F0 m pc ls (.long x :: rest)) :=
  lv_lstore_n C.1.1 C.1.2.1 hd rfl hl hn he kk
theorem r_lstore (C : Cx g p m c cc nL s args own) {k : Nat} {x : Int64} {lv : List (Nat × Value)} (lv1 : List (Nat × Value)) (hd : decode cc pc = .ok (.lstore k, 2)) (hl : lv_has ls nL lv) (hn : k + 1 < nL) (he : (k, Value.long x) :: lv.filter (fun q => !(q.1 == k) && (!(q.1 == k + 1) && !(q.1 + 1 == k && q.2.category == 2))) = lv1) (kk : ∀ ls1 : Array Slot, lv_has ls1 nL lv1 → W p l e R s m args below meth c H locs cells slots Q (F0 m (pc + 2) ls1 rest)) : W p l e R s m args below meth c H locs cells slots Q (F0 m pc ls (.long x :: rest)) :=
  lv_lstore C.1.1 C.1.2.1 hd hl hn he kk
theorem r_astore_n (C : Cx g p m c cc nL s args own) {k : Fin 4} {x : Nat} {lv : List (Nat × Value)} (lv1 : List (Nat × Value)) (hd : decode cc pc = .ok (.astore_n k, 1)) (hl : lv_has ls nL lv) (hn : (k : Nat) < nL) (he : ((k : Nat), Value.ref x) :: lv.filter (fun q => !(q.1 == (k : Nat)) && !(q.1 + 1 == (k : Nat) && q.2.category == 2)) = lv1) (kk : ∀ ls1 : Array Slot, lv_has ls1 nL lv1 → W p l e R s m args below meth c H locs cells slots Q (F0 m (pc + 1) ls1 rest)) : W p l e R s m args below meth c H locs cells slots Q (F0 m pc ls (.ref x :: rest)) :=
  lv_astore_n C.1.1 C.1.2.1 hd rfl hl hn he kk
theorem r_astore (C : Cx g p m c cc nL s args own) {k : Nat} {x : Nat} {lv : List (Nat × Value)} (lv1 : List (Nat × Value)) (hd : decode cc pc = .ok (.astore k, 2)) (hl : lv_has ls nL lv) (hn : k < nL) (he : (k, Value.ref x) :: lv.filter (fun q => !(q.1 == k) && !(q.1 + 1 == k && q.2.category == 2)) = lv1) (kk : ∀ ls1 : Array Slot, lv_has ls1 nL lv1 → W p l e R s m args below meth c H locs cells slots Q (F0 m (pc + 2) ls1 rest)) : W p l e R s m args below meth c H locs cells slots Q (F0 m pc ls (.ref x :: rest)) :=
  lv_astore C.1.1 C.1.2.1 hd hl hn he kk
theorem r_iinc (C : Cx g p m c cc nL s args own) {i : Nat} {n z v : Int} {lv : List (Nat × Value)} (lv1 : List (Nat × Value)) (hd : decode cc pc = .ok (.iinc i n, 3)) (hl : lv_has ls nL lv) (j : Nat) (hj : lv[j]? = some (i, .int (iI z))) (hn : i < nL) (hv : v = z + n) (he : (i, Value.int (iI v)) :: lv.filter (fun q => !(q.1 == i) && !(q.1 + 1 == i && q.2.category == 2)) = lv1) (kk : ∀ ls1 : Array Slot, lv_has ls1 nL lv1 → W p l e R s m args below meth c H locs cells slots Q (F0 m (pc + 3) ls1 rest)) : W p l e R s m args below meth c H locs cells slots Q (F0 m pc ls rest) :=
  lv_iinc C.1.1 C.1.2.1 hd hl (k := j) hj (by subst hv; exact iI_add z n) hn he kk
theorem r_iadd (C : Cx g p m c cc nL s args own) {x y : Int} (hd : decode cc pc = .ok (.iadd, 1)) (k : W p l e R s m args below meth c H locs cells slots Q (F0 m (pc + 1) ls (.int (iI (x + y)) :: rest))) : W p l e R s m args below meth c H locs cells slots Q (F0 m pc ls (.int (iI y) :: .int (iI x) :: rest)) :=
  lv_iadd C.1.1 C.1.2.1 hd (by rw [iI_add x y]; exact k)
theorem r_isub (C : Cx g p m c cc nL s args own) {x y : Int} (hd : decode cc pc = .ok (.isub, 1)) (k : W p l e R s m args below meth c H locs cells slots Q (F0 m (pc + 1) ls (.int (iI (x - y)) :: rest))) : W p l e R s m args below meth c H locs cells slots Q (F0 m pc ls (.int (iI y) :: .int (iI x) :: rest)) :=
  lv_isub C.1.1 C.1.2.1 hd (by rw [iI_sub x y]; exact k)
theorem r_imul (C : Cx g p m c cc nL s args own) {x y : Int} (hd : decode cc pc = .ok (.imul, 1)) (k : W p l e R s m args below meth c H locs cells slots Q (F0 m (pc + 1) ls (.int (iI (x * y)) :: rest))) : W p l e R s m args below meth c H locs cells slots Q (F0 m pc ls (.int (iI y) :: .int (iI x) :: rest)) :=
  lv_imul C.1.1 C.1.2.1 hd (by rw [iI_mul x y]; exact k)
theorem r_ior (C : Cx g p m c cc nL s args own) {x y : Int} (hx : 0 ≤ x) (hy : 0 ≤ y) (hd : decode cc pc = .ok (.ior, 1)) (k : W p l e R s m args below meth c H locs cells slots Q (F0 m (pc + 1) ls (.int (iI (bO x y)) :: rest))) : W p l e R s m args below meth c H locs cells slots Q (F0 m pc ls (.int (iI y) :: .int (iI x) :: rest)) :=
  lv_ior C.1.1 C.1.2.1 hd (by rw [iI_or hx hy]; exact k)
theorem r_iand (C : Cx g p m c cc nL s args own) {x y : Int} (hx : 0 ≤ x) (hy : 0 ≤ y) (hd : decode cc pc = .ok (.iand, 1)) (k : W p l e R s m args below meth c H locs cells slots Q (F0 m (pc + 1) ls (.int (iI (bA x y)) :: rest))) : W p l e R s m args below meth c H locs cells slots Q (F0 m pc ls (.int (iI y) :: .int (iI x) :: rest)) :=
  lv_iand C.1.1 C.1.2.1 hd (by rw [iI_and hx hy]; exact k)
theorem r_iandN (C : Cx g p m c cc nL s args own) {x y : Int} (hx : 0 ≤ x) (hx2 : x < 2147483648) (hy : 0 ≤ y) (hd : decode cc pc = .ok (.iand, 1)) (k : W p l e R s m args below meth c H locs cells slots Q (F0 m (pc + 1) ls (.int (iI (bD x y)) :: rest))) : W p l e R s m args below meth c H locs cells slots Q (F0 m pc ls (.int (iI (-1 - y)) :: .int (iI x) :: rest)) :=
  lv_iand C.1.1 C.1.2.1 hd (by rw [iI_andnot hx hx2 hy]; exact k)
theorem r_inot (C : Cx g p m c cc nL s args own) {x : Int} (hd : decode cc pc = .ok (.ixor, 1)) (k : W p l e R s m args below meth c H locs cells slots Q (F0 m (pc + 1) ls (.int (iI (-1 - x)) :: rest))) : W p l e R s m args below meth c H locs cells slots Q (F0 m pc ls (.int (iI (-1)) :: .int (iI x) :: rest)) :=
  lv_ixor C.1.1 C.1.2.1 hd (by rw [iI_not]; exact k)
theorem r_ishr (C : Cx g p m c cc nL s args own) {x y : Int} (hx : 0 ≤ x) (hx2 : x < 2147483648) (hy : 0 ≤ y) (hy2 : y < 31) (hd : decode cc pc = .ok (.ishr, 1)) (k : W p l e R s m args below meth c H locs cells slots Q (F0 m (pc + 1) ls (.int (iI (x / p2 y)) :: rest))) : W p l e R s m args below meth c H locs cells slots Q (F0 m pc ls (.int (iI y) :: .int (iI x) :: rest)) :=
  lv_ishr C.1.1 C.1.2.1 hd (by rw [iI_shr hx hx2 hy hy2]; exact k)
theorem r_ishl1 (C : Cx g p m c cc nL s args own) {y : Int} (hy : 0 ≤ y) (hy2 : y < 31) (hd : decode cc pc = .ok (.ishl, 1)) (k : W p l e R s m args below meth c H locs cells slots Q (F0 m (pc + 1) ls (.int (iI (p2 y)) :: rest))) : W p l e R s m args below meth c H locs cells slots Q (F0 m pc ls (.int (iI y) :: .int (iI 1) :: rest)) :=
  lv_ishl C.1.1 C.1.2.1 hd (by rw [iI_shl1 hy hy2]; exact k)
theorem r_idiv (C : Cx g p m c cc nL s args own) {x y : Int} (h : 0 ≤ x ∧ x < 2147483648 ∧ 0 < y ∧ y < 2147483648) (hd : decode cc pc = .ok (.idiv, 1)) (k : W p l e R s m args below meth c H locs cells slots Q (F0 m (pc + 1) ls (.int (iI (x / y)) :: rest))) : W p l e R s m args below meth c H locs cells slots Q (F0 m pc ls (.int (iI y) :: .int (iI x) :: rest)) :=
  lv_idiv C.1.1 C.1.2.1 hd (fun q => by rw [← iI_0, iI_eq ⟨by omega, by omega⟩ (by decide)] at q; omega) (by rw [iI_div h.1 h.2.1 h.2.2.1 h.2.2.2]; exact k)
theorem r_irem (C : Cx g p m c cc nL s args own) {x y : Int} (h : 0 ≤ x ∧ x < 2147483648 ∧ 0 < y ∧ y < 2147483648) (hd : decode cc pc = .ok (.irem, 1)) (k : W p l e R s m args below meth c H locs cells slots Q (F0 m (pc + 1) ls (.int (iI (x % y)) :: rest))) : W p l e R s m args below meth c H locs cells slots Q (F0 m pc ls (.int (iI y) :: .int (iI x) :: rest)) :=
  lv_irem C.1.1 C.1.2.1 hd (fun q => by rw [← iI_0, iI_eq ⟨by omega, by omega⟩ (by decide)] at q; omega) (by rw [iI_rem h.1 h.2.1 h.2.2.1 h.2.2.2]; exact k)
theorem r_ladd (C : Cx g p m c cc nL s args own) {x y : Int} (hd : decode cc pc = .ok (.ladd, 1)) (k : W p l e R s m args below meth c H locs cells slots Q (F0 m (pc + 1) ls (.long (lI (x + y)) :: rest))) : W p l e R s m args below meth c H locs cells slots Q (F0 m pc ls (.long (lI y) :: .long (lI x) :: rest)) :=
  lv_ladd C.1.1 C.1.2.1 hd (by rw [lI_add]; exact k)
theorem r_lmul (C : Cx g p m c cc nL s args own) {x y : Int} (hd : decode cc pc = .ok (.lmul, 1)) (k : W p l e R s m args below meth c H locs cells slots Q (F0 m (pc + 1) ls (.long (lI (x * y)) :: rest))) : W p l e R s m args below meth c H locs cells slots Q (F0 m pc ls (.long (lI y) :: .long (lI x) :: rest)) :=
  lv_lmul C.1.1 C.1.2.1 hd (by rw [lI_mul]; exact k)
theorem r_i2l (C : Cx g p m c cc nL s args own) {x : Int} (hx : rg x) (hd : decode cc pc = .ok (.i2l, 1)) (k : W p l e R s m args below meth c H locs cells slots Q (F0 m (pc + 1) ls (.long (lI x) :: rest))) : W p l e R s m args below meth c H locs cells slots Q (F0 m pc ls (.int (iI x) :: rest)) :=
  lv_i2l C.1.1 C.1.2.1 hd (lI_i hx) k
theorem r_ldc2 (C : Cx g p m c cc nL s args own) {idx : Nat} {v : Int64} (hc : Cond.constantLong own idx v ∈ TT) (hd : decode cc pc = .ok (.ldc2_w idx, 3)) (k : W p l e R s m args below meth c H locs cells slots Q (F0 m (pc + 3) ls (.long v :: rest))) : W p l e R s m args below meth c H locs cells slots Q (F0 m pc ls rest) :=
  lv_ldc2 C.1.1 C.1.2.1 C.1.2.2.2.1 (C.1.2.2.2.2 _ hc) hd k
theorem r_dup (C : Cx g p m c cc nL s args own) {v : Value} (hv : v.category = 1) (hd : decode cc pc = .ok (.dup, 1)) (k : W p l e R s m args below meth c H locs cells slots Q (F0 m (pc + 1) ls (v :: v :: rest))) : W p l e R s m args below meth c H locs cells slots Q (F0 m pc ls (v :: rest)) :=
  lv_dup C.1.1 C.1.2.1 hd hv k
theorem r_pop (C : Cx g p m c cc nL s args own) {v : Value} (hv : v.category = 1) (hd : decode cc pc = .ok (.pop, 1)) (k : W p l e R s m args below meth c H locs cells slots Q (F0 m (pc + 1) ls rest)) : W p l e R s m args below meth c H locs cells slots Q (F0 m pc ls (v :: rest)) :=
  lv_pop C.1.1 C.1.2.1 hd hv k
theorem r_dup_x1 (C : Cx g p m c cc nL s args own) {v w : Value} (hv : v.category = 1) (hw : w.category = 1) (hd : decode cc pc = .ok (.dup_x1, 1)) (k : W p l e R s m args below meth c H locs cells slots Q (F0 m (pc + 1) ls (v :: w :: v :: rest))) : W p l e R s m args below meth c H locs cells slots Q (F0 m pc ls (v :: w :: rest)) :=
  lv_dup_x1 C.1.1 C.1.2.1 hd hv hw k
theorem r_dup2 (C : Cx g p m c cc nL s args own) {v w : Value} (hv : v.category = 1) (hw : w.category = 1) (hd : decode cc pc = .ok (.dup2, 1)) (k : W p l e R s m args below meth c H locs cells slots Q (F0 m (pc + 1) ls (v :: w :: v :: w :: rest))) : W p l e R s m args below meth c H locs cells slots Q (F0 m pc ls (v :: w :: rest)) :=
  lv_dup2_11 C.1.1 C.1.2.1 hd hv hw k
theorem r_goto (C : Cx g p m c cc nL s args own) {off : Int} (tgt : Nat) (hd : decode cc pc = .ok (.goto off, 3)) (ht : (pc : Int) + off = (tgt : Int)) (k : W p l e R s m args below meth c H locs cells slots Q (F0 m tgt ls rest)) : W p l e R s m args below meth c H locs cells slots Q (F0 m pc ls rest) :=
  lv_goto C.1.1 C.1.2.1 hd ht k
theorem r_icmp_eq (C : Cx g p m c cc nL s args own) {x y off : Int} (tgt : Nat) (hd : decode cc pc = .ok (.if_icmp .eq off, 3)) (ht : (pc : Int) + off = (tgt : Int)) (hx : rg x) (hy : rg y) (kt : x = y → W p l e R s m args below meth c H locs cells slots Q (F0 m tgt ls rest)) (kf : ¬ x = y → W p l e R s m args below meth c H locs cells slots Q (F0 m (pc + 3) ls rest)) : W p l e R s m args below meth c H locs cells slots Q (F0 m pc ls (.int (iI y) :: .int (iI x) :: rest)) :=
  lv_icmp_eq C.1.1 C.1.2.1 hd ht (fun q => kt ((iI_eq hx hy).mp q)) (fun q => kf (fun z => q ((iI_eq hx hy).mpr z)))
theorem r_if_eq (C : Cx g p m c cc nL s args own) {x off : Int} (tgt : Nat) (hd : decode cc pc = .ok (.ifCond .eq off, 3)) (ht : (pc : Int) + off = (tgt : Int)) (hx : rg x) (kt : x = 0 → W p l e R s m args below meth c H locs cells slots Q (F0 m tgt ls rest)) (kf : ¬ x = 0 → W p l e R s m args below meth c H locs cells slots Q (F0 m (pc + 3) ls rest)) : W p l e R s m args below meth c H locs cells slots Q (F0 m pc ls (.int (iI x) :: rest)) :=
  lv_if_eq C.1.1 C.1.2.1 hd ht (fun q => kt ((iI_eq hx (by decide : rg 0)).mp q)) (fun q => kf (fun z => q ((iI_eq hx (by decide : rg 0)).mpr z)))
theorem r_icmp_ne (C : Cx g p m c cc nL s args own) {x y off : Int} (tgt : Nat) (hd : decode cc pc = .ok (.if_icmp .ne off, 3)) (ht : (pc : Int) + off = (tgt : Int)) (hx : rg x) (hy : rg y) (kt : ¬ x = y → W p l e R s m args below meth c H locs cells slots Q (F0 m tgt ls rest)) (kf : x = y → W p l e R s m args below meth c H locs cells slots Q (F0 m (pc + 3) ls rest)) : W p l e R s m args below meth c H locs cells slots Q (F0 m pc ls (.int (iI y) :: .int (iI x) :: rest)) :=
  lv_icmp_ne C.1.1 C.1.2.1 hd ht (fun q => kt ((not_congr (iI_eq hx hy)).mp q)) (fun q => kf ((iI_eq hx hy).mp q))
theorem r_if_ne (C : Cx g p m c cc nL s args own) {x off : Int} (tgt : Nat) (hd : decode cc pc = .ok (.ifCond .ne off, 3)) (ht : (pc : Int) + off = (tgt : Int)) (hx : rg x) (kt : ¬ x = 0 → W p l e R s m args below meth c H locs cells slots Q (F0 m tgt ls rest)) (kf : x = 0 → W p l e R s m args below meth c H locs cells slots Q (F0 m (pc + 3) ls rest)) : W p l e R s m args below meth c H locs cells slots Q (F0 m pc ls (.int (iI x) :: rest)) :=
  lv_if_ne C.1.1 C.1.2.1 hd ht (fun q => kt ((not_congr (iI_eq hx (by decide : rg 0))).mp q)) (fun q => kf ((iI_eq hx (by decide : rg 0)).mp q))
theorem r_icmp_lt (C : Cx g p m c cc nL s args own) {x y off : Int} (tgt : Nat) (hd : decode cc pc = .ok (.if_icmp .lt off, 3)) (ht : (pc : Int) + off = (tgt : Int)) (hx : rg x) (hy : rg y) (kt : x < y → W p l e R s m args below meth c H locs cells slots Q (F0 m tgt ls rest)) (kf : ¬ x < y → W p l e R s m args below meth c H locs cells slots Q (F0 m (pc + 3) ls rest)) : W p l e R s m args below meth c H locs cells slots Q (F0 m pc ls (.int (iI y) :: .int (iI x) :: rest)) :=
  lv_icmp_lt C.1.1 C.1.2.1 hd ht (fun q => kt ((iI_lt hx hy).mp q)) (fun q => kf (fun z => q ((iI_lt hx hy).mpr z)))
theorem r_if_lt (C : Cx g p m c cc nL s args own) {x off : Int} (tgt : Nat) (hd : decode cc pc = .ok (.ifCond .lt off, 3)) (ht : (pc : Int) + off = (tgt : Int)) (hx : rg x) (kt : x < 0 → W p l e R s m args below meth c H locs cells slots Q (F0 m tgt ls rest)) (kf : ¬ x < 0 → W p l e R s m args below meth c H locs cells slots Q (F0 m (pc + 3) ls rest)) : W p l e R s m args below meth c H locs cells slots Q (F0 m pc ls (.int (iI x) :: rest)) :=
  lv_if_lt C.1.1 C.1.2.1 hd ht (fun q => kt ((iI_lt hx (by decide : rg 0)).mp q)) (fun q => kf (fun z => q ((iI_lt hx (by decide : rg 0)).mpr z)))
theorem r_icmp_ge (C : Cx g p m c cc nL s args own) {x y off : Int} (tgt : Nat) (hd : decode cc pc = .ok (.if_icmp .ge off, 3)) (ht : (pc : Int) + off = (tgt : Int)) (hx : rg x) (hy : rg y) (kt : y ≤ x → W p l e R s m args below meth c H locs cells slots Q (F0 m tgt ls rest)) (kf : ¬ y ≤ x → W p l e R s m args below meth c H locs cells slots Q (F0 m (pc + 3) ls rest)) : W p l e R s m args below meth c H locs cells slots Q (F0 m pc ls (.int (iI y) :: .int (iI x) :: rest)) :=
  lv_icmp_ge C.1.1 C.1.2.1 hd ht (fun q => kt ((iI_le hy hx).mp q)) (fun q => kf (fun z => q ((iI_le hy hx).mpr z)))
theorem r_if_ge (C : Cx g p m c cc nL s args own) {x off : Int} (tgt : Nat) (hd : decode cc pc = .ok (.ifCond .ge off, 3)) (ht : (pc : Int) + off = (tgt : Int)) (hx : rg x) (kt : 0 ≤ x → W p l e R s m args below meth c H locs cells slots Q (F0 m tgt ls rest)) (kf : ¬ 0 ≤ x → W p l e R s m args below meth c H locs cells slots Q (F0 m (pc + 3) ls rest)) : W p l e R s m args below meth c H locs cells slots Q (F0 m pc ls (.int (iI x) :: rest)) :=
  lv_if_ge C.1.1 C.1.2.1 hd ht (fun q => kt ((iI_le (by decide : rg 0) hx).mp q)) (fun q => kf (fun z => q ((iI_le (by decide : rg 0) hx).mpr z)))
theorem r_icmp_gt (C : Cx g p m c cc nL s args own) {x y off : Int} (tgt : Nat) (hd : decode cc pc = .ok (.if_icmp .gt off, 3)) (ht : (pc : Int) + off = (tgt : Int)) (hx : rg x) (hy : rg y) (kt : y < x → W p l e R s m args below meth c H locs cells slots Q (F0 m tgt ls rest)) (kf : ¬ y < x → W p l e R s m args below meth c H locs cells slots Q (F0 m (pc + 3) ls rest)) : W p l e R s m args below meth c H locs cells slots Q (F0 m pc ls (.int (iI y) :: .int (iI x) :: rest)) :=
  lv_icmp_gt C.1.1 C.1.2.1 hd ht (fun q => kt ((iI_lt hy hx).mp q)) (fun q => kf (fun z => q ((iI_lt hy hx).mpr z)))
theorem r_if_gt (C : Cx g p m c cc nL s args own) {x off : Int} (tgt : Nat) (hd : decode cc pc = .ok (.ifCond .gt off, 3)) (ht : (pc : Int) + off = (tgt : Int)) (hx : rg x) (kt : 0 < x → W p l e R s m args below meth c H locs cells slots Q (F0 m tgt ls rest)) (kf : ¬ 0 < x → W p l e R s m args below meth c H locs cells slots Q (F0 m (pc + 3) ls rest)) : W p l e R s m args below meth c H locs cells slots Q (F0 m pc ls (.int (iI x) :: rest)) :=
  lv_if_gt C.1.1 C.1.2.1 hd ht (fun q => kt ((iI_lt (by decide : rg 0) hx).mp q)) (fun q => kf (fun z => q ((iI_lt (by decide : rg 0) hx).mpr z)))
theorem r_icmp_le (C : Cx g p m c cc nL s args own) {x y off : Int} (tgt : Nat) (hd : decode cc pc = .ok (.if_icmp .le off, 3)) (ht : (pc : Int) + off = (tgt : Int)) (hx : rg x) (hy : rg y) (kt : x ≤ y → W p l e R s m args below meth c H locs cells slots Q (F0 m tgt ls rest)) (kf : ¬ x ≤ y → W p l e R s m args below meth c H locs cells slots Q (F0 m (pc + 3) ls rest)) : W p l e R s m args below meth c H locs cells slots Q (F0 m pc ls (.int (iI y) :: .int (iI x) :: rest)) :=
  lv_icmp_le C.1.1 C.1.2.1 hd ht (fun q => kt ((iI_le hx hy).mp q)) (fun q => kf (fun z => q ((iI_le hx hy).mpr z)))
theorem r_if_le (C : Cx g p m c cc nL s args own) {x off : Int} (tgt : Nat) (hd : decode cc pc = .ok (.ifCond .le off, 3)) (ht : (pc : Int) + off = (tgt : Int)) (hx : rg x) (kt : x ≤ 0 → W p l e R s m args below meth c H locs cells slots Q (F0 m tgt ls rest)) (kf : ¬ x ≤ 0 → W p l e R s m args below meth c H locs cells slots Q (F0 m (pc + 3) ls rest)) : W p l e R s m args below meth c H locs cells slots Q (F0 m pc ls (.int (iI x) :: rest)) :=
  lv_if_le C.1.1 C.1.2.1 hd ht (fun q => kt ((iI_le hx (by decide : rg 0)).mp q)) (fun q => kf (fun z => q ((iI_le hx (by decide : rg 0)).mpr z)))
theorem bI_rg (d : Prop) [Decidable d] : rg (bI d) := by rcases bI_r d with h | h <;> rw [h] <;> decide
theorem r_ifb_eq (C : Cx g p m c cc nL s args own) {d : Prop} [Decidable d] {off : Int} (tgt : Nat) (hd : decode cc pc = .ok (.ifCond .eq off, 3)) (ht : (pc : Int) + off = (tgt : Int)) (kt : ¬ d → W p l e R s m args below meth c H locs cells slots Q (F0 m tgt ls rest)) (kf : d → W p l e R s m args below meth c H locs cells slots Q (F0 m (pc + 3) ls rest)) : W p l e R s m args below meth c H locs cells slots Q (F0 m pc ls (.int (iI (bI d)) :: rest)) := by
  refine r_if_eq C tgt hd ht (bI_rg d) (fun q => kt ?_) (fun q => kf ?_)
  · by_cases h : d <;> simp_all [bI]
  · by_cases h : d <;> simp_all [bI]
theorem r_ifb_ne (C : Cx g p m c cc nL s args own) {d : Prop} [Decidable d] {off : Int} (tgt : Nat) (hd : decode cc pc = .ok (.ifCond .ne off, 3)) (ht : (pc : Int) + off = (tgt : Int)) (kt : d → W p l e R s m args below meth c H locs cells slots Q (F0 m tgt ls rest)) (kf : ¬ d → W p l e R s m args below meth c H locs cells slots Q (F0 m (pc + 3) ls rest)) : W p l e R s m args below meth c H locs cells slots Q (F0 m pc ls (.int (iI (bI d)) :: rest)) := by
  refine r_if_ne C tgt hd ht (bI_rg d) (fun q => kt ?_) (fun q => kf ?_)
  · by_cases h : d <;> simp_all [bI]
  · by_cases h : d <;> simp_all [bI]
theorem r_tableIn (C : Cx g p m c cc nL s args own) {dflt lo hi : Int} {offs : Array Int} {len : Nat} {x off : Int} (tgt : Nat) (hd : decode cc pc = .ok (.tableswitch dflt lo hi offs, len)) (hx : rg x) (h : lo ≤ x ∧ x ≤ hi) (ho : offs[(x - lo).toNat]? = some off) (ht : (pc : Int) + off = (tgt : Int)) (k : W p l e R s m args below meth c H locs cells slots Q (F0 m tgt ls rest)) : W p l e R s m args below meth c H locs cells slots Q (F0 m pc ls (.int (iI x) :: rest)) :=
  lv_tableIn C.1.1 C.1.2.1 hd (by rw [iI_toInt hx]; omega) (by rw [iI_toInt hx]; omega) (by rw [iI_toInt hx]; exact ho) ht k
theorem r_tableOut (C : Cx g p m c cc nL s args own) {dflt lo hi : Int} {offs : Array Int} {len : Nat} {x : Int} (tgt : Nat) (hd : decode cc pc = .ok (.tableswitch dflt lo hi offs, len)) (hx : rg x) (h : x < lo ∨ hi < x) (ht : (pc : Int) + dflt = (tgt : Int)) (k : W p l e R s m args below meth c H locs cells slots Q (F0 m tgt ls rest)) : W p l e R s m args below meth c H locs cells slots Q (F0 m pc ls (.int (iI x) :: rest)) :=
  lv_tableOut C.1.1 C.1.2.1 hd (by rw [iI_toInt hx]; exact h) ht k
theorem r_lookup (C : Cx g p m c cc nL s args own) {dflt : Int} {ps : Array (Int × Int)} {len : Nat} {x off : Int} (tgt : Nat) (hd : decode cc pc = .ok (.lookupswitch dflt ps, len)) (hp : (ps.toList.zip (ps.toList.drop 1)).all (fun (a, next) => a.1 < next.1) = true) (hx : rg x) (ho : Op.lookupswitch.offset ps.toList dflt x = off) (ht : (pc : Int) + off = (tgt : Int)) (k : W p l e R s m args below meth c H locs cells slots Q (F0 m tgt ls rest)) : W p l e R s m args below meth c H locs cells slots Q (F0 m pc ls (.int (iI x) :: rest)) :=
  lv_lookup C.1.1 C.1.2.1 hd hp (by rw [iI_toInt hx]; exact ho) ht k
theorem r_get (C : Cx g p m c cc nL s args own) {idx ci f : Nat} (F : FL own idx ci f) (hP : va_P g.1 vwCl ws H) (q0 : Nat) {fs : List Value} (he : ws[q0]? = some (a, .inr (ci, fs))) {v : Value} (hv : fs[f]? = some v) (hd : decode cc pc = .ok (.getfield idx, 3)) (kk : W p l e R s m args below meth c H locs cells slots Q (F0 m (pc + 3) ls (v :: rest))) : W p l e R s m args below meth c H locs cells slots Q (F0 m pc ls (.ref a :: rest)) :=
  by
  obtain ⟨Cn, T, N, ty, h1, h2, h3, h4, h5, h6⟩ := F
  exact va_get C.1.1 C.1.2.1 C.1.2.2.2.2 h3 C.1.2.2.2.1 C.2.1 hP q0 he h1 f h2 (C.1.2.2.2.2 _ h4) (fun _ h9 => h9) hv hd kk
theorem r_put (C : Cx g p m c cc nL s args own) {idx ci f : Nat} {ty : FieldType} (F : FL own idx ci f) (G : FP ci f ty) (hW : HW g A H0 ws H locs) (ws1 : va_W) (q0 : Nat) {fs : List Value} (he : ws[q0]? = some (a, .inr (ci, fs))) {v : Value} (hn : narrow ty v = v) (hf : fits ty v = true) (hl : f < fs.length) (hs : ws.set q0 (a, .inr (ci, fs.set f v)) = ws1) (hd : decode cc pc = .ok (.putfield idx, 3)) (kk : ∀ (H1 : Heap) (locs1 : List Loc), HW g A H0 ws1 H1 locs1 → W p l e R s m args below meth c H1 locs1 cells slots Q (F0 m (pc + 3) ls rest)) : W p l e R s m args below meth c H locs cells slots Q (F0 m pc ls (v :: .ref a :: rest)) :=
  by
  obtain ⟨Cn, T, N, ty0, h1, h2, h3, h4, h5, h6⟩ := F
  subst hs
  exact va_put C.1.1 C.1.2.1 C.1.2.2.2.2 h3 ty0 h5 h6 C.1.2.2.2.1 C.2.1 hW.1 hW.2.1 hW.2.2 q0 he h1 f h2 (C.1.2.2.2.2 _ h4) (fun _ h9 => h9) (G _ _ _ h1).1 (G _ _ _ h1).2 hn hf hl hd (fun H1 locs1 x y z => kk H1 locs1 ⟨x, y, z⟩)
theorem r_iald (C : Cx g p m c cc nL s args own) (hP : va_P g.1 vwCl ws H) (q0 : Nat) {n : Nat} {f : Int → Int} (ha : ws[q0]? = some (a, .inl (g.2.1, n, .inl (iA f)))) (hn : n < 2147483648) {i : Int} (hi : 0 ≤ i ∧ i < n) (hd : decode cc pc = .ok (.iaload, 1)) (kk : W p l e R s m args below meth c H locs cells slots Q (F0 m (pc + 1) ls (.int (iI (f i)) :: rest))) : W p l e R s m args below meth c H locs cells slots Q (F0 m pc ls (.int (iI i) :: .ref a :: rest)) :=
  va_iald C.1.1 C.1.2.1 C.2.1 hP q0 0 ha rfl (iI_in hi.1 hi.2 hn) hd (by rw [iA_at f hi.1 (by omega)]; exact kk)
theorem r_lald (C : Cx g p m c cc nL s args own) (hP : va_P g.1 vwCl ws H) (q0 : Nat) {n : Nat} {f : Int → Int64} (ha : ws[q0]? = some (a, .inl (g.2.2.1, n, .inr (.inl (lA f))))) (hn : n < 2147483648) {i : Int} (hi : 0 ≤ i ∧ i < n) (hd : decode cc pc = .ok (.laload, 1)) (kk : W p l e R s m args below meth c H locs cells slots Q (F0 m (pc + 1) ls (.long (f i) :: rest))) : W p l e R s m args below meth c H locs cells slots Q (F0 m pc ls (.int (iI i) :: .ref a :: rest)) :=
  va_lald C.1.1 C.1.2.1 C.2.1 hP q0 1 ha rfl (iI_in hi.1 hi.2 hn) hd (by rw [lA_at f hi.1 (by omega)]; exact kk)
theorem r_iast (C : Cx g p m c cc nL s args own) (hW : HW g A H0 ws H locs) (ws1 : va_W) (q0 : Nat) {n : Nat} {f : Int → Int} (ha : ws[q0]? = some (a, .inl (g.2.1, n, .inl (iA f)))) (hn : n < 2147483648) {i v : Int} (hi : 0 ≤ i ∧ i < n) (hs : ws.set q0 (a, .inl (g.2.1, n, .inl (iA (up f i v)))) = ws1) (hd : decode cc pc = .ok (.iastore, 1)) (kk : ∀ (H1 : Heap) (locs1 : List Loc), HW g A H0 ws1 H1 locs1 → W p l e R s m args below meth c H1 locs1 cells slots Q (F0 m (pc + 1) ls rest)) : W p l e R s m args below meth c H locs cells slots Q (F0 m pc ls (.int (iI v) :: .int (iI i) :: .ref a :: rest)) :=
  va_iast C.1.1 C.1.2.1 C.2.1 hW.1 hW.2.1 hW.2.2 q0 0 ha rfl (iI_in hi.1 hi.2 hn) hd (fun H1 locs1 x y z => kk H1 locs1 (by subst hs; rw [iA_up f v hi.1 (by omega)] at x y; exact ⟨x, y, z⟩))
theorem r_last (C : Cx g p m c cc nL s args own) (hW : HW g A H0 ws H locs) (ws1 : va_W) (q0 : Nat) {n : Nat} {f : Int → Int64} (ha : ws[q0]? = some (a, .inl (g.2.2.1, n, .inr (.inl (lA f))))) (hn : n < 2147483648) {i : Int} {v : Int64} (hi : 0 ≤ i ∧ i < n) (hs : ws.set q0 (a, .inl (g.2.2.1, n, .inr (.inl (lA (up f i v))))) = ws1) (hd : decode cc pc = .ok (.lastore, 1)) (kk : ∀ (H1 : Heap) (locs1 : List Loc), HW g A H0 ws1 H1 locs1 → W p l e R s m args below meth c H1 locs1 cells slots Q (F0 m (pc + 1) ls rest)) : W p l e R s m args below meth c H locs cells slots Q (F0 m pc ls (.long v :: .int (iI i) :: .ref a :: rest)) :=
  va_last C.1.1 C.1.2.1 C.2.1 hW.1 hW.2.1 hW.2.2 q0 1 ha rfl (iI_in hi.1 hi.2 hn) hd (fun H1 locs1 x y z => kk H1 locs1 (by subst hs; rw [lA_up f v hi.1 (by omega)] at x y; exact ⟨x, y, z⟩))
theorem r_aald (C : Cx g p m c cc nL s args own) (hP : va_P g.1 vwCl ws H) (q0 : Nat) {n : Nat} {f : Nat → Option Nat} (ha : ws[q0]? = some (a, .inl (g.2.2.2, n, .inr (.inr (.inr (.inr f)))))) (hn : n < 2147483648) {i : Int} {b : Nat} (hi : 0 ≤ i ∧ i < n) (hb : f i.toNat = some b) (hd : decode cc pc = .ok (.aaload, 1)) (kk : W p l e R s m args below meth c H locs cells slots Q (F0 m (pc + 1) ls (.ref b :: rest))) : W p l e R s m args below meth c H locs cells slots Q (F0 m pc ls (.int (iI i) :: .ref a :: rest)) :=
  va_aldq C.1.1 C.1.2.1 C.2.1 hP q0 2 ha rfl (iI_in hi.1 hi.2 hn) hd (by rw [iI_clamp hi.1 (by omega), hb]; exact kk)
theorem r_min (C : Cx g p m c cc nL s args own) {idx : Nat} {x y : Int} (hls : ls.size = nL) (h1 : Cond.methodLink own idx Lib.Math.min.name ∈ TT) (h2 : Cond.static Lib.Math.min.name ∈ TT) (h3 : Cond.initialized "java/lang/Math" ∈ TT) (h4 : Cond.code Lib.Math.min.name Lib.Math.min.code 2 (some .int) ∈ TT) (hfr : 1 ≤ R.frames) (hlo : (rest.map fun v => v.category).sum + 13 ≤ R.locals) (hc : cells ≤ R.cells) (hs : slots ≤ R.slots) (hx : rg x) (hy : rg y) (hd : decode cc pc = .ok (.invokestatic idx, 3)) (k : W p l e R s m args below meth c H locs cells slots Q (F0 m (pc + 3) ls (.int (iI (min x y)) :: rest))) : W p l e R s m args below meth c H locs cells slots Q (F0 m pc ls (.int (iI y) :: .int (iI x) :: rest)) :=
  by
  refine va_mmin C.1.1 C.1.2.1 (C.1.2.2.1.trans hls.symm) C.1.2.2.2.1 (C.1.2.2.2.2 _ h1) (C.1.2.2.2.2 _ h2) (C.1.2.2.2.2 _ h3) (C.1.2.2.2.2 _ h4) hfr hlo hc hs hd ?_
  have : (if iI y < iI x then iI y else iI x) = iI (min x y) := by
    by_cases h : y < x
    · rw [if_pos ((iI_lt hy hx).mpr h)]; congr 1; omega
    · rw [if_neg (fun q => h ((iI_lt hy hx).mp q))]; congr 1; omega
  rw [this]; exact k
end RO
end
section
/-! contracts. MR: reads alone; MW: writes its world's cells, makes none. Rooms: fr frames, lo words -/
abbrev rmm (fr lo : Nat) : Room := { frames := fr, cells := 0, slots := 0, locals := lo }
def QR (r : Value) : Array Value → State → Outcome → State → Prop := fun _ st o t => o = .returned (some r) ∧ t.heap = st.heap
def MR (l : Launch) (g : GG) (y : MethodName) (cc : ByteArray) (nL : Nat) (ret : Option FieldType) (fr lo : Nat) (as : List Value) (ws : va_W) (r : Value) : Prop :=
  Met l y (.code y cc nL ret :: TT) (rmm fr lo) (va_Pc as (fun U => KK g U ∧ va_P g.1 vwCl ws U.heap)) (QR r) 0 0 (fun _ => False)
def QW (g : GG) (ws ws1 : va_W) (sz : Nat) (r : Option Value) : Array Value → State → Outcome → State → Prop := fun _ st o t => o = .returned r ∧ va_P g.1 vwCl ws1 t.heap ∧ va_F (va_A ws sz) st t
def MW (l : Launch) (g : GG) (y : MethodName) (cc : ByteArray) (nL : Nat) (ret : Option FieldType) (fr lo : Nat) (as : List Value) (ws ws1 : va_W) (r : Option Value) : Prop :=
  ∀ sz : Nat, Met l y (.code y cc nL ret :: TT) (rmm fr lo) (va_Pc as (fun U => U.heap.size = sz ∧ KK g U ∧ va_P g.1 vwCl ws U.heap ∧ va_D (fun _ => True) ws)) (QW g ws ws1 sz r) 0 0 (va_A ws sz)
theorem GoodIn_TT {w : Cond} (h : w ∈ TT) : (w.onTables && w.keeps) = true ∨ ∃ ty, w = .arrayClass ty := good_of_word (List.mem_filter.mp h).2
theorem GoodIn_c {y : MethodName} {cc : ByteArray} {nL : Nat} {ret : Option FieldType} (h : Cond.code y cc nL ret ∈ TT) : GoodIn TT (.code y cc nL ret :: TT) := fun w hw => by
  rcases List.mem_cons.mp hw with rfl | hw
  · exact ⟨h, GoodIn_TT h⟩
  · exact ⟨hw, GoodIn_TT hw⟩
/-- an instance method by its entry in the caller's pool -/
def VL (own : String) (idx : Nat) (y : MethodName) (cc : ByteArray) (nL : Nat) (ret : Option FieldType) (n : Nat) : Prop := Cond.methodLink own idx y ∈ TT ∧ Cond.instanceMethod y ∈ TT ∧ Cond.selects y.cls y y ∈ TT ∧ Cond.initialized y.cls ∈ TT ∧ Cond.code y cc nL ret ∈ TT ∧ y.cls ≠ "java/lang/invoke/MethodHandle" ∧ y.cls ≠ "java/lang/invoke/VarHandle" ∧ (parseMethodDescriptor y.desc).map (fun d => d.parameters.length) = some n
/-- a static method of the same class -/
def SL (own : String) (idx : Nat) (y : MethodName) (cc : ByteArray) (nL : Nat) (ret : Option FieldType) (n : Nat) : Prop := Cond.methodLink own idx y ∈ TT ∧ Cond.static y ∈ TT ∧ Cond.initialized own ∈ TT ∧ Cond.code y cc nL ret ∈ TT ∧ y.cls = own ∧ y.cls ≠ "java/lang/invoke/MethodHandle" ∧ y.cls ≠ "java/lang/invoke/VarHandle" ∧ (parseMethodDescriptor y.desc).map (fun d => d.parameters.length) = some n
/-- a private static method of a nest mate -/
def NL (own : String) (idx : Nat) (y : MethodName) (cc : ByteArray) (nL : Nat) (ret : Option FieldType) (n : Nat) : Prop := (∃ host, Cond.methodLinkNest own idx y host ∈ nestW) ∧ Cond.static y ∈ TT ∧ Cond.initialized y.cls ∈ TT ∧ Cond.code y cc nL ret ∈ TT ∧ y.cls ≠ "java/lang/invoke/MethodHandle" ∧ y.cls ≠ "java/lang/invoke/VarHandle" ∧ (parseMethodDescriptor y.desc).map (fun d => d.parameters.length) = some n
theorem va_P_l {D : va_G} {cl : List vw_C} {a b : va_W} {H : Heap} (h : va_P D cl (a ++ b) H) : va_P D cl a H := fun k q hq => h k q (by rw [List.getElem?_append_left (List.getElem?_eq_some_iff.mp hq).1]; exact hq)
theorem va_P_r {D : va_G} {cl : List vw_C} {a b : va_W} {H : Heap} (h : va_P D cl (a ++ b) H) : va_P D cl b H := fun k q hq => h (a.length + k) q (by rw [List.getElem?_append_right (by omega), Nat.add_sub_cancel_left]; exact hq)
theorem va_D_same {A : Nat → Prop} {ws ws1 : va_W} (hm : ws1.map (fun q => q.1) = ws.map (fun q => q.1)) (h : va_D A ws) : va_D A ws1 := by
  have hk : ∀ (k : Nat) (q : Nat × va_E), ws1[k]? = some q → ∃ q' : Nat × va_E, ws[k]? = some q' ∧ q'.1 = q.1 := by
    intro k q hq
    have h1 : (ws1.map (fun q => q.1))[k]? = some q.1 := by rw [List.getElem?_map, hq]; rfl
    rw [hm, List.getElem?_map] at h1
    cases hw : ws[k]? with
    | none => rw [hw] at h1; cases h1
    | some q' => rw [hw] at h1; exact ⟨q', rfl, Option.some.inj h1⟩
  refine ⟨fun i j p q hp hq e => ?_, fun k q hq => ?_⟩
  · obtain ⟨p', h1, e1⟩ := hk i p hp
    obtain ⟨q', h2, e2⟩ := hk j q hq
    exact h.1 i j p' q' h1 h2 (by rw [e1, e2, e])
  · obtain ⟨q', h1, e1⟩ := hk k q hq
    rw [← e1]; exact h.2 k q' h1
theorem HW.sz {g : GG} {A : Nat → Prop} {H0 H : Heap} {ws : va_W} {locs : List Loc} (h : HW g A H0 ws H locs) : H0.size ≤ H.size := h.2.2.1
theorem goodIn_app {big a b : List Cond} (ha : GoodIn big a) (hb : GoodIn big b) : GoodIn big (a ++ b) := fun w h => (List.mem_append.mp h).elim (ha w) (hb w)
theorem pick_fm {α : Type} {f : Nat → Option α} {is : List Nat} {ws : List α} (h : is.map f = ws.map some) : is.filterMap f = ws := by
  have h1 : is.filterMap f = (is.map f).filterMap id := by rw [List.filterMap_map]; rfl
  rw [h1, h]
  simp
section CA
variable {g : GG} {p : Program} {l : Launch} {e : Env} {R : Room} {s : State} {m : MethodId} {args : Array Value} {below : List Frame} {meth : Method} {c : Code} {H H0 : Heap} {locs : List Loc} {cells slots : Nat} {Q : State → Prop} {cc : ByteArray} {nL pc : Nat} {own : String} {ls : Array Slot} {rest : List Value} {A : Nat → Prop} {ws ws1 : va_W} {a : Nat} {y : MethodName} {fr lo : Nat} {as : List Value} {ret : Option FieldType}
theorem MR_start {r : Value} (hy : plainName y.cls = true) (hlen : (lg_sl as).length ≤ nL)
    (k : ∀ (p : Program) (e : Env) (s : State) (m : MethodId) (below : List Frame) (meth : Method) (c : Code), Cx g p m c cc nL s as.toArray y.cls → meth.sig.returnType = ret → meth.locks = false → va_P g.1 vwCl ws s.heap → ∀ ls : Array Slot, lv_has ls nL (lv_args 0 as) → W p l e (rmm fr lo) s m as.toArray below meth c s.heap [] 0 0 (MQ below (QR r) as.toArray s 0 0 (fun _ => False)) (F0 m 0 ls [])) : MR l g y cc nL ret fr lo as ws r := by
  refine Met.ofW (cc := cc) (maxL := nL) (ret := ret) hy rfl ?_
  intro p e s m args below meth c s₁ B hml hv
  obtain ⟨rfl, hK, hP⟩ := hv
  have hts := atoms_spec (ws := .code y cc nL ret :: TT) B.pre
  have hown : s.vm.findClass y.cls = some m.cls := findClass_of_methodNamed B.named
  have hl := lv_entry as (n := nL) hlen
  rw [lg_entry_eq]
  exact k p e s m below meth c ⟨⟨B.exec, B.bytes, hml, hown, fun w hw => hts w (List.mem_cons_of_mem _ hw)⟩, hK⟩ B.returns B.notSynchronized hP _ hl
theorem MW_start {r : Option Value} (hy : plainName y.cls = true) (hlen : (lg_sl as).length ≤ nL)
    (k : ∀ (p : Program) (e : Env) (s : State) (m : MethodId) (below : List Frame) (meth : Method) (c : Code) (A : Nat → Prop), A = va_A ws s.heap.size → Cx g p m c cc nL s as.toArray y.cls → meth.sig.returnType = ret → meth.locks = false → HW g A s.heap ws s.heap [] → ∀ ls : Array Slot, lv_has ls nL (lv_args 0 as) → W p l e (rmm fr lo) s m as.toArray below meth c s.heap [] 0 0 (MQ below (QW g ws ws1 s.heap.size r) as.toArray s 0 0 A) (F0 m 0 ls [])) : MW l g y cc nL ret fr lo as ws ws1 r := by
  intro sz
  refine Met.ofW (cc := cc) (maxL := nL) (ret := ret) hy rfl ?_
  intro p e s m args below meth c s₁ B hml hv
  obtain ⟨rfl, hsz, hK, hP, hD⟩ := hv
  subst hsz
  have hts := atoms_spec (ws := .code y cc nL ret :: TT) B.pre
  have hown : s.vm.findClass y.cls = some m.cls := findClass_of_methodNamed B.named
  have hl := lv_entry as (n := nL) hlen
  rw [lg_entry_eq]
  exact k p e s m below meth c _ rfl ⟨⟨B.exec, B.bytes, hml, hown, fun w hw => hts w (List.mem_cons_of_mem _ hw)⟩, hK⟩ B.returns B.notSynchronized ⟨hP, hD.self, va_S.rf⟩ _ hl
/-! ends -/
theorem MR_iret {v : Int32} {r : Value} (C : Cx g p m c cc nL s args own) (hr : meth.sig.returnType = some .int) (hk : meth.locks = false) (hd : decode cc pc = .ok (.ireturn, 1)) (hv : Value.int v = r) : W p l e R s m args below meth c s.heap [] 0 0 (MQ below (QR r) args s 0 0 (fun _ => False)) (F0 m pc ls [.int v]) := by
  subst hv
  exact W.iret (Qc := QR (.int v)) C.1.1 C.1.2.1 hr (fun t ht _ => ⟨rfl, ht⟩) (fun _ h => by cases h) hd hk
theorem MR_zret {d : Prop} [Decidable d] {r : Value} (C : Cx g p m c cc nL s args own) (hr : meth.sig.returnType = some .boolean) (hk : meth.locks = false) (hd : decode cc pc = .ok (.ireturn, 1)) {v : Int} (hv : v = bI d) (hv2 : Value.int (iI (bI d)) = r) : W p l e R s m args below meth c s.heap [] 0 0 (MQ below (QR r) args s 0 0 (fun _ => False)) (F0 m pc ls [.int (iI v)]) := by
  subst hv; subst hv2
  rcases bI_r d with h | h <;> rw [h] <;> exact W.zret (Qc := QR _) C.1.1 C.1.2.1 hr (by decide) (fun t ht _ => ⟨rfl, ht⟩) (fun _ h => by cases h) hd hk
theorem MR_lret {v : Int64} {r : Value} (C : Cx g p m c cc nL s args own) (hr : meth.sig.returnType = some .long) (hk : meth.locks = false) (hd : decode cc pc = .ok (.lreturn, 1)) (hv : Value.long v = r) : W p l e R s m args below meth c s.heap [] 0 0 (MQ below (QR r) args s 0 0 (fun _ => False)) (F0 m pc ls [.long v]) := by
  subst hv
  exact W.lret (Qc := QR (.long v)) C.1.1 C.1.2.1 hr (fun t ht _ => ⟨rfl, ht⟩) (fun _ h => by cases h) hd hk
theorem MW_iret {v : Int32} {r : Option Value} {ws2 : va_W} (C : Cx g p m c cc nL s args own) (hA : A = va_A ws s.heap.size) (hr : meth.sig.returnType = some .int) (hk : meth.locks = false) (hW : HW g A s.heap ws2 H locs) (hd : decode cc pc = .ok (.ireturn, 1)) (hv : some (Value.int v) = r) (hs : ws2 = ws1) : W p l e R s m args below meth c H locs 0 0 (MQ below (QW g ws ws1 s.heap.size r) args s 0 0 A) (F0 m pc ls [.int v]) := by
  subst hv; subst hs; subst hA
  exact W.iret (Qc := QW _ _ _ _ _) C.1.1 C.1.2.1 hr (fun t ht _ => ⟨rfl, by rw [ht]; exact hW.1, hW.2.2.F ht⟩) hW.2.2.2.2 hd hk
theorem MW_zret {d : Prop} [Decidable d] {r : Option Value} {ws2 : va_W} (C : Cx g p m c cc nL s args own) (hA : A = va_A ws s.heap.size) (hr : meth.sig.returnType = some .boolean) (hk : meth.locks = false) (hW : HW g A s.heap ws2 H locs) (hd : decode cc pc = .ok (.ireturn, 1)) {v : Int} (hv : v = bI d) (hv2 : some (Value.int (iI (bI d))) = r) (hs : ws2 = ws1) : W p l e R s m args below meth c H locs 0 0 (MQ below (QW g ws ws1 s.heap.size r) args s 0 0 A) (F0 m pc ls [.int (iI v)]) := by
  subst hv; subst hv2; subst hs; subst hA
  rcases bI_r d with h | h <;> rw [h] <;> exact W.zret (Qc := QW _ _ _ _ _) C.1.1 C.1.2.1 hr (by decide) (fun t ht _ => ⟨rfl, by rw [ht]; exact hW.1, hW.2.2.F ht⟩) hW.2.2.2.2 hd hk
theorem MW_lret {v : Int64} {r : Option Value} {ws2 : va_W} (C : Cx g p m c cc nL s args own) (hA : A = va_A ws s.heap.size) (hr : meth.sig.returnType = some .long) (hk : meth.locks = false) (hW : HW g A s.heap ws2 H locs) (hd : decode cc pc = .ok (.lreturn, 1)) (hv : some (Value.long v) = r) (hs : ws2 = ws1) : W p l e R s m args below meth c H locs 0 0 (MQ below (QW g ws ws1 s.heap.size r) args s 0 0 A) (F0 m pc ls [.long v]) := by
  subst hv; subst hs; subst hA
  exact W.lret (Qc := QW _ _ _ _ _) C.1.1 C.1.2.1 hr (fun t ht _ => ⟨rfl, by rw [ht]; exact hW.1, hW.2.2.F ht⟩) hW.2.2.2.2 hd hk
theorem MW_vret {r : Option Value} {ws2 : va_W} (C : Cx g p m c cc nL s args own) (hA : A = va_A ws s.heap.size) (hr : meth.sig.returnType = none) (hk : meth.locks = false) (hW : HW g A s.heap ws2 H locs) (hd : decode cc pc = .ok (.return_, 1)) (hv : none = r) (hs : ws2 = ws1) : W p l e R s m args below meth c H locs 0 0 (MQ below (QW g ws ws1 s.heap.size r) args s 0 0 A) (F0 m pc ls []) := by
  subst hv; subst hs; subst hA
  exact W.vret (Qc := QW _ _ _ _ _) C.1.1 C.1.2.1 hr (fun t ht _ => ⟨rfl, by rw [ht]; exact hW.1, hW.2.2.F ht⟩) hW.2.2.2.2 hd hk
theorem MW_aret {v : Nat} {rt : FieldType} {r : Option Value} {ws2 : va_W} (C : Cx g p m c cc nL s args own) (hA : A = va_A ws s.heap.size) (hr : meth.sig.returnType = some rt) (hrt : ∃ n, rt = .object n) (hk : meth.locks = false) (hW : HW g A s.heap ws2 H locs) (hd : decode cc pc = .ok (.areturn, 1)) (hv : some (Value.ref v) = r) (hs : ws2 = ws1) : W p l e R s m args below meth c H locs 0 0 (MQ below (QW g ws ws1 s.heap.size r) args s 0 0 A) (F0 m pc ls [.ref v]) := by
  subst hv; subst hs; subst hA
  exact W.aret (Qc := QW _ _ _ _ _) C.1.1 C.1.2.1 hr (Or.inl hrt) (Or.inr ⟨v, rfl⟩) (fun t ht _ => ⟨rfl, by rw [ht]; exact hW.1, hW.2.2.F ht⟩) hW.2.2.2.2 hd hk
/-! calls -/
theorem blindR {as : List Value} {ws : va_W} : FrameBlind (va_Pc as (fun U => KK g U ∧ va_P g.1 vwCl ws U.heap)) := fun a U f mk q => ⟨q.1, KK.blind f mk a q.2.1, q.2.2⟩
theorem blindW {as : List Value} {ws : va_W} {sz : Nat} : FrameBlind (va_Pc as (fun U => U.heap.size = sz ∧ KK g U ∧ va_P g.1 vwCl ws U.heap ∧ va_D (fun _ => True) ws)) := fun a U f mk q => ⟨q.1, q.2.1, KK.blind f mk a q.2.2.1, q.2.2.2.1, q.2.2.2.2⟩
/-- a call that reads alone leaves the heap as it is -/
theorem runR {st0 : List Value} {r : Value} {av : Array Value} (hr : va_Run p l e R s m args below meth c H locs cells slots 0 0 (F0 m pc ls st0) rest (QR r av) (fun _ => False)) (kk : W p l e R s m args below meth c H locs cells slots Q (F0 m (pc + 3) ls (r :: rest))) : W p l e R s m args below meth c H locs cells slots Q (F0 m pc ls st0) := by
  intro T hT X
  obtain ⟨v, st₀, t, T', L, h0, X', hL, e1, e2, ⟨hv, hh⟩, st⟩ := hr T hT X
  cases hv
  have hL0 : L = [] := by
    cases L with
    | nil => rfl
    | cons q _ => exact absurd (hL q List.mem_cons_self) id
  subst hL0
  rw [List.append_nil] at X'
  obtain ⟨t2, a1, b1⟩ := kk T' (by rw [e1, hh, h0]) X'
  exact ⟨t2, st t2 a1, b1⟩
theorem r_callR {cy : ByteArray} {nL1 idx n b ci : Nat} {As : List Value} {wsc : va_W} {r : Value} {q : vw_C} {fs : List Value} (C : Cx g p m c cc nL s args own) (hls : ls.size = nL) (hM : MR l g y cy nL1 ret fr lo (.ref b :: As) wsc r) (hV : VL own idx y cy nL1 ret n) (hn : As.length = n) (hP : va_P g.1 vwCl wsc H) (q0 : Nat) (he : wsc[q0]? = some (b, .inr (ci, fs))) (hc : vwCl[ci]? = some q) (hq : q.1 = y.cls) (hR : fr + 1 ≤ R.frames ∧ 8 + (nL1 + 11) + lo ≤ R.locals) (hf : cells ≤ R.cells ∧ slots ≤ R.slots) (hrest : (rest.map fun v => v.category).sum ≤ 8) (hd : decode cc pc = .ok (.invokevirtual idx, 3)) {st0 : List Value} (hst : st0 = As.reverse ++ .ref b :: rest)
    (kk : W p l e R s m args below meth c H locs cells slots Q (F0 m (pc + 3) ls (r :: rest))) : W p l e R s m args below meth c H locs cells slots Q (F0 m pc ls st0) := by
  obtain ⟨v1, v2, v3, v4, v5, v6, v7, v8⟩ := hV
  have hin : GoodIn TT (wsV own idx y.cls y (.code y cy nL1 ret :: TT)) := goodIn_app (fun w hw => by
    simp only [List.mem_cons, List.not_mem_nil, or_false] at hw
    rcases hw with rfl | rfl | rfl | rfl
    · exact ⟨v1, GoodIn_TT v1⟩
    · exact ⟨v2, GoodIn_TT v2⟩
    · exact ⟨v3, GoodIn_TT v3⟩
    · exact ⟨v4, GoodIn_TT v4⟩) (GoodIn_c v5)
  refine runR (va_runV (As := As) (rest := rest) C.1 hM (cwV n C.1.2.2.2.2 hin rfl rfl rfl ⟨rfl, v6, v7, v8⟩ ⟨hR.1, hR.2⟩) ⟨blindR, ?_, fun U hU hW => ⟨rfl, KK.moved hW C.2, by rw [hU]; exact hP⟩⟩ rfl hn hls hst (lv_room hrest) hd ⟨hf.1, hf.2⟩) kk
  have := va_recv C.2.1 hP hc he
  rw [hq] at this
  exact this
theorem r_callRS {cy : ByteArray} {nL1 idx n : Nat} {As : List Value} {wsc : va_W} {r : Value} (C : Cx g p m c cc nL s args own) (hls : ls.size = nL) (hM : MR l g y cy nL1 ret fr lo As wsc r) (hV : SL own idx y cy nL1 ret n) (hn : As.length = n) (hP : va_P g.1 vwCl wsc H) (hR : fr + 1 ≤ R.frames ∧ 8 + (nL1 + 11) + lo ≤ R.locals) (hf : cells ≤ R.cells ∧ slots ≤ R.slots) (hrest : (rest.map fun v => v.category).sum ≤ 8) (hd : decode cc pc = .ok (.invokestatic idx, 3)) {st0 : List Value} (hst : st0 = As.reverse ++ rest)
    (kk : W p l e R s m args below meth c H locs cells slots Q (F0 m (pc + 3) ls (r :: rest))) : W p l e R s m args below meth c H locs cells slots Q (F0 m pc ls st0) := by
  obtain ⟨v1, v2, v3, v4, v5, v6, v7, v8⟩ := hV
  have hin : GoodIn TT (wsS own idx y (.code y cy nL1 ret :: TT)) := goodIn_app (fun w hw => by
    simp only [List.mem_cons, List.not_mem_nil, or_false] at hw
    rcases hw with rfl | rfl | rfl
    · exact ⟨v1, GoodIn_TT v1⟩
    · exact ⟨v2, GoodIn_TT v2⟩
    · exact ⟨v3, GoodIn_TT v3⟩) (GoodIn_c v4)
  exact runR (va_runS (As := As) (rest := rest) C.1 hM (cwS n C.1.2.2.2.2 hin rfl rfl rfl ⟨v5, v6, v7, v8⟩ ⟨hR.1, hR.2⟩) ⟨blindR, fun U hU hW => ⟨rfl, KK.moved hW C.2, by rw [hU]; exact hP⟩⟩ rfl hn hls hst (lv_room hrest) hd ⟨hf.1, hf.2⟩) kk
theorem r_callRN {cy : ByteArray} {nL1 idx n : Nat} {As : List Value} {wsc : va_W} {r : Value} (C : Cx g p m c cc nL s args own) (hls : ls.size = nL) (hM : MR l g y cy nL1 ret fr lo As wsc r) (hV : NL own idx y cy nL1 ret n) (hn : As.length = n) (hP : va_P g.1 vwCl wsc H) (hR : fr + 1 ≤ R.frames ∧ 8 + (nL1 + 11) + lo ≤ R.locals) (hf : cells ≤ R.cells ∧ slots ≤ R.slots) (hrest : (rest.map fun v => v.category).sum ≤ 8) (hd : decode cc pc = .ok (.invokestatic idx, 3)) {st0 : List Value} (hst : st0 = As.reverse ++ rest)
    (kk : W p l e R s m args below meth c H locs cells slots Q (F0 m (pc + 3) ls (r :: rest))) : W p l e R s m args below meth c H locs cells slots Q (F0 m pc ls st0) := by
  obtain ⟨⟨host, v1⟩, v2, v3, v4, v6, v7, v8⟩ := hV
  exact runR (va_runSN (As := As) (rest := rest) C.1 hM ⟨va_cnB n C.1.2.2.2.2 (GoodIn_c v4) rfl rfl rfl (C.2.2 _ v1) (C.1.2.2.2.2 _ v3) ⟨v6, v7, v8⟩ ⟨hR.1, hR.2⟩, C.1.2.2.2.2 _ v2, trivial⟩ ⟨blindR, fun U hU hW => ⟨rfl, KK.moved hW C.2, by rw [hU]; exact hP⟩⟩ rfl hn hls hst (lv_room hrest) hd ⟨hf.1, hf.2⟩) kk
/-- a call that writes: its cells are the places isC of the caller's world, the rest isR -/
theorem runW {st0 : List Value} {r : Option Value} {av : Array Value} {wsc wsc1 wr ws2 : va_W} (hW : HW g A H0 ws H locs) (hA : ∀ q, H0.size ≤ q → A q) (isC isR : List Nat) (hC : isC.map (fun i => ws[i]?) = wsc.map some) (hRr : isR.map (fun i => ws[i]?) = wr.map some) (hnd : va_nd isR = true) (hdis : ∀ i ∈ isR, i ∉ isC) (hndC : va_nd isC = true) (hmap : wsc1.map (fun q => q.1) = wsc.map (fun q => q.1)) (isO : List Nat) (hO : isO.map (fun i => (wr ++ wsc1)[i]?) = ws2.map some) (hndO : va_nd isO = true) (hr : va_Run p l e R s m args below meth c H locs cells slots 0 0 (F0 m pc ls st0) rest (QW g wsc wsc1 H.size r av) (va_A wsc H.size)) (kk : ∀ (H1 : Heap) (locs1 : List Loc), HW g A H0 ws2 H1 locs1 → W p l e R s m args below meth c H1 locs1 cells slots Q (F0 m (pc + 3) ls (r.toList ++ rest))) : W p l e R s m args below meth c H locs cells slots Q (F0 m pc ls st0) := by
  have hF := va_free (wc := wsc) hW.2.1 hW.2.2 hA isC hC
  intro T hT X
  obtain ⟨v, st₀, t, T', L, h0, X', hL, e1, e2, ⟨hv, hp, hz, hk⟩, st⟩ := hr T hT X
  cases hv
  rw [h0] at hz hk
  have hD1 : va_D (va_A wsc H.size) wsc1 := va_D_same hmap (va_D.self (A := A) (hW.2.1.sub isC hndC hC))
  obtain ⟨jP, jD⟩ := va_join (wr := wr) (w1 := wsc1) hW.1 hW.2.1 isC isR hC hRr hnd hdis hk hF hp hD1
  have hS1 : va_S A H0 T'.heap (locs ++ L) := ⟨Nat.le_trans hW.2.2.1 (by rw [e1]; exact hz), fun q h1 h2 => by rw [e1, hk q (Nat.lt_of_lt_of_le h1 hW.2.2.1) (fun z => h2 (hF q z))]; exact hW.2.2.2.1 q h1 h2, fun q hq => by
      rcases List.mem_append.mp hq with h | h
      · exact hW.2.2.2.2 q h
      · exact hF _ (hL q h)⟩
  obtain ⟨t2, a1, b1⟩ := kk T'.heap (locs ++ L) ⟨by rw [e1]; exact jP.sub isO (pick_fm hO), jD.sub isO hndO hO, hS1⟩ T' rfl X'
  exact ⟨t2, st t2 a1, b1⟩
theorem r_callW {cy : ByteArray} {nL1 idx n b ci : Nat} {As : List Value} {wsc wsc1 wr ws2 : va_W} {r : Option Value} {q : vw_C} {fs : List Value} (C : Cx g p m c cc nL s args own) (hls : ls.size = nL) (hW : HW g A H0 ws H locs) (hA : ∀ q, H0.size ≤ q → A q) (hM : MW l g y cy nL1 ret fr lo (.ref b :: As) wsc wsc1 r) (hV : VL own idx y cy nL1 ret n) (hn : As.length = n) (isC isR isO : List Nat) (hC : isC.map (fun i => ws[i]?) = wsc.map some) (hRr : isR.map (fun i => ws[i]?) = wr.map some) (hnd : va_nd isR = true ∧ va_nd isC = true ∧ va_nd isO = true) (hdis : ∀ i ∈ isR, i ∉ isC) (hmap : wsc1.map (fun q => q.1) = wsc.map (fun q => q.1)) (hO : isO.map (fun i => (wr ++ wsc1)[i]?) = ws2.map some) (q0 : Nat) (he : wsc[q0]? = some (b, .inr (ci, fs))) (hc : vwCl[ci]? = some q) (hq : q.1 = y.cls) (hR : fr + 1 ≤ R.frames ∧ 8 + (nL1 + 11) + lo ≤ R.locals) (hf : cells ≤ R.cells ∧ slots ≤ R.slots) (hrest : (rest.map fun v => v.category).sum ≤ 8) (hd : decode cc pc = .ok (.invokevirtual idx, 3)) {st0 : List Value} (hst : st0 = As.reverse ++ .ref b :: rest) {st1 : List Value} (hst1 : r.toList ++ rest = st1)
    (kk : ∀ (H1 : Heap) (locs1 : List Loc), HW g A H0 ws2 H1 locs1 → W p l e R s m args below meth c H1 locs1 cells slots Q (F0 m (pc + 3) ls st1)) : W p l e R s m args below meth c H locs cells slots Q (F0 m pc ls st0) := by
  subst hst1
  obtain ⟨v1, v2, v3, v4, v5, v6, v7, v8⟩ := hV
  have hin : GoodIn TT (wsV own idx y.cls y (.code y cy nL1 ret :: TT)) := goodIn_app (fun w hw => by
    simp only [List.mem_cons, List.not_mem_nil, or_false] at hw
    rcases hw with rfl | rfl | rfl | rfl
    · exact ⟨v1, GoodIn_TT v1⟩
    · exact ⟨v2, GoodIn_TT v2⟩
    · exact ⟨v3, GoodIn_TT v3⟩
    · exact ⟨v4, GoodIn_TT v4⟩) (GoodIn_c v5)
  have hPc : va_P g.1 vwCl wsc H := hW.1.sub isC (pick_fm hC)
  have hDc : va_D A wsc := hW.2.1.sub isC hnd.2.1 hC
  refine runW hW hA isC isR hC hRr hnd.1 hdis hnd.2.1 hmap isO hO hnd.2.2 (va_runV (As := As) (rest := rest) C.1 (hM H.size) (cwV n C.1.2.2.2.2 hin rfl rfl rfl ⟨rfl, v6, v7, v8⟩ ⟨hR.1, hR.2⟩) ⟨blindW, ?_, fun U hU hX => ⟨rfl, by rw [hU], KK.moved hX C.2, by rw [hU]; exact hPc, hDc.weaken (fun _ _ _ _ => trivial)⟩⟩ rfl hn hls hst (lv_room hrest) hd ⟨hf.1, hf.2⟩) kk
  have := va_recv C.2.1 hPc hc he
  rw [hq] at this
  exact this
theorem r_tableD (C : Cx g p m c cc nL s args own) {dflt lo hi : Int} {offs : Array Int} {len : Nat} {x : Int} (tgt : Nat) (hd : decode cc pc = .ok (.tableswitch dflt lo hi offs, len)) (hx : rg x) (ht : (pc : Int) + dflt = (tgt : Int)) (ho : lo ≤ x → x ≤ hi → offs[(x - lo).toNat]? = some dflt) (k : W p l e R s m args below meth c H locs cells slots Q (F0 m tgt ls rest)) : W p l e R s m args below meth c H locs cells slots Q (F0 m pc ls (.int (iI x) :: rest)) := by
  by_cases h : x < lo ∨ hi < x
  · exact r_tableOut C tgt hd hx h ht k
  · exact r_tableIn C tgt hd hx (by omega) (ho (by omega) (by omega)) ht k
end CA
theorem iv {a b : Int} (h : a = b) : Value.int (iI a) = Value.int (iI b) := by rw [h]
theorem iw {a b : Int} (h : a = b) : some (Value.int (iI a)) = some (Value.int (iI b)) := by rw [h]
theorem lvv {a b : Int} (h : a = b) : Value.long (lI a) = Value.long (lI b) := by rw [h]
theorem lww {a b : Int} (h : a = b) : some (Value.long (lI a)) = some (Value.long (lI b)) := by rw [h]
end
section
theorem f_X2_11 : FL RX2 11 2 0 := ⟨RX2, TX2, 13, tyX2, rfl, by decide, kl_2, k_25, tyX2_ok, nmX2⟩
theorem f_X4_211 : FL RX4 211 2 0 := ⟨RX2, TX2, 13, tyX2, rfl, by decide, kl_2, k_26, tyX2_ok, nmX2⟩
theorem f_X2_15 : FL RX2 15 2 1 := ⟨RX2, TX2, 13, tyX2, rfl, by decide, kl_2, k_27, tyX2_ok, nmX2⟩
theorem f_X2_19 : FL RX2 19 2 2 := ⟨RX2, TX2, 13, tyX2, rfl, by decide, kl_2, k_28, tyX2_ok, nmX2⟩
theorem f_X2_22 : FL RX2 22 2 3 := ⟨RX2, TX2, 13, tyX2, rfl, by decide, kl_2, k_29, tyX2_ok, nmX2⟩
theorem f_X4_155 : FL RX4 155 2 3 := ⟨RX2, TX2, 13, tyX2, rfl, by decide, kl_2, k_30, tyX2_ok, nmX2⟩
theorem f_X2_25 : FL RX2 25 2 4 := ⟨RX2, TX2, 13, tyX2, rfl, by decide, kl_2, k_31, tyX2_ok, nmX2⟩
theorem f_X4_143 : FL RX4 143 2 4 := ⟨RX2, TX2, 13, tyX2, rfl, by decide, kl_2, k_32, tyX2_ok, nmX2⟩
theorem f_X2_29 : FL RX2 29 2 5 := ⟨RX2, TX2, 13, tyX2, rfl, by decide, kl_2, k_33, tyX2_ok, nmX2⟩
theorem f_X2_32 : FL RX2 32 2 6 := ⟨RX2, TX2, 13, tyX2, rfl, by decide, kl_2, k_34, tyX2_ok, nmX2⟩
theorem f_X2_35 : FL RX2 35 2 7 := ⟨RX2, TX2, 13, tyX2, rfl, by decide, kl_2, k_35, tyX2_ok, nmX2⟩
theorem f_X2_38 : FL RX2 38 2 8 := ⟨RX2, TX2, 13, tyX2, rfl, by decide, kl_2, k_36, tyX2_ok, nmX2⟩
theorem f_X2_41 : FL RX2 41 2 9 := ⟨RX2, TX2, 13, tyX2, rfl, by decide, kl_2, k_37, tyX2_ok, nmX2⟩
theorem f_X4_164 : FL RX4 164 2 9 := ⟨RX2, TX2, 13, tyX2, rfl, by decide, kl_2, k_38, tyX2_ok, nmX2⟩
theorem f_X2_44 : FL RX2 44 2 10 := ⟨RX2, TX2, 13, tyX2, rfl, by decide, kl_2, k_39, tyX2_ok, nmX2⟩
theorem f_X2_47 : FL RX2 47 2 11 := ⟨RX2, TX2, 13, tyX2, rfl, by decide, kl_2, k_40, tyX2_ok, nmX2⟩
theorem f_X2_50 : FL RX2 50 2 12 := ⟨RX2, TX2, 13, tyX2, rfl, by decide, kl_2, k_41, tyX2_ok, nmX2⟩
theorem f_X1_9 : FL RX1 9 1 0 := ⟨RX1, TX1, 2, tyX1, rfl, by decide, kl_1, k_76, tyX1_ok, nmX1⟩
theorem f_X4_215 : FL RX4 215 1 0 := ⟨RX1, TX1, 2, tyX1, rfl, by decide, kl_1, k_77, tyX1_ok, nmX1⟩
theorem f_X1_15 : FL RX1 15 1 1 := ⟨RX1, TX1, 2, tyX1, rfl, by decide, kl_1, k_78, tyX1_ok, nmX1⟩
theorem f_X4_134 : FL RX4 134 1 1 := ⟨RX1, TX1, 2, tyX1, rfl, by decide, kl_1, k_79, tyX1_ok, nmX1⟩
theorem f_X3_9 : FL RX3 9 3 0 := ⟨RX3, TX3, 5, tyX3, rfl, by decide, kl_3, k_91, tyX3_ok, nmX3⟩
theorem f_X4_173 : FL RX4 173 3 0 := ⟨RX3, TX3, 5, tyX3, rfl, by decide, kl_3, k_92, tyX3_ok, nmX3⟩
theorem f_X3_15 : FL RX3 15 3 1 := ⟨RX3, TX3, 5, tyX3, rfl, by decide, kl_3, k_93, tyX3_ok, nmX3⟩
theorem f_X4_179 : FL RX4 179 3 1 := ⟨RX3, TX3, 5, tyX3, rfl, by decide, kl_3, k_94, tyX3_ok, nmX3⟩
theorem f_X3_18 : FL RX3 18 3 2 := ⟨RX3, TX3, 5, tyX3, rfl, by decide, kl_3, k_95, tyX3_ok, nmX3⟩
theorem f_X3_22 : FL RX3 22 3 3 := ⟨RX3, TX3, 5, tyX3, rfl, by decide, kl_3, k_96, tyX3_ok, nmX3⟩
theorem f_X3_25 : FL RX3 25 3 4 := ⟨RX3, TX3, 5, tyX3, rfl, by decide, kl_3, k_97, tyX3_ok, nmX3⟩
theorem f_X0_9 : FL RX0 9 0 0 := ⟨RX0, TX0, 12, tyX0, rfl, by decide, kl_0, k_114, tyX0_ok, nmX0⟩
theorem f_X4_231 : FL RX4 231 0 0 := ⟨RX0, TX0, 12, tyX0, rfl, by decide, kl_0, k_115, tyX0_ok, nmX0⟩
theorem f_X0_15 : FL RX0 15 0 1 := ⟨RX0, TX0, 12, tyX0, rfl, by decide, kl_0, k_116, tyX0_ok, nmX0⟩
theorem f_X4_234 : FL RX4 234 0 1 := ⟨RX0, TX0, 12, tyX0, rfl, by decide, kl_0, k_117, tyX0_ok, nmX0⟩
theorem f_X0_18 : FL RX0 18 0 2 := ⟨RX0, TX0, 12, tyX0, rfl, by decide, kl_0, k_118, tyX0_ok, nmX0⟩
theorem f_X1_28 : FL RX1 28 0 2 := ⟨RX0, TX0, 12, tyX0, rfl, by decide, kl_0, k_119, tyX0_ok, nmX0⟩
theorem f_X2_92 : FL RX2 92 0 2 := ⟨RX0, TX0, 12, tyX0, rfl, by decide, kl_0, k_120, tyX0_ok, nmX0⟩
theorem f_X4_237 : FL RX4 237 0 2 := ⟨RX0, TX0, 12, tyX0, rfl, by decide, kl_0, k_121, tyX0_ok, nmX0⟩
theorem f_X0_21 : FL RX0 21 0 3 := ⟨RX0, TX0, 12, tyX0, rfl, by decide, kl_0, k_122, tyX0_ok, nmX0⟩
theorem f_X1_24 : FL RX1 24 0 3 := ⟨RX0, TX0, 12, tyX0, rfl, by decide, kl_0, k_123, tyX0_ok, nmX0⟩
theorem f_X4_117 : FL RX4 117 0 3 := ⟨RX0, TX0, 12, tyX0, rfl, by decide, kl_0, k_124, tyX0_ok, nmX0⟩
theorem f_X0_24 : FL RX0 24 0 4 := ⟨RX0, TX0, 12, tyX0, rfl, by decide, kl_0, k_125, tyX0_ok, nmX0⟩
theorem f_X1_19 : FL RX1 19 0 4 := ⟨RX0, TX0, 12, tyX0, rfl, by decide, kl_0, k_126, tyX0_ok, nmX0⟩
theorem f_X2_57 : FL RX2 57 0 4 := ⟨RX0, TX0, 12, tyX0, rfl, by decide, kl_0, k_127, tyX0_ok, nmX0⟩
theorem f_X0_28 : FL RX0 28 0 5 := ⟨RX0, TX0, 12, tyX0, rfl, by decide, kl_0, k_128, tyX0_ok, nmX0⟩
theorem f_X1_52 : FL RX1 52 0 5 := ⟨RX0, TX0, 12, tyX0, rfl, by decide, kl_0, k_129, tyX0_ok, nmX0⟩
theorem f_X2_123 : FL RX2 123 0 5 := ⟨RX0, TX0, 12, tyX0, rfl, by decide, kl_0, k_130, tyX0_ok, nmX0⟩
theorem f_X4_146 : FL RX4 146 0 5 := ⟨RX0, TX0, 12, tyX0, rfl, by decide, kl_0, k_131, tyX0_ok, nmX0⟩
theorem f_X0_31 : FL RX0 31 0 6 := ⟨RX0, TX0, 12, tyX0, rfl, by decide, kl_0, k_132, tyX0_ok, nmX0⟩
theorem f_X4_93 : FL RX4 93 0 6 := ⟨RX0, TX0, 12, tyX0, rfl, by decide, kl_0, k_133, tyX0_ok, nmX0⟩
theorem f_X2_130 : FL RX2 130 0 6 := ⟨RX0, TX0, 12, tyX0, rfl, by decide, kl_0, k_134, tyX0_ok, nmX0⟩
theorem f_X0_34 : FL RX0 34 0 7 := ⟨RX0, TX0, 12, tyX0, rfl, by decide, kl_0, k_135, tyX0_ok, nmX0⟩
theorem f_X2_86 : FL RX2 86 0 7 := ⟨RX0, TX0, 12, tyX0, rfl, by decide, kl_0, k_136, tyX0_ok, nmX0⟩
theorem f_X4_97 : FL RX4 97 0 7 := ⟨RX0, TX0, 12, tyX0, rfl, by decide, kl_0, k_137, tyX0_ok, nmX0⟩
theorem f_X0_37 : FL RX0 37 0 8 := ⟨RX0, TX0, 12, tyX0, rfl, by decide, kl_0, k_138, tyX0_ok, nmX0⟩
theorem f_X1_35 : FL RX1 35 0 8 := ⟨RX0, TX0, 12, tyX0, rfl, by decide, kl_0, k_139, tyX0_ok, nmX0⟩
theorem f_X2_95 : FL RX2 95 0 8 := ⟨RX0, TX0, 12, tyX0, rfl, by decide, kl_0, k_140, tyX0_ok, nmX0⟩
theorem f_X4_216 : FL RX4 216 0 8 := ⟨RX0, TX0, 12, tyX0, rfl, by decide, kl_0, k_141, tyX0_ok, nmX0⟩
theorem f_X0_40 : FL RX0 40 0 9 := ⟨RX0, TX0, 12, tyX0, rfl, by decide, kl_0, k_142, tyX0_ok, nmX0⟩
theorem f_X1_38 : FL RX1 38 0 9 := ⟨RX0, TX0, 12, tyX0, rfl, by decide, kl_0, k_143, tyX0_ok, nmX0⟩
theorem f_X2_113 : FL RX2 113 0 9 := ⟨RX0, TX0, 12, tyX0, rfl, by decide, kl_0, k_144, tyX0_ok, nmX0⟩
theorem f_X4_219 : FL RX4 219 0 9 := ⟨RX0, TX0, 12, tyX0, rfl, by decide, kl_0, k_145, tyX0_ok, nmX0⟩
theorem f_X0_43 : FL RX0 43 0 10 := ⟨RX0, TX0, 12, tyX0, rfl, by decide, kl_0, k_146, tyX0_ok, nmX0⟩
theorem f_X1_41 : FL RX1 41 0 10 := ⟨RX0, TX0, 12, tyX0, rfl, by decide, kl_0, k_147, tyX0_ok, nmX0⟩
theorem f_X2_98 : FL RX2 98 0 10 := ⟨RX0, TX0, 12, tyX0, rfl, by decide, kl_0, k_148, tyX0_ok, nmX0⟩
theorem f_X4_140 : FL RX4 140 0 10 := ⟨RX0, TX0, 12, tyX0, rfl, by decide, kl_0, k_149, tyX0_ok, nmX0⟩
theorem f_X0_46 : FL RX0 46 0 11 := ⟨RX0, TX0, 12, tyX0, rfl, by decide, kl_0, k_150, tyX0_ok, nmX0⟩
theorem f_X4_11 : FL RX4 11 4 0 := ⟨RX4, TX4, 9, tyX4, rfl, by decide, kl_4, k_185, tyX4_ok, nmX4⟩
theorem f_X4_15 : FL RX4 15 4 1 := ⟨RX4, TX4, 9, tyX4, rfl, by decide, kl_4, k_186, tyX4_ok, nmX4⟩
theorem f_X4_19 : FL RX4 19 4 2 := ⟨RX4, TX4, 9, tyX4, rfl, by decide, kl_4, k_187, tyX4_ok, nmX4⟩
theorem f_X4_25 : FL RX4 25 4 3 := ⟨RX4, TX4, 9, tyX4, rfl, by decide, kl_4, k_188, tyX4_ok, nmX4⟩
theorem f_X4_32 : FL RX4 32 4 4 := ⟨RX4, TX4, 9, tyX4, rfl, by decide, kl_4, k_189, tyX4_ok, nmX4⟩
theorem f_X4_39 : FL RX4 39 4 5 := ⟨RX4, TX4, 9, tyX4, rfl, by decide, kl_4, k_190, tyX4_ok, nmX4⟩
theorem f_X4_43 : FL RX4 43 4 6 := ⟨RX4, TX4, 9, tyX4, rfl, by decide, kl_4, k_191, tyX4_ok, nmX4⟩
theorem f_X4_46 : FL RX4 46 4 7 := ⟨RX4, TX4, 9, tyX4, rfl, by decide, kl_4, k_192, tyX4_ok, nmX4⟩
theorem f_X4_49 : FL RX4 49 4 8 := ⟨RX4, TX4, 9, tyX4, rfl, by decide, kl_4, k_193, tyX4_ok, nmX4⟩
theorem f_X5_7 : FL RX5 7 5 0 := ⟨RX5, TX5, 27, tyX5, rfl, by decide, kl_5, k_568, tyX5_ok, nmX5⟩
theorem f_X5_13 : FL RX5 13 5 1 := ⟨RX5, TX5, 27, tyX5, rfl, by decide, kl_5, k_569, tyX5_ok, nmX5⟩
theorem f_X5_16 : FL RX5 16 5 2 := ⟨RX5, TX5, 27, tyX5, rfl, by decide, kl_5, k_570, tyX5_ok, nmX5⟩
theorem f_X5_81 : FL RX5 81 5 3 := ⟨RX5, TX5, 27, tyX5, rfl, by decide, kl_5, k_571, tyX5_ok, nmX5⟩
theorem f_X5_19 : FL RX5 19 5 4 := ⟨RX5, TX5, 27, tyX5, rfl, by decide, kl_5, k_572, tyX5_ok, nmX5⟩
theorem f_X5_22 : FL RX5 22 5 5 := ⟨RX5, TX5, 27, tyX5, rfl, by decide, kl_5, k_573, tyX5_ok, nmX5⟩
theorem f_X5_25 : FL RX5 25 5 6 := ⟨RX5, TX5, 27, tyX5, rfl, by decide, kl_5, k_574, tyX5_ok, nmX5⟩
theorem f_X5_28 : FL RX5 28 5 7 := ⟨RX5, TX5, 27, tyX5, rfl, by decide, kl_5, k_575, tyX5_ok, nmX5⟩
theorem f_X5_31 : FL RX5 31 5 8 := ⟨RX5, TX5, 27, tyX5, rfl, by decide, kl_5, k_576, tyX5_ok, nmX5⟩
theorem f_X5_34 : FL RX5 34 5 9 := ⟨RX5, TX5, 27, tyX5, rfl, by decide, kl_5, k_577, tyX5_ok, nmX5⟩
theorem f_X5_155 : FL RX5 155 5 10 := ⟨RX5, TX5, 27, tyX5, rfl, by decide, kl_5, k_578, tyX5_ok, nmX5⟩
theorem f_X5_37 : FL RX5 37 5 11 := ⟨RX5, TX5, 27, tyX5, rfl, by decide, kl_5, k_579, tyX5_ok, nmX5⟩
theorem f_X5_40 : FL RX5 40 5 12 := ⟨RX5, TX5, 27, tyX5, rfl, by decide, kl_5, k_580, tyX5_ok, nmX5⟩
theorem f_X5_43 : FL RX5 43 5 13 := ⟨RX5, TX5, 27, tyX5, rfl, by decide, kl_5, k_581, tyX5_ok, nmX5⟩
theorem f_X5_46 : FL RX5 46 5 14 := ⟨RX5, TX5, 27, tyX5, rfl, by decide, kl_5, k_582, tyX5_ok, nmX5⟩
theorem f_X5_158 : FL RX5 158 5 15 := ⟨RX5, TX5, 27, tyX5, rfl, by decide, kl_5, k_583, tyX5_ok, nmX5⟩
theorem f_X5_77 : FL RX5 77 5 16 := ⟨RX5, TX5, 27, tyX5, rfl, by decide, kl_5, k_584, tyX5_ok, nmX5⟩
theorem f_X5_49 : FL RX5 49 5 17 := ⟨RX5, TX5, 27, tyX5, rfl, by decide, kl_5, k_585, tyX5_ok, nmX5⟩
theorem f_X5_52 : FL RX5 52 5 18 := ⟨RX5, TX5, 27, tyX5, rfl, by decide, kl_5, k_586, tyX5_ok, nmX5⟩
theorem f_X5_212 : FL RX5 212 5 19 := ⟨RX5, TX5, 27, tyX5, rfl, by decide, kl_5, k_587, tyX5_ok, nmX5⟩
theorem f_X5_55 : FL RX5 55 5 20 := ⟨RX5, TX5, 27, tyX5, rfl, by decide, kl_5, k_588, tyX5_ok, nmX5⟩
theorem f_X5_209 : FL RX5 209 5 21 := ⟨RX5, TX5, 27, tyX5, rfl, by decide, kl_5, k_589, tyX5_ok, nmX5⟩
theorem f_X5_58 : FL RX5 58 5 22 := ⟨RX5, TX5, 27, tyX5, rfl, by decide, kl_5, k_590, tyX5_ok, nmX5⟩
theorem f_X5_218 : FL RX5 218 5 23 := ⟨RX5, TX5, 27, tyX5, rfl, by decide, kl_5, k_591, tyX5_ok, nmX5⟩
theorem f_X5_61 : FL RX5 61 5 24 := ⟨RX5, TX5, 27, tyX5, rfl, by decide, kl_5, k_592, tyX5_ok, nmX5⟩
theorem f_X5_236 : FL RX5 236 5 25 := ⟨RX5, TX5, 27, tyX5, rfl, by decide, kl_5, k_593, tyX5_ok, nmX5⟩
theorem f_X5_224 : FL RX5 224 5 26 := ⟨RX5, TX5, 27, tyX5, rfl, by decide, kl_5, k_594, tyX5_ok, nmX5⟩
theorem fp_0_0 : FP 0 0 .int := by
  intro C T N h
  cases h
  exact ⟨rfl, by decide +kernel⟩
theorem fp_0_1 : FP 0 1 .int := by
  intro C T N h
  cases h
  exact ⟨rfl, by decide +kernel⟩
theorem fp_0_2 : FP 0 2 .int := by
  intro C T N h
  cases h
  exact ⟨rfl, by decide +kernel⟩
theorem fp_0_3 : FP 0 3 .int := by
  intro C T N h
  cases h
  exact ⟨rfl, by decide +kernel⟩
theorem fp_1_0 : FP 1 0 .boolean := by
  intro C T N h
  cases h
  exact ⟨rfl, by decide +kernel⟩
theorem fp_2_0 : FP 2 0 .boolean := by
  intro C T N h
  cases h
  exact ⟨rfl, by decide +kernel⟩
theorem fp_2_1 : FP 2 1 .int := by
  intro C T N h
  cases h
  exact ⟨rfl, by decide +kernel⟩
theorem fp_2_2 : FP 2 2 .int := by
  intro C T N h
  cases h
  exact ⟨rfl, by decide +kernel⟩
theorem fp_2_3 : FP 2 3 .int := by
  intro C T N h
  cases h
  exact ⟨rfl, by decide +kernel⟩
theorem fp_2_12 : FP 2 12 .int := by
  intro C T N h
  cases h
  exact ⟨rfl, by decide +kernel⟩
theorem fp_3_0 : FP 3 0 .int := by
  intro C T N h
  cases h
  exact ⟨rfl, by decide +kernel⟩
theorem fp_3_1 : FP 3 1 .int := by
  intro C T N h
  cases h
  exact ⟨rfl, by decide +kernel⟩
theorem fp_3_4 : FP 3 4 .int := by
  intro C T N h
  cases h
  exact ⟨rfl, by decide +kernel⟩
theorem fp_4_1 : FP 4 1 .int := by
  intro C T N h
  cases h
  exact ⟨rfl, by decide +kernel⟩
theorem fp_4_2 : FP 4 2 .int := by
  intro C T N h
  cases h
  exact ⟨rfl, by decide +kernel⟩
theorem fp_4_6 : FP 4 6 .int := by
  intro C T N h
  cases h
  exact ⟨rfl, by decide +kernel⟩
theorem fp_4_7 : FP 4 7 .int := by
  intro C T N h
  cases h
  exact ⟨rfl, by decide +kernel⟩
theorem fp_4_8 : FP 4 8 .int := by
  intro C T N h
  cases h
  exact ⟨rfl, by decide +kernel⟩
theorem fp_5_3 : FP 5 3 .int := by
  intro C T N h
  cases h
  exact ⟨rfl, by decide +kernel⟩
theorem fp_5_10 : FP 5 10 .int := by
  intro C T N h
  cases h
  exact ⟨rfl, by decide +kernel⟩
theorem fp_5_15 : FP 5 15 .int := by
  intro C T N h
  cases h
  exact ⟨rfl, by decide +kernel⟩
theorem fp_5_16 : FP 5 16 .boolean := by
  intro C T N h
  cases h
  exact ⟨rfl, by decide +kernel⟩
theorem fp_5_19 : FP 5 19 .int := by
  intro C T N h
  cases h
  exact ⟨rfl, by decide +kernel⟩
theorem fp_5_21 : FP 5 21 .int := by
  intro C T N h
  cases h
  exact ⟨rfl, by decide +kernel⟩
theorem fp_5_23 : FP 5 23 .int := by
  intro C T N h
  cases h
  exact ⟨rfl, by decide +kernel⟩
theorem fp_5_25 : FP 5 25 .int := by
  intro C T N h
  cases h
  exact ⟨rfl, by decide +kernel⟩
theorem fp_5_26 : FP 5 26 .int := by
  intro C T N h
  cases h
  exact ⟨rfl, by decide +kernel⟩
theorem v_X4_53 : VL RX4 53 yX0_addProc cX0_addProc 1 (some .int) 0 := ⟨k_177, k_178, k_179, k_5, k_180, by decide, by decide, by decide +kernel⟩
theorem v_X0_75 : VL RX0 75 yX0_placeNode cX0_placeNode 3 (some .int) 2 := ⟨k_181, k_183, ks_yX0_placeNode, k_5, k_184, by decide, by decide, by decide +kernel⟩
theorem v_L_13 : VL RL 13 yX4_proc cX4_proc 1 (some .int) 0 := ⟨k_213, k_214, k_215, k_1, k_216, by decide, by decide, by decide +kernel⟩
theorem v_X4_57 : VL RX4 57 yX4_draft cX4_draft 2 (some (.object "MatchedFlows$Program")) 0 := ⟨k_217, k_219, ks_yX4_draft, k_1, k_220, by decide, by decide, by decide +kernel⟩
theorem v_X4_203 : VL RX4 203 yX0_copy cX0_copy 2 none 1 := ⟨k_221, k_222, k_223, k_5, k_224, by decide, by decide, by decide +kernel⟩
theorem v_X4_61 : VL RX4 61 yX4_settled cX4_settled 2 (some .int) 1 := ⟨k_228, k_230, ks_yX4_settled, k_1, k_231, by decide, by decide, by decide +kernel⟩
theorem v_X4_90 : VL RX4 90 yX4_refused cX4_refused 2 (some .int) 1 := ⟨k_232, k_234, ks_yX4_refused, k_1, k_235, by decide, by decide, by decide +kernel⟩
theorem v_X4_185 : VL RX4 185 yX4_moveTo cX4_moveTo 2 none 1 := ⟨k_239, k_241, ks_yX4_moveTo, k_1, k_242, by decide, by decide, by decide +kernel⟩
theorem v_L_18 : VL RL 18 yX4_node cX4_node 2 (some .int) 1 := ⟨k_243, k_244, k_245, k_1, k_246, by decide, by decide, by decide +kernel⟩
theorem v_X4_65 : VL RX4 65 yX0_addNode cX0_addNode 2 (some .int) 1 := ⟨k_247, k_248, k_249, k_5, k_250, by decide, by decide, by decide +kernel⟩
theorem v_X0_79 : VL RX0 79 yX0_isProc cX0_isProc 2 (some .boolean) 1 := ⟨k_251, k_252, k_253, k_5, k_254, by decide, by decide, by decide +kernel⟩
theorem v_L_23 : VL RL 23 yX4_edge cX4_edge 3 (some .int) 2 := ⟨k_255, k_256, k_257, k_1, k_258, by decide, by decide, by decide +kernel⟩
theorem v_X4_68 : VL RX4 68 yX0_addPlain cX0_addPlain 3 (some .int) 2 := ⟨k_259, k_260, k_261, k_5, k_262, by decide, by decide, by decide +kernel⟩
theorem v_X0_82 : VL RX0 82 yX0_joins cX0_joins 3 (some .boolean) 2 := ⟨k_263, k_264, k_265, k_5, k_266, by decide, by decide, by decide +kernel⟩
theorem v_X0_56 : VL RX0 56 yX0_isNode cX0_isNode 2 (some .boolean) 1 := ⟨k_267, k_268, k_269, k_5, k_270, by decide, by decide, by decide +kernel⟩
theorem v_X0_85 : VL RX0 85 yX0_addEdge cX0_addEdge 5 (some .int) 3 := ⟨k_271, k_273, ks_yX0_addEdge, k_5, k_274, by decide, by decide, by decide +kernel⟩
theorem v_L_28 : VL RL 28 yX4_call cX4_call 4 (some .int) 3 := ⟨k_276, k_277, k_278, k_1, k_279, by decide, by decide, by decide +kernel⟩
theorem v_X4_72 : VL RX4 72 yX0_addCall cX0_addCall 4 (some .int) 3 := ⟨k_280, k_281, k_282, k_5, k_283, by decide, by decide, by decide +kernel⟩
theorem v_L_33 : VL RL 33 yX4_flows cX4_flows 5 (some .int) 4 := ⟨k_284, k_285, k_286, k_1, k_287, by decide, by decide, by decide +kernel⟩
theorem v_X4_76 : VL RX4 76 yX0_setFlow cX0_setFlow 9 (some .int) 4 := ⟨k_288, k_289, k_290, k_5, k_291, by decide, by decide, by decide +kernel⟩
theorem v_X0_90 : VL RX0 90 yX0_hasFlow cX0_hasFlow 3 (some .boolean) 2 := ⟨k_292, k_293, k_294, k_5, k_295, by decide, by decide, by decide +kernel⟩
theorem v_X0_60 : VL RX0 60 yX0_isEdge cX0_isEdge 2 (some .boolean) 1 := ⟨k_296, k_297, k_298, k_5, k_299, by decide, by decide, by decide +kernel⟩
theorem v_X0_63 : VL RX0 63 yX0_flowsOf cX0_flowsOf 2 (some .int) 1 := ⟨k_300, k_301, k_302, k_5, k_303, by decide, by decide, by decide +kernel⟩
theorem v_X0_71 : VL RX0 71 yX0_reach cX0_reach 4 (some .int) 3 := ⟨k_313, k_314, k_315, k_5, k_316, by decide, by decide, by decide +kernel⟩
theorem v_L_38 : VL RL 38 yX4_starts cX4_starts 2 (some .int) 1 := ⟨k_319, k_320, k_321, k_1, k_322, by decide, by decide, by decide +kernel⟩
theorem v_X4_80 : VL RX4 80 yX0_setStart cX0_setStart 3 (some .int) 1 := ⟨k_323, k_324, k_325, k_5, k_326, by decide, by decide, by decide +kernel⟩
theorem v_L_42 : VL RL 42 yX4_cuts cX4_cuts 2 (some .int) 1 := ⟨k_327, k_328, k_329, k_1, k_330, by decide, by decide, by decide +kernel⟩
theorem v_X4_83 : VL RX4 83 yX0_cutEdge cX0_cutEdge 4 (some .int) 1 := ⟨k_331, k_332, k_333, k_5, k_334, by decide, by decide, by decide +kernel⟩
theorem v_L_46 : VL RL 46 yX4_at cX4_at 4 (some .int) 2 := ⟨k_335, k_336, k_337, k_1, k_338, by decide, by decide, by decide +kernel⟩
theorem v_X4_86 : VL RX4 86 yX0_isNode cX0_isNode 2 (some .boolean) 1 := ⟨k_339, k_268, k_269, k_5, k_270, by decide, by decide, by decide +kernel⟩
theorem v_L_50 : VL RL 50 yX4_about cX4_about 4 (some .int) 2 := ⟨k_340, k_341, k_342, k_1, k_343, by decide, by decide, by decide +kernel⟩
theorem v_X4_100 : VL RX4 100 yX0_isEdge cX0_isEdge 2 (some .boolean) 1 := ⟨k_344, k_297, k_298, k_5, k_299, by decide, by decide, by decide +kernel⟩
theorem v_X4_103 : VL RX4 103 yX4_partOfEdge cX4_partOfEdge 4 (some .int) 3 := ⟨k_345, k_347, ks_yX4_partOfEdge, k_1, k_348, by decide, by decide, by decide +kernel⟩
theorem v_L_54 : VL RL 54 yX4_goes cX4_goes 5 (some .int) 3 := ⟨k_349, k_350, k_351, k_1, k_352, by decide, by decide, by decide +kernel⟩
theorem v_X4_107 : VL RX4 107 yX0_hasFlow cX0_hasFlow 3 (some .boolean) 2 := ⟨k_353, k_293, k_294, k_5, k_295, by decide, by decide, by decide +kernel⟩
theorem v_X4_111 : SL RX4 111 yX4_isFact cX4_isFact 1 (some .boolean) 1 := ⟨k_354, k_305, k_1, k_306, rfl, by decide, by decide, by decide +kernel⟩
theorem v_X4_114 : VL RX4 114 yX0_reach cX0_reach 4 (some .int) 3 := ⟨k_355, k_314, k_315, k_5, k_316, by decide, by decide, by decide +kernel⟩
theorem v_L_58 : VL RL 58 yX4_count cX4_count 3 (some .int) 1 := ⟨k_356, k_357, k_358, k_1, k_359, by decide, by decide, by decide +kernel⟩
theorem v_X4_120 : VL RX4 120 yX2_fill cX2_fill 5 none 3 := ⟨k_360, k_361, k_362, k_2, k_363, by decide, by decide, by decide +kernel⟩
theorem v_X2_66 : VL RX2 66 yX2_come cX2_come 13 none 5 := ⟨k_368, k_370, ks_yX2_come, k_2, k_371, by decide, by decide, by decide +kernel⟩
theorem v_X2_70 : VL RX2 70 yX2_take cX2_take 5 none 2 := ⟨k_373, k_375, ks_yX2_take, k_2, k_376, by decide, by decide, by decide +kernel⟩
theorem v_X2_79 : VL RX2 79 yX2_nodeOf cX2_nodeOf 2 (some .int) 1 := ⟨k_377, k_378, k_379, k_2, k_380, by decide, by decide, by decide +kernel⟩
theorem v_X2_89 : VL RX2 89 yX2_returnToCallers cX2_returnToCallers 8 none 2 := ⟨k_381, k_383, ks_yX2_returnToCallers, k_2, k_384, by decide, by decide, by decide +kernel⟩
theorem v_X2_116 : VL RX2 116 yX2_factAtEntry cX2_factAtEntry 2 (some .int) 1 := ⟨k_385, k_386, k_387, k_2, k_388, by decide, by decide, by decide +kernel⟩
theorem v_X2_83 : VL RX2 83 yX2_factOf cX2_factOf 2 (some .int) 1 := ⟨k_389, k_390, k_391, k_2, k_392, by decide, by decide, by decide +kernel⟩
theorem v_X2_109 : VL RX2 109 yX0_reach cX0_reach 4 (some .int) 3 := ⟨k_393, k_314, k_315, k_5, k_316, by decide, by decide, by decide +kernel⟩
theorem v_X2_105 : VL RX2 105 yX2_landing cX2_landing 4 (some .int) 3 := ⟨k_394, k_396, ks_yX2_landing, k_2, k_397, by decide, by decide, by decide +kernel⟩
theorem v_X2_101 : VL RX2 101 yX2_enter cX2_enter 7 none 3 := ⟨k_398, k_400, ks_yX2_enter, k_2, k_401, by decide, by decide, by decide +kernel⟩
theorem v_X2_119 : VL RX2 119 yX2_noteSite cX2_noteSite 3 none 2 := ⟨k_402, k_404, ks_yX2_noteSite, k_2, k_405, by decide, by decide, by decide +kernel⟩
theorem v_X2_126 : VL RX2 126 yX2_leaveAsKnown cX2_leaveAsKnown 7 none 4 := ⟨k_406, k_408, ks_yX2_leaveAsKnown, k_2, k_409, by decide, by decide, by decide +kernel⟩
theorem v_X4_124 : VL RX4 124 yX4_counted cX4_counted 3 (some .int) 2 := ⟨k_410, k_412, ks_yX4_counted, k_1, k_413, by decide, by decide, by decide +kernel⟩
theorem v_X4_240 : VL RX4 240 yX4_nodesReached cX4_nodesReached 4 (some .int) 1 := ⟨k_414, k_416, ks_yX4_nodesReached, k_1, k_417, by decide, by decide, by decide +kernel⟩
theorem v_X4_128 : VL RX4 128 yX2_factsAt cX2_factsAt 4 (some .int) 1 := ⟨k_418, k_419, k_420, k_2, k_421, by decide, by decide, by decide +kernel⟩
theorem v_L_62 : VL RL 62 yX4_holds cX4_holds 3 (some .int) 1 := ⟨k_422, k_423, k_424, k_1, k_425, by decide, by decide, by decide +kernel⟩
theorem v_L_66 : VL RL 66 yX4_loose cX4_loose 3 (some .int) 1 := ⟨k_426, k_427, k_428, k_1, k_429, by decide, by decide, by decide +kernel⟩
theorem v_X4_131 : VL RX4 131 yX1_fill cX1_fill 5 none 1 := ⟨k_430, k_431, k_432, k_3, k_433, by decide, by decide, by decide +kernel⟩
theorem v_X1_31 : VL RX1 31 yX1_stepAlong cX1_stepAlong 7 (some .boolean) 2 := ⟨k_434, k_436, ks_yX1_stepAlong, k_3, k_437, by decide, by decide, by decide +kernel⟩
theorem v_X1_44 : VL RX1 44 yX0_carry cX0_carry 6 (some .int) 3 := ⟨k_438, k_439, k_440, k_5, k_441, by decide, by decide, by decide +kernel⟩
theorem v_X1_48 : VL RX1 48 yX1_addTo cX1_addTo 4 (some .boolean) 2 := ⟨k_442, k_444, ks_yX1_addTo, k_3, k_445, by decide, by decide, by decide +kernel⟩
theorem v_L_70 : VL RL 70 yX4_origins cX4_origins 6 (some .int) 2 := ⟨k_446, k_447, k_448, k_1, k_449, by decide, by decide, by decide +kernel⟩
theorem v_X4_137 : SL RX4 137 yX4_has cX4_has 2 (some .boolean) 2 := ⟨k_450, k_311, k_1, k_312, rfl, by decide, by decide, by decide +kernel⟩
theorem v_L_74 : VL RL 74 yX4_summary cX4_summary 8 (some .int) 2 := ⟨k_451, k_452, k_453, k_1, k_454, by decide, by decide, by decide +kernel⟩
theorem v_X4_149 : SL RX4 149 yX4_cell cX4_cell 2 (some .int) 2 := ⟨k_455, k_366, k_1, k_367, rfl, by decide, by decide, by decide +kernel⟩
theorem v_X4_152 : VL RX4 152 yX0_carry cX0_carry 6 (some .int) 3 := ⟨k_456, k_439, k_440, k_5, k_441, by decide, by decide, by decide +kernel⟩
theorem v_L_78 : VL RL 78 yX4_entry cX4_entry 4 (some .int) 2 := ⟨k_457, k_458, k_459, k_1, k_460, by decide, by decide, by decide +kernel⟩
theorem v_X4_158 : VL RX4 158 yX4_partOfEntry cX4_partOfEntry 4 (some .int) 3 := ⟨k_461, k_463, ks_yX4_partOfEntry, k_1, k_464, by decide, by decide, by decide +kernel⟩
theorem v_X4_222 : VL RX4 222 yX2_nodeOf cX2_nodeOf 2 (some .int) 1 := ⟨k_465, k_378, k_379, k_2, k_380, by decide, by decide, by decide +kernel⟩
theorem v_X4_225 : VL RX4 225 yX2_factAtEntry cX2_factAtEntry 2 (some .int) 1 := ⟨k_466, k_386, k_387, k_2, k_388, by decide, by decide, by decide +kernel⟩
theorem v_X4_228 : VL RX4 228 yX2_factOf cX2_factOf 2 (some .int) 1 := ⟨k_467, k_390, k_391, k_2, k_392, by decide, by decide, by decide +kernel⟩
theorem v_L_82 : VL RL 82 yX4_witness cX4_witness 6 (some .int) 3 := ⟨k_468, k_469, k_470, k_1, k_471, by decide, by decide, by decide +kernel⟩
theorem v_X4_161 : VL RX4 161 yX2_firstWith cX2_firstWith 6 (some .int) 2 := ⟨k_472, k_473, k_474, k_2, k_475, by decide, by decide, by decide +kernel⟩
theorem v_X4_167 : VL RX4 167 yX2_pairOfWay cX2_pairOfWay 9 (some .int) 2 := ⟨k_476, k_477, k_478, k_2, k_479, by decide, by decide, by decide +kernel⟩
theorem v_L_86 : VL RL 86 yX4_type cX4_type 2 (some .int) 1 := ⟨k_480, k_481, k_482, k_1, k_483, by decide, by decide, by decide +kernel⟩
theorem v_X4_170 : VL RX4 170 yX3_append cX3_append 2 (some .boolean) 1 := ⟨k_484, k_485, k_486, k_4, k_487, by decide, by decide, by decide +kernel⟩
theorem v_L_90 : VL RL 90 yX4_clear cX4_clear 2 (some .int) 0 := ⟨k_488, k_489, k_490, k_1, k_491, by decide, by decide, by decide +kernel⟩
theorem v_L_94 : VL RL 94 yX4_does cX4_does 4 (some .int) 0 := ⟨k_492, k_493, k_494, k_1, k_495, by decide, by decide, by decide +kernel⟩
theorem v_X4_176 : VL RX4 176 yX3_read cX3_read 2 (some .int) 0 := ⟨k_496, k_497, k_498, k_4, k_499, by decide, by decide, by decide +kernel⟩
theorem v_X3_28 : VL RX3 28 yX3_skipBlanks cX3_skipBlanks 1 none 0 := ⟨k_500, k_502, ks_yX3_skipBlanks, k_4, k_503, by decide, by decide, by decide +kernel⟩
theorem v_X3_31 : VL RX3 31 yX3_readOrder cX3_readOrder 5 (some .boolean) 1 := ⟨k_504, k_506, ks_yX3_readOrder, k_4, k_507, by decide, by decide, by decide +kernel⟩
theorem v_X3_35 : SL RX3 35 yX3_numbersBehind cX3_numbersBehind 1 (some .int) 1 := ⟨k_508, k_509, k_4, k_510, rfl, by decide, by decide, by decide +kernel⟩
theorem v_X3_39 : VL RX3 39 yX3_readNumber cX3_readNumber 4 (some .boolean) 1 := ⟨k_511, k_513, ks_yX3_readNumber, k_4, k_514, by decide, by decide, by decide +kernel⟩
theorem v_X3_42 : VL RX3 42 yX3_isFigure cX3_isFigure 1 (some .boolean) 0 := ⟨k_515, k_517, ks_yX3_isFigure, k_4, k_518, by decide, by decide, by decide +kernel⟩
theorem v_X4_182 : VL RX4 182 yX4_obeyed cX4_obeyed 6 (some .int) 2 := ⟨k_519, k_521, ks_yX4_obeyed, k_1, k_522, by decide, by decide, by decide +kernel⟩
theorem v_X4_244 : VL RX4 244 yX3_part cX3_part 3 (some .int) 2 := ⟨k_523, k_524, k_525, k_4, k_526, by decide, by decide, by decide +kernel⟩
theorem v_L_98 : VL RL 98 yX4_back cX4_back 1 (some .int) 0 := ⟨k_527, k_528, k_529, k_1, k_530, by decide, by decide, by decide +kernel⟩
theorem v_L_102 : VL RL 102 yX4_told cX4_told 2 (some .int) 1 := ⟨k_531, k_532, k_533, k_1, k_534, by decide, by decide, by decide +kernel⟩
theorem v_X4_189 : VL RX4 189 yX4_tally cX4_tally 2 (some .int) 1 := ⟨k_535, k_537, ks_yX4_tally, k_1, k_538, by decide, by decide, by decide +kernel⟩
theorem v_L_106 : VL RL 106 yX4_digest cX4_digest 5 (some .long) 0 := ⟨k_539, k_540, k_541, k_1, k_542, by decide, by decide, by decide +kernel⟩
theorem v_X4_196 : VL RX4 196 yX4_digestOfNodes cX4_digestOfNodes 7 (some .long) 2 := ⟨k_545, k_547, ks_yX4_digestOfNodes, k_1, k_548, by decide, by decide, by decide +kernel⟩
theorem v_X4_200 : VL RX4 200 yX4_digestOfEdges cX4_digestOfEdges 9 (some .long) 2 := ⟨k_549, k_551, ks_yX4_digestOfEdges, k_1, k_552, by decide, by decide, by decide +kernel⟩
theorem v_X4_247 : VL RX4 247 yX0_flowsOf cX0_flowsOf 2 (some .int) 1 := ⟨k_553, k_301, k_302, k_5, k_303, by decide, by decide, by decide +kernel⟩
theorem v_X5_64 : VL RX5 64 yX5_addProc cX5_addProc 2 (some .int) 0 := ⟨k_560, k_562, ks_yX5_addProc, k_6, k_563, by decide, by decide, by decide +kernel⟩
theorem v_X5_93 : VL RX5 93 yX5_addNode cX5_addNode 4 (some .int) 2 := ⟨k_564, k_566, ks_yX5_addNode, k_6, k_567, by decide, by decide, by decide +kernel⟩
theorem v_L_101 : VL RL 101 yX5_back cX5_back 1 (some .int) 0 := ⟨k_650, k_651, k_652, k_6, k_653, by decide, by decide, by decide +kernel⟩
theorem v_X5_71 : VL RX5 71 yX5_no cX5_no 1 (some .int) 0 := ⟨k_654, k_656, ks_yX5_no, k_6, k_657, by decide, by decide, by decide +kernel⟩
theorem v_X5_85 : VL RX5 85 yX5_takes cX5_takes 3 none 1 := ⟨k_658, k_660, ks_yX5_takes, k_6, k_661, by decide, by decide, by decide +kernel⟩
theorem v_L_17 : VL RL 17 yX5_proc cX5_proc 1 (some .int) 0 := ⟨k_662, k_663, k_664, k_6, k_665, by decide, by decide, by decide +kernel⟩
theorem v_X5_133 : VL RX5 133 yX5_puts cX5_puts 3 none 1 := ⟨k_666, k_668, ks_yX5_puts, k_6, k_669, by decide, by decide, by decide +kernel⟩
theorem v_X5_136 : VL RX5 136 yX5_done cX5_done 2 (some .int) 1 := ⟨k_670, k_672, ks_yX5_done, k_6, k_673, by decide, by decide, by decide +kernel⟩
theorem v_X5_127 : VL RX5 127 yX5_counted cX5_counted 2 (some .int) 1 := ⟨k_674, k_676, ks_yX5_counted, k_6, k_677, by decide, by decide, by decide +kernel⟩
theorem v_X5_68 : VL RX5 68 yX5_bad cX5_bad 1 (some .int) 0 := ⟨k_678, k_680, ks_yX5_bad, k_6, k_681, by decide, by decide, by decide +kernel⟩
theorem v_X5_74 : VL RX5 74 yX5_full cX5_full 1 (some .int) 0 := ⟨k_682, k_684, ks_yX5_full, k_6, k_685, by decide, by decide, by decide +kernel⟩
theorem v_X5_130 : VL RX5 130 yX5_leavesState cX5_leavesState 2 none 0 := ⟨k_686, k_688, ks_yX5_leavesState, k_6, k_689, by decide, by decide, by decide +kernel⟩
theorem v_L_22 : VL RL 22 yX5_node cX5_node 2 (some .int) 1 := ⟨k_690, k_691, k_692, k_6, k_693, by decide, by decide, by decide +kernel⟩
theorem v_X5_139 : VL RX5 139 yX5_addAny cX5_addAny 2 (some .int) 1 := ⟨k_694, k_696, ks_yX5_addAny, k_6, k_697, by decide, by decide, by decide +kernel⟩
theorem v_X5_97 : VL RX5 97 yX5_isProc cX5_isProc 2 (some .boolean) 1 := ⟨k_698, k_700, ks_yX5_isProc, k_6, k_701, by decide, by decide, by decide +kernel⟩
theorem v_X5_89 : SL RX5 89 yX5_in cX5_in 3 (some .boolean) 3 := ⟨k_702, k_703, k_6, k_704, rfl, by decide, by decide, by decide +kernel⟩
theorem v_L_27 : VL RL 27 yX5_edge cX5_edge 3 (some .int) 2 := ⟨k_705, k_706, k_707, k_6, k_708, by decide, by decide, by decide +kernel⟩
theorem v_X5_111 : VL RX5 111 yX5_addEdge cX5_addEdge 6 (some .int) 3 := ⟨k_709, k_711, ks_yX5_addEdge, k_6, k_712, by decide, by decide, by decide +kernel⟩
theorem v_X5_101 : VL RX5 101 yX5_isNode cX5_isNode 2 (some .boolean) 1 := ⟨k_713, k_715, ks_yX5_isNode, k_6, k_716, by decide, by decide, by decide +kernel⟩
theorem v_X5_104 : VL RX5 104 yX5_procOf cX5_procOf 2 (some .int) 1 := ⟨k_717, k_719, ks_yX5_procOf, k_6, k_720, by decide, by decide, by decide +kernel⟩
theorem v_X5_108 : VL RX5 108 yX5_sortOf cX5_sortOf 2 (some .int) 1 := ⟨k_721, k_723, ks_yX5_sortOf, k_6, k_724, by decide, by decide, by decide +kernel⟩
theorem v_L_32 : VL RL 32 yX5_call cX5_call 4 (some .int) 3 := ⟨k_725, k_726, k_727, k_6, k_728, by decide, by decide, by decide +kernel⟩
theorem v_X5_142 : VL RX5 142 yX5_addCall cX5_addCall 4 (some .int) 3 := ⟨k_729, k_731, ks_yX5_addCall, k_6, k_732, by decide, by decide, by decide +kernel⟩
theorem v_L_37 : VL RL 37 yX5_flows cX5_flows 5 (some .int) 4 := ⟨k_733, k_734, k_735, k_6, k_736, by decide, by decide, by decide +kernel⟩
theorem v_X5_145 : VL RX5 145 yX5_setFlow cX5_setFlow 6 (some .int) 4 := ⟨k_737, k_739, ks_yX5_setFlow, k_6, k_740, by decide, by decide, by decide +kernel⟩
theorem v_X5_121 : VL RX5 121 yX5_isFlow cX5_isFlow 4 (some .boolean) 3 := ⟨k_741, k_743, ks_yX5_isFlow, k_6, k_744, by decide, by decide, by decide +kernel⟩
theorem v_X5_115 : VL RX5 115 yX5_isEdge cX5_isEdge 2 (some .boolean) 1 := ⟨k_745, k_747, ks_yX5_isEdge, k_6, k_748, by decide, by decide, by decide +kernel⟩
theorem v_X5_118 : VL RX5 118 yX5_edgeOf cX5_edgeOf 3 (some .int) 2 := ⟨k_749, k_751, ks_yX5_edgeOf, k_6, k_752, by decide, by decide, by decide +kernel⟩
theorem v_X5_124 : VL RX5 124 yX5_flowOf cX5_flowOf 4 (some .int) 3 := ⟨k_753, k_755, ks_yX5_flowOf, k_6, k_756, by decide, by decide, by decide +kernel⟩
theorem v_L_41 : VL RL 41 yX5_starts cX5_starts 2 (some .int) 1 := ⟨k_757, k_758, k_759, k_6, k_760, by decide, by decide, by decide +kernel⟩
theorem v_X5_149 : VL RX5 149 yX5_setStart cX5_setStart 3 (some .int) 1 := ⟨k_761, k_763, ks_yX5_setStart, k_6, k_764, by decide, by decide, by decide +kernel⟩
theorem v_L_45 : VL RL 45 yX5_cuts cX5_cuts 2 (some .int) 1 := ⟨k_765, k_766, k_767, k_6, k_768, by decide, by decide, by decide +kernel⟩
theorem v_X5_152 : VL RX5 152 yX5_cutEdge cX5_cutEdge 3 (some .int) 1 := ⟨k_769, k_771, ks_yX5_cutEdge, k_6, k_772, by decide, by decide, by decide +kernel⟩
theorem v_L_49 : VL RL 49 yX5_at cX5_at 3 (some .int) 2 := ⟨k_773, k_774, k_775, k_6, k_776, by decide, by decide, by decide +kernel⟩
theorem v_L_53 : VL RL 53 yX5_about cX5_about 3 (some .int) 2 := ⟨k_777, k_778, k_779, k_6, k_780, by decide, by decide, by decide +kernel⟩
theorem v_L_57 : VL RL 57 yX5_goes cX5_goes 4 (some .int) 3 := ⟨k_781, k_782, k_783, k_6, k_784, by decide, by decide, by decide +kernel⟩
theorem v_L_61 : VL RL 61 yX5_count cX5_count 2 (some .int) 1 := ⟨k_785, k_786, k_787, k_6, k_788, by decide, by decide, by decide +kernel⟩
theorem v_X5_194 : VL RX5 194 yX5_countOf cX5_countOf 4 (some .int) 1 := ⟨k_789, k_791, ks_yX5_countOf, k_6, k_792, by decide, by decide, by decide +kernel⟩
theorem v_X5_188 : VL RX5 188 yX5_knows cX5_knows 2 none 0 := ⟨k_793, k_795, ks_yX5_knows, k_6, k_796, by decide, by decide, by decide +kernel⟩
theorem v_X5_182 : VL RX5 182 yX5_clearTable cX5_clearTable 2 none 0 := ⟨k_797, k_799, ks_yX5_clearTable, k_6, k_800, by decide, by decide, by decide +kernel⟩
theorem v_X5_164 : VL RX5 164 yX5_comes cX5_comes 7 none 5 := ⟨k_801, k_803, ks_yX5_comes, k_6, k_804, by decide, by decide, by decide +kernel⟩
theorem v_X5_161 : SL RX5 161 yX5_key cX5_key 3 (some .int) 3 := ⟨k_805, k_806, k_6, k_807, rfl, by decide, by decide, by decide +kernel⟩
theorem v_X5_185 : VL RX5 185 yX5_fills cX5_fills 2 none 0 := ⟨k_808, k_810, ks_yX5_fills, k_6, k_811, by decide, by decide, by decide +kernel⟩
theorem v_X5_179 : VL RX5 179 yX5_takesEntry cX5_takesEntry 6 none 1 := ⟨k_812, k_814, ks_yX5_takesEntry, k_6, k_815, by decide, by decide, by decide +kernel⟩
theorem v_X5_172 : VL RX5 172 yX5_allCome cX5_allCome 7 none 5 := ⟨k_816, k_818, ks_yX5_allCome, k_6, k_819, by decide, by decide, by decide +kernel⟩
theorem v_X5_175 : VL RX5 175 yX5_takesCall cX5_takesCall 8 none 2 := ⟨k_820, k_822, ks_yX5_takesCall, k_6, k_823, by decide, by decide, by decide +kernel⟩
theorem v_X5_168 : VL RX5 168 yX5_notes cX5_notes 6 none 4 := ⟨k_824, k_826, ks_yX5_notes, k_6, k_827, by decide, by decide, by decide +kernel⟩
theorem v_X5_191 : VL RX5 191 yX5_held cX5_held 5 (some .int) 1 := ⟨k_828, k_830, ks_yX5_held, k_6, k_831, by decide, by decide, by decide +kernel⟩
theorem v_L_65 : VL RL 65 yX5_holds cX5_holds 2 (some .int) 1 := ⟨k_832, k_833, k_834, k_6, k_835, by decide, by decide, by decide +kernel⟩
theorem v_X5_197 : VL RX5 197 yX5_holdsAt cX5_holdsAt 2 (some .int) 1 := ⟨k_836, k_838, ks_yX5_holdsAt, k_6, k_839, by decide, by decide, by decide +kernel⟩
theorem v_L_69 : VL RL 69 yX5_loose cX5_loose 2 (some .int) 1 := ⟨k_840, k_841, k_842, k_6, k_843, by decide, by decide, by decide +kernel⟩
theorem v_X5_206 : VL RX5 206 yX5_looseAt cX5_looseAt 2 (some .int) 1 := ⟨k_844, k_846, ks_yX5_looseAt, k_6, k_847, by decide, by decide, by decide +kernel⟩
theorem v_X5_203 : VL RX5 203 yX5_loosens cX5_loosens 9 none 0 := ⟨k_848, k_850, ks_yX5_loosens, k_6, k_851, by decide, by decide, by decide +kernel⟩
theorem v_X5_200 : VL RX5 200 yX5_carried cX5_carried 6 (some .int) 3 := ⟨k_852, k_854, ks_yX5_carried, k_6, k_855, by decide, by decide, by decide +kernel⟩
theorem v_L_73 : VL RL 73 yX5_origins cX5_origins 5 (some .int) 2 := ⟨k_856, k_857, k_858, k_6, k_859, by decide, by decide, by decide +kernel⟩
theorem v_L_77 : VL RL 77 yX5_summary cX5_summary 8 (some .int) 2 := ⟨k_860, k_861, k_862, k_6, k_863, by decide, by decide, by decide +kernel⟩
theorem v_L_81 : VL RL 81 yX5_entry cX5_entry 3 (some .int) 2 := ⟨k_864, k_865, k_866, k_6, k_867, by decide, by decide, by decide +kernel⟩
theorem v_L_85 : VL RL 85 yX5_witness cX5_witness 7 (some .int) 3 := ⟨k_868, k_869, k_870, k_6, k_871, by decide, by decide, by decide +kernel⟩
theorem v_X5_215 : VL RX5 215 yX5_spells cX5_spells 5 none 1 := ⟨k_872, k_874, ks_yX5_spells, k_6, k_875, by decide, by decide, by decide +kernel⟩
theorem v_L_89 : VL RL 89 yX5_type cX5_type 2 (some .int) 1 := ⟨k_876, k_877, k_878, k_6, k_879, by decide, by decide, by decide +kernel⟩
theorem v_L_93 : VL RL 93 yX5_clear cX5_clear 2 (some .int) 0 := ⟨k_880, k_881, k_882, k_6, k_883, by decide, by decide, by decide +kernel⟩
theorem v_L_97 : VL RL 97 yX5_does cX5_does 4 (some .int) 0 := ⟨k_884, k_885, k_886, k_6, k_887, by decide, by decide, by decide +kernel⟩
theorem v_X5_230 : VL RX5 230 yX5_blanks cX5_blanks 1 none 0 := ⟨k_888, k_890, ks_yX5_blanks, k_6, k_891, by decide, by decide, by decide +kernel⟩
theorem v_X5_221 : VL RX5 221 yX5_byteAt cX5_byteAt 2 (some .int) 1 := ⟨k_892, k_894, ks_yX5_byteAt, k_6, k_895, by decide, by decide, by decide +kernel⟩
theorem v_X5_242 : VL RX5 242 yX5_reads cX5_reads 5 (some .boolean) 0 := ⟨k_896, k_898, ks_yX5_reads, k_6, k_899, by decide, by decide, by decide +kernel⟩
theorem v_X5_233 : SL RX5 233 yX5_wants cX5_wants 1 (some .int) 1 := ⟨k_900, k_901, k_6, k_902, rfl, by decide, by decide, by decide +kernel⟩
theorem v_X5_239 : VL RX5 239 yX5_number cX5_number 3 (some .int) 0 := ⟨k_903, k_905, ks_yX5_number, k_6, k_906, by decide, by decide, by decide +kernel⟩
theorem v_X5_227 : VL RX5 227 yX5_isFigure cX5_isFigure 2 (some .boolean) 1 := ⟨k_907, k_909, ks_yX5_isFigure, k_6, k_910, by decide, by decide, by decide +kernel⟩
theorem v_X5_246 : VL RX5 246 yX5_acted cX5_acted 6 (some .int) 1 := ⟨k_911, k_913, ks_yX5_acted, k_6, k_914, by decide, by decide, by decide +kernel⟩
theorem v_L_105 : VL RL 105 yX5_told cX5_told 2 (some .int) 1 := ⟨k_915, k_916, k_917, k_6, k_918, by decide, by decide, by decide +kernel⟩
theorem v_X5_249 : VL RX5 249 yX5_toldOf cX5_toldOf 2 (some .int) 1 := ⟨k_919, k_921, ks_yX5_toldOf, k_6, k_922, by decide, by decide, by decide +kernel⟩
theorem v_L_110 : VL RL 110 yX5_digest cX5_digest 5 (some .long) 0 := ⟨k_923, k_924, k_925, k_6, k_926, by decide, by decide, by decide +kernel⟩
theorem v_X0_93 : NL RX0 93 yX4_isFact cX4_isFact 1 (some .boolean) 1 := ⟨⟨"MatchedFlows", by simp [nestW]⟩, k_305, k_1, k_306, by decide, by decide, by decide +kernel⟩
theorem v_X0_96 : NL RX0 96 yX4_isFacts cX4_isFacts 1 (some .boolean) 1 := ⟨⟨"MatchedFlows", by simp [nestW]⟩, k_308, k_1, k_309, by decide, by decide, by decide +kernel⟩
theorem v_X0_67 : NL RX0 67 yX4_has cX4_has 2 (some .boolean) 2 := ⟨⟨"MatchedFlows", by simp [nestW]⟩, k_311, k_1, k_312, by decide, by decide, by decide +kernel⟩
theorem v_X2_53 : NL RX2 53 yX4_has cX4_has 2 (some .boolean) 2 := ⟨⟨"MatchedFlows", by simp [nestW]⟩, k_311, k_1, k_312, by decide, by decide, by decide +kernel⟩
theorem v_X2_62 : NL RX2 62 yX4_cell cX4_cell 2 (some .int) 2 := ⟨⟨"MatchedFlows", by simp [nestW]⟩, k_366, k_1, k_367, by decide, by decide, by decide +kernel⟩
theorem kc_275 : Cond.constantLong RX0 88 (lI (-9205322385119247871)) ∈ TT := by
  have h := k_275
  have e : (-9205322385119247871 : Int64) = lI (-9205322385119247871) := by decide
  rw [e] at h; exact h
theorem kc_317 : Cond.constantLong RX0 99 (lI (255)) ∈ TT := by
  have h := k_317
  have e : (255 : Int64) = lI (255) := by decide
  rw [e] at h; exact h
theorem kc_318 : Cond.constantLong RX0 101 (lI (-1)) ∈ TT := by
  have h := k_318
  have e : (-1 : Int64) = lI (-1) := by decide
  rw [e] at h; exact h
theorem kc_543 : Cond.constantLong RX4 192 (lI (1807)) ∈ TT := by
  have h := k_543
  have e : (1807 : Int64) = lI (1807) := by decide
  rw [e] at h; exact h
theorem kc_544 : Cond.constantLong RX4 194 (lI (31)) ∈ TT := by
  have h := k_544
  have e : (31 : Int64) = lI (31) := by decide
  rw [e] at h; exact h
theorem kc_927 : Cond.constantLong RX5 252 (lI (1807)) ∈ TT := by
  have h := k_927
  have e : (1807 : Int64) = lI (1807) := by decide
  rw [e] at h; exact h
theorem kc_928 : Cond.constantLong RX5 254 (lI (31)) ∈ TT := by
  have h := k_928
  have e : (31 : Int64) = lI (31) := by decide
  rw [e] at h; exact h
theorem km_static : Cond.static Lib.Math.min.name ∈ TT := k_237
theorem km_code : Cond.code Lib.Math.min.name Lib.Math.min.code 2 (some .int) ∈ TT := k_238
end
section
abbrev Pg : Type := Int × Int × Int × Int × (Int → Int) × (Int → Int) × (Int → Int) × (Int → Int) × (Int → Int) × (Int → Int) × (Int → Int) × (Int → Int64)
abbrev p_procs (X : Pg) : Int := X.1
abbrev p_nodes (X : Pg) : Int := X.2.1
abbrev p_edges (X : Pg) : Int := X.2.2.1
abbrev p_start (X : Pg) : Int := X.2.2.2.1
abbrev p_entryOf (X : Pg) : (Int → Int) := X.2.2.2.2.1
abbrev p_exitOf (X : Pg) : (Int → Int) := X.2.2.2.2.2.1
abbrev p_procOf (X : Pg) : (Int → Int) := X.2.2.2.2.2.2.1
abbrev p_kindOf (X : Pg) : (Int → Int) := X.2.2.2.2.2.2.2.1
abbrev p_from (X : Pg) : (Int → Int) := X.2.2.2.2.2.2.2.2.1
abbrev p_to (X : Pg) : (Int → Int) := X.2.2.2.2.2.2.2.2.2.1
abbrev p_callee (X : Pg) : (Int → Int) := X.2.2.2.2.2.2.2.2.2.2.1
abbrev p_flow (X : Pg) : (Int → Int64) := X.2.2.2.2.2.2.2.2.2.2.2
abbrev ps_procs (X : Pg) (v : Int) : Pg := (v, X.2.1, X.2.2.1, X.2.2.2.1, X.2.2.2.2.1, X.2.2.2.2.2.1, X.2.2.2.2.2.2.1, X.2.2.2.2.2.2.2.1, X.2.2.2.2.2.2.2.2.1, X.2.2.2.2.2.2.2.2.2.1, X.2.2.2.2.2.2.2.2.2.2.1, X.2.2.2.2.2.2.2.2.2.2.2)
abbrev ps_nodes (X : Pg) (v : Int) : Pg := (X.1, v, X.2.2.1, X.2.2.2.1, X.2.2.2.2.1, X.2.2.2.2.2.1, X.2.2.2.2.2.2.1, X.2.2.2.2.2.2.2.1, X.2.2.2.2.2.2.2.2.1, X.2.2.2.2.2.2.2.2.2.1, X.2.2.2.2.2.2.2.2.2.2.1, X.2.2.2.2.2.2.2.2.2.2.2)
abbrev ps_edges (X : Pg) (v : Int) : Pg := (X.1, X.2.1, v, X.2.2.2.1, X.2.2.2.2.1, X.2.2.2.2.2.1, X.2.2.2.2.2.2.1, X.2.2.2.2.2.2.2.1, X.2.2.2.2.2.2.2.2.1, X.2.2.2.2.2.2.2.2.2.1, X.2.2.2.2.2.2.2.2.2.2.1, X.2.2.2.2.2.2.2.2.2.2.2)
abbrev ps_start (X : Pg) (v : Int) : Pg := (X.1, X.2.1, X.2.2.1, v, X.2.2.2.2.1, X.2.2.2.2.2.1, X.2.2.2.2.2.2.1, X.2.2.2.2.2.2.2.1, X.2.2.2.2.2.2.2.2.1, X.2.2.2.2.2.2.2.2.2.1, X.2.2.2.2.2.2.2.2.2.2.1, X.2.2.2.2.2.2.2.2.2.2.2)
abbrev ps_entryOf (X : Pg) (v : (Int → Int)) : Pg := (X.1, X.2.1, X.2.2.1, X.2.2.2.1, v, X.2.2.2.2.2.1, X.2.2.2.2.2.2.1, X.2.2.2.2.2.2.2.1, X.2.2.2.2.2.2.2.2.1, X.2.2.2.2.2.2.2.2.2.1, X.2.2.2.2.2.2.2.2.2.2.1, X.2.2.2.2.2.2.2.2.2.2.2)
abbrev ps_exitOf (X : Pg) (v : (Int → Int)) : Pg := (X.1, X.2.1, X.2.2.1, X.2.2.2.1, X.2.2.2.2.1, v, X.2.2.2.2.2.2.1, X.2.2.2.2.2.2.2.1, X.2.2.2.2.2.2.2.2.1, X.2.2.2.2.2.2.2.2.2.1, X.2.2.2.2.2.2.2.2.2.2.1, X.2.2.2.2.2.2.2.2.2.2.2)
abbrev ps_procOf (X : Pg) (v : (Int → Int)) : Pg := (X.1, X.2.1, X.2.2.1, X.2.2.2.1, X.2.2.2.2.1, X.2.2.2.2.2.1, v, X.2.2.2.2.2.2.2.1, X.2.2.2.2.2.2.2.2.1, X.2.2.2.2.2.2.2.2.2.1, X.2.2.2.2.2.2.2.2.2.2.1, X.2.2.2.2.2.2.2.2.2.2.2)
abbrev ps_kindOf (X : Pg) (v : (Int → Int)) : Pg := (X.1, X.2.1, X.2.2.1, X.2.2.2.1, X.2.2.2.2.1, X.2.2.2.2.2.1, X.2.2.2.2.2.2.1, v, X.2.2.2.2.2.2.2.2.1, X.2.2.2.2.2.2.2.2.2.1, X.2.2.2.2.2.2.2.2.2.2.1, X.2.2.2.2.2.2.2.2.2.2.2)
abbrev ps_from (X : Pg) (v : (Int → Int)) : Pg := (X.1, X.2.1, X.2.2.1, X.2.2.2.1, X.2.2.2.2.1, X.2.2.2.2.2.1, X.2.2.2.2.2.2.1, X.2.2.2.2.2.2.2.1, v, X.2.2.2.2.2.2.2.2.2.1, X.2.2.2.2.2.2.2.2.2.2.1, X.2.2.2.2.2.2.2.2.2.2.2)
abbrev ps_to (X : Pg) (v : (Int → Int)) : Pg := (X.1, X.2.1, X.2.2.1, X.2.2.2.1, X.2.2.2.2.1, X.2.2.2.2.2.1, X.2.2.2.2.2.2.1, X.2.2.2.2.2.2.2.1, X.2.2.2.2.2.2.2.2.1, v, X.2.2.2.2.2.2.2.2.2.2.1, X.2.2.2.2.2.2.2.2.2.2.2)
abbrev ps_callee (X : Pg) (v : (Int → Int)) : Pg := (X.1, X.2.1, X.2.2.1, X.2.2.2.1, X.2.2.2.2.1, X.2.2.2.2.2.1, X.2.2.2.2.2.2.1, X.2.2.2.2.2.2.2.1, X.2.2.2.2.2.2.2.2.1, X.2.2.2.2.2.2.2.2.2.1, v, X.2.2.2.2.2.2.2.2.2.2.2)
abbrev ps_flow (X : Pg) (v : (Int → Int64)) : Pg := (X.1, X.2.1, X.2.2.1, X.2.2.2.1, X.2.2.2.2.1, X.2.2.2.2.2.1, X.2.2.2.2.2.2.1, X.2.2.2.2.2.2.2.1, X.2.2.2.2.2.2.2.2.1, X.2.2.2.2.2.2.2.2.2.1, X.2.2.2.2.2.2.2.2.2.2.1, v)
def pW (g : GG) (o : Nat) (ad : Nat → Nat) (X : Pg) : va_W := [(o, .inr (0, [.int (iI (p_procs X)), .int (iI (p_nodes X)), .int (iI (p_edges X)), .int (iI (p_start X)), .ref (ad 0), .ref (ad 1), .ref (ad 2), .ref (ad 3), .ref (ad 4), .ref (ad 5), .ref (ad 6), .ref (ad 7)])), (ad 0, .inl (g.2.1, 5, .inl (iA (p_entryOf X)))), (ad 1, .inl (g.2.1, 5, .inl (iA (p_exitOf X)))), (ad 2, .inl (g.2.1, 24, .inl (iA (p_procOf X)))), (ad 3, .inl (g.2.1, 24, .inl (iA (p_kindOf X)))), (ad 4, .inl (g.2.1, 32, .inl (iA (p_from X)))), (ad 5, .inl (g.2.1, 32, .inl (iA (p_to X)))), (ad 6, .inl (g.2.1, 32, .inl (iA (p_callee X)))), (ad 7, .inl (g.2.2.1, 96, .inr (.inl (lA (p_flow X)))))]
abbrev Sp : Type := Int × (Int → Int)
abbrev u_ready (X : Sp) : Int := X.1
abbrev u_reached (X : Sp) : (Int → Int) := X.2
abbrev us_ready (X : Sp) (v : Int) : Sp := (v, X.2)
abbrev us_reached (X : Sp) (v : (Int → Int)) : Sp := (X.1, v)
def uW (g : GG) (o : Nat) (ad : Nat → Nat) (X : Sp) : va_W := [(o, .inr (1, [.int (iI (u_ready X)), .ref (ad 0)])), (ad 0, .inl (g.2.1, 24, .inl (iA (u_reached X))))]
abbrev Tb : Type := Int × Int × Int × Int × (Int → Int) × (Int → Int) × (Int → Int) × (Int → Int) × (Int → Int) × (Int → Int) × (Int → Int) × (Int → Int) × Int
abbrev t_ready (X : Tb) : Int := X.1
abbrev t_seedProc (X : Tb) : Int := X.2.1
abbrev t_seedFacts (X : Tb) : Int := X.2.2.1
abbrev t_size (X : Tb) : Int := X.2.2.2.1
abbrev t_seen (X : Tb) : (Int → Int) := X.2.2.2.2.1
abbrev t_keys (X : Tb) : (Int → Int) := X.2.2.2.2.2.1
abbrev t_placeOf (X : Tb) : (Int → Int) := X.2.2.2.2.2.2.1
abbrev t_before (X : Tb) : (Int → Int) := X.2.2.2.2.2.2.2.1
abbrev t_through (X : Tb) : (Int → Int) := X.2.2.2.2.2.2.2.2.1
abbrev t_way (X : Tb) : (Int → Int) := X.2.2.2.2.2.2.2.2.2.1
abbrev t_inner (X : Tb) : (Int → Int) := X.2.2.2.2.2.2.2.2.2.2.1
abbrev t_sites (X : Tb) : (Int → Int) := X.2.2.2.2.2.2.2.2.2.2.2.1
abbrev t_siteCount (X : Tb) : Int := X.2.2.2.2.2.2.2.2.2.2.2.2
abbrev ts_ready (X : Tb) (v : Int) : Tb := (v, X.2.1, X.2.2.1, X.2.2.2.1, X.2.2.2.2.1, X.2.2.2.2.2.1, X.2.2.2.2.2.2.1, X.2.2.2.2.2.2.2.1, X.2.2.2.2.2.2.2.2.1, X.2.2.2.2.2.2.2.2.2.1, X.2.2.2.2.2.2.2.2.2.2.1, X.2.2.2.2.2.2.2.2.2.2.2.1, X.2.2.2.2.2.2.2.2.2.2.2.2)
abbrev ts_seedProc (X : Tb) (v : Int) : Tb := (X.1, v, X.2.2.1, X.2.2.2.1, X.2.2.2.2.1, X.2.2.2.2.2.1, X.2.2.2.2.2.2.1, X.2.2.2.2.2.2.2.1, X.2.2.2.2.2.2.2.2.1, X.2.2.2.2.2.2.2.2.2.1, X.2.2.2.2.2.2.2.2.2.2.1, X.2.2.2.2.2.2.2.2.2.2.2.1, X.2.2.2.2.2.2.2.2.2.2.2.2)
abbrev ts_seedFacts (X : Tb) (v : Int) : Tb := (X.1, X.2.1, v, X.2.2.2.1, X.2.2.2.2.1, X.2.2.2.2.2.1, X.2.2.2.2.2.2.1, X.2.2.2.2.2.2.2.1, X.2.2.2.2.2.2.2.2.1, X.2.2.2.2.2.2.2.2.2.1, X.2.2.2.2.2.2.2.2.2.2.1, X.2.2.2.2.2.2.2.2.2.2.2.1, X.2.2.2.2.2.2.2.2.2.2.2.2)
abbrev ts_size (X : Tb) (v : Int) : Tb := (X.1, X.2.1, X.2.2.1, v, X.2.2.2.2.1, X.2.2.2.2.2.1, X.2.2.2.2.2.2.1, X.2.2.2.2.2.2.2.1, X.2.2.2.2.2.2.2.2.1, X.2.2.2.2.2.2.2.2.2.1, X.2.2.2.2.2.2.2.2.2.2.1, X.2.2.2.2.2.2.2.2.2.2.2.1, X.2.2.2.2.2.2.2.2.2.2.2.2)
abbrev ts_seen (X : Tb) (v : (Int → Int)) : Tb := (X.1, X.2.1, X.2.2.1, X.2.2.2.1, v, X.2.2.2.2.2.1, X.2.2.2.2.2.2.1, X.2.2.2.2.2.2.2.1, X.2.2.2.2.2.2.2.2.1, X.2.2.2.2.2.2.2.2.2.1, X.2.2.2.2.2.2.2.2.2.2.1, X.2.2.2.2.2.2.2.2.2.2.2.1, X.2.2.2.2.2.2.2.2.2.2.2.2)
abbrev ts_keys (X : Tb) (v : (Int → Int)) : Tb := (X.1, X.2.1, X.2.2.1, X.2.2.2.1, X.2.2.2.2.1, v, X.2.2.2.2.2.2.1, X.2.2.2.2.2.2.2.1, X.2.2.2.2.2.2.2.2.1, X.2.2.2.2.2.2.2.2.2.1, X.2.2.2.2.2.2.2.2.2.2.1, X.2.2.2.2.2.2.2.2.2.2.2.1, X.2.2.2.2.2.2.2.2.2.2.2.2)
abbrev ts_placeOf (X : Tb) (v : (Int → Int)) : Tb := (X.1, X.2.1, X.2.2.1, X.2.2.2.1, X.2.2.2.2.1, X.2.2.2.2.2.1, v, X.2.2.2.2.2.2.2.1, X.2.2.2.2.2.2.2.2.1, X.2.2.2.2.2.2.2.2.2.1, X.2.2.2.2.2.2.2.2.2.2.1, X.2.2.2.2.2.2.2.2.2.2.2.1, X.2.2.2.2.2.2.2.2.2.2.2.2)
abbrev ts_before (X : Tb) (v : (Int → Int)) : Tb := (X.1, X.2.1, X.2.2.1, X.2.2.2.1, X.2.2.2.2.1, X.2.2.2.2.2.1, X.2.2.2.2.2.2.1, v, X.2.2.2.2.2.2.2.2.1, X.2.2.2.2.2.2.2.2.2.1, X.2.2.2.2.2.2.2.2.2.2.1, X.2.2.2.2.2.2.2.2.2.2.2.1, X.2.2.2.2.2.2.2.2.2.2.2.2)
abbrev ts_through (X : Tb) (v : (Int → Int)) : Tb := (X.1, X.2.1, X.2.2.1, X.2.2.2.1, X.2.2.2.2.1, X.2.2.2.2.2.1, X.2.2.2.2.2.2.1, X.2.2.2.2.2.2.2.1, v, X.2.2.2.2.2.2.2.2.2.1, X.2.2.2.2.2.2.2.2.2.2.1, X.2.2.2.2.2.2.2.2.2.2.2.1, X.2.2.2.2.2.2.2.2.2.2.2.2)
abbrev ts_way (X : Tb) (v : (Int → Int)) : Tb := (X.1, X.2.1, X.2.2.1, X.2.2.2.1, X.2.2.2.2.1, X.2.2.2.2.2.1, X.2.2.2.2.2.2.1, X.2.2.2.2.2.2.2.1, X.2.2.2.2.2.2.2.2.1, v, X.2.2.2.2.2.2.2.2.2.2.1, X.2.2.2.2.2.2.2.2.2.2.2.1, X.2.2.2.2.2.2.2.2.2.2.2.2)
abbrev ts_inner (X : Tb) (v : (Int → Int)) : Tb := (X.1, X.2.1, X.2.2.1, X.2.2.2.1, X.2.2.2.2.1, X.2.2.2.2.2.1, X.2.2.2.2.2.2.1, X.2.2.2.2.2.2.2.1, X.2.2.2.2.2.2.2.2.1, X.2.2.2.2.2.2.2.2.2.1, v, X.2.2.2.2.2.2.2.2.2.2.2.1, X.2.2.2.2.2.2.2.2.2.2.2.2)
abbrev ts_sites (X : Tb) (v : (Int → Int)) : Tb := (X.1, X.2.1, X.2.2.1, X.2.2.2.1, X.2.2.2.2.1, X.2.2.2.2.2.1, X.2.2.2.2.2.2.1, X.2.2.2.2.2.2.2.1, X.2.2.2.2.2.2.2.2.1, X.2.2.2.2.2.2.2.2.2.1, X.2.2.2.2.2.2.2.2.2.2.1, v, X.2.2.2.2.2.2.2.2.2.2.2.2)
abbrev ts_siteCount (X : Tb) (v : Int) : Tb := (X.1, X.2.1, X.2.2.1, X.2.2.2.1, X.2.2.2.2.1, X.2.2.2.2.2.1, X.2.2.2.2.2.2.1, X.2.2.2.2.2.2.2.1, X.2.2.2.2.2.2.2.2.1, X.2.2.2.2.2.2.2.2.2.1, X.2.2.2.2.2.2.2.2.2.2.1, X.2.2.2.2.2.2.2.2.2.2.2.1, v)
def tW (g : GG) (o : Nat) (ad : Nat → Nat) (X : Tb) : va_W := [(o, .inr (2, [.int (iI (t_ready X)), .int (iI (t_seedProc X)), .int (iI (t_seedFacts X)), .int (iI (t_size X)), .ref (ad 0), .ref (ad 1), .ref (ad 2), .ref (ad 3), .ref (ad 4), .ref (ad 5), .ref (ad 6), .ref (ad 7), .int (iI (t_siteCount X))])), (ad 0, .inl (g.2.1, 192, .inl (iA (t_seen X)))), (ad 1, .inl (g.2.1, 1536, .inl (iA (t_keys X)))), (ad 2, .inl (g.2.1, 1536, .inl (iA (t_placeOf X)))), (ad 3, .inl (g.2.1, 1536, .inl (iA (t_before X)))), (ad 4, .inl (g.2.1, 1536, .inl (iA (t_through X)))), (ad 5, .inl (g.2.1, 1536, .inl (iA (t_way X)))), (ad 6, .inl (g.2.1, 1536, .inl (iA (t_inner X)))), (ad 7, .inl (g.2.1, 2048, .inl (iA (t_sites X))))]
abbrev Tx : Type := Int × Int × (Int → Int) × (Int → Int) × Int
abbrev x_length (X : Tx) : Int := X.1
abbrev x_orders (X : Tx) : Int := X.2.1
abbrev x_bytes (X : Tx) : (Int → Int) := X.2.2.1
abbrev x_parts (X : Tx) : (Int → Int) := X.2.2.2.1
abbrev x_place (X : Tx) : Int := X.2.2.2.2
abbrev xs_length (X : Tx) (v : Int) : Tx := (v, X.2.1, X.2.2.1, X.2.2.2.1, X.2.2.2.2)
abbrev xs_orders (X : Tx) (v : Int) : Tx := (X.1, v, X.2.2.1, X.2.2.2.1, X.2.2.2.2)
abbrev xs_bytes (X : Tx) (v : (Int → Int)) : Tx := (X.1, X.2.1, v, X.2.2.2.1, X.2.2.2.2)
abbrev xs_parts (X : Tx) (v : (Int → Int)) : Tx := (X.1, X.2.1, X.2.2.1, v, X.2.2.2.2)
abbrev xs_place (X : Tx) (v : Int) : Tx := (X.1, X.2.1, X.2.2.1, X.2.2.2.1, v)
def xW (g : GG) (o : Nat) (ad : Nat → Nat) (X : Tx) : va_W := [(o, .inr (3, [.int (iI (x_length X)), .int (iI (x_orders X)), .ref (ad 0), .ref (ad 1), .int (iI (x_place X))])), (ad 0, .inl (g.2.1, 120, .inl (iA (x_bytes X)))), (ad 1, .inl (g.2.1, 300, .inl (iA (x_parts X))))]
abbrev Md : Type := (Int → Int) × (Int → Int) × (Int → Int) × Int × (Int → Int) × (Int → Int) × (Int → Int) × (Int → Int) × (Int → Int) × (Int → Int) × Int × (Int → Int) × (Int → Int) × (Int → Int) × (Int → Int) × Int × Int × (Int → Int) × (Int → Int) × Int × (Int → Int) × Int × (Int → Int) × Int × (Int → Int) × Int × Int
abbrev m_refused (X : Md) : (Int → Int) := X.1
abbrev m_now (X : Md) : (Int → Int) := X.2.1
abbrev m_kept (X : Md) : (Int → Int) := X.2.2.1
abbrev m_states (X : Md) : Int := X.2.2.2.1
abbrev m_place (X : Md) : (Int → Int) := X.2.2.2.2.1
abbrev m_startFact (X : Md) : (Int → Int) := X.2.2.2.2.2.1
abbrev m_node (X : Md) : (Int → Int) := X.2.2.2.2.2.2.1
abbrev m_fact (X : Md) : (Int → Int) := X.2.2.2.2.2.2.2.1
abbrev m_ahead (X : Md) : (Int → Int) := X.2.2.2.2.2.2.2.2.1
abbrev m_inside (X : Md) : (Int → Int) := X.2.2.2.2.2.2.2.2.2.1
abbrev m_entries (X : Md) : Int := X.2.2.2.2.2.2.2.2.2.2.1
abbrev m_caller (X : Md) : (Int → Int) := X.2.2.2.2.2.2.2.2.2.2.2.1
abbrev m_following (X : Md) : (Int → Int) := X.2.2.2.2.2.2.2.2.2.2.2.2.1
abbrev m_firstCaller (X : Md) : (Int → Int) := X.2.2.2.2.2.2.2.2.2.2.2.2.2.1
abbrev m_lastCaller (X : Md) : (Int → Int) := X.2.2.2.2.2.2.2.2.2.2.2.2.2.2.1
abbrev m_callers (X : Md) : Int := X.2.2.2.2.2.2.2.2.2.2.2.2.2.2.2.1
abbrev m_known (X : Md) : Int := X.2.2.2.2.2.2.2.2.2.2.2.2.2.2.2.2.1
abbrev m_loose (X : Md) : (Int → Int) := X.2.2.2.2.2.2.2.2.2.2.2.2.2.2.2.2.2.1
abbrev m_stack (X : Md) : (Int → Int) := X.2.2.2.2.2.2.2.2.2.2.2.2.2.2.2.2.2.2.1
abbrev m_high (X : Md) : Int := X.2.2.2.2.2.2.2.2.2.2.2.2.2.2.2.2.2.2.2.1
abbrev m_pairs (X : Md) : (Int → Int) := X.2.2.2.2.2.2.2.2.2.2.2.2.2.2.2.2.2.2.2.2.1
abbrev m_told (X : Md) : Int := X.2.2.2.2.2.2.2.2.2.2.2.2.2.2.2.2.2.2.2.2.2.1
abbrev m_text (X : Md) : (Int → Int) := X.2.2.2.2.2.2.2.2.2.2.2.2.2.2.2.2.2.2.2.2.2.2.1
abbrev m_typed (X : Md) : Int := X.2.2.2.2.2.2.2.2.2.2.2.2.2.2.2.2.2.2.2.2.2.2.2.1
abbrev m_orders (X : Md) : (Int → Int) := X.2.2.2.2.2.2.2.2.2.2.2.2.2.2.2.2.2.2.2.2.2.2.2.2.1
abbrev m_written (X : Md) : Int := X.2.2.2.2.2.2.2.2.2.2.2.2.2.2.2.2.2.2.2.2.2.2.2.2.2.1
abbrev m_look (X : Md) : Int := X.2.2.2.2.2.2.2.2.2.2.2.2.2.2.2.2.2.2.2.2.2.2.2.2.2.2
abbrev ms_refused (X : Md) (v : (Int → Int)) : Md := (v, X.2.1, X.2.2.1, X.2.2.2.1, X.2.2.2.2.1, X.2.2.2.2.2.1, X.2.2.2.2.2.2.1, X.2.2.2.2.2.2.2.1, X.2.2.2.2.2.2.2.2.1, X.2.2.2.2.2.2.2.2.2.1, X.2.2.2.2.2.2.2.2.2.2.1, X.2.2.2.2.2.2.2.2.2.2.2.1, X.2.2.2.2.2.2.2.2.2.2.2.2.1, X.2.2.2.2.2.2.2.2.2.2.2.2.2.1, X.2.2.2.2.2.2.2.2.2.2.2.2.2.2.1, X.2.2.2.2.2.2.2.2.2.2.2.2.2.2.2.1, X.2.2.2.2.2.2.2.2.2.2.2.2.2.2.2.2.1, X.2.2.2.2.2.2.2.2.2.2.2.2.2.2.2.2.2.1, X.2.2.2.2.2.2.2.2.2.2.2.2.2.2.2.2.2.2.1, X.2.2.2.2.2.2.2.2.2.2.2.2.2.2.2.2.2.2.2.1, X.2.2.2.2.2.2.2.2.2.2.2.2.2.2.2.2.2.2.2.2.1, X.2.2.2.2.2.2.2.2.2.2.2.2.2.2.2.2.2.2.2.2.2.1, X.2.2.2.2.2.2.2.2.2.2.2.2.2.2.2.2.2.2.2.2.2.2.1, X.2.2.2.2.2.2.2.2.2.2.2.2.2.2.2.2.2.2.2.2.2.2.2.1, X.2.2.2.2.2.2.2.2.2.2.2.2.2.2.2.2.2.2.2.2.2.2.2.2.1, X.2.2.2.2.2.2.2.2.2.2.2.2.2.2.2.2.2.2.2.2.2.2.2.2.2.1, X.2.2.2.2.2.2.2.2.2.2.2.2.2.2.2.2.2.2.2.2.2.2.2.2.2.2)
abbrev ms_now (X : Md) (v : (Int → Int)) : Md := (X.1, v, X.2.2.1, X.2.2.2.1, X.2.2.2.2.1, X.2.2.2.2.2.1, X.2.2.2.2.2.2.1, X.2.2.2.2.2.2.2.1, X.2.2.2.2.2.2.2.2.1, X.2.2.2.2.2.2.2.2.2.1, X.2.2.2.2.2.2.2.2.2.2.1, X.2.2.2.2.2.2.2.2.2.2.2.1, X.2.2.2.2.2.2.2.2.2.2.2.2.1, X.2.2.2.2.2.2.2.2.2.2.2.2.2.1, X.2.2.2.2.2.2.2.2.2.2.2.2.2.2.1, X.2.2.2.2.2.2.2.2.2.2.2.2.2.2.2.1, X.2.2.2.2.2.2.2.2.2.2.2.2.2.2.2.2.1, X.2.2.2.2.2.2.2.2.2.2.2.2.2.2.2.2.2.1, X.2.2.2.2.2.2.2.2.2.2.2.2.2.2.2.2.2.2.1, X.2.2.2.2.2.2.2.2.2.2.2.2.2.2.2.2.2.2.2.1, X.2.2.2.2.2.2.2.2.2.2.2.2.2.2.2.2.2.2.2.2.1, X.2.2.2.2.2.2.2.2.2.2.2.2.2.2.2.2.2.2.2.2.2.1, X.2.2.2.2.2.2.2.2.2.2.2.2.2.2.2.2.2.2.2.2.2.2.1, X.2.2.2.2.2.2.2.2.2.2.2.2.2.2.2.2.2.2.2.2.2.2.2.1, X.2.2.2.2.2.2.2.2.2.2.2.2.2.2.2.2.2.2.2.2.2.2.2.2.1, X.2.2.2.2.2.2.2.2.2.2.2.2.2.2.2.2.2.2.2.2.2.2.2.2.2.1, X.2.2.2.2.2.2.2.2.2.2.2.2.2.2.2.2.2.2.2.2.2.2.2.2.2.2)
abbrev ms_kept (X : Md) (v : (Int → Int)) : Md := (X.1, X.2.1, v, X.2.2.2.1, X.2.2.2.2.1, X.2.2.2.2.2.1, X.2.2.2.2.2.2.1, X.2.2.2.2.2.2.2.1, X.2.2.2.2.2.2.2.2.1, X.2.2.2.2.2.2.2.2.2.1, X.2.2.2.2.2.2.2.2.2.2.1, X.2.2.2.2.2.2.2.2.2.2.2.1, X.2.2.2.2.2.2.2.2.2.2.2.2.1, X.2.2.2.2.2.2.2.2.2.2.2.2.2.1, X.2.2.2.2.2.2.2.2.2.2.2.2.2.2.1, X.2.2.2.2.2.2.2.2.2.2.2.2.2.2.2.1, X.2.2.2.2.2.2.2.2.2.2.2.2.2.2.2.2.1, X.2.2.2.2.2.2.2.2.2.2.2.2.2.2.2.2.2.1, X.2.2.2.2.2.2.2.2.2.2.2.2.2.2.2.2.2.2.1, X.2.2.2.2.2.2.2.2.2.2.2.2.2.2.2.2.2.2.2.1, X.2.2.2.2.2.2.2.2.2.2.2.2.2.2.2.2.2.2.2.2.1, X.2.2.2.2.2.2.2.2.2.2.2.2.2.2.2.2.2.2.2.2.2.1, X.2.2.2.2.2.2.2.2.2.2.2.2.2.2.2.2.2.2.2.2.2.2.1, X.2.2.2.2.2.2.2.2.2.2.2.2.2.2.2.2.2.2.2.2.2.2.2.1, X.2.2.2.2.2.2.2.2.2.2.2.2.2.2.2.2.2.2.2.2.2.2.2.2.1, X.2.2.2.2.2.2.2.2.2.2.2.2.2.2.2.2.2.2.2.2.2.2.2.2.2.1, X.2.2.2.2.2.2.2.2.2.2.2.2.2.2.2.2.2.2.2.2.2.2.2.2.2.2)
abbrev ms_states (X : Md) (v : Int) : Md := (X.1, X.2.1, X.2.2.1, v, X.2.2.2.2.1, X.2.2.2.2.2.1, X.2.2.2.2.2.2.1, X.2.2.2.2.2.2.2.1, X.2.2.2.2.2.2.2.2.1, X.2.2.2.2.2.2.2.2.2.1, X.2.2.2.2.2.2.2.2.2.2.1, X.2.2.2.2.2.2.2.2.2.2.2.1, X.2.2.2.2.2.2.2.2.2.2.2.2.1, X.2.2.2.2.2.2.2.2.2.2.2.2.2.1, X.2.2.2.2.2.2.2.2.2.2.2.2.2.2.1, X.2.2.2.2.2.2.2.2.2.2.2.2.2.2.2.1, X.2.2.2.2.2.2.2.2.2.2.2.2.2.2.2.2.1, X.2.2.2.2.2.2.2.2.2.2.2.2.2.2.2.2.2.1, X.2.2.2.2.2.2.2.2.2.2.2.2.2.2.2.2.2.2.1, X.2.2.2.2.2.2.2.2.2.2.2.2.2.2.2.2.2.2.2.1, X.2.2.2.2.2.2.2.2.2.2.2.2.2.2.2.2.2.2.2.2.1, X.2.2.2.2.2.2.2.2.2.2.2.2.2.2.2.2.2.2.2.2.2.1, X.2.2.2.2.2.2.2.2.2.2.2.2.2.2.2.2.2.2.2.2.2.2.1, X.2.2.2.2.2.2.2.2.2.2.2.2.2.2.2.2.2.2.2.2.2.2.2.1, X.2.2.2.2.2.2.2.2.2.2.2.2.2.2.2.2.2.2.2.2.2.2.2.2.1, X.2.2.2.2.2.2.2.2.2.2.2.2.2.2.2.2.2.2.2.2.2.2.2.2.2.1, X.2.2.2.2.2.2.2.2.2.2.2.2.2.2.2.2.2.2.2.2.2.2.2.2.2.2)
abbrev ms_place (X : Md) (v : (Int → Int)) : Md := (X.1, X.2.1, X.2.2.1, X.2.2.2.1, v, X.2.2.2.2.2.1, X.2.2.2.2.2.2.1, X.2.2.2.2.2.2.2.1, X.2.2.2.2.2.2.2.2.1, X.2.2.2.2.2.2.2.2.2.1, X.2.2.2.2.2.2.2.2.2.2.1, X.2.2.2.2.2.2.2.2.2.2.2.1, X.2.2.2.2.2.2.2.2.2.2.2.2.1, X.2.2.2.2.2.2.2.2.2.2.2.2.2.1, X.2.2.2.2.2.2.2.2.2.2.2.2.2.2.1, X.2.2.2.2.2.2.2.2.2.2.2.2.2.2.2.1, X.2.2.2.2.2.2.2.2.2.2.2.2.2.2.2.2.1, X.2.2.2.2.2.2.2.2.2.2.2.2.2.2.2.2.2.1, X.2.2.2.2.2.2.2.2.2.2.2.2.2.2.2.2.2.2.1, X.2.2.2.2.2.2.2.2.2.2.2.2.2.2.2.2.2.2.2.1, X.2.2.2.2.2.2.2.2.2.2.2.2.2.2.2.2.2.2.2.2.1, X.2.2.2.2.2.2.2.2.2.2.2.2.2.2.2.2.2.2.2.2.2.1, X.2.2.2.2.2.2.2.2.2.2.2.2.2.2.2.2.2.2.2.2.2.2.1, X.2.2.2.2.2.2.2.2.2.2.2.2.2.2.2.2.2.2.2.2.2.2.2.1, X.2.2.2.2.2.2.2.2.2.2.2.2.2.2.2.2.2.2.2.2.2.2.2.2.1, X.2.2.2.2.2.2.2.2.2.2.2.2.2.2.2.2.2.2.2.2.2.2.2.2.2.1, X.2.2.2.2.2.2.2.2.2.2.2.2.2.2.2.2.2.2.2.2.2.2.2.2.2.2)
abbrev ms_startFact (X : Md) (v : (Int → Int)) : Md := (X.1, X.2.1, X.2.2.1, X.2.2.2.1, X.2.2.2.2.1, v, X.2.2.2.2.2.2.1, X.2.2.2.2.2.2.2.1, X.2.2.2.2.2.2.2.2.1, X.2.2.2.2.2.2.2.2.2.1, X.2.2.2.2.2.2.2.2.2.2.1, X.2.2.2.2.2.2.2.2.2.2.2.1, X.2.2.2.2.2.2.2.2.2.2.2.2.1, X.2.2.2.2.2.2.2.2.2.2.2.2.2.1, X.2.2.2.2.2.2.2.2.2.2.2.2.2.2.1, X.2.2.2.2.2.2.2.2.2.2.2.2.2.2.2.1, X.2.2.2.2.2.2.2.2.2.2.2.2.2.2.2.2.1, X.2.2.2.2.2.2.2.2.2.2.2.2.2.2.2.2.2.1, X.2.2.2.2.2.2.2.2.2.2.2.2.2.2.2.2.2.2.1, X.2.2.2.2.2.2.2.2.2.2.2.2.2.2.2.2.2.2.2.1, X.2.2.2.2.2.2.2.2.2.2.2.2.2.2.2.2.2.2.2.2.1, X.2.2.2.2.2.2.2.2.2.2.2.2.2.2.2.2.2.2.2.2.2.1, X.2.2.2.2.2.2.2.2.2.2.2.2.2.2.2.2.2.2.2.2.2.2.1, X.2.2.2.2.2.2.2.2.2.2.2.2.2.2.2.2.2.2.2.2.2.2.2.1, X.2.2.2.2.2.2.2.2.2.2.2.2.2.2.2.2.2.2.2.2.2.2.2.2.1, X.2.2.2.2.2.2.2.2.2.2.2.2.2.2.2.2.2.2.2.2.2.2.2.2.2.1, X.2.2.2.2.2.2.2.2.2.2.2.2.2.2.2.2.2.2.2.2.2.2.2.2.2.2)
abbrev ms_node (X : Md) (v : (Int → Int)) : Md := (X.1, X.2.1, X.2.2.1, X.2.2.2.1, X.2.2.2.2.1, X.2.2.2.2.2.1, v, X.2.2.2.2.2.2.2.1, X.2.2.2.2.2.2.2.2.1, X.2.2.2.2.2.2.2.2.2.1, X.2.2.2.2.2.2.2.2.2.2.1, X.2.2.2.2.2.2.2.2.2.2.2.1, X.2.2.2.2.2.2.2.2.2.2.2.2.1, X.2.2.2.2.2.2.2.2.2.2.2.2.2.1, X.2.2.2.2.2.2.2.2.2.2.2.2.2.2.1, X.2.2.2.2.2.2.2.2.2.2.2.2.2.2.2.1, X.2.2.2.2.2.2.2.2.2.2.2.2.2.2.2.2.1, X.2.2.2.2.2.2.2.2.2.2.2.2.2.2.2.2.2.1, X.2.2.2.2.2.2.2.2.2.2.2.2.2.2.2.2.2.2.1, X.2.2.2.2.2.2.2.2.2.2.2.2.2.2.2.2.2.2.2.1, X.2.2.2.2.2.2.2.2.2.2.2.2.2.2.2.2.2.2.2.2.1, X.2.2.2.2.2.2.2.2.2.2.2.2.2.2.2.2.2.2.2.2.2.1, X.2.2.2.2.2.2.2.2.2.2.2.2.2.2.2.2.2.2.2.2.2.2.1, X.2.2.2.2.2.2.2.2.2.2.2.2.2.2.2.2.2.2.2.2.2.2.2.1, X.2.2.2.2.2.2.2.2.2.2.2.2.2.2.2.2.2.2.2.2.2.2.2.2.1, X.2.2.2.2.2.2.2.2.2.2.2.2.2.2.2.2.2.2.2.2.2.2.2.2.2.1, X.2.2.2.2.2.2.2.2.2.2.2.2.2.2.2.2.2.2.2.2.2.2.2.2.2.2)
abbrev ms_fact (X : Md) (v : (Int → Int)) : Md := (X.1, X.2.1, X.2.2.1, X.2.2.2.1, X.2.2.2.2.1, X.2.2.2.2.2.1, X.2.2.2.2.2.2.1, v, X.2.2.2.2.2.2.2.2.1, X.2.2.2.2.2.2.2.2.2.1, X.2.2.2.2.2.2.2.2.2.2.1, X.2.2.2.2.2.2.2.2.2.2.2.1, X.2.2.2.2.2.2.2.2.2.2.2.2.1, X.2.2.2.2.2.2.2.2.2.2.2.2.2.1, X.2.2.2.2.2.2.2.2.2.2.2.2.2.2.1, X.2.2.2.2.2.2.2.2.2.2.2.2.2.2.2.1, X.2.2.2.2.2.2.2.2.2.2.2.2.2.2.2.2.1, X.2.2.2.2.2.2.2.2.2.2.2.2.2.2.2.2.2.1, X.2.2.2.2.2.2.2.2.2.2.2.2.2.2.2.2.2.2.1, X.2.2.2.2.2.2.2.2.2.2.2.2.2.2.2.2.2.2.2.1, X.2.2.2.2.2.2.2.2.2.2.2.2.2.2.2.2.2.2.2.2.1, X.2.2.2.2.2.2.2.2.2.2.2.2.2.2.2.2.2.2.2.2.2.1, X.2.2.2.2.2.2.2.2.2.2.2.2.2.2.2.2.2.2.2.2.2.2.1, X.2.2.2.2.2.2.2.2.2.2.2.2.2.2.2.2.2.2.2.2.2.2.2.1, X.2.2.2.2.2.2.2.2.2.2.2.2.2.2.2.2.2.2.2.2.2.2.2.2.1, X.2.2.2.2.2.2.2.2.2.2.2.2.2.2.2.2.2.2.2.2.2.2.2.2.2.1, X.2.2.2.2.2.2.2.2.2.2.2.2.2.2.2.2.2.2.2.2.2.2.2.2.2.2)
abbrev ms_ahead (X : Md) (v : (Int → Int)) : Md := (X.1, X.2.1, X.2.2.1, X.2.2.2.1, X.2.2.2.2.1, X.2.2.2.2.2.1, X.2.2.2.2.2.2.1, X.2.2.2.2.2.2.2.1, v, X.2.2.2.2.2.2.2.2.2.1, X.2.2.2.2.2.2.2.2.2.2.1, X.2.2.2.2.2.2.2.2.2.2.2.1, X.2.2.2.2.2.2.2.2.2.2.2.2.1, X.2.2.2.2.2.2.2.2.2.2.2.2.2.1, X.2.2.2.2.2.2.2.2.2.2.2.2.2.2.1, X.2.2.2.2.2.2.2.2.2.2.2.2.2.2.2.1, X.2.2.2.2.2.2.2.2.2.2.2.2.2.2.2.2.1, X.2.2.2.2.2.2.2.2.2.2.2.2.2.2.2.2.2.1, X.2.2.2.2.2.2.2.2.2.2.2.2.2.2.2.2.2.2.1, X.2.2.2.2.2.2.2.2.2.2.2.2.2.2.2.2.2.2.2.1, X.2.2.2.2.2.2.2.2.2.2.2.2.2.2.2.2.2.2.2.2.1, X.2.2.2.2.2.2.2.2.2.2.2.2.2.2.2.2.2.2.2.2.2.1, X.2.2.2.2.2.2.2.2.2.2.2.2.2.2.2.2.2.2.2.2.2.2.1, X.2.2.2.2.2.2.2.2.2.2.2.2.2.2.2.2.2.2.2.2.2.2.2.1, X.2.2.2.2.2.2.2.2.2.2.2.2.2.2.2.2.2.2.2.2.2.2.2.2.1, X.2.2.2.2.2.2.2.2.2.2.2.2.2.2.2.2.2.2.2.2.2.2.2.2.2.1, X.2.2.2.2.2.2.2.2.2.2.2.2.2.2.2.2.2.2.2.2.2.2.2.2.2.2)
abbrev ms_inside (X : Md) (v : (Int → Int)) : Md := (X.1, X.2.1, X.2.2.1, X.2.2.2.1, X.2.2.2.2.1, X.2.2.2.2.2.1, X.2.2.2.2.2.2.1, X.2.2.2.2.2.2.2.1, X.2.2.2.2.2.2.2.2.1, v, X.2.2.2.2.2.2.2.2.2.2.1, X.2.2.2.2.2.2.2.2.2.2.2.1, X.2.2.2.2.2.2.2.2.2.2.2.2.1, X.2.2.2.2.2.2.2.2.2.2.2.2.2.1, X.2.2.2.2.2.2.2.2.2.2.2.2.2.2.1, X.2.2.2.2.2.2.2.2.2.2.2.2.2.2.2.1, X.2.2.2.2.2.2.2.2.2.2.2.2.2.2.2.2.1, X.2.2.2.2.2.2.2.2.2.2.2.2.2.2.2.2.2.1, X.2.2.2.2.2.2.2.2.2.2.2.2.2.2.2.2.2.2.1, X.2.2.2.2.2.2.2.2.2.2.2.2.2.2.2.2.2.2.2.1, X.2.2.2.2.2.2.2.2.2.2.2.2.2.2.2.2.2.2.2.2.1, X.2.2.2.2.2.2.2.2.2.2.2.2.2.2.2.2.2.2.2.2.2.1, X.2.2.2.2.2.2.2.2.2.2.2.2.2.2.2.2.2.2.2.2.2.2.1, X.2.2.2.2.2.2.2.2.2.2.2.2.2.2.2.2.2.2.2.2.2.2.2.1, X.2.2.2.2.2.2.2.2.2.2.2.2.2.2.2.2.2.2.2.2.2.2.2.2.1, X.2.2.2.2.2.2.2.2.2.2.2.2.2.2.2.2.2.2.2.2.2.2.2.2.2.1, X.2.2.2.2.2.2.2.2.2.2.2.2.2.2.2.2.2.2.2.2.2.2.2.2.2.2)
abbrev ms_entries (X : Md) (v : Int) : Md := (X.1, X.2.1, X.2.2.1, X.2.2.2.1, X.2.2.2.2.1, X.2.2.2.2.2.1, X.2.2.2.2.2.2.1, X.2.2.2.2.2.2.2.1, X.2.2.2.2.2.2.2.2.1, X.2.2.2.2.2.2.2.2.2.1, v, X.2.2.2.2.2.2.2.2.2.2.2.1, X.2.2.2.2.2.2.2.2.2.2.2.2.1, X.2.2.2.2.2.2.2.2.2.2.2.2.2.1, X.2.2.2.2.2.2.2.2.2.2.2.2.2.2.1, X.2.2.2.2.2.2.2.2.2.2.2.2.2.2.2.1, X.2.2.2.2.2.2.2.2.2.2.2.2.2.2.2.2.1, X.2.2.2.2.2.2.2.2.2.2.2.2.2.2.2.2.2.1, X.2.2.2.2.2.2.2.2.2.2.2.2.2.2.2.2.2.2.1, X.2.2.2.2.2.2.2.2.2.2.2.2.2.2.2.2.2.2.2.1, X.2.2.2.2.2.2.2.2.2.2.2.2.2.2.2.2.2.2.2.2.1, X.2.2.2.2.2.2.2.2.2.2.2.2.2.2.2.2.2.2.2.2.2.1, X.2.2.2.2.2.2.2.2.2.2.2.2.2.2.2.2.2.2.2.2.2.2.1, X.2.2.2.2.2.2.2.2.2.2.2.2.2.2.2.2.2.2.2.2.2.2.2.1, X.2.2.2.2.2.2.2.2.2.2.2.2.2.2.2.2.2.2.2.2.2.2.2.2.1, X.2.2.2.2.2.2.2.2.2.2.2.2.2.2.2.2.2.2.2.2.2.2.2.2.2.1, X.2.2.2.2.2.2.2.2.2.2.2.2.2.2.2.2.2.2.2.2.2.2.2.2.2.2)
abbrev ms_caller (X : Md) (v : (Int → Int)) : Md := (X.1, X.2.1, X.2.2.1, X.2.2.2.1, X.2.2.2.2.1, X.2.2.2.2.2.1, X.2.2.2.2.2.2.1, X.2.2.2.2.2.2.2.1, X.2.2.2.2.2.2.2.2.1, X.2.2.2.2.2.2.2.2.2.1, X.2.2.2.2.2.2.2.2.2.2.1, v, X.2.2.2.2.2.2.2.2.2.2.2.2.1, X.2.2.2.2.2.2.2.2.2.2.2.2.2.1, X.2.2.2.2.2.2.2.2.2.2.2.2.2.2.1, X.2.2.2.2.2.2.2.2.2.2.2.2.2.2.2.1, X.2.2.2.2.2.2.2.2.2.2.2.2.2.2.2.2.1, X.2.2.2.2.2.2.2.2.2.2.2.2.2.2.2.2.2.1, X.2.2.2.2.2.2.2.2.2.2.2.2.2.2.2.2.2.2.1, X.2.2.2.2.2.2.2.2.2.2.2.2.2.2.2.2.2.2.2.1, X.2.2.2.2.2.2.2.2.2.2.2.2.2.2.2.2.2.2.2.2.1, X.2.2.2.2.2.2.2.2.2.2.2.2.2.2.2.2.2.2.2.2.2.1, X.2.2.2.2.2.2.2.2.2.2.2.2.2.2.2.2.2.2.2.2.2.2.1, X.2.2.2.2.2.2.2.2.2.2.2.2.2.2.2.2.2.2.2.2.2.2.2.1, X.2.2.2.2.2.2.2.2.2.2.2.2.2.2.2.2.2.2.2.2.2.2.2.2.1, X.2.2.2.2.2.2.2.2.2.2.2.2.2.2.2.2.2.2.2.2.2.2.2.2.2.1, X.2.2.2.2.2.2.2.2.2.2.2.2.2.2.2.2.2.2.2.2.2.2.2.2.2.2)
abbrev ms_following (X : Md) (v : (Int → Int)) : Md := (X.1, X.2.1, X.2.2.1, X.2.2.2.1, X.2.2.2.2.1, X.2.2.2.2.2.1, X.2.2.2.2.2.2.1, X.2.2.2.2.2.2.2.1, X.2.2.2.2.2.2.2.2.1, X.2.2.2.2.2.2.2.2.2.1, X.2.2.2.2.2.2.2.2.2.2.1, X.2.2.2.2.2.2.2.2.2.2.2.1, v, X.2.2.2.2.2.2.2.2.2.2.2.2.2.1, X.2.2.2.2.2.2.2.2.2.2.2.2.2.2.1, X.2.2.2.2.2.2.2.2.2.2.2.2.2.2.2.1, X.2.2.2.2.2.2.2.2.2.2.2.2.2.2.2.2.1, X.2.2.2.2.2.2.2.2.2.2.2.2.2.2.2.2.2.1, X.2.2.2.2.2.2.2.2.2.2.2.2.2.2.2.2.2.2.1, X.2.2.2.2.2.2.2.2.2.2.2.2.2.2.2.2.2.2.2.1, X.2.2.2.2.2.2.2.2.2.2.2.2.2.2.2.2.2.2.2.2.1, X.2.2.2.2.2.2.2.2.2.2.2.2.2.2.2.2.2.2.2.2.2.1, X.2.2.2.2.2.2.2.2.2.2.2.2.2.2.2.2.2.2.2.2.2.2.1, X.2.2.2.2.2.2.2.2.2.2.2.2.2.2.2.2.2.2.2.2.2.2.2.1, X.2.2.2.2.2.2.2.2.2.2.2.2.2.2.2.2.2.2.2.2.2.2.2.2.1, X.2.2.2.2.2.2.2.2.2.2.2.2.2.2.2.2.2.2.2.2.2.2.2.2.2.1, X.2.2.2.2.2.2.2.2.2.2.2.2.2.2.2.2.2.2.2.2.2.2.2.2.2.2)
abbrev ms_firstCaller (X : Md) (v : (Int → Int)) : Md := (X.1, X.2.1, X.2.2.1, X.2.2.2.1, X.2.2.2.2.1, X.2.2.2.2.2.1, X.2.2.2.2.2.2.1, X.2.2.2.2.2.2.2.1, X.2.2.2.2.2.2.2.2.1, X.2.2.2.2.2.2.2.2.2.1, X.2.2.2.2.2.2.2.2.2.2.1, X.2.2.2.2.2.2.2.2.2.2.2.1, X.2.2.2.2.2.2.2.2.2.2.2.2.1, v, X.2.2.2.2.2.2.2.2.2.2.2.2.2.2.1, X.2.2.2.2.2.2.2.2.2.2.2.2.2.2.2.1, X.2.2.2.2.2.2.2.2.2.2.2.2.2.2.2.2.1, X.2.2.2.2.2.2.2.2.2.2.2.2.2.2.2.2.2.1, X.2.2.2.2.2.2.2.2.2.2.2.2.2.2.2.2.2.2.1, X.2.2.2.2.2.2.2.2.2.2.2.2.2.2.2.2.2.2.2.1, X.2.2.2.2.2.2.2.2.2.2.2.2.2.2.2.2.2.2.2.2.1, X.2.2.2.2.2.2.2.2.2.2.2.2.2.2.2.2.2.2.2.2.2.1, X.2.2.2.2.2.2.2.2.2.2.2.2.2.2.2.2.2.2.2.2.2.2.1, X.2.2.2.2.2.2.2.2.2.2.2.2.2.2.2.2.2.2.2.2.2.2.2.1, X.2.2.2.2.2.2.2.2.2.2.2.2.2.2.2.2.2.2.2.2.2.2.2.2.1, X.2.2.2.2.2.2.2.2.2.2.2.2.2.2.2.2.2.2.2.2.2.2.2.2.2.1, X.2.2.2.2.2.2.2.2.2.2.2.2.2.2.2.2.2.2.2.2.2.2.2.2.2.2)
abbrev ms_lastCaller (X : Md) (v : (Int → Int)) : Md := (X.1, X.2.1, X.2.2.1, X.2.2.2.1, X.2.2.2.2.1, X.2.2.2.2.2.1, X.2.2.2.2.2.2.1, X.2.2.2.2.2.2.2.1, X.2.2.2.2.2.2.2.2.1, X.2.2.2.2.2.2.2.2.2.1, X.2.2.2.2.2.2.2.2.2.2.1, X.2.2.2.2.2.2.2.2.2.2.2.1, X.2.2.2.2.2.2.2.2.2.2.2.2.1, X.2.2.2.2.2.2.2.2.2.2.2.2.2.1, v, X.2.2.2.2.2.2.2.2.2.2.2.2.2.2.2.1, X.2.2.2.2.2.2.2.2.2.2.2.2.2.2.2.2.1, X.2.2.2.2.2.2.2.2.2.2.2.2.2.2.2.2.2.1, X.2.2.2.2.2.2.2.2.2.2.2.2.2.2.2.2.2.2.1, X.2.2.2.2.2.2.2.2.2.2.2.2.2.2.2.2.2.2.2.1, X.2.2.2.2.2.2.2.2.2.2.2.2.2.2.2.2.2.2.2.2.1, X.2.2.2.2.2.2.2.2.2.2.2.2.2.2.2.2.2.2.2.2.2.1, X.2.2.2.2.2.2.2.2.2.2.2.2.2.2.2.2.2.2.2.2.2.2.1, X.2.2.2.2.2.2.2.2.2.2.2.2.2.2.2.2.2.2.2.2.2.2.2.1, X.2.2.2.2.2.2.2.2.2.2.2.2.2.2.2.2.2.2.2.2.2.2.2.2.1, X.2.2.2.2.2.2.2.2.2.2.2.2.2.2.2.2.2.2.2.2.2.2.2.2.2.1, X.2.2.2.2.2.2.2.2.2.2.2.2.2.2.2.2.2.2.2.2.2.2.2.2.2.2)
abbrev ms_callers (X : Md) (v : Int) : Md := (X.1, X.2.1, X.2.2.1, X.2.2.2.1, X.2.2.2.2.1, X.2.2.2.2.2.1, X.2.2.2.2.2.2.1, X.2.2.2.2.2.2.2.1, X.2.2.2.2.2.2.2.2.1, X.2.2.2.2.2.2.2.2.2.1, X.2.2.2.2.2.2.2.2.2.2.1, X.2.2.2.2.2.2.2.2.2.2.2.1, X.2.2.2.2.2.2.2.2.2.2.2.2.1, X.2.2.2.2.2.2.2.2.2.2.2.2.2.1, X.2.2.2.2.2.2.2.2.2.2.2.2.2.2.1, v, X.2.2.2.2.2.2.2.2.2.2.2.2.2.2.2.2.1, X.2.2.2.2.2.2.2.2.2.2.2.2.2.2.2.2.2.1, X.2.2.2.2.2.2.2.2.2.2.2.2.2.2.2.2.2.2.1, X.2.2.2.2.2.2.2.2.2.2.2.2.2.2.2.2.2.2.2.1, X.2.2.2.2.2.2.2.2.2.2.2.2.2.2.2.2.2.2.2.2.1, X.2.2.2.2.2.2.2.2.2.2.2.2.2.2.2.2.2.2.2.2.2.1, X.2.2.2.2.2.2.2.2.2.2.2.2.2.2.2.2.2.2.2.2.2.2.1, X.2.2.2.2.2.2.2.2.2.2.2.2.2.2.2.2.2.2.2.2.2.2.2.1, X.2.2.2.2.2.2.2.2.2.2.2.2.2.2.2.2.2.2.2.2.2.2.2.2.1, X.2.2.2.2.2.2.2.2.2.2.2.2.2.2.2.2.2.2.2.2.2.2.2.2.2.1, X.2.2.2.2.2.2.2.2.2.2.2.2.2.2.2.2.2.2.2.2.2.2.2.2.2.2)
abbrev ms_known (X : Md) (v : Int) : Md := (X.1, X.2.1, X.2.2.1, X.2.2.2.1, X.2.2.2.2.1, X.2.2.2.2.2.1, X.2.2.2.2.2.2.1, X.2.2.2.2.2.2.2.1, X.2.2.2.2.2.2.2.2.1, X.2.2.2.2.2.2.2.2.2.1, X.2.2.2.2.2.2.2.2.2.2.1, X.2.2.2.2.2.2.2.2.2.2.2.1, X.2.2.2.2.2.2.2.2.2.2.2.2.1, X.2.2.2.2.2.2.2.2.2.2.2.2.2.1, X.2.2.2.2.2.2.2.2.2.2.2.2.2.2.1, X.2.2.2.2.2.2.2.2.2.2.2.2.2.2.2.1, v, X.2.2.2.2.2.2.2.2.2.2.2.2.2.2.2.2.2.1, X.2.2.2.2.2.2.2.2.2.2.2.2.2.2.2.2.2.2.1, X.2.2.2.2.2.2.2.2.2.2.2.2.2.2.2.2.2.2.2.1, X.2.2.2.2.2.2.2.2.2.2.2.2.2.2.2.2.2.2.2.2.1, X.2.2.2.2.2.2.2.2.2.2.2.2.2.2.2.2.2.2.2.2.2.1, X.2.2.2.2.2.2.2.2.2.2.2.2.2.2.2.2.2.2.2.2.2.2.1, X.2.2.2.2.2.2.2.2.2.2.2.2.2.2.2.2.2.2.2.2.2.2.2.1, X.2.2.2.2.2.2.2.2.2.2.2.2.2.2.2.2.2.2.2.2.2.2.2.2.1, X.2.2.2.2.2.2.2.2.2.2.2.2.2.2.2.2.2.2.2.2.2.2.2.2.2.1, X.2.2.2.2.2.2.2.2.2.2.2.2.2.2.2.2.2.2.2.2.2.2.2.2.2.2)
abbrev ms_loose (X : Md) (v : (Int → Int)) : Md := (X.1, X.2.1, X.2.2.1, X.2.2.2.1, X.2.2.2.2.1, X.2.2.2.2.2.1, X.2.2.2.2.2.2.1, X.2.2.2.2.2.2.2.1, X.2.2.2.2.2.2.2.2.1, X.2.2.2.2.2.2.2.2.2.1, X.2.2.2.2.2.2.2.2.2.2.1, X.2.2.2.2.2.2.2.2.2.2.2.1, X.2.2.2.2.2.2.2.2.2.2.2.2.1, X.2.2.2.2.2.2.2.2.2.2.2.2.2.1, X.2.2.2.2.2.2.2.2.2.2.2.2.2.2.1, X.2.2.2.2.2.2.2.2.2.2.2.2.2.2.2.1, X.2.2.2.2.2.2.2.2.2.2.2.2.2.2.2.2.1, v, X.2.2.2.2.2.2.2.2.2.2.2.2.2.2.2.2.2.2.1, X.2.2.2.2.2.2.2.2.2.2.2.2.2.2.2.2.2.2.2.1, X.2.2.2.2.2.2.2.2.2.2.2.2.2.2.2.2.2.2.2.2.1, X.2.2.2.2.2.2.2.2.2.2.2.2.2.2.2.2.2.2.2.2.2.1, X.2.2.2.2.2.2.2.2.2.2.2.2.2.2.2.2.2.2.2.2.2.2.1, X.2.2.2.2.2.2.2.2.2.2.2.2.2.2.2.2.2.2.2.2.2.2.2.1, X.2.2.2.2.2.2.2.2.2.2.2.2.2.2.2.2.2.2.2.2.2.2.2.2.1, X.2.2.2.2.2.2.2.2.2.2.2.2.2.2.2.2.2.2.2.2.2.2.2.2.2.1, X.2.2.2.2.2.2.2.2.2.2.2.2.2.2.2.2.2.2.2.2.2.2.2.2.2.2)
abbrev ms_stack (X : Md) (v : (Int → Int)) : Md := (X.1, X.2.1, X.2.2.1, X.2.2.2.1, X.2.2.2.2.1, X.2.2.2.2.2.1, X.2.2.2.2.2.2.1, X.2.2.2.2.2.2.2.1, X.2.2.2.2.2.2.2.2.1, X.2.2.2.2.2.2.2.2.2.1, X.2.2.2.2.2.2.2.2.2.2.1, X.2.2.2.2.2.2.2.2.2.2.2.1, X.2.2.2.2.2.2.2.2.2.2.2.2.1, X.2.2.2.2.2.2.2.2.2.2.2.2.2.1, X.2.2.2.2.2.2.2.2.2.2.2.2.2.2.1, X.2.2.2.2.2.2.2.2.2.2.2.2.2.2.2.1, X.2.2.2.2.2.2.2.2.2.2.2.2.2.2.2.2.1, X.2.2.2.2.2.2.2.2.2.2.2.2.2.2.2.2.2.1, v, X.2.2.2.2.2.2.2.2.2.2.2.2.2.2.2.2.2.2.2.1, X.2.2.2.2.2.2.2.2.2.2.2.2.2.2.2.2.2.2.2.2.1, X.2.2.2.2.2.2.2.2.2.2.2.2.2.2.2.2.2.2.2.2.2.1, X.2.2.2.2.2.2.2.2.2.2.2.2.2.2.2.2.2.2.2.2.2.2.1, X.2.2.2.2.2.2.2.2.2.2.2.2.2.2.2.2.2.2.2.2.2.2.2.1, X.2.2.2.2.2.2.2.2.2.2.2.2.2.2.2.2.2.2.2.2.2.2.2.2.1, X.2.2.2.2.2.2.2.2.2.2.2.2.2.2.2.2.2.2.2.2.2.2.2.2.2.1, X.2.2.2.2.2.2.2.2.2.2.2.2.2.2.2.2.2.2.2.2.2.2.2.2.2.2)
abbrev ms_high (X : Md) (v : Int) : Md := (X.1, X.2.1, X.2.2.1, X.2.2.2.1, X.2.2.2.2.1, X.2.2.2.2.2.1, X.2.2.2.2.2.2.1, X.2.2.2.2.2.2.2.1, X.2.2.2.2.2.2.2.2.1, X.2.2.2.2.2.2.2.2.2.1, X.2.2.2.2.2.2.2.2.2.2.1, X.2.2.2.2.2.2.2.2.2.2.2.1, X.2.2.2.2.2.2.2.2.2.2.2.2.1, X.2.2.2.2.2.2.2.2.2.2.2.2.2.1, X.2.2.2.2.2.2.2.2.2.2.2.2.2.2.1, X.2.2.2.2.2.2.2.2.2.2.2.2.2.2.2.1, X.2.2.2.2.2.2.2.2.2.2.2.2.2.2.2.2.1, X.2.2.2.2.2.2.2.2.2.2.2.2.2.2.2.2.2.1, X.2.2.2.2.2.2.2.2.2.2.2.2.2.2.2.2.2.2.1, v, X.2.2.2.2.2.2.2.2.2.2.2.2.2.2.2.2.2.2.2.2.1, X.2.2.2.2.2.2.2.2.2.2.2.2.2.2.2.2.2.2.2.2.2.1, X.2.2.2.2.2.2.2.2.2.2.2.2.2.2.2.2.2.2.2.2.2.2.1, X.2.2.2.2.2.2.2.2.2.2.2.2.2.2.2.2.2.2.2.2.2.2.2.1, X.2.2.2.2.2.2.2.2.2.2.2.2.2.2.2.2.2.2.2.2.2.2.2.2.1, X.2.2.2.2.2.2.2.2.2.2.2.2.2.2.2.2.2.2.2.2.2.2.2.2.2.1, X.2.2.2.2.2.2.2.2.2.2.2.2.2.2.2.2.2.2.2.2.2.2.2.2.2.2)
abbrev ms_pairs (X : Md) (v : (Int → Int)) : Md := (X.1, X.2.1, X.2.2.1, X.2.2.2.1, X.2.2.2.2.1, X.2.2.2.2.2.1, X.2.2.2.2.2.2.1, X.2.2.2.2.2.2.2.1, X.2.2.2.2.2.2.2.2.1, X.2.2.2.2.2.2.2.2.2.1, X.2.2.2.2.2.2.2.2.2.2.1, X.2.2.2.2.2.2.2.2.2.2.2.1, X.2.2.2.2.2.2.2.2.2.2.2.2.1, X.2.2.2.2.2.2.2.2.2.2.2.2.2.1, X.2.2.2.2.2.2.2.2.2.2.2.2.2.2.1, X.2.2.2.2.2.2.2.2.2.2.2.2.2.2.2.1, X.2.2.2.2.2.2.2.2.2.2.2.2.2.2.2.2.1, X.2.2.2.2.2.2.2.2.2.2.2.2.2.2.2.2.2.1, X.2.2.2.2.2.2.2.2.2.2.2.2.2.2.2.2.2.2.1, X.2.2.2.2.2.2.2.2.2.2.2.2.2.2.2.2.2.2.2.1, v, X.2.2.2.2.2.2.2.2.2.2.2.2.2.2.2.2.2.2.2.2.2.1, X.2.2.2.2.2.2.2.2.2.2.2.2.2.2.2.2.2.2.2.2.2.2.1, X.2.2.2.2.2.2.2.2.2.2.2.2.2.2.2.2.2.2.2.2.2.2.2.1, X.2.2.2.2.2.2.2.2.2.2.2.2.2.2.2.2.2.2.2.2.2.2.2.2.1, X.2.2.2.2.2.2.2.2.2.2.2.2.2.2.2.2.2.2.2.2.2.2.2.2.2.1, X.2.2.2.2.2.2.2.2.2.2.2.2.2.2.2.2.2.2.2.2.2.2.2.2.2.2)
abbrev ms_told (X : Md) (v : Int) : Md := (X.1, X.2.1, X.2.2.1, X.2.2.2.1, X.2.2.2.2.1, X.2.2.2.2.2.1, X.2.2.2.2.2.2.1, X.2.2.2.2.2.2.2.1, X.2.2.2.2.2.2.2.2.1, X.2.2.2.2.2.2.2.2.2.1, X.2.2.2.2.2.2.2.2.2.2.1, X.2.2.2.2.2.2.2.2.2.2.2.1, X.2.2.2.2.2.2.2.2.2.2.2.2.1, X.2.2.2.2.2.2.2.2.2.2.2.2.2.1, X.2.2.2.2.2.2.2.2.2.2.2.2.2.2.1, X.2.2.2.2.2.2.2.2.2.2.2.2.2.2.2.1, X.2.2.2.2.2.2.2.2.2.2.2.2.2.2.2.2.1, X.2.2.2.2.2.2.2.2.2.2.2.2.2.2.2.2.2.1, X.2.2.2.2.2.2.2.2.2.2.2.2.2.2.2.2.2.2.1, X.2.2.2.2.2.2.2.2.2.2.2.2.2.2.2.2.2.2.2.1, X.2.2.2.2.2.2.2.2.2.2.2.2.2.2.2.2.2.2.2.2.1, v, X.2.2.2.2.2.2.2.2.2.2.2.2.2.2.2.2.2.2.2.2.2.2.1, X.2.2.2.2.2.2.2.2.2.2.2.2.2.2.2.2.2.2.2.2.2.2.2.1, X.2.2.2.2.2.2.2.2.2.2.2.2.2.2.2.2.2.2.2.2.2.2.2.2.1, X.2.2.2.2.2.2.2.2.2.2.2.2.2.2.2.2.2.2.2.2.2.2.2.2.2.1, X.2.2.2.2.2.2.2.2.2.2.2.2.2.2.2.2.2.2.2.2.2.2.2.2.2.2)
abbrev ms_text (X : Md) (v : (Int → Int)) : Md := (X.1, X.2.1, X.2.2.1, X.2.2.2.1, X.2.2.2.2.1, X.2.2.2.2.2.1, X.2.2.2.2.2.2.1, X.2.2.2.2.2.2.2.1, X.2.2.2.2.2.2.2.2.1, X.2.2.2.2.2.2.2.2.2.1, X.2.2.2.2.2.2.2.2.2.2.1, X.2.2.2.2.2.2.2.2.2.2.2.1, X.2.2.2.2.2.2.2.2.2.2.2.2.1, X.2.2.2.2.2.2.2.2.2.2.2.2.2.1, X.2.2.2.2.2.2.2.2.2.2.2.2.2.2.1, X.2.2.2.2.2.2.2.2.2.2.2.2.2.2.2.1, X.2.2.2.2.2.2.2.2.2.2.2.2.2.2.2.2.1, X.2.2.2.2.2.2.2.2.2.2.2.2.2.2.2.2.2.1, X.2.2.2.2.2.2.2.2.2.2.2.2.2.2.2.2.2.2.1, X.2.2.2.2.2.2.2.2.2.2.2.2.2.2.2.2.2.2.2.1, X.2.2.2.2.2.2.2.2.2.2.2.2.2.2.2.2.2.2.2.2.1, X.2.2.2.2.2.2.2.2.2.2.2.2.2.2.2.2.2.2.2.2.2.1, v, X.2.2.2.2.2.2.2.2.2.2.2.2.2.2.2.2.2.2.2.2.2.2.2.1, X.2.2.2.2.2.2.2.2.2.2.2.2.2.2.2.2.2.2.2.2.2.2.2.2.1, X.2.2.2.2.2.2.2.2.2.2.2.2.2.2.2.2.2.2.2.2.2.2.2.2.2.1, X.2.2.2.2.2.2.2.2.2.2.2.2.2.2.2.2.2.2.2.2.2.2.2.2.2.2)
abbrev ms_typed (X : Md) (v : Int) : Md := (X.1, X.2.1, X.2.2.1, X.2.2.2.1, X.2.2.2.2.1, X.2.2.2.2.2.1, X.2.2.2.2.2.2.1, X.2.2.2.2.2.2.2.1, X.2.2.2.2.2.2.2.2.1, X.2.2.2.2.2.2.2.2.2.1, X.2.2.2.2.2.2.2.2.2.2.1, X.2.2.2.2.2.2.2.2.2.2.2.1, X.2.2.2.2.2.2.2.2.2.2.2.2.1, X.2.2.2.2.2.2.2.2.2.2.2.2.2.1, X.2.2.2.2.2.2.2.2.2.2.2.2.2.2.1, X.2.2.2.2.2.2.2.2.2.2.2.2.2.2.2.1, X.2.2.2.2.2.2.2.2.2.2.2.2.2.2.2.2.1, X.2.2.2.2.2.2.2.2.2.2.2.2.2.2.2.2.2.1, X.2.2.2.2.2.2.2.2.2.2.2.2.2.2.2.2.2.2.1, X.2.2.2.2.2.2.2.2.2.2.2.2.2.2.2.2.2.2.2.1, X.2.2.2.2.2.2.2.2.2.2.2.2.2.2.2.2.2.2.2.2.1, X.2.2.2.2.2.2.2.2.2.2.2.2.2.2.2.2.2.2.2.2.2.1, X.2.2.2.2.2.2.2.2.2.2.2.2.2.2.2.2.2.2.2.2.2.2.1, v, X.2.2.2.2.2.2.2.2.2.2.2.2.2.2.2.2.2.2.2.2.2.2.2.2.1, X.2.2.2.2.2.2.2.2.2.2.2.2.2.2.2.2.2.2.2.2.2.2.2.2.2.1, X.2.2.2.2.2.2.2.2.2.2.2.2.2.2.2.2.2.2.2.2.2.2.2.2.2.2)
abbrev ms_orders (X : Md) (v : (Int → Int)) : Md := (X.1, X.2.1, X.2.2.1, X.2.2.2.1, X.2.2.2.2.1, X.2.2.2.2.2.1, X.2.2.2.2.2.2.1, X.2.2.2.2.2.2.2.1, X.2.2.2.2.2.2.2.2.1, X.2.2.2.2.2.2.2.2.2.1, X.2.2.2.2.2.2.2.2.2.2.1, X.2.2.2.2.2.2.2.2.2.2.2.1, X.2.2.2.2.2.2.2.2.2.2.2.2.1, X.2.2.2.2.2.2.2.2.2.2.2.2.2.1, X.2.2.2.2.2.2.2.2.2.2.2.2.2.2.1, X.2.2.2.2.2.2.2.2.2.2.2.2.2.2.2.1, X.2.2.2.2.2.2.2.2.2.2.2.2.2.2.2.2.1, X.2.2.2.2.2.2.2.2.2.2.2.2.2.2.2.2.2.1, X.2.2.2.2.2.2.2.2.2.2.2.2.2.2.2.2.2.2.1, X.2.2.2.2.2.2.2.2.2.2.2.2.2.2.2.2.2.2.2.1, X.2.2.2.2.2.2.2.2.2.2.2.2.2.2.2.2.2.2.2.2.1, X.2.2.2.2.2.2.2.2.2.2.2.2.2.2.2.2.2.2.2.2.2.1, X.2.2.2.2.2.2.2.2.2.2.2.2.2.2.2.2.2.2.2.2.2.2.1, X.2.2.2.2.2.2.2.2.2.2.2.2.2.2.2.2.2.2.2.2.2.2.2.1, v, X.2.2.2.2.2.2.2.2.2.2.2.2.2.2.2.2.2.2.2.2.2.2.2.2.2.1, X.2.2.2.2.2.2.2.2.2.2.2.2.2.2.2.2.2.2.2.2.2.2.2.2.2.2)
abbrev ms_written (X : Md) (v : Int) : Md := (X.1, X.2.1, X.2.2.1, X.2.2.2.1, X.2.2.2.2.1, X.2.2.2.2.2.1, X.2.2.2.2.2.2.1, X.2.2.2.2.2.2.2.1, X.2.2.2.2.2.2.2.2.1, X.2.2.2.2.2.2.2.2.2.1, X.2.2.2.2.2.2.2.2.2.2.1, X.2.2.2.2.2.2.2.2.2.2.2.1, X.2.2.2.2.2.2.2.2.2.2.2.2.1, X.2.2.2.2.2.2.2.2.2.2.2.2.2.1, X.2.2.2.2.2.2.2.2.2.2.2.2.2.2.1, X.2.2.2.2.2.2.2.2.2.2.2.2.2.2.2.1, X.2.2.2.2.2.2.2.2.2.2.2.2.2.2.2.2.1, X.2.2.2.2.2.2.2.2.2.2.2.2.2.2.2.2.2.1, X.2.2.2.2.2.2.2.2.2.2.2.2.2.2.2.2.2.2.1, X.2.2.2.2.2.2.2.2.2.2.2.2.2.2.2.2.2.2.2.1, X.2.2.2.2.2.2.2.2.2.2.2.2.2.2.2.2.2.2.2.2.1, X.2.2.2.2.2.2.2.2.2.2.2.2.2.2.2.2.2.2.2.2.2.1, X.2.2.2.2.2.2.2.2.2.2.2.2.2.2.2.2.2.2.2.2.2.2.1, X.2.2.2.2.2.2.2.2.2.2.2.2.2.2.2.2.2.2.2.2.2.2.2.1, X.2.2.2.2.2.2.2.2.2.2.2.2.2.2.2.2.2.2.2.2.2.2.2.2.1, v, X.2.2.2.2.2.2.2.2.2.2.2.2.2.2.2.2.2.2.2.2.2.2.2.2.2.2)
abbrev ms_look (X : Md) (v : Int) : Md := (X.1, X.2.1, X.2.2.1, X.2.2.2.1, X.2.2.2.2.1, X.2.2.2.2.2.1, X.2.2.2.2.2.2.1, X.2.2.2.2.2.2.2.1, X.2.2.2.2.2.2.2.2.1, X.2.2.2.2.2.2.2.2.2.1, X.2.2.2.2.2.2.2.2.2.2.1, X.2.2.2.2.2.2.2.2.2.2.2.1, X.2.2.2.2.2.2.2.2.2.2.2.2.1, X.2.2.2.2.2.2.2.2.2.2.2.2.2.1, X.2.2.2.2.2.2.2.2.2.2.2.2.2.2.1, X.2.2.2.2.2.2.2.2.2.2.2.2.2.2.2.1, X.2.2.2.2.2.2.2.2.2.2.2.2.2.2.2.2.1, X.2.2.2.2.2.2.2.2.2.2.2.2.2.2.2.2.2.1, X.2.2.2.2.2.2.2.2.2.2.2.2.2.2.2.2.2.2.1, X.2.2.2.2.2.2.2.2.2.2.2.2.2.2.2.2.2.2.2.1, X.2.2.2.2.2.2.2.2.2.2.2.2.2.2.2.2.2.2.2.2.1, X.2.2.2.2.2.2.2.2.2.2.2.2.2.2.2.2.2.2.2.2.2.1, X.2.2.2.2.2.2.2.2.2.2.2.2.2.2.2.2.2.2.2.2.2.2.1, X.2.2.2.2.2.2.2.2.2.2.2.2.2.2.2.2.2.2.2.2.2.2.2.1, X.2.2.2.2.2.2.2.2.2.2.2.2.2.2.2.2.2.2.2.2.2.2.2.2.1, X.2.2.2.2.2.2.2.2.2.2.2.2.2.2.2.2.2.2.2.2.2.2.2.2.2.1, v)
def mW (g : GG) (o : Nat) (ad : Nat → Nat) (X : Md) : va_W := [(o, .inr (5, [.ref (ad 0), .ref (ad 1), .ref (ad 2), .int (iI (m_states X)), .ref (ad 3), .ref (ad 4), .ref (ad 5), .ref (ad 6), .ref (ad 7), .ref (ad 8), .int (iI (m_entries X)), .ref (ad 9), .ref (ad 10), .ref (ad 11), .ref (ad 12), .int (iI (m_callers X)), .int (iI (m_known X)), .ref (ad 13), .ref (ad 14), .int (iI (m_high X)), .ref (ad 15), .int (iI (m_told X)), .ref (ad 16), .int (iI (m_typed X)), .ref (ad 17), .int (iI (m_written X)), .int (iI (m_look X))])), (ad 0, .inl (g.2.1, 3, .inl (iA (m_refused X)))), (ad 1, .inl (g.2.1, 926, .inl (iA (m_now X)))), (ad 2, .inl (g.2.1, 5556, .inl (iA (m_kept X)))), (ad 3, .inl (g.2.1, 1536, .inl (iA (m_place X)))), (ad 4, .inl (g.2.1, 1536, .inl (iA (m_startFact X)))), (ad 5, .inl (g.2.1, 1536, .inl (iA (m_node X)))), (ad 6, .inl (g.2.1, 1536, .inl (iA (m_fact X)))), (ad 7, .inl (g.2.1, 1536, .inl (iA (m_ahead X)))), (ad 8, .inl (g.2.1, 1536, .inl (iA (m_inside X)))), (ad 9, .inl (g.2.1, 16384, .inl (iA (m_caller X)))), (ad 10, .inl (g.2.1, 16384, .inl (iA (m_following X)))), (ad 11, .inl (g.2.1, 40, .inl (iA (m_firstCaller X)))), (ad 12, .inl (g.2.1, 40, .inl (iA (m_lastCaller X)))), (ad 13, .inl (g.2.1, 24, .inl (iA (m_loose X)))), (ad 14, .inl (g.2.1, 8000, .inl (iA (m_stack X)))), (ad 15, .inl (g.2.1, 1000, .inl (iA (m_pairs X)))), (ad 16, .inl (g.2.1, 120, .inl (iA (m_text X)))), (ad 17, .inl (g.2.1, 300, .inl (iA (m_orders X))))]
def pOk (X : Pg) : Prop := (0 ≤ p_procs X ∧ p_procs X ≤ 5) ∧ (0 ≤ p_nodes X ∧ p_nodes X ≤ 24) ∧ (0 ≤ p_edges X ∧ p_edges X ≤ 32) ∧ (0 ≤ p_start X ∧ p_start X ≤ 255) ∧ (∀ j : Int, 0 ≤ j → j < 5 → 0 ≤ p_entryOf X j ∧ p_entryOf X j ≤ 23) ∧ (∀ j : Int, 0 ≤ j → j < 5 → 0 ≤ p_exitOf X j ∧ p_exitOf X j ≤ 23) ∧ (∀ j : Int, 0 ≤ j → j < 24 → 0 ≤ p_procOf X j ∧ p_procOf X j ≤ 4) ∧ (∀ j : Int, 0 ≤ j → j < 24 → 0 ≤ p_kindOf X j ∧ p_kindOf X j ≤ 2) ∧ (∀ j : Int, 0 ≤ j → j < 32 → 0 ≤ p_from X j ∧ p_from X j ≤ 23) ∧ (∀ j : Int, 0 ≤ j → j < 32 → 0 ≤ p_to X j ∧ p_to X j ≤ 23) ∧ (∀ j : Int, 0 ≤ j → j < 32 → -1 ≤ p_callee X j ∧ p_callee X j ≤ 4)
def uOk (X : Sp) : Prop := (0 ≤ u_ready X ∧ u_ready X ≤ 1) ∧ (∀ j : Int, 0 ≤ j → j < 24 → 0 ≤ u_reached X j ∧ u_reached X j ≤ 255)
def tOk (X : Tb) : Prop := (0 ≤ t_ready X ∧ t_ready X ≤ 1) ∧ (0 ≤ t_seedProc X ∧ t_seedProc X ≤ 4) ∧ (0 ≤ t_seedFacts X ∧ t_seedFacts X ≤ 255) ∧ (0 ≤ t_size X ∧ t_size X ≤ 1536) ∧ (∀ j : Int, 0 ≤ j → j < 192 → 0 ≤ t_seen X j ∧ t_seen X j ≤ 255) ∧ (∀ j : Int, 0 ≤ j → j < 1536 → 0 ≤ t_keys X j ∧ t_keys X j ≤ 1535) ∧ (∀ j : Int, 0 ≤ j → j < 1536 → 0 ≤ t_placeOf X j ∧ t_placeOf X j ≤ 1535) ∧ (∀ j : Int, 0 ≤ j → j < 1536 → -1 ≤ t_before X j ∧ t_before X j ≤ 1535) ∧ (∀ j : Int, 0 ≤ j → j < 1536 → -1 ≤ t_through X j ∧ t_through X j ≤ 1535) ∧ (∀ j : Int, 0 ≤ j → j < 1536 → 0 ≤ t_way X j ∧ t_way X j ≤ 1000) ∧ (∀ j : Int, 0 ≤ j → j < 1536 → 0 ≤ t_inner X j ∧ t_inner X j ≤ 1000) ∧ (∀ j : Int, 0 ≤ j → j < 2048 → 0 ≤ t_sites X j ∧ t_sites X j ≤ 49151) ∧ (0 ≤ t_siteCount X ∧ t_siteCount X ≤ 2048)
def xOk (X : Tx) : Prop := (0 ≤ x_length X ∧ x_length X ≤ 120) ∧ (0 ≤ x_orders X ∧ x_orders X ≤ 60) ∧ (∀ j : Int, 0 ≤ j → j < 120 → 0 ≤ x_bytes X j ∧ x_bytes X j ≤ 127) ∧ (∀ j : Int, 0 ≤ j → j < 300 → 0 ≤ x_parts X j ∧ x_parts X j ≤ 999) ∧ (0 ≤ x_place X ∧ x_place X ≤ 120)
end
section
theorem wb_tb (n : Nat) : (lN n).toBitVec = BitVec.ofNat 64 n := rfl
theorem wb_inj {a b : Int64} (h : a.toBitVec = b.toBitVec) : a = b := Int64.toBitVec_inj.mp h
theorem wb_tn {n : Nat} (h : n < 2 ^ 64) : (lN n).toBitVec.toNat = n := by rw [wb_tb, BitVec.toNat_ofNat, Nat.mod_eq_of_lt h]
theorem wb_of (x : Int64) : ∃ n, n < 2 ^ 64 ∧ x = lN n := ⟨x.toBitVec.toNat, x.toBitVec.isLt, wb_inj (by rw [wb_tb]; simp)⟩
theorem wb_c : ∀ k, k < 64 → ((nI k).toInt64 &&& 63) = lN k := by decide +kernel
theorem wb_cu : ∀ k, k < 64 → ((nI k).toInt64.toUInt64 &&& Int64.toUInt64 63) = UInt64.ofNat k := by decide +kernel
theorem wb_sm : ∀ k, k < 64 → (BitVec.ofNat 64 k).smod 64 = BitVec.ofNat 64 k := by decide +kernel
theorem wb_pw {a b : Nat} (h : a ≤ b) : 2 ^ b = 2 ^ a * 2 ^ (b - a) := by rw [← Nat.pow_add]; congr 1; omega
theorem wb_lt2 {a b : Nat} (h : a < b) : 2 ^ a < 2 ^ b := Nat.pow_lt_pow_right (by decide) h
theorem wb_mod (n : Nat) : lN n = lN (n % 2 ^ 64) := wb_inj (by rw [wb_tb, wb_tb]; apply BitVec.eq_of_toNat_eq; rw [BitVec.toNat_ofNat, BitVec.toNat_ofNat, Nat.mod_mod])
theorem wb_shr {n k : Nat} (hn : n < 2 ^ 64) (hk : k < 64) : ((lN n).toUInt64 >>> ((nI k).toInt64.toUInt64 &&& Int64.toUInt64 63)).toInt64 = lN (n / 2 ^ k) := by
  rw [wb_cu k hk]
  apply wb_inj
  apply BitVec.eq_of_toNat_eq
  show ((lN n).toUInt64 >>> UInt64.ofNat k).toNat = (BitVec.ofNat 64 _).toNat
  have h1 : (UInt64.ofNat k).toNat = k := by
    show (BitVec.ofNat 64 k).toNat = k
    rw [BitVec.toNat_ofNat, Nat.mod_eq_of_lt (by omega)]
  have h2 : (lN n).toUInt64.toNat = n := wb_tn hn
  rw [UInt64.toNat_shiftRight, h1, h2, Nat.mod_eq_of_lt hk, Nat.shiftRight_eq_div_pow, BitVec.toNat_ofNat, Nat.mod_eq_of_lt (Nat.lt_of_le_of_lt (Nat.div_le_self _ _) hn)]
theorem wb_shl (n : Nat) {k : Nat} (hk : k < 64) : lN n <<< ((nI k).toInt64 &&& 63) = lN (n * 2 ^ k) := by
  rw [wb_c k hk]
  apply wb_inj
  rw [Int64.toBitVec_shiftLeft, wb_tb, wb_tb, wb_tb, wb_sm k hk]
  apply BitVec.eq_of_toNat_eq
  rw [BitVec.shiftLeft_eq', BitVec.toNat_shiftLeft, BitVec.toNat_ofNat, BitVec.toNat_ofNat, BitVec.toNat_ofNat, Nat.mod_eq_of_lt (show k < 2 ^ 64 by omega), Nat.shiftLeft_eq, Nat.mul_mod, Nat.mod_mod, ← Nat.mul_mod]
/-! a FLOW in a long: byte a of it -/
def byL (x : Int64) (a : Int) : Int := ((x.toBitVec.toNat / 2 ^ (8 * a.toNat) % 256 : Nat) : Int)
def shL (x : Int64) (a : Int) : Int64 := (x.toUInt64 >>> ((iI (a * 8)).toInt64.toUInt64 &&& Int64.toUInt64 63)).toInt64
def sfL (v a : Int) : Int64 := lI v <<< ((iI (a * 8)).toInt64 &&& 63)
def setL (x : Int64) (a v : Int) : Int64 := (x &&& (sfL 255 a ^^^ lI (-1))) ||| sfL v a
def plL : Int64 := -9205322385119247871
theorem byL_0 (x : Int64) (a : Int) : 0 ≤ byL x a ∧ byL x a ≤ 255 := by unfold byL; omega
theorem iI_8a {a : Int} (h0 : 0 ≤ a) : iI (a * 8) = nI (8 * a.toNat) := by rw [← iI_nat]; congr 1; omega
theorem byL_eq {x : Int64} {a : Int} (h0 : 0 ≤ a) (h : a < 8) : (shL x a).toInt32 &&& iI 255 = iI (byL x a) := by
  obtain ⟨n, hn, rfl⟩ := wb_of x
  unfold shL byL
  rw [iI_8a h0, wb_shr hn (by omega), lN_i, ← iI_nat, iI_and (Int.natCast_nonneg _) (by decide), wb_tn hn]
  unfold bA
  congr 2
  exact Nat.and_two_pow_sub_one_eq_mod _ 8
theorem tb_byL (x : Int64) {a i : Int} (hi : i < 8) : tb (byL x a) i = x.toBitVec.getLsbD (8 * a.toNat + i.toNat) := by
  unfold tb byL
  rw [Int.toNat_natCast, show 256 = 2 ^ 8 from rfl, Nat.testBit_mod_two_pow, Nat.testBit_div_two_pow, BitVec.getLsbD]
  have : i.toNat < 8 := by omega
  simp only [this, decide_true, Bool.true_and]
  congr 1; omega
theorem sfL_bit {v a : Int} (hv : 0 ≤ v) (h0 : 0 ≤ a) (h : a < 8) (j : Nat) : (sfL v a).toBitVec.getLsbD j = (decide (j < 64) && (decide (8 * a.toNat ≤ j) && v.toNat.testBit (j - 8 * a.toNat))) := by
  unfold sfL
  have hl : lI v = lN v.toNat := by
    unfold lI lN; rw [← Int64.ofInt_eq_ofNat, Int.toNat_of_nonneg hv]
  rw [iI_8a h0, hl, wb_shl _ (by omega), wb_tb, BitVec.getLsbD_ofNat, Nat.testBit_mul_two_pow]
theorem tb_setL (x : Int64) {a v b i : Int} (hv : 0 ≤ v) (h0 : 0 ≤ a) (h : a < 8) (hb : 0 ≤ b) (hb2 : b < 8) (hi0 : 0 ≤ i) (hi : i < 8) : tb (byL (setL x a v) b) i = if b = a then v.toNat.testBit i.toNat else ((x.toBitVec.getLsbD (8 * b.toNat + i.toNat)) || (decide (a < b) && v.toNat.testBit (8 * b.toNat + i.toNat - 8 * a.toNat))) := by
  rw [tb_byL _ hi]
  have hm : (lI (-1)).toBitVec = BitVec.allOnes 64 := by decide
  unfold setL
  rw [Int64.toBitVec_or, Int64.toBitVec_and, Int64.toBitVec_xor, hm, BitVec.xor_allOnes, BitVec.getLsbD_or, BitVec.getLsbD_and, BitVec.getLsbD_not, sfL_bit (by decide) h0 h, sfL_bit hv h0 h]
  have hj : 8 * b.toNat + i.toNat < 64 := by omega
  have h255 : ∀ t, (255 : Int).toNat.testBit t = decide (t < 8) := fun t => Nat.testBit_two_pow_sub_one 8 t
  simp only [hj, decide_true, Bool.true_and, h255]
  by_cases hba : b = a
  · subst hba
    have e1 : 8 * b.toNat ≤ 8 * b.toNat + i.toNat := by omega
    have e2 : 8 * b.toNat + i.toNat - 8 * b.toNat = i.toNat := by omega
    have e3 : i.toNat < 8 := by omega
    simp [e1, e2, e3]
  · simp only [hba, if_false]
    by_cases hlt : a < b
    · have e1 : 8 * a.toNat ≤ 8 * b.toNat + i.toNat := by omega
      have e2 : ¬ (8 * b.toNat + i.toNat - 8 * a.toNat < 8) := by omega
      simp [e1, e2, hlt]
    · have e1 : ¬ (8 * a.toNat ≤ 8 * b.toNat + i.toNat) := by omega
      simp [e1, hlt]
theorem byL_set (x : Int64) {a v b : Int} (hv : 0 ≤ v) (hv2 : v < 256) (h0 : 0 ≤ a) (h : a < 8) (hb : 0 ≤ b) (hb2 : b < 8) : byL (setL x a v) b = if b = a then v else byL x b := by
  have r1 := byL_0 (setL x a v) b
  have r2 := byL_0 x b
  refine tb_ext (by omega) (by omega) (by split <;> omega) (by split <;> omega) (fun i hi0 hi => ?_)
  rw [tb_setL x hv h0 h hb hb2 hi0 hi]
  by_cases hba : b = a
  · simp only [hba, if_true]; rfl
  · simp only [hba, if_false]
    rw [tb_byL _ hi]
    by_cases hlt : a < b
    · have : v.toNat.testBit (8 * b.toNat + i.toNat - 8 * a.toNat) = false := Nat.testBit_lt_two_pow (Nat.lt_of_lt_of_le (by omega : v.toNat < 2 ^ 8) (Nat.pow_le_pow_right (by decide) (by omega)))
      rw [this]; simp
    · simp [hlt]
theorem byL_plain {a : Int} (h0 : 0 ≤ a) (h : a < 8) : byL plL a = p2 a := by
  have : a = 0 ∨ a = 1 ∨ a = 2 ∨ a = 3 ∨ a = 4 ∨ a = 5 ∨ a = 6 ∨ a = 7 := by omega
  rcases this with rfl | rfl | rfl | rfl | rfl | rfl | rfl | rfl <;> rfl
end
section
section RP
variable {g : GG} {p : Program} {l : Launch} {e : Env} {R : Room} {s : State} {m : MethodId} {args : Array Value} {below : List Frame} {meth : Method} {c : Code} {H H0 : Heap} {locs : List Loc} {cells slots : Nat} {Q : State → Prop} {cc : ByteArray} {nL pc : Nat} {own : String} {ls : Array Slot} {rest : List Value} {A : Nat → Prop} {ws : va_W}
theorem r_lushr8 (C : Cx g p m c cc nL s args own) {x : Int64} {a : Int} (hd : decode cc pc = .ok (.lushr, 1)) (k : W p l e R s m args below meth c H locs cells slots Q (F0 m (pc + 1) ls (.long (shL x a) :: rest))) : W p l e R s m args below meth c H locs cells slots Q (F0 m pc ls (.int (iI (a * 8)) :: .long x :: rest)) :=
  lv_lushr C.1.1 C.1.2.1 hd rfl k
theorem r_l2i (C : Cx g p m c cc nL s args own) {x : Int64} (hd : decode cc pc = .ok (.l2i, 1)) (k : W p l e R s m args below meth c H locs cells slots Q (F0 m (pc + 1) ls (.int x.toInt32 :: rest))) : W p l e R s m args below meth c H locs cells slots Q (F0 m pc ls (.long x :: rest)) :=
  lv_l2i C.1.1 C.1.2.1 hd rfl k
theorem r_iandby (C : Cx g p m c cc nL s args own) {x : Int64} {a : Int} (h0 : 0 ≤ a) (h : a < 8) (hd : decode cc pc = .ok (.iand, 1)) (k : W p l e R s m args below meth c H locs cells slots Q (F0 m (pc + 1) ls (.int (iI (byL x a)) :: rest))) : W p l e R s m args below meth c H locs cells slots Q (F0 m pc ls (.int (iI 255) :: .int (shL x a).toInt32 :: rest)) :=
  lv_iand C.1.1 C.1.2.1 hd (by rw [byL_eq h0 h]; exact k)
theorem r_lshl8 (C : Cx g p m c cc nL s args own) {v a : Int} (hd : decode cc pc = .ok (.lshl, 1)) (k : W p l e R s m args below meth c H locs cells slots Q (F0 m (pc + 1) ls (.long (sfL v a) :: rest))) : W p l e R s m args below meth c H locs cells slots Q (F0 m pc ls (.int (iI (a * 8)) :: .long (lI v) :: rest)) :=
  lv_lshl C.1.1 C.1.2.1 hd rfl k
theorem r_lxor (C : Cx g p m c cc nL s args own) {x y : Int64} (hd : decode cc pc = .ok (.lxor, 1)) (k : W p l e R s m args below meth c H locs cells slots Q (F0 m (pc + 1) ls (.long (x ^^^ y) :: rest))) : W p l e R s m args below meth c H locs cells slots Q (F0 m pc ls (.long y :: .long x :: rest)) :=
  lv_lxor C.1.1 C.1.2.1 hd k
theorem r_land (C : Cx g p m c cc nL s args own) {x y : Int64} (hd : decode cc pc = .ok (.land, 1)) (k : W p l e R s m args below meth c H locs cells slots Q (F0 m (pc + 1) ls (.long (x &&& y) :: rest))) : W p l e R s m args below meth c H locs cells slots Q (F0 m pc ls (.long y :: .long x :: rest)) :=
  lv_land C.1.1 C.1.2.1 hd k
theorem r_lor (C : Cx g p m c cc nL s args own) {x y : Int64} (hd : decode cc pc = .ok (.lor, 1)) (k : W p l e R s m args below meth c H locs cells slots Q (F0 m (pc + 1) ls (.long (x ||| y) :: rest))) : W p l e R s m args below meth c H locs cells slots Q (F0 m pc ls (.long y :: .long x :: rest)) :=
  lv_lor C.1.1 C.1.2.1 hd k
end RP
end
section
/-! Program: what its methods do, as functions -/
def pReach (P : Pg) (e w a : Int) : Int := byL (p_flow P (e * 3 + w)) a
def pCarry (P : Pg) (e w x : Int) : Int := it (fun a r => if tb x a = true then bO r (pReach P e w a) else r) 8 0 0
def pPlace (P : Pg) (n k : Int) : Pg := ps_nodes (ps_kindOf (ps_procOf P (up (p_procOf P) (p_nodes P) n)) (up (p_kindOf P) (p_nodes P) k)) (p_nodes P + 1)
def pAddProc (P : Pg) : Int × Pg := if 5 ≤ p_procs P ∨ 24 < p_nodes P + 2 then (-4, P) else
  (p_procs P, ps_procs (pPlace (ps_exitOf (pPlace (ps_entryOf P (up (p_entryOf P) (p_procs P) (p_nodes P))) (p_procs P) 0) (up (p_exitOf P) (p_procs P) (p_nodes P + 1))) (p_procs P) 1) (p_procs P + 1))
def pAddNode (P : Pg) (n : Int) : Int × Pg := if ¬ (0 ≤ n ∧ n < p_procs P) then (-2, P) else if 24 ≤ p_nodes P then (-4, P) else (p_nodes P, pPlace P n 2)
def pJoins (P : Pg) (n k : Int) : Prop := (0 ≤ n ∧ n < p_nodes P) ∧ (0 ≤ k ∧ k < p_nodes P) ∧ p_procOf P n = p_procOf P k ∧ p_kindOf P n ≠ 1 ∧ p_kindOf P k ≠ 0
def pPlainF (P : Pg) (f : Int → Int64) : Int → Int64 := it (fun w f => up f (p_edges P * 3 + w) plL) 3 0 f
def pAddEdge (P : Pg) (n q k : Int) : Int × Pg := if 32 ≤ p_edges P then (-4, P) else
  (p_edges P, ps_edges (ps_flow (ps_callee (ps_to (ps_from P (up (p_from P) (p_edges P) n)) (up (p_to P) (p_edges P) k)) (up (p_callee P) (p_edges P) q)) (pPlainF P (p_flow P))) (p_edges P + 1))
def pHasFlow (P : Pg) (e w : Int) : Prop := (0 ≤ e ∧ e < p_edges P) ∧ 0 ≤ w ∧ w < (if p_callee P e = -1 then 1 else 3)
def pSetFlow (P : Pg) (e w a v : Int) : Int × Pg := if ((0 ≤ e ∧ e < p_edges P) ∧ 0 ≤ w ∧ w < (if p_callee P e = -1 then 1 else 3)) ∧ (0 ≤ a ∧ a < 8) ∧ (0 ≤ v ∧ v ≤ 255) ∧ (tb v 0 = true ↔ a = 0) then
  (pReach P e w a, ps_flow P (up (p_flow P) (e * 3 + w) (setL (p_flow P (e * 3 + w)) a v))) else (-2, P)
def pSetStart (P : Pg) (v : Int) : Int × Pg := if (0 ≤ v ∧ v ≤ 255) ∧ tb v 0 = true then (p_start P, ps_start P v) else (-2, P)
def pCutF (i : Int) (f : Int → Int64) : Int → Int64 := it (fun w f => up f (i * 3 + w) (f ((i + 1) * 3 + w))) 3 0 f
def pCut1 (i : Int) (P : Pg) : Pg := ps_flow (ps_callee (ps_to (ps_from P (up (p_from P) i (p_from P (i + 1)))) (up (p_to P) i (p_to P (i + 1)))) (up (p_callee P) i (p_callee P (i + 1)))) (pCutF i (p_flow P))
def pCut (P : Pg) (e : Int) : Int × Pg := if 0 ≤ e ∧ e < p_edges P then (p_edges P - 1, it pCut1 (p_edges P - 1 - e).toNat e (ps_edges P (p_edges P - 1))) else (-2, P)
def pAddPlain (P : Pg) (n k : Int) : Int × Pg := if (0 ≤ n ∧ n < p_nodes P) ∧ (0 ≤ k ∧ k < p_nodes P) ∧ p_procOf P n = p_procOf P k ∧ p_kindOf P n ≠ 1 ∧ p_kindOf P k ≠ 0 then pAddEdge P n (-1) k else (-2, P)
def pAddCall (P : Pg) (n q k : Int) : Int × Pg := if (0 ≤ q ∧ q < p_procs P) ∧ ((0 ≤ n ∧ n < p_nodes P) ∧ (0 ≤ k ∧ k < p_nodes P) ∧ p_procOf P n = p_procOf P k ∧ p_kindOf P n ≠ 1 ∧ p_kindOf P k ≠ 0) then pAddEdge P n q k else (-2, P)
end
section
set_option maxHeartbeats 4000000 in
set_option maxRecDepth 100000 in
theorem c_X4_isFact (l : Launch) (g : GG) (f : Int) (hf : rg f) : MR l g yX4_isFact cX4_isFact 1 (some .boolean) 0 0 [.int (iI (f))] ([]) (.int (iI (bI (0 ≤ f ∧ f < 8)))) := by
  refine MR_start (by decide) (Nat.le_of_ble_eq_true rfl) ?_
  intro zp ze zs zm zb zt zc C hrt hlk hH ls hl
  have hl : lv_has ls 1 [(0, .int (iI (f)))] := hl
  refine r_iload_n C dX4_isFact_0 hl 0 rfl ?_
  refine r_if_lt C 14 dX4_isFact_1 (by decide) (by omega) (fun hc1 => ?_) (fun hc1 => ?_)
  · skip
    refine r_iconst (z := 0) C dX4_isFact_14 rfl ?_
    exact MR_zret (d := 0 ≤ f ∧ f < 8) C hrt hlk dX4_isFact_15 (bI_f (by first | assumption | omega)).symm rfl
  · skip
    refine r_iload_n C dX4_isFact_4 hl 0 rfl ?_
    refine r_bipush (z := 8) C dX4_isFact_5 rfl ?_
    refine r_icmp_ge C 14 dX4_isFact_7 (by decide) (by omega) (by omega) (fun hc2 => ?_) (fun hc2 => ?_)
    · skip
      refine r_iconst (z := 0) C dX4_isFact_14 rfl ?_
      exact MR_zret (d := 0 ≤ f ∧ f < 8) C hrt hlk dX4_isFact_15 (bI_f (by first | assumption | omega)).symm rfl
    · skip
      refine r_iconst (z := 1) C dX4_isFact_10 rfl ?_
      refine r_goto C 15 dX4_isFact_11 (by decide) ?_
      exact MR_zret (d := 0 ≤ f ∧ f < 8) C hrt hlk dX4_isFact_15 (bI_t (by first | assumption | omega)).symm rfl
set_option maxHeartbeats 4000000 in
set_option maxRecDepth 100000 in
theorem c_X4_isFacts (l : Launch) (g : GG) (v : Int) (hv : rg v) : MR l g yX4_isFacts cX4_isFacts 1 (some .boolean) 0 0 [.int (iI (v))] ([]) (.int (iI (bI (0 ≤ v ∧ v ≤ 255)))) := by
  refine MR_start (by decide) (Nat.le_of_ble_eq_true rfl) ?_
  intro zp ze zs zm zb zt zc C hrt hlk hH ls hl
  have hl : lv_has ls 1 [(0, .int (iI (v)))] := hl
  refine r_iload_n C dX4_isFacts_0 hl 0 rfl ?_
  refine r_if_lt C 15 dX4_isFacts_1 (by decide) (by omega) (fun hc1 => ?_) (fun hc1 => ?_)
  · skip
    refine r_iconst (z := 0) C dX4_isFacts_15 rfl ?_
    exact MR_zret (d := 0 ≤ v ∧ v ≤ 255) C hrt hlk dX4_isFacts_16 (bI_f (by first | assumption | omega)).symm rfl
  · skip
    refine r_iload_n C dX4_isFacts_4 hl 0 rfl ?_
    refine r_sipush (z := 255) C dX4_isFacts_5 rfl ?_
    refine r_icmp_gt C 15 dX4_isFacts_8 (by decide) (by omega) (by omega) (fun hc2 => ?_) (fun hc2 => ?_)
    · skip
      refine r_iconst (z := 0) C dX4_isFacts_15 rfl ?_
      exact MR_zret (d := 0 ≤ v ∧ v ≤ 255) C hrt hlk dX4_isFacts_16 (bI_f (by first | assumption | omega)).symm rfl
    · skip
      refine r_iconst (z := 1) C dX4_isFacts_11 rfl ?_
      refine r_goto C 16 dX4_isFacts_12 (by decide) ?_
      exact MR_zret (d := 0 ≤ v ∧ v ≤ 255) C hrt hlk dX4_isFacts_16 (bI_t (by first | assumption | omega)).symm rfl
set_option maxHeartbeats 4000000 in
set_option maxRecDepth 100000 in
theorem c_X4_has (l : Launch) (g : GG) (x f : Int) (hx : 0 ≤ x ∧ x < 2147483648) (hf : 0 ≤ f ∧ f < 31) : MR l g yX4_has cX4_has 2 (some .boolean) 0 0 [.int (iI (x)), .int (iI (f))] ([]) (.int (iI (bI (tb x f = true)))) := by
  refine MR_start (by decide) (Nat.le_of_ble_eq_true rfl) ?_
  intro zp ze zs zm zb zt zc C hrt hlk hH ls hl
  have hl : lv_has ls 2 [(0, .int (iI (x))), (1, .int (iI (f)))] := hl
  have hq := tb_bit (a := x) (k := f) (by omega) (by omega)
  refine r_iload_n C dX4_has_0 hl 0 rfl ?_
  refine r_iload_n C dX4_has_1 hl 1 rfl ?_
  refine r_ishr C (by omega) (by omega) (by omega) (by omega) dX4_has_2 ?_
  have hb1 : 0 ≤ x / p2 f := Int.ediv_nonneg (by omega) (Int.le_of_lt (p2_0 _))
  refine r_iconst (z := 1) C dX4_has_3 rfl ?_
  refine r_iand C (by omega) (by omega) dX4_has_4 ?_
  have hb2 := bA_0 (x / p2 f) 1
  have hb4 := Nat.and_le_right (n := (x / p2 f).toNat) (m := (1 : Int).toNat); have hb3 : bA (x / p2 f) 1 ≤ 1 := by unfold bA; omega
  refine r_if_eq C 12 dX4_has_5 (by decide) (by omega) (fun hc5 => ?_) (fun hc5 => ?_)
  · skip
    refine r_iconst (z := 0) C dX4_has_12 rfl ?_
    exact MR_zret (d := tb x f = true) C hrt hlk dX4_has_13 (bI_f (by intro h; rw [if_pos h] at hq; omega)).symm rfl
  · skip
    refine r_iconst (z := 1) C dX4_has_8 rfl ?_
    refine r_goto C 13 dX4_has_9 (by decide) ?_
    exact MR_zret (d := tb x f = true) C hrt hlk dX4_has_13 (bI_t (Decidable.byContradiction (fun h => by rw [if_neg h] at hq; omega))).symm rfl
set_option maxHeartbeats 4000000 in
set_option maxRecDepth 100000 in
theorem c_X4_cell (l : Launch) (g : GG) (n a : Int) : MR l g yX4_cell cX4_cell 2 (some .int) 0 0 [.int (iI (n)), .int (iI (a))] ([]) (.int (iI (n * 8 + a))) := by
  refine MR_start (by decide) (Nat.le_of_ble_eq_true rfl) ?_
  intro zp ze zs zm zb zt zc C hrt hlk hH ls hl
  have hl : lv_has ls 2 [(0, .int (iI (n))), (1, .int (iI (a)))] := hl
  refine r_iload_n C dX4_cell_0 hl 0 rfl ?_
  refine r_bipush (z := 8) C dX4_cell_1 rfl ?_
  refine r_imul C dX4_cell_3 ?_
  refine r_iload_n C dX4_cell_4 hl 1 rfl ?_
  refine r_iadd C dX4_cell_5 ?_
  exact MR_iret C hrt hlk dX4_cell_6 (iv rfl)
set_option maxHeartbeats 4000000 in
set_option maxRecDepth 100000 in
theorem c_X0_isProc (l : Launch) (g : GG) (o : Nat) (ad : Nat → Nat) (P : Pg) (n : Int) (hP : pOk P) (hn : rg n) : MR l g yX0_isProc cX0_isProc 2 (some .boolean) 0 0 [.ref (o), .int (iI (n))] (pW g o ad P) (.int (iI (bI (0 ≤ n ∧ n < p_procs P)))) := by
  refine MR_start (by decide) (Nat.le_of_ble_eq_true rfl) ?_
  intro zp ze zs zm zb zt zc C hrt hlk hH ls hl
  have hl : lv_has ls 2 [(0, .ref (o)), (1, .int (iI (n)))] := hl
  obtain ⟨hP_procs, hP_nodes, hP_edges, hP_start, hP_entryOf, hP_exitOf, hP_procOf, hP_kindOf, hP_from, hP_to, hP_callee⟩ := id hP
  refine r_iload_n C dX0_isProc_0 hl 1 rfl ?_
  refine r_if_lt C 16 dX0_isProc_1 (by decide) (by omega) (fun hc1 => ?_) (fun hc1 => ?_)
  · skip
    refine r_iconst (z := 0) C dX0_isProc_16 rfl ?_
    exact MR_zret (d := 0 ≤ n ∧ n < p_procs P) C hrt hlk dX0_isProc_17 (bI_f (by first | assumption | omega)).symm rfl
  · skip
    refine r_iload_n C dX0_isProc_4 hl 1 rfl ?_
    refine r_aload_n C dX0_isProc_5 hl 0 rfl ?_
    refine r_get (v := .int (iI (p_procs P))) C f_X0_9 hH 0 rfl rfl dX0_isProc_6 ?_
    refine r_icmp_ge C 16 dX0_isProc_9 (by decide) (by omega) (by omega) (fun hc2 => ?_) (fun hc2 => ?_)
    · skip
      refine r_iconst (z := 0) C dX0_isProc_16 rfl ?_
      exact MR_zret (d := 0 ≤ n ∧ n < p_procs P) C hrt hlk dX0_isProc_17 (bI_f (by first | assumption | omega)).symm rfl
    · skip
      refine r_iconst (z := 1) C dX0_isProc_12 rfl ?_
      refine r_goto C 17 dX0_isProc_13 (by decide) ?_
      exact MR_zret (d := 0 ≤ n ∧ n < p_procs P) C hrt hlk dX0_isProc_17 (bI_t (by first | assumption | omega)).symm rfl
set_option maxHeartbeats 4000000 in
set_option maxRecDepth 100000 in
theorem c_X0_isNode (l : Launch) (g : GG) (o : Nat) (ad : Nat → Nat) (P : Pg) (n : Int) (hP : pOk P) (hn : rg n) : MR l g yX0_isNode cX0_isNode 2 (some .boolean) 0 0 [.ref (o), .int (iI (n))] (pW g o ad P) (.int (iI (bI (0 ≤ n ∧ n < p_nodes P)))) := by
  refine MR_start (by decide) (Nat.le_of_ble_eq_true rfl) ?_
  intro zp ze zs zm zb zt zc C hrt hlk hH ls hl
  have hl : lv_has ls 2 [(0, .ref (o)), (1, .int (iI (n)))] := hl
  obtain ⟨hP_procs, hP_nodes, hP_edges, hP_start, hP_entryOf, hP_exitOf, hP_procOf, hP_kindOf, hP_from, hP_to, hP_callee⟩ := id hP
  refine r_iload_n C dX0_isNode_0 hl 1 rfl ?_
  refine r_if_lt C 16 dX0_isNode_1 (by decide) (by omega) (fun hc1 => ?_) (fun hc1 => ?_)
  · skip
    refine r_iconst (z := 0) C dX0_isNode_16 rfl ?_
    exact MR_zret (d := 0 ≤ n ∧ n < p_nodes P) C hrt hlk dX0_isNode_17 (bI_f (by first | assumption | omega)).symm rfl
  · skip
    refine r_iload_n C dX0_isNode_4 hl 1 rfl ?_
    refine r_aload_n C dX0_isNode_5 hl 0 rfl ?_
    refine r_get (v := .int (iI (p_nodes P))) C f_X0_15 hH 0 rfl rfl dX0_isNode_6 ?_
    refine r_icmp_ge C 16 dX0_isNode_9 (by decide) (by omega) (by omega) (fun hc2 => ?_) (fun hc2 => ?_)
    · skip
      refine r_iconst (z := 0) C dX0_isNode_16 rfl ?_
      exact MR_zret (d := 0 ≤ n ∧ n < p_nodes P) C hrt hlk dX0_isNode_17 (bI_f (by first | assumption | omega)).symm rfl
    · skip
      refine r_iconst (z := 1) C dX0_isNode_12 rfl ?_
      refine r_goto C 17 dX0_isNode_13 (by decide) ?_
      exact MR_zret (d := 0 ≤ n ∧ n < p_nodes P) C hrt hlk dX0_isNode_17 (bI_t (by first | assumption | omega)).symm rfl
set_option maxHeartbeats 4000000 in
set_option maxRecDepth 100000 in
theorem c_X0_isEdge (l : Launch) (g : GG) (o : Nat) (ad : Nat → Nat) (P : Pg) (n : Int) (hP : pOk P) (hn : rg n) : MR l g yX0_isEdge cX0_isEdge 2 (some .boolean) 0 0 [.ref (o), .int (iI (n))] (pW g o ad P) (.int (iI (bI (0 ≤ n ∧ n < p_edges P)))) := by
  refine MR_start (by decide) (Nat.le_of_ble_eq_true rfl) ?_
  intro zp ze zs zm zb zt zc C hrt hlk hH ls hl
  have hl : lv_has ls 2 [(0, .ref (o)), (1, .int (iI (n)))] := hl
  obtain ⟨hP_procs, hP_nodes, hP_edges, hP_start, hP_entryOf, hP_exitOf, hP_procOf, hP_kindOf, hP_from, hP_to, hP_callee⟩ := id hP
  refine r_iload_n C dX0_isEdge_0 hl 1 rfl ?_
  refine r_if_lt C 16 dX0_isEdge_1 (by decide) (by omega) (fun hc1 => ?_) (fun hc1 => ?_)
  · skip
    refine r_iconst (z := 0) C dX0_isEdge_16 rfl ?_
    exact MR_zret (d := 0 ≤ n ∧ n < p_edges P) C hrt hlk dX0_isEdge_17 (bI_f (by first | assumption | omega)).symm rfl
  · skip
    refine r_iload_n C dX0_isEdge_4 hl 1 rfl ?_
    refine r_aload_n C dX0_isEdge_5 hl 0 rfl ?_
    refine r_get (v := .int (iI (p_edges P))) C f_X0_18 hH 0 rfl rfl dX0_isEdge_6 ?_
    refine r_icmp_ge C 16 dX0_isEdge_9 (by decide) (by omega) (by omega) (fun hc2 => ?_) (fun hc2 => ?_)
    · skip
      refine r_iconst (z := 0) C dX0_isEdge_16 rfl ?_
      exact MR_zret (d := 0 ≤ n ∧ n < p_edges P) C hrt hlk dX0_isEdge_17 (bI_f (by first | assumption | omega)).symm rfl
    · skip
      refine r_iconst (z := 1) C dX0_isEdge_12 rfl ?_
      refine r_goto C 17 dX0_isEdge_13 (by decide) ?_
      exact MR_zret (d := 0 ≤ n ∧ n < p_edges P) C hrt hlk dX0_isEdge_17 (bI_t (by first | assumption | omega)).symm rfl
set_option maxHeartbeats 4000000 in
set_option maxRecDepth 100000 in
theorem c_X0_joins (l : Launch) (g : GG) (o : Nat) (ad : Nat → Nat) (P : Pg) (n k : Int) (hP : pOk P) (hn : rg n) (hm : rg k) : MR l g yX0_joins cX0_joins 3 (some .boolean) 1 21 [.ref (o), .int (iI (n)), .int (iI (k))] (pW g o ad P) (.int (iI (bI ((0 ≤ n ∧ n < p_nodes P) ∧ (0 ≤ k ∧ k < p_nodes P) ∧ p_procOf P n = p_procOf P k ∧ p_kindOf P n ≠ 1 ∧ p_kindOf P k ≠ 0)))) := by
  refine MR_start (by decide) (Nat.le_of_ble_eq_true rfl) ?_
  intro zp ze zs zm zb zt zc C hrt hlk hH ls hl
  have hl : lv_has ls 3 [(0, .ref (o)), (1, .int (iI (n))), (2, .int (iI (k)))] := hl
  obtain ⟨hP_procs, hP_nodes, hP_edges, hP_start, hP_entryOf, hP_exitOf, hP_procOf, hP_kindOf, hP_from, hP_to, hP_callee⟩ := id hP
  refine r_aload_n C dX0_joins_0 hl 0 rfl ?_
  refine r_iload_n C dX0_joins_1 hl 1 rfl ?_
  refine r_callR (rest := []) (r := .int (iI (bI (0 ≤ n ∧ n < (p_nodes P))))) C hl.1 (c_X0_isNode l g o ad P n (by assumption) (show rg n by omega)) v_X0_56 rfl hH 0 rfl rfl rfl (by decide) (by decide) (Nat.le_of_ble_eq_true rfl) dX0_joins_2 rfl ?_
  refine r_ifb_eq C 54 dX0_joins_5 (by decide) (fun hc1 => ?_) (fun hc1 => ?_)
  · skip
    refine r_iconst (z := 0) C dX0_joins_54 rfl ?_
    exact MR_zret (d := (0 ≤ n ∧ n < p_nodes P) ∧ (0 ≤ k ∧ k < p_nodes P) ∧ p_procOf P n = p_procOf P k ∧ p_kindOf P n ≠ 1 ∧ p_kindOf P k ≠ 0) C hrt hlk dX0_joins_55 (bI_f (by first | assumption | omega)).symm rfl
  · skip
    refine r_aload_n C dX0_joins_8 hl 0 rfl ?_
    refine r_iload_n C dX0_joins_9 hl 2 rfl ?_
    refine r_callR (rest := []) (r := .int (iI (bI (0 ≤ k ∧ k < (p_nodes P))))) C hl.1 (c_X0_isNode l g o ad P k (by assumption) (show rg k by omega)) v_X0_56 rfl hH 0 rfl rfl rfl (by decide) (by decide) (Nat.le_of_ble_eq_true rfl) dX0_joins_10 rfl ?_
    refine r_ifb_eq C 54 dX0_joins_13 (by decide) (fun hc2 => ?_) (fun hc2 => ?_)
    · skip
      refine r_iconst (z := 0) C dX0_joins_54 rfl ?_
      exact MR_zret (d := (0 ≤ n ∧ n < p_nodes P) ∧ (0 ≤ k ∧ k < p_nodes P) ∧ p_procOf P n = p_procOf P k ∧ p_kindOf P n ≠ 1 ∧ p_kindOf P k ≠ 0) C hrt hlk dX0_joins_55 (bI_f (by first | assumption | omega)).symm rfl
    · skip
      refine r_aload_n C dX0_joins_16 hl 0 rfl ?_
      refine r_get (v := .ref (ad 2)) C f_X0_31 hH 0 rfl rfl dX0_joins_17 ?_
      refine r_iload_n C dX0_joins_20 hl 1 rfl ?_
      refine r_iald (f := p_procOf P) C hH 3 rfl (Nat.le_of_ble_eq_true rfl) (by omega) dX0_joins_21 ?_
      have hr3 := hP_procOf n (by omega) (by omega)
      refine r_aload_n C dX0_joins_22 hl 0 rfl ?_
      refine r_get (v := .ref (ad 2)) C f_X0_31 hH 0 rfl rfl dX0_joins_23 ?_
      refine r_iload_n C dX0_joins_26 hl 2 rfl ?_
      refine r_iald (f := p_procOf P) C hH 3 rfl (Nat.le_of_ble_eq_true rfl) (by omega) dX0_joins_27 ?_
      have hr4 := hP_procOf k (by omega) (by omega)
      refine r_icmp_ne C 54 dX0_joins_28 (by decide) (by omega) (by omega) (fun hc5 => ?_) (fun hc5 => ?_)
      · skip
        refine r_iconst (z := 0) C dX0_joins_54 rfl ?_
        exact MR_zret (d := (0 ≤ n ∧ n < p_nodes P) ∧ (0 ≤ k ∧ k < p_nodes P) ∧ p_procOf P n = p_procOf P k ∧ p_kindOf P n ≠ 1 ∧ p_kindOf P k ≠ 0) C hrt hlk dX0_joins_55 (bI_f (by first | assumption | omega)).symm rfl
      · skip
        refine r_aload_n C dX0_joins_31 hl 0 rfl ?_
        refine r_get (v := .ref (ad 3)) C f_X0_34 hH 0 rfl rfl dX0_joins_32 ?_
        refine r_iload_n C dX0_joins_35 hl 1 rfl ?_
        refine r_iald (f := p_kindOf P) C hH 4 rfl (Nat.le_of_ble_eq_true rfl) (by omega) dX0_joins_36 ?_
        have hr6 := hP_kindOf n (by omega) (by omega)
        refine r_iconst (z := 1) C dX0_joins_37 rfl ?_
        refine r_icmp_eq C 54 dX0_joins_38 (by decide) (by omega) (by omega) (fun hc7 => ?_) (fun hc7 => ?_)
        · skip
          refine r_iconst (z := 0) C dX0_joins_54 rfl ?_
          exact MR_zret (d := (0 ≤ n ∧ n < p_nodes P) ∧ (0 ≤ k ∧ k < p_nodes P) ∧ p_procOf P n = p_procOf P k ∧ p_kindOf P n ≠ 1 ∧ p_kindOf P k ≠ 0) C hrt hlk dX0_joins_55 (bI_f (by first | assumption | omega)).symm rfl
        · skip
          refine r_aload_n C dX0_joins_41 hl 0 rfl ?_
          refine r_get (v := .ref (ad 3)) C f_X0_34 hH 0 rfl rfl dX0_joins_42 ?_
          refine r_iload_n C dX0_joins_45 hl 2 rfl ?_
          refine r_iald (f := p_kindOf P) C hH 4 rfl (Nat.le_of_ble_eq_true rfl) (by omega) dX0_joins_46 ?_
          have hr8 := hP_kindOf k (by omega) (by omega)
          refine r_if_eq C 54 dX0_joins_47 (by decide) (by omega) (fun hc9 => ?_) (fun hc9 => ?_)
          · skip
            refine r_iconst (z := 0) C dX0_joins_54 rfl ?_
            exact MR_zret (d := (0 ≤ n ∧ n < p_nodes P) ∧ (0 ≤ k ∧ k < p_nodes P) ∧ p_procOf P n = p_procOf P k ∧ p_kindOf P n ≠ 1 ∧ p_kindOf P k ≠ 0) C hrt hlk dX0_joins_55 (bI_f (by first | assumption | omega)).symm rfl
          · skip
            refine r_iconst (z := 1) C dX0_joins_50 rfl ?_
            refine r_goto C 55 dX0_joins_51 (by decide) ?_
            exact MR_zret (d := (0 ≤ n ∧ n < p_nodes P) ∧ (0 ≤ k ∧ k < p_nodes P) ∧ p_procOf P n = p_procOf P k ∧ p_kindOf P n ≠ 1 ∧ p_kindOf P k ≠ 0) C hrt hlk dX0_joins_55 (bI_t (by first | assumption | omega)).symm rfl
set_option maxHeartbeats 4000000 in
set_option maxRecDepth 100000 in
theorem c_X0_flowsOf (l : Launch) (g : GG) (o : Nat) (ad : Nat → Nat) (P : Pg) (e : Int) (hP : pOk P) (he : 0 ≤ e ∧ e < 32) : MR l g yX0_flowsOf cX0_flowsOf 2 (some .int) 0 0 [.ref (o), .int (iI (e))] (pW g o ad P) (.int (iI (if p_callee P e = -1 then 1 else 3))) := by
  refine MR_start (by decide) (Nat.le_of_ble_eq_true rfl) ?_
  intro zp ze zs zm zb zt zc C hrt hlk hH ls hl
  have hl : lv_has ls 2 [(0, .ref (o)), (1, .int (iI (e)))] := hl
  obtain ⟨hP_procs, hP_nodes, hP_edges, hP_start, hP_entryOf, hP_exitOf, hP_procOf, hP_kindOf, hP_from, hP_to, hP_callee⟩ := id hP
  refine r_aload_n C dX0_flowsOf_0 hl 0 rfl ?_
  refine r_get (v := .ref (ad 6)) C f_X0_43 hH 0 rfl rfl dX0_flowsOf_1 ?_
  refine r_iload_n C dX0_flowsOf_4 hl 1 rfl ?_
  refine r_iald (f := p_callee P) C hH 7 rfl (Nat.le_of_ble_eq_true rfl) (by omega) dX0_flowsOf_5 ?_
  have hr1 := hP_callee e (by omega) (by omega)
  refine r_iconst (z := -1) C dX0_flowsOf_6 rfl ?_
  refine r_icmp_ne C 14 dX0_flowsOf_7 (by decide) (by omega) (by omega) (fun hc2 => ?_) (fun hc2 => ?_)
  · skip
    refine r_iconst (z := 3) C dX0_flowsOf_14 rfl ?_
    exact MR_iret C hrt hlk dX0_flowsOf_15 (iv (by split <;> omega))
  · skip
    refine r_iconst (z := 1) C dX0_flowsOf_10 rfl ?_
    refine r_goto C 15 dX0_flowsOf_11 (by decide) ?_
    exact MR_iret C hrt hlk dX0_flowsOf_15 (iv (by split <;> omega))
set_option maxHeartbeats 4000000 in
set_option maxRecDepth 100000 in
theorem c_X0_hasFlow (l : Launch) (g : GG) (o : Nat) (ad : Nat → Nat) (P : Pg) (e w : Int) (hP : pOk P) (he : rg e) (hw : rg w) : MR l g yX0_hasFlow cX0_hasFlow 3 (some .boolean) 1 21 [.ref (o), .int (iI (e)), .int (iI (w))] (pW g o ad P) (.int (iI (bI ((0 ≤ e ∧ e < p_edges P) ∧ 0 ≤ w ∧ w < (if p_callee P e = -1 then 1 else 3))))) := by
  refine MR_start (by decide) (Nat.le_of_ble_eq_true rfl) ?_
  intro zp ze zs zm zb zt zc C hrt hlk hH ls hl
  have hl : lv_has ls 3 [(0, .ref (o)), (1, .int (iI (e))), (2, .int (iI (w)))] := hl
  obtain ⟨hP_procs, hP_nodes, hP_edges, hP_start, hP_entryOf, hP_exitOf, hP_procOf, hP_kindOf, hP_from, hP_to, hP_callee⟩ := id hP
  refine r_aload_n C dX0_hasFlow_0 hl 0 rfl ?_
  refine r_iload_n C dX0_hasFlow_1 hl 1 rfl ?_
  refine r_callR (rest := []) (r := .int (iI (bI (0 ≤ e ∧ e < (p_edges P))))) C hl.1 (c_X0_isEdge l g o ad P e (by assumption) (show rg e by omega)) v_X0_60 rfl hH 0 rfl rfl rfl (by decide) (by decide) (Nat.le_of_ble_eq_true rfl) dX0_hasFlow_2 rfl ?_
  refine r_ifb_eq C 25 dX0_hasFlow_5 (by decide) (fun hc1 => ?_) (fun hc1 => ?_)
  · skip
    refine r_iconst (z := 0) C dX0_hasFlow_25 rfl ?_
    exact MR_zret (d := (0 ≤ e ∧ e < p_edges P) ∧ 0 ≤ w ∧ w < (if p_callee P e = -1 then 1 else 3)) C hrt hlk dX0_hasFlow_26 (bI_f (by first | assumption | omega)).symm rfl
  · skip
    refine r_iload_n C dX0_hasFlow_8 hl 2 rfl ?_
    refine r_if_lt C 25 dX0_hasFlow_9 (by decide) (by omega) (fun hc2 => ?_) (fun hc2 => ?_)
    · skip
      refine r_iconst (z := 0) C dX0_hasFlow_25 rfl ?_
      exact MR_zret (d := (0 ≤ e ∧ e < p_edges P) ∧ 0 ≤ w ∧ w < (if p_callee P e = -1 then 1 else 3)) C hrt hlk dX0_hasFlow_26 (bI_f (by first | assumption | omega)).symm rfl
    · skip
      refine r_iload_n C dX0_hasFlow_12 hl 2 rfl ?_
      refine r_aload_n C dX0_hasFlow_13 hl 0 rfl ?_
      refine r_iload_n C dX0_hasFlow_14 hl 1 rfl ?_
      refine r_callR (rest := [.int (iI (w))]) (r := .int (iI (if (p_callee P) e = -1 then 1 else 3))) C hl.1 (c_X0_flowsOf l g o ad P e (by assumption) (show 0 ≤ e ∧ e < 32 by omega)) v_X0_63 rfl hH 0 rfl rfl rfl (by decide) (by decide) (Nat.le_of_ble_eq_true rfl) dX0_hasFlow_15 rfl ?_
      refine r_icmp_ge C 25 dX0_hasFlow_18 (by decide) (by omega) (by omega) (fun hc3 => ?_) (fun hc3 => ?_)
      · skip
        refine r_iconst (z := 0) C dX0_hasFlow_25 rfl ?_
        exact MR_zret (d := (0 ≤ e ∧ e < p_edges P) ∧ 0 ≤ w ∧ w < (if p_callee P e = -1 then 1 else 3)) C hrt hlk dX0_hasFlow_26 (bI_f (by first | assumption | omega)).symm rfl
      · skip
        refine r_iconst (z := 1) C dX0_hasFlow_21 rfl ?_
        refine r_goto C 26 dX0_hasFlow_22 (by decide) ?_
        exact MR_zret (d := (0 ≤ e ∧ e < p_edges P) ∧ 0 ≤ w ∧ w < (if p_callee P e = -1 then 1 else 3)) C hrt hlk dX0_hasFlow_26 (bI_t (by first | assumption | omega)).symm rfl
set_option maxHeartbeats 4000000 in
set_option maxRecDepth 100000 in
theorem c_X0_reach (l : Launch) (g : GG) (o : Nat) (ad : Nat → Nat) (P : Pg) (e w a : Int) (he : 0 ≤ e ∧ e < 32) (hw : 0 ≤ w ∧ w < 3) (ha : 0 ≤ a ∧ a < 8) : MR l g yX0_reach cX0_reach 4 (some .int) 0 0 [.ref (o), .int (iI (e)), .int (iI (w)), .int (iI (a))] (pW g o ad P) (.int (iI (pReach P e w a))) := by
  refine MR_start (by decide) (Nat.le_of_ble_eq_true rfl) ?_
  intro zp ze zs zm zb zt zc C hrt hlk hH ls hl
  have hl : lv_has ls 4 [(0, .ref (o)), (1, .int (iI (e))), (2, .int (iI (w))), (3, .int (iI (a)))] := hl
  refine r_aload_n C dX0_reach_0 hl 0 rfl ?_
  refine r_get (v := .ref (ad 7)) C f_X0_46 hH 0 rfl rfl dX0_reach_1 ?_
  refine r_iload_n C dX0_reach_4 hl 1 rfl ?_
  refine r_iconst (z := 3) C dX0_reach_5 rfl ?_
  refine r_imul C dX0_reach_6 ?_
  refine r_iload_n C dX0_reach_7 hl 2 rfl ?_
  refine r_iadd C dX0_reach_8 ?_
  refine r_lald (f := p_flow P) C hH 8 rfl (Nat.le_of_ble_eq_true rfl) (by omega) dX0_reach_9 ?_
  refine r_iload_n C dX0_reach_10 hl 3 rfl ?_
  refine r_bipush (z := 8) C dX0_reach_11 rfl ?_
  refine r_imul C dX0_reach_13 ?_
  refine r_lushr8 C dX0_reach_14 ?_
  refine r_l2i C dX0_reach_15 ?_
  refine r_sipush (z := 255) C dX0_reach_16 rfl ?_
  refine r_iandby C (by omega) (by omega) dX0_reach_19 ?_
  have hb1 := byL_0 (p_flow P ((e * 3) + w)) a
  exact MR_iret C hrt hlk dX0_reach_20 (iv rfl)
set_option maxHeartbeats 4000000 in
set_option maxRecDepth 100000 in
theorem c_X0_carry (l : Launch) (g : GG) (o : Nat) (ad : Nat → Nat) (P : Pg) (e w x : Int) (he : 0 ≤ e ∧ e < 32) (hw : 0 ≤ w ∧ w < 3) (hx : 0 ≤ x ∧ x < 256) : MR l g yX0_carry cX0_carry 6 (some .int) 1 23 [.ref (o), .int (iI (e)), .int (iI (w)), .int (iI (x))] (pW g o ad P) (.int (iI (pCarry P e w x))) := by
  refine MR_start (by decide) (Nat.le_of_ble_eq_true rfl) ?_
  intro zp ze zs zm zb zt zc C hrt hlk hH ls hl
  have hl : lv_has ls 6 [(0, .ref (o)), (1, .int (iI (e))), (2, .int (iI (w))), (3, .int (iI (x)))] := hl
  refine r_iconst (z := 0) C dX0_carry_0 rfl ?_
  refine r_istore C [(4, .int (iI (0))), (0, .ref (o)), (1, .int (iI (e))), (2, .int (iI (w))), (3, .int (iI (x)))] dX0_carry_1 hl (by decide) rfl (fun ls hl => ?_)
  refine r_iconst (z := 0) C dX0_carry_3 rfl ?_
  refine r_istore C [(5, .int (iI (0))), (4, .int (iI (0))), (0, .ref (o)), (1, .int (iI (e))), (2, .int (iI (w))), (3, .int (iI (x)))] dX0_carry_4 hl (by decide) rfl (fun ls hl => ?_)
  have hloop6 : ∀ (k6 : Nat) (a r : Int) (hkk : a + k6 = 8) (ha : 0 ≤ a) (hr1 : 0 ≤ r ∧ r < 256) (hq : pCarry P e w x = it (fun a r => if tb x a = true then bO r (pReach P e w a) else r) k6 a r) (ls : Array Slot), lv_has ls 6 [(0, .ref (o)), (1, .int (iI (e))), (2, .int (iI (w))), (3, .int (iI (x))), (4, .int (iI (r))), (5, .int (iI (a)))] → W zp l ze (rmm 1 23) zs zm (List.toArray [.ref (o), .int (iI (e)), .int (iI (w)), .int (iI (x))]) zb zt zc zs.heap [] 0 0 (MQ zb (QR (.int (iI (pCarry P e w x)))) (List.toArray [.ref (o), .int (iI (e)), .int (iI (w)), .int (iI (x))]) zs 0 0 (fun _ => False)) (F0 zm 6 ls []) := by
    intro k6
    induction k6 with
    | zero =>
      intro a r hkk ha hr1 hq ls hl
      refine r_iload C dX0_carry_6 hl 5 rfl ?_
      refine r_bipush (z := 8) C dX0_carry_8 rfl ?_
      refine r_icmp_ge C 41 dX0_carry_10 (by decide) (by omega) (by omega) (fun hc1 => ?_) (fun hc1 => ?_)
      · skip
        refine r_iload C dX0_carry_41 hl 4 rfl ?_
        exact MR_iret C hrt hlk dX0_carry_43 (iv (by rw [hq]; rfl))
      · exact absurd hc1 (by omega)
    | succ k6 ih6 =>
      intro a r hkk ha hr1 hq ls hl
      refine r_iload C dX0_carry_6 hl 5 rfl ?_
      refine r_bipush (z := 8) C dX0_carry_8 rfl ?_
      refine r_icmp_ge C 41 dX0_carry_10 (by decide) (by omega) (by omega) (fun hc2 => ?_) (fun hc2 => ?_)
      · exact absurd hc2 (by omega)
      · skip
        refine r_iload_n C dX0_carry_13 hl 3 rfl ?_
        refine r_iload C dX0_carry_14 hl 5 rfl ?_
        refine r_callRN (rest := []) (r := .int (iI (bI (tb x a = true)))) C hl.1 (c_X4_has l g  x a (show 0 ≤ x ∧ x < 2147483648 by omega) (show 0 ≤ a ∧ a < 31 by omega)) v_X0_67 rfl (fun k q h => by simp at h) (by decide) (by decide) (Nat.le_of_ble_eq_true rfl) dX0_carry_16 rfl ?_
        refine r_ifb_eq C 35 dX0_carry_19 (by decide) (fun hc3 => ?_) (fun hc3 => ?_)
        · skip
          refine r_iinc (v := a + 1) C [(5, .int (iI (a + 1))), (0, .ref (o)), (1, .int (iI (e))), (2, .int (iI (w))), (3, .int (iI (x))), (4, .int (iI (r)))] dX0_carry_35 hl 5 rfl (by decide) (by omega) rfl (fun ls hl => ?_)
          refine r_goto C 6 dX0_carry_38 (by decide) ?_
          exact ih6 _ _ (by omega) (by omega) (by omega) (by rw [hq, it_s, if_neg hc3]) ls (lv_sub hl [1, 2, 3, 4, 5, 0] rfl)
        · skip
          refine r_iload C dX0_carry_22 hl 4 rfl ?_
          refine r_aload_n C dX0_carry_24 hl 0 rfl ?_
          refine r_iload_n C dX0_carry_25 hl 1 rfl ?_
          refine r_iload_n C dX0_carry_26 hl 2 rfl ?_
          refine r_iload C dX0_carry_27 hl 5 rfl ?_
          refine r_callR (rest := [.int (iI (r))]) (r := .int (iI (pReach P e w a))) C hl.1 (c_X0_reach l g o ad P e w a (show 0 ≤ e ∧ e < 32 by omega) (show 0 ≤ w ∧ w < 3 by omega) (show 0 ≤ a ∧ a < 8 by omega)) v_X0_71 rfl hH 0 rfl rfl rfl (by decide) (by decide) (Nat.le_of_ble_eq_true rfl) dX0_carry_29 rfl ?_
          have hq4 := byL_0 (p_flow P (e * 3 + w)) a
          have hz := byL_0 (p_flow P (e * 3 + w)) a
          change 0 ≤ pReach P e w a ∧ pReach P e w a ≤ 255 at hz
          refine r_ior C (by omega) (by omega) dX0_carry_32 ?_
          have hb5 := bO_0 r (pReach P e w a)
          have hb6 : bO r (pReach P e w a) < 256 := bO_8 (by omega) (by omega)
          refine r_istore C [(4, .int (iI (bO r (pReach P e w a)))), (0, .ref (o)), (1, .int (iI (e))), (2, .int (iI (w))), (3, .int (iI (x))), (5, .int (iI (a)))] dX0_carry_33 hl (by decide) rfl (fun ls hl => ?_)
          refine r_iinc (v := a + 1) C [(5, .int (iI (a + 1))), (4, .int (iI (bO r (pReach P e w a)))), (0, .ref (o)), (1, .int (iI (e))), (2, .int (iI (w))), (3, .int (iI (x)))] dX0_carry_35 hl 5 rfl (by decide) (by omega) rfl (fun ls hl => ?_)
          refine r_goto C 6 dX0_carry_38 (by decide) ?_
          exact ih6 _ _ (by omega) (by omega) (by omega) (by rw [hq, it_s, if_pos hc3]) ls (lv_sub hl [2, 3, 4, 5, 1, 0] rfl)
  exact hloop6 8 0 0 (by omega) (by omega) (by omega) rfl ls (lv_sub hl [2, 3, 4, 5, 1, 0] rfl)
end
section
set_option maxHeartbeats 4000000 in
set_option maxRecDepth 100000 in
theorem c_X0_placeNode (l : Launch) (g : GG) (o : Nat) (ad : Nat → Nat) (P : Pg) (n k : Int) (hn : 0 ≤ p_nodes P ∧ p_nodes P < 24) : MW l g yX0_placeNode cX0_placeNode 3 (some .int) 0 0 [.ref (o), .int (iI (n)), .int (iI (k))] (pW g o ad P) (pW g o ad (ps_nodes (ps_kindOf (ps_procOf P (up (p_procOf P) (p_nodes P) n)) (up (p_kindOf P) (p_nodes P) k)) (p_nodes P + 1))) (some (.int (iI (p_nodes P)))) := by
  refine MW_start (by decide) (Nat.le_of_ble_eq_true rfl) ?_
  intro zp ze zs zm zb zt zc A hAe C hrt hlk hW ls hl
  have hA : ∀ q, zs.heap.size ≤ q → A q := fun q h => by rw [hAe]; exact Or.inr h
  have hl : lv_has ls 3 [(0, .ref (o)), (1, .int (iI (n))), (2, .int (iI (k)))] := hl
  refine r_aload_n C dX0_placeNode_0 hl 0 rfl ?_
  refine r_get (v := .ref (ad 2)) C f_X0_31 hW.1 0 rfl rfl dX0_placeNode_1 ?_
  refine r_aload_n C dX0_placeNode_4 hl 0 rfl ?_
  refine r_get (v := .int (iI (p_nodes P))) C f_X0_15 hW.1 0 rfl rfl dX0_placeNode_5 ?_
  refine r_iload_n C dX0_placeNode_8 hl 1 rfl ?_
  refine r_iast (f := p_procOf P) C hW (pW g o ad (ps_procOf P (up (p_procOf P) (p_nodes P) n))) 3 rfl (Nat.le_of_ble_eq_true rfl) (by omega) rfl dX0_placeNode_9 (fun H locs hW => ?_)
  refine r_aload_n C dX0_placeNode_10 hl 0 rfl ?_
  refine r_get (v := .ref (ad 3)) C f_X0_34 hW.1 0 rfl rfl dX0_placeNode_11 ?_
  refine r_aload_n C dX0_placeNode_14 hl 0 rfl ?_
  refine r_get (v := .int (iI (p_nodes P))) C f_X0_15 hW.1 0 rfl rfl dX0_placeNode_15 ?_
  refine r_iload_n C dX0_placeNode_18 hl 2 rfl ?_
  refine r_iast (f := p_kindOf P) C hW (pW g o ad (ps_kindOf (ps_procOf P (up (p_procOf P) (p_nodes P) n)) (up (p_kindOf P) (p_nodes P) k))) 4 rfl (Nat.le_of_ble_eq_true rfl) (by omega) rfl dX0_placeNode_19 (fun H locs hW => ?_)
  refine r_aload_n C dX0_placeNode_20 hl 0 rfl ?_
  refine r_dup C rfl dX0_placeNode_21 ?_
  refine r_get (v := .int (iI (p_nodes P))) C f_X0_15 hW.1 0 rfl rfl dX0_placeNode_22 ?_
  refine r_dup_x1 C rfl rfl dX0_placeNode_25 ?_
  refine r_iconst (z := 1) C dX0_placeNode_26 rfl ?_
  refine r_iadd C dX0_placeNode_27 ?_
  refine r_put C f_X0_15 fp_0_1 hW (pW g o ad (ps_nodes (ps_kindOf (ps_procOf P (up (p_procOf P) (p_nodes P) n)) (up (p_kindOf P) (p_nodes P) k)) ((p_nodes P) + 1))) 0 rfl rfl rfl (Nat.le_of_ble_eq_true rfl) rfl dX0_placeNode_28 (fun H locs hW => ?_)
  exact MW_iret C hAe hrt hlk hW dX0_placeNode_31 (iw rfl) rfl
set_option maxHeartbeats 4000000 in
set_option maxRecDepth 100000 in
theorem c_X0_addProc (l : Launch) (g : GG) (o : Nat) (ad : Nat → Nat) (P : Pg) (hP : pOk P) : MW l g yX0_addProc cX0_addProc 1 (some .int) 1 22 [.ref (o)] (pW g o ad P) (pW g o ad ((pAddProc P).2)) (some (.int (iI ((pAddProc P).1)))) := by
  refine MW_start (by decide) (Nat.le_of_ble_eq_true rfl) ?_
  intro zp ze zs zm zb zt zc A hAe C hrt hlk hW ls hl
  have hA : ∀ q, zs.heap.size ≤ q → A q := fun q h => by rw [hAe]; exact Or.inr h
  have hl : lv_has ls 1 [(0, .ref (o))] := hl
  obtain ⟨hP_procs, hP_nodes, hP_edges, hP_start, hP_entryOf, hP_exitOf, hP_procOf, hP_kindOf, hP_from, hP_to, hP_callee⟩ := id hP
  refine r_aload_n C dX0_addProc_0 hl 0 rfl ?_
  refine r_get (v := .int (iI (p_procs P))) C f_X0_9 hW.1 0 rfl rfl dX0_addProc_1 ?_
  refine r_iconst (z := 5) C dX0_addProc_4 rfl ?_
  refine r_icmp_ge C 19 dX0_addProc_5 (by decide) (by omega) (by omega) (fun hc1 => ?_) (fun hc1 => ?_)
  · skip
    refine r_bipush (z := -4) C dX0_addProc_19 rfl ?_
    have hE : pAddProc P = (-4, P) := by unfold pAddProc; (repeat' split) <;> first | rfl | (exfalso; omega)
    exact MW_iret C hAe hrt hlk hW dX0_addProc_21 (iw (by rw [hE])) (by rw [hE])
  · skip
    refine r_aload_n C dX0_addProc_8 hl 0 rfl ?_
    refine r_get (v := .int (iI (p_nodes P))) C f_X0_15 hW.1 0 rfl rfl dX0_addProc_9 ?_
    refine r_iconst (z := 2) C dX0_addProc_12 rfl ?_
    refine r_iadd C dX0_addProc_13 ?_
    refine r_bipush (z := 24) C dX0_addProc_14 rfl ?_
    refine r_icmp_le C 22 dX0_addProc_16 (by decide) (by omega) (by omega) (fun hc2 => ?_) (fun hc2 => ?_)
    · skip
      refine r_aload_n C dX0_addProc_22 hl 0 rfl ?_
      refine r_get (v := .ref (ad 0)) C f_X0_24 hW.1 0 rfl rfl dX0_addProc_23 ?_
      refine r_aload_n C dX0_addProc_26 hl 0 rfl ?_
      refine r_get (v := .int (iI (p_procs P))) C f_X0_9 hW.1 0 rfl rfl dX0_addProc_27 ?_
      refine r_aload_n C dX0_addProc_30 hl 0 rfl ?_
      refine r_get (v := .int (iI (p_nodes P))) C f_X0_15 hW.1 0 rfl rfl dX0_addProc_31 ?_
      refine r_iast (f := p_entryOf P) C hW (pW g o ad (ps_entryOf P (up (p_entryOf P) (p_procs P) (p_nodes P)))) 1 rfl (Nat.le_of_ble_eq_true rfl) (by omega) rfl dX0_addProc_34 (fun H locs hW => ?_)
      refine r_aload_n C dX0_addProc_35 hl 0 rfl ?_
      refine r_aload_n C dX0_addProc_36 hl 0 rfl ?_
      refine r_get (v := .int (iI (p_procs P))) C f_X0_9 hW.1 0 rfl rfl dX0_addProc_37 ?_
      refine r_iconst (z := 0) C dX0_addProc_40 rfl ?_
      refine r_callW (rest := []) (r := some (.int (iI ((p_nodes P))))) (wr := []) (ws2 := pW g o ad (ps_nodes (ps_kindOf (ps_procOf (ps_entryOf P (up (p_entryOf P) (p_procs P) (p_nodes P))) (up ((p_procOf P)) ((p_nodes P)) (p_procs P))) (up ((p_kindOf P)) ((p_nodes P)) 0)) ((p_nodes P) + 1))) (st1 := [.int (iI ((p_nodes P)))]) C hl.1 hW hA (c_X0_placeNode l g o ad (ps_entryOf P (up (p_entryOf P) (p_procs P) (p_nodes P))) (p_procs P) 0 (show 0 ≤ (p_nodes P) ∧ (p_nodes P) < 24 by omega)) v_X0_75 rfl [0, 1, 2, 3, 4, 5, 6, 7, 8] [] [0, 1, 2, 3, 4, 5, 6, 7, 8] rfl rfl (by decide) (by decide) rfl rfl 0 rfl rfl rfl (by decide) (by decide) (Nat.le_of_ble_eq_true rfl) dX0_addProc_41 rfl rfl (fun H locs hW => ?_)
      refine r_pop C rfl dX0_addProc_44 ?_
      refine r_aload_n C dX0_addProc_45 hl 0 rfl ?_
      refine r_get (v := .ref (ad 1)) C f_X0_28 hW.1 0 rfl rfl dX0_addProc_46 ?_
      refine r_aload_n C dX0_addProc_49 hl 0 rfl ?_
      refine r_get (v := .int (iI (p_procs P))) C f_X0_9 hW.1 0 rfl rfl dX0_addProc_50 ?_
      refine r_aload_n C dX0_addProc_53 hl 0 rfl ?_
      refine r_get (v := .int (iI ((p_nodes P) + 1))) C f_X0_15 hW.1 0 rfl rfl dX0_addProc_54 ?_
      refine r_iast (f := p_exitOf P) C hW (pW g o ad (ps_exitOf (ps_nodes (ps_kindOf (ps_procOf (ps_entryOf P (up (p_entryOf P) (p_procs P) (p_nodes P))) (up ((p_procOf P)) ((p_nodes P)) (p_procs P))) (up ((p_kindOf P)) ((p_nodes P)) 0)) ((p_nodes P) + 1)) (up (p_exitOf P) (p_procs P) ((p_nodes P) + 1)))) 2 rfl (Nat.le_of_ble_eq_true rfl) (by omega) rfl dX0_addProc_57 (fun H locs hW => ?_)
      refine r_aload_n C dX0_addProc_58 hl 0 rfl ?_
      refine r_aload_n C dX0_addProc_59 hl 0 rfl ?_
      refine r_get (v := .int (iI (p_procs P))) C f_X0_9 hW.1 0 rfl rfl dX0_addProc_60 ?_
      refine r_iconst (z := 1) C dX0_addProc_63 rfl ?_
      refine r_callW (rest := []) (r := some (.int (iI (((p_nodes P) + 1))))) (wr := []) (ws2 := pW g o ad (ps_nodes (ps_kindOf (ps_procOf (ps_exitOf (ps_nodes (ps_kindOf (ps_procOf (ps_entryOf P (up (p_entryOf P) (p_procs P) (p_nodes P))) (up ((p_procOf P)) ((p_nodes P)) (p_procs P))) (up ((p_kindOf P)) ((p_nodes P)) 0)) ((p_nodes P) + 1)) (up (p_exitOf P) (p_procs P) ((p_nodes P) + 1))) (up ((up ((p_procOf P)) ((p_nodes P)) (p_procs P))) (((p_nodes P) + 1)) (p_procs P))) (up ((up ((p_kindOf P)) ((p_nodes P)) 0)) (((p_nodes P) + 1)) 1)) (((p_nodes P) + 1) + 1))) (st1 := [.int (iI (((p_nodes P) + 1)))]) C hl.1 hW hA (c_X0_placeNode l g o ad (ps_exitOf (ps_nodes (ps_kindOf (ps_procOf (ps_entryOf P (up (p_entryOf P) (p_procs P) (p_nodes P))) (up ((p_procOf P)) ((p_nodes P)) (p_procs P))) (up ((p_kindOf P)) ((p_nodes P)) 0)) ((p_nodes P) + 1)) (up (p_exitOf P) (p_procs P) ((p_nodes P) + 1))) (p_procs P) 1 (show 0 ≤ ((p_nodes P) + 1) ∧ ((p_nodes P) + 1) < 24 by omega)) v_X0_75 rfl [0, 1, 2, 3, 4, 5, 6, 7, 8] [] [0, 1, 2, 3, 4, 5, 6, 7, 8] rfl rfl (by decide) (by decide) rfl rfl 0 rfl rfl rfl (by decide) (by decide) (Nat.le_of_ble_eq_true rfl) dX0_addProc_64 rfl rfl (fun H locs hW => ?_)
      refine r_pop C rfl dX0_addProc_67 ?_
      refine r_aload_n C dX0_addProc_68 hl 0 rfl ?_
      refine r_dup C rfl dX0_addProc_69 ?_
      refine r_get (v := .int (iI (p_procs P))) C f_X0_9 hW.1 0 rfl rfl dX0_addProc_70 ?_
      refine r_dup_x1 C rfl rfl dX0_addProc_73 ?_
      refine r_iconst (z := 1) C dX0_addProc_74 rfl ?_
      refine r_iadd C dX0_addProc_75 ?_
      refine r_put C f_X0_9 fp_0_0 hW (pW g o ad (ps_procs (ps_nodes (ps_kindOf (ps_procOf (ps_exitOf (ps_nodes (ps_kindOf (ps_procOf (ps_entryOf P (up (p_entryOf P) (p_procs P) (p_nodes P))) (up ((p_procOf P)) ((p_nodes P)) (p_procs P))) (up ((p_kindOf P)) ((p_nodes P)) 0)) ((p_nodes P) + 1)) (up (p_exitOf P) (p_procs P) ((p_nodes P) + 1))) (up ((up ((p_procOf P)) ((p_nodes P)) (p_procs P))) (((p_nodes P) + 1)) (p_procs P))) (up ((up ((p_kindOf P)) ((p_nodes P)) 0)) (((p_nodes P) + 1)) 1)) (((p_nodes P) + 1) + 1)) ((p_procs P) + 1))) 0 rfl rfl rfl (Nat.le_of_ble_eq_true rfl) rfl dX0_addProc_76 (fun H locs hW => ?_)
      have hE : pAddProc P = (p_procs P, ps_procs (ps_nodes (ps_kindOf (ps_procOf (ps_exitOf (ps_nodes (ps_kindOf (ps_procOf (ps_entryOf P (up (p_entryOf P) (p_procs P) (p_nodes P))) (up ((p_procOf P)) ((p_nodes P)) (p_procs P))) (up ((p_kindOf P)) ((p_nodes P)) 0)) ((p_nodes P) + 1)) (up (p_exitOf P) (p_procs P) ((p_nodes P) + 1))) (up ((up ((p_procOf P)) ((p_nodes P)) (p_procs P))) (((p_nodes P) + 1)) (p_procs P))) (up ((up ((p_kindOf P)) ((p_nodes P)) 0)) (((p_nodes P) + 1)) 1)) (((p_nodes P) + 1) + 1)) ((p_procs P) + 1)) := by unfold pAddProc; (repeat' split) <;> first | rfl | (exfalso; omega)
      exact MW_iret C hAe hrt hlk hW dX0_addProc_79 (iw (by rw [hE])) (by rw [hE])
    · skip
      refine r_bipush (z := -4) C dX0_addProc_19 rfl ?_
      have hE : pAddProc P = (-4, P) := by unfold pAddProc; (repeat' split) <;> first | rfl | (exfalso; omega)
      exact MW_iret C hAe hrt hlk hW dX0_addProc_21 (iw (by rw [hE])) (by rw [hE])
set_option maxHeartbeats 4000000 in
set_option maxRecDepth 100000 in
theorem c_X0_addNode (l : Launch) (g : GG) (o : Nat) (ad : Nat → Nat) (P : Pg) (n : Int) (hP : pOk P) (hn : rg n) : MW l g yX0_addNode cX0_addNode 2 (some .int) 1 22 [.ref (o), .int (iI (n))] (pW g o ad P) (pW g o ad ((pAddNode P n).2)) (some (.int (iI ((pAddNode P n).1)))) := by
  refine MW_start (by decide) (Nat.le_of_ble_eq_true rfl) ?_
  intro zp ze zs zm zb zt zc A hAe C hrt hlk hW ls hl
  have hA : ∀ q, zs.heap.size ≤ q → A q := fun q h => by rw [hAe]; exact Or.inr h
  have hl : lv_has ls 2 [(0, .ref (o)), (1, .int (iI (n)))] := hl
  obtain ⟨hP_procs, hP_nodes, hP_edges, hP_start, hP_entryOf, hP_exitOf, hP_procOf, hP_kindOf, hP_from, hP_to, hP_callee⟩ := id hP
  refine r_aload_n C dX0_addNode_0 hl 0 rfl ?_
  refine r_iload_n C dX0_addNode_1 hl 1 rfl ?_
  refine r_callR (rest := []) (r := .int (iI (bI (0 ≤ n ∧ n < (p_procs P))))) C hl.1 (c_X0_isProc l g o ad P n (by assumption) (show rg n by omega)) v_X0_79 rfl hW.1 0 rfl rfl rfl (by decide) (by decide) (Nat.le_of_ble_eq_true rfl) dX0_addNode_2 rfl ?_
  refine r_ifb_ne C 11 dX0_addNode_5 (by decide) (fun hc1 => ?_) (fun hc1 => ?_)
  · skip
    refine r_aload_n C dX0_addNode_11 hl 0 rfl ?_
    refine r_get (v := .int (iI (p_nodes P))) C f_X0_15 hW.1 0 rfl rfl dX0_addNode_12 ?_
    refine r_bipush (z := 24) C dX0_addNode_15 rfl ?_
    refine r_icmp_lt C 23 dX0_addNode_17 (by decide) (by omega) (by omega) (fun hc2 => ?_) (fun hc2 => ?_)
    · skip
      refine r_aload_n C dX0_addNode_23 hl 0 rfl ?_
      refine r_iload_n C dX0_addNode_24 hl 1 rfl ?_
      refine r_iconst (z := 2) C dX0_addNode_25 rfl ?_
      refine r_callW (rest := []) (r := some (.int (iI ((p_nodes P))))) (wr := []) (ws2 := pW g o ad (ps_nodes (ps_kindOf (ps_procOf P (up ((p_procOf P)) ((p_nodes P)) n)) (up ((p_kindOf P)) ((p_nodes P)) 2)) ((p_nodes P) + 1))) (st1 := [.int (iI ((p_nodes P)))]) C hl.1 hW hA (c_X0_placeNode l g o ad P n 2 (show 0 ≤ (p_nodes P) ∧ (p_nodes P) < 24 by omega)) v_X0_75 rfl [0, 1, 2, 3, 4, 5, 6, 7, 8] [] [0, 1, 2, 3, 4, 5, 6, 7, 8] rfl rfl (by decide) (by decide) rfl rfl 0 rfl rfl rfl (by decide) (by decide) (Nat.le_of_ble_eq_true rfl) dX0_addNode_26 rfl rfl (fun H locs hW => ?_)
      have hE : pAddNode P n = ((p_nodes P), ps_nodes (ps_kindOf (ps_procOf P (up ((p_procOf P)) ((p_nodes P)) n)) (up ((p_kindOf P)) ((p_nodes P)) 2)) ((p_nodes P) + 1)) := by unfold pAddNode; (repeat' split) <;> first | rfl | (exfalso; omega)
      exact MW_iret C hAe hrt hlk hW dX0_addNode_29 (iw (by rw [hE])) (by rw [hE])
    · skip
      refine r_bipush (z := -4) C dX0_addNode_20 rfl ?_
      have hE : pAddNode P n = (-4, P) := by unfold pAddNode; (repeat' split) <;> first | rfl | (exfalso; omega)
      exact MW_iret C hAe hrt hlk hW dX0_addNode_22 (iw (by rw [hE])) (by rw [hE])
  · skip
    refine r_bipush (z := -2) C dX0_addNode_8 rfl ?_
    have hE : pAddNode P n = (-2, P) := by unfold pAddNode; (repeat' split) <;> first | rfl | (exfalso; omega)
    exact MW_iret C hAe hrt hlk hW dX0_addNode_10 (iw (by rw [hE])) (by rw [hE])
set_option maxHeartbeats 4000000 in
set_option maxRecDepth 100000 in
theorem c_X0_addEdge (l : Launch) (g : GG) (o : Nat) (ad : Nat → Nat) (P : Pg) (n q k : Int) (hE0 : 0 ≤ p_edges P ∧ p_edges P ≤ 32) : MW l g yX0_addEdge cX0_addEdge 5 (some .int) 0 0 [.ref (o), .int (iI (n)), .int (iI (q)), .int (iI (k))] (pW g o ad P) (pW g o ad ((pAddEdge P n q k).2)) (some (.int (iI ((pAddEdge P n q k).1)))) := by
  refine MW_start (by decide) (Nat.le_of_ble_eq_true rfl) ?_
  intro zp ze zs zm zb zt zc A hAe C hrt hlk hW ls hl
  have hA : ∀ q, zs.heap.size ≤ q → A q := fun q h => by rw [hAe]; exact Or.inr h
  have hl : lv_has ls 5 [(0, .ref (o)), (1, .int (iI (n))), (2, .int (iI (q))), (3, .int (iI (k)))] := hl
  refine r_aload_n C dX0_addEdge_0 hl 0 rfl ?_
  refine r_get (v := .int (iI (p_edges P))) C f_X0_18 hW.1 0 rfl rfl dX0_addEdge_1 ?_
  refine r_bipush (z := 32) C dX0_addEdge_4 rfl ?_
  refine r_icmp_lt C 12 dX0_addEdge_6 (by decide) (by omega) (by omega) (fun hc1 => ?_) (fun hc1 => ?_)
  · skip
    refine r_aload_n C dX0_addEdge_12 hl 0 rfl ?_
    refine r_get (v := .ref (ad 4)) C f_X0_37 hW.1 0 rfl rfl dX0_addEdge_13 ?_
    refine r_aload_n C dX0_addEdge_16 hl 0 rfl ?_
    refine r_get (v := .int (iI (p_edges P))) C f_X0_18 hW.1 0 rfl rfl dX0_addEdge_17 ?_
    refine r_iload_n C dX0_addEdge_20 hl 1 rfl ?_
    refine r_iast (f := p_from P) C hW (pW g o ad (ps_from P (up (p_from P) (p_edges P) n))) 5 rfl (Nat.le_of_ble_eq_true rfl) (by omega) rfl dX0_addEdge_21 (fun H locs hW => ?_)
    refine r_aload_n C dX0_addEdge_22 hl 0 rfl ?_
    refine r_get (v := .ref (ad 5)) C f_X0_40 hW.1 0 rfl rfl dX0_addEdge_23 ?_
    refine r_aload_n C dX0_addEdge_26 hl 0 rfl ?_
    refine r_get (v := .int (iI (p_edges P))) C f_X0_18 hW.1 0 rfl rfl dX0_addEdge_27 ?_
    refine r_iload_n C dX0_addEdge_30 hl 3 rfl ?_
    refine r_iast (f := p_to P) C hW (pW g o ad (ps_to (ps_from P (up (p_from P) (p_edges P) n)) (up (p_to P) (p_edges P) k))) 6 rfl (Nat.le_of_ble_eq_true rfl) (by omega) rfl dX0_addEdge_31 (fun H locs hW => ?_)
    refine r_aload_n C dX0_addEdge_32 hl 0 rfl ?_
    refine r_get (v := .ref (ad 6)) C f_X0_43 hW.1 0 rfl rfl dX0_addEdge_33 ?_
    refine r_aload_n C dX0_addEdge_36 hl 0 rfl ?_
    refine r_get (v := .int (iI (p_edges P))) C f_X0_18 hW.1 0 rfl rfl dX0_addEdge_37 ?_
    refine r_iload_n C dX0_addEdge_40 hl 2 rfl ?_
    refine r_iast (f := p_callee P) C hW (pW g o ad (ps_callee (ps_to (ps_from P (up (p_from P) (p_edges P) n)) (up (p_to P) (p_edges P) k)) (up (p_callee P) (p_edges P) q))) 7 rfl (Nat.le_of_ble_eq_true rfl) (by omega) rfl dX0_addEdge_41 (fun H locs hW => ?_)
    refine r_iconst (z := 0) C dX0_addEdge_42 rfl ?_
    refine r_istore C [(4, .int (iI (0))), (0, .ref (o)), (1, .int (iI (n))), (2, .int (iI (q))), (3, .int (iI (k)))] dX0_addEdge_43 hl (by decide) rfl (fun ls hl => ?_)
    have hloop45 : ∀ (k45 : Nat) (w : Int) (f : Int → Int64) (hkk : w + k45 = 3) (hw : 0 ≤ w) (hq : pPlainF P (p_flow P) = it (fun w f => up f (p_edges P * 3 + w) plL) k45 w f) (H : Heap) (locs : List Loc) (ls : Array Slot), HW g A zs.heap (pW g o ad (ps_flow (ps_callee (ps_to (ps_from P (up (p_from P) (p_edges P) n)) (up (p_to P) (p_edges P) k)) (up (p_callee P) (p_edges P) q)) f)) H locs → lv_has ls 5 [(0, .ref (o)), (1, .int (iI (n))), (2, .int (iI (q))), (3, .int (iI (k))), (4, .int (iI (w)))] → W zp l ze (rmm 0 0) zs zm (List.toArray [.ref (o), .int (iI (n)), .int (iI (q)), .int (iI (k))]) zb zt zc H locs 0 0 (MQ zb (QW g (pW g o ad P) (pW g o ad ((pAddEdge P n q k).2)) zs.heap.size (some (.int (iI ((pAddEdge P n q k).1))))) (List.toArray [.ref (o), .int (iI (n)), .int (iI (q)), .int (iI (k))]) zs 0 0 A) (F0 zm 45 ls []) := by
      intro k45
      induction k45 with
      | zero =>
        intro w f hkk hw hq H locs ls hW hl
        refine r_iload C dX0_addEdge_45 hl 4 rfl ?_
        refine r_iconst (z := 3) C dX0_addEdge_47 rfl ?_
        refine r_icmp_ge C 74 dX0_addEdge_48 (by decide) (by omega) (by omega) (fun hc2 => ?_) (fun hc2 => ?_)
        · skip
          refine r_aload_n C dX0_addEdge_74 hl 0 rfl ?_
          refine r_dup C rfl dX0_addEdge_75 ?_
          refine r_get (v := .int (iI (p_edges P))) C f_X0_18 hW.1 0 rfl rfl dX0_addEdge_76 ?_
          refine r_dup_x1 C rfl rfl dX0_addEdge_79 ?_
          refine r_iconst (z := 1) C dX0_addEdge_80 rfl ?_
          refine r_iadd C dX0_addEdge_81 ?_
          refine r_put C f_X0_18 fp_0_2 hW (pW g o ad (ps_edges (ps_flow (ps_callee (ps_to (ps_from P (up (p_from P) (p_edges P) n)) (up (p_to P) (p_edges P) k)) (up (p_callee P) (p_edges P) q)) f) ((p_edges P) + 1))) 0 rfl rfl rfl (Nat.le_of_ble_eq_true rfl) rfl dX0_addEdge_82 (fun H locs hW => ?_)
          have hE : pAddEdge P n q k = (p_edges P, ps_edges (ps_flow (ps_callee (ps_to (ps_from P (up (p_from P) (p_edges P) n)) (up (p_to P) (p_edges P) k)) (up (p_callee P) (p_edges P) q)) f) ((p_edges P) + 1)) := by unfold pAddEdge; rw [hq]; split <;> first | rfl | (exfalso; omega)
          exact MW_iret C hAe hrt hlk hW dX0_addEdge_85 (iw (by rw [hE])) (by rw [hE])
        · exact absurd hc2 (by omega)
      | succ k45 ih45 =>
        intro w f hkk hw hq H locs ls hW hl
        refine r_iload C dX0_addEdge_45 hl 4 rfl ?_
        refine r_iconst (z := 3) C dX0_addEdge_47 rfl ?_
        refine r_icmp_ge C 74 dX0_addEdge_48 (by decide) (by omega) (by omega) (fun hc3 => ?_) (fun hc3 => ?_)
        · exact absurd hc3 (by omega)
        · skip
          refine r_aload_n C dX0_addEdge_51 hl 0 rfl ?_
          refine r_get (v := .ref (ad 7)) C f_X0_46 hW.1 0 rfl rfl dX0_addEdge_52 ?_
          refine r_aload_n C dX0_addEdge_55 hl 0 rfl ?_
          refine r_get (v := .int (iI (p_edges P))) C f_X0_18 hW.1 0 rfl rfl dX0_addEdge_56 ?_
          refine r_iconst (z := 3) C dX0_addEdge_59 rfl ?_
          refine r_imul C dX0_addEdge_60 ?_
          refine r_iload C dX0_addEdge_61 hl 4 rfl ?_
          refine r_iadd C dX0_addEdge_63 ?_
          refine r_ldc2 (v := plL) C k_275 dX0_addEdge_64 ?_
          refine r_last (f := f) C hW (pW g o ad (ps_flow (ps_flow (ps_callee (ps_to (ps_from P (up (p_from P) (p_edges P) n)) (up (p_to P) (p_edges P) k)) (up (p_callee P) (p_edges P) q)) f) (up f (((p_edges P) * 3) + w) plL))) 8 rfl (Nat.le_of_ble_eq_true rfl) (by omega) rfl dX0_addEdge_67 (fun H locs hW => ?_)
          refine r_iinc (v := w + 1) C [(4, .int (iI (w + 1))), (0, .ref (o)), (1, .int (iI (n))), (2, .int (iI (q))), (3, .int (iI (k)))] dX0_addEdge_68 hl 4 rfl (by decide) (by omega) rfl (fun ls hl => ?_)
          refine r_goto C 45 dX0_addEdge_71 (by decide) ?_
          exact ih45 _ _ (by omega) (by omega) (by rw [hq, it_s]) H locs ls hW (lv_sub hl [1, 2, 3, 4, 0] rfl)
    exact hloop45 3 0 _ (by omega) (by omega) rfl H locs ls hW (lv_sub hl [1, 2, 3, 4, 0] rfl)
  · skip
    refine r_bipush (z := -4) C dX0_addEdge_9 rfl ?_
    have hE : pAddEdge P n q k = (-4, P) := by unfold pAddEdge; (repeat' split) <;> first | rfl | (exfalso; omega)
    exact MW_iret C hAe hrt hlk hW dX0_addEdge_11 (iw (by rw [hE])) (by rw [hE])
set_option maxHeartbeats 4000000 in
set_option maxRecDepth 100000 in
theorem c_X0_addPlain (l : Launch) (g : GG) (o : Nat) (ad : Nat → Nat) (P : Pg) (n k : Int) (hP : pOk P) (hn : rg n) (hm : rg k) : MW l g yX0_addPlain cX0_addPlain 3 (some .int) 2 43 [.ref (o), .int (iI (n)), .int (iI (k))] (pW g o ad P) (pW g o ad ((pAddPlain P n k).2)) (some (.int (iI ((pAddPlain P n k).1)))) := by
  refine MW_start (by decide) (Nat.le_of_ble_eq_true rfl) ?_
  intro zp ze zs zm zb zt zc A hAe C hrt hlk hW ls hl
  have hA : ∀ q, zs.heap.size ≤ q → A q := fun q h => by rw [hAe]; exact Or.inr h
  have hl : lv_has ls 3 [(0, .ref (o)), (1, .int (iI (n))), (2, .int (iI (k)))] := hl
  obtain ⟨hP_procs, hP_nodes, hP_edges, hP_start, hP_entryOf, hP_exitOf, hP_procOf, hP_kindOf, hP_from, hP_to, hP_callee⟩ := id hP
  refine r_aload_n C dX0_addPlain_0 hl 0 rfl ?_
  refine r_iload_n C dX0_addPlain_1 hl 1 rfl ?_
  refine r_iload_n C dX0_addPlain_2 hl 2 rfl ?_
  refine r_callR (rest := []) (r := .int (iI (bI ((0 ≤ n ∧ n < (p_nodes P)) ∧ (0 ≤ k ∧ k < (p_nodes P)) ∧ (p_procOf P) n = (p_procOf P) k ∧ (p_kindOf P) n ≠ 1 ∧ (p_kindOf P) k ≠ 0)))) C hl.1 (c_X0_joins l g o ad P n k (by assumption) (show rg n by omega) (show rg k by omega)) v_X0_82 rfl hW.1 0 rfl rfl rfl (by decide) (by decide) (Nat.le_of_ble_eq_true rfl) dX0_addPlain_3 rfl ?_
  refine r_ifb_eq C 19 dX0_addPlain_6 (by decide) (fun hc1 => ?_) (fun hc1 => ?_)
  · skip
    refine r_bipush (z := -2) C dX0_addPlain_19 rfl ?_
    have hE : pAddPlain P n k = (-2, P) := by first | exact if_pos (by assumption) | exact if_neg (by assumption)
    exact MW_iret C hAe hrt hlk hW dX0_addPlain_21 (iw (by rw [hE])) (by rw [hE])
  · skip
    refine r_aload_n C dX0_addPlain_9 hl 0 rfl ?_
    refine r_iload_n C dX0_addPlain_10 hl 1 rfl ?_
    refine r_iconst (z := -1) C dX0_addPlain_11 rfl ?_
    refine r_iload_n C dX0_addPlain_12 hl 2 rfl ?_
    refine r_callW (rest := []) (r := some (.int (iI ((pAddEdge P n (-1) k).1)))) (wr := []) (ws2 := pW g o ad ((pAddEdge P n (-1) k).2)) (st1 := [.int (iI ((pAddEdge P n (-1) k).1))]) C hl.1 hW hA (c_X0_addEdge l g o ad P n (-1) k (show 0 ≤ (p_edges P) ∧ (p_edges P) ≤ 32 by omega)) v_X0_85 rfl [0, 1, 2, 3, 4, 5, 6, 7, 8] [] [0, 1, 2, 3, 4, 5, 6, 7, 8] rfl rfl (by decide) (by decide) rfl rfl 0 rfl rfl rfl (by decide) (by decide) (Nat.le_of_ble_eq_true rfl) dX0_addPlain_13 rfl rfl (fun H locs hW => ?_)
    refine r_goto C 21 dX0_addPlain_16 (by decide) ?_
    have hE : pAddPlain P n k = ((pAddEdge P n (-1) k).1, (pAddEdge P n (-1) k).2) := by first | exact if_pos (by assumption) | exact if_neg (by assumption)
    exact MW_iret C hAe hrt hlk hW dX0_addPlain_21 (iw (by rw [hE])) (by rw [hE])
set_option maxHeartbeats 4000000 in
set_option maxRecDepth 100000 in
theorem c_X0_addCall (l : Launch) (g : GG) (o : Nat) (ad : Nat → Nat) (P : Pg) (n q k : Int) (hP : pOk P) (hn : rg n) (hq : rg q) (hm : rg k) : MW l g yX0_addCall cX0_addCall 4 (some .int) 2 43 [.ref (o), .int (iI (n)), .int (iI (q)), .int (iI (k))] (pW g o ad P) (pW g o ad ((pAddCall P n q k).2)) (some (.int (iI ((pAddCall P n q k).1)))) := by
  refine MW_start (by decide) (Nat.le_of_ble_eq_true rfl) ?_
  intro zp ze zs zm zb zt zc A hAe C hrt hlk hW ls hl
  have hA : ∀ q, zs.heap.size ≤ q → A q := fun q h => by rw [hAe]; exact Or.inr h
  have hl : lv_has ls 4 [(0, .ref (o)), (1, .int (iI (n))), (2, .int (iI (q))), (3, .int (iI (k)))] := hl
  obtain ⟨hP_procs, hP_nodes, hP_edges, hP_start, hP_entryOf, hP_exitOf, hP_procOf, hP_kindOf, hP_from, hP_to, hP_callee⟩ := id hP
  refine r_aload_n C dX0_addCall_0 hl 0 rfl ?_
  refine r_iload_n C dX0_addCall_1 hl 2 rfl ?_
  refine r_callR (rest := []) (r := .int (iI (bI (0 ≤ q ∧ q < (p_procs P))))) C hl.1 (c_X0_isProc l g o ad P q (by assumption) (show rg q by omega)) v_X0_79 rfl hW.1 0 rfl rfl rfl (by decide) (by decide) (Nat.le_of_ble_eq_true rfl) dX0_addCall_2 rfl ?_
  refine r_ifb_eq C 27 dX0_addCall_5 (by decide) (fun hc1 => ?_) (fun hc1 => ?_)
  · skip
    refine r_bipush (z := -2) C dX0_addCall_27 rfl ?_
    have hE : pAddCall P n q k = (-2, P) := by first | exact if_pos ⟨by assumption, by assumption⟩ | exact if_neg (fun h => by first | exact absurd h.1 (by assumption) | exact absurd h.2 (by assumption))
    exact MW_iret C hAe hrt hlk hW dX0_addCall_29 (iw (by rw [hE])) (by rw [hE])
  · skip
    refine r_aload_n C dX0_addCall_8 hl 0 rfl ?_
    refine r_iload_n C dX0_addCall_9 hl 1 rfl ?_
    refine r_iload_n C dX0_addCall_10 hl 3 rfl ?_
    refine r_callR (rest := []) (r := .int (iI (bI ((0 ≤ n ∧ n < (p_nodes P)) ∧ (0 ≤ k ∧ k < (p_nodes P)) ∧ (p_procOf P) n = (p_procOf P) k ∧ (p_kindOf P) n ≠ 1 ∧ (p_kindOf P) k ≠ 0)))) C hl.1 (c_X0_joins l g o ad P n k (by assumption) (show rg n by omega) (show rg k by omega)) v_X0_82 rfl hW.1 0 rfl rfl rfl (by decide) (by decide) (Nat.le_of_ble_eq_true rfl) dX0_addCall_11 rfl ?_
    refine r_ifb_eq C 27 dX0_addCall_14 (by decide) (fun hc2 => ?_) (fun hc2 => ?_)
    · skip
      refine r_bipush (z := -2) C dX0_addCall_27 rfl ?_
      have hE : pAddCall P n q k = (-2, P) := by first | exact if_pos ⟨by assumption, by assumption⟩ | exact if_neg (fun h => by first | exact absurd h.1 (by assumption) | exact absurd h.2 (by assumption))
      exact MW_iret C hAe hrt hlk hW dX0_addCall_29 (iw (by rw [hE])) (by rw [hE])
    · skip
      refine r_aload_n C dX0_addCall_17 hl 0 rfl ?_
      refine r_iload_n C dX0_addCall_18 hl 1 rfl ?_
      refine r_iload_n C dX0_addCall_19 hl 2 rfl ?_
      refine r_iload_n C dX0_addCall_20 hl 3 rfl ?_
      refine r_callW (rest := []) (r := some (.int (iI ((pAddEdge P n q k).1)))) (wr := []) (ws2 := pW g o ad ((pAddEdge P n q k).2)) (st1 := [.int (iI ((pAddEdge P n q k).1))]) C hl.1 hW hA (c_X0_addEdge l g o ad P n q k (show 0 ≤ (p_edges P) ∧ (p_edges P) ≤ 32 by omega)) v_X0_85 rfl [0, 1, 2, 3, 4, 5, 6, 7, 8] [] [0, 1, 2, 3, 4, 5, 6, 7, 8] rfl rfl (by decide) (by decide) rfl rfl 0 rfl rfl rfl (by decide) (by decide) (Nat.le_of_ble_eq_true rfl) dX0_addCall_21 rfl rfl (fun H locs hW => ?_)
      refine r_goto C 29 dX0_addCall_24 (by decide) ?_
      have hE : pAddCall P n q k = ((pAddEdge P n q k).1, (pAddEdge P n q k).2) := by first | exact if_pos ⟨by assumption, by assumption⟩ | exact if_neg (fun h => by first | exact absurd h.1 (by assumption) | exact absurd h.2 (by assumption))
      exact MW_iret C hAe hrt hlk hW dX0_addCall_29 (iw (by rw [hE])) (by rw [hE])
set_option maxHeartbeats 4000000 in
set_option maxRecDepth 100000 in
theorem c_X0_setFlow (l : Launch) (g : GG) (o : Nat) (ad : Nat → Nat) (P : Pg) (e w a v : Int) (hP : pOk P) (he : rg e) (hw : rg w) (ha : rg a) (hv : rg v) : MW l g yX0_setFlow cX0_setFlow 9 (some .int) 2 43 [.ref (o), .int (iI (e)), .int (iI (w)), .int (iI (a)), .int (iI (v))] (pW g o ad P) (pW g o ad ((pSetFlow P e w a v).2)) (some (.int (iI ((pSetFlow P e w a v).1)))) := by
  refine MW_start (by decide) (Nat.le_of_ble_eq_true rfl) ?_
  intro zp ze zs zm zb zt zc A hAe C hrt hlk hW ls hl
  have hA : ∀ q, zs.heap.size ≤ q → A q := fun q h => by rw [hAe]; exact Or.inr h
  have hl : lv_has ls 9 [(0, .ref (o)), (1, .int (iI (e))), (2, .int (iI (w))), (3, .int (iI (a))), (4, .int (iI (v)))] := hl
  obtain ⟨hP_procs, hP_nodes, hP_edges, hP_start, hP_entryOf, hP_exitOf, hP_procOf, hP_kindOf, hP_from, hP_to, hP_callee⟩ := id hP
  refine r_aload_n C dX0_setFlow_0 hl 0 rfl ?_
  refine r_iload_n C dX0_setFlow_1 hl 1 rfl ?_
  refine r_iload_n C dX0_setFlow_2 hl 2 rfl ?_
  refine r_callR (rest := []) (r := .int (iI (bI ((0 ≤ e ∧ e < (p_edges P)) ∧ 0 ≤ w ∧ w < (if (p_callee P) e = -1 then 1 else 3))))) C hl.1 (c_X0_hasFlow l g o ad P e w (by assumption) (show rg e by omega) (show rg w by omega)) v_X0_90 rfl hW.1 0 rfl rfl rfl (by decide) (by decide) (Nat.le_of_ble_eq_true rfl) dX0_setFlow_3 rfl ?_
  refine r_ifb_eq C 42 dX0_setFlow_6 (by decide) (fun hc1 => ?_) (fun hc1 => ?_)
  · skip
    refine r_bipush (z := -2) C dX0_setFlow_42 rfl ?_
    have hE : pSetFlow P e w a v = (-2, P) := if_neg (fun h => hc1 h.1)
    exact MW_iret C hAe hrt hlk hW dX0_setFlow_44 (iw (by rw [hE])) (by rw [hE])
  · skip
    refine r_iload_n C dX0_setFlow_9 hl 3 rfl ?_
    refine r_callRN (rest := []) (r := .int (iI (bI (0 ≤ a ∧ a < 8)))) C hl.1 (c_X4_isFact l g  a (show rg a by omega)) v_X0_93 rfl (fun k q h => by simp at h) (by decide) (by decide) (Nat.le_of_ble_eq_true rfl) dX0_setFlow_10 rfl ?_
    refine r_ifb_eq C 42 dX0_setFlow_13 (by decide) (fun hc2 => ?_) (fun hc2 => ?_)
    · skip
      refine r_bipush (z := -2) C dX0_setFlow_42 rfl ?_
      have hE : pSetFlow P e w a v = (-2, P) := if_neg (fun h => hc2 h.2.1)
      exact MW_iret C hAe hrt hlk hW dX0_setFlow_44 (iw (by rw [hE])) (by rw [hE])
    · skip
      refine r_iload C dX0_setFlow_16 hl 4 rfl ?_
      refine r_callRN (rest := []) (r := .int (iI (bI (0 ≤ v ∧ v ≤ 255)))) C hl.1 (c_X4_isFacts l g  v (show rg v by omega)) v_X0_96 rfl (fun k q h => by simp at h) (by decide) (by decide) (Nat.le_of_ble_eq_true rfl) dX0_setFlow_18 rfl ?_
      refine r_ifb_eq C 42 dX0_setFlow_21 (by decide) (fun hc3 => ?_) (fun hc3 => ?_)
      · skip
        refine r_bipush (z := -2) C dX0_setFlow_42 rfl ?_
        have hE : pSetFlow P e w a v = (-2, P) := if_neg (fun h => hc3 h.2.2.1)
        exact MW_iret C hAe hrt hlk hW dX0_setFlow_44 (iw (by rw [hE])) (by rw [hE])
      · skip
        refine r_iload C dX0_setFlow_24 hl 4 rfl ?_
        refine r_iconst (z := 0) C dX0_setFlow_26 rfl ?_
        refine r_callRN (rest := []) (r := .int (iI (bI (tb v 0 = true)))) C hl.1 (c_X4_has l g  v 0 (show 0 ≤ v ∧ v < 2147483648 by omega) (show 0 ≤ 0 ∧ 0 < 31 by omega)) v_X0_67 rfl (fun k q h => by simp at h) (by decide) (by decide) (Nat.le_of_ble_eq_true rfl) dX0_setFlow_27 rfl ?_
        refine r_iload_n C dX0_setFlow_30 hl 3 rfl ?_
        refine r_if_ne C 38 dX0_setFlow_31 (by decide) (by omega) (fun hc4 => ?_) (fun hc4 => ?_)
        · skip
          refine r_iconst (z := 0) C dX0_setFlow_38 rfl ?_
          have hbb := bI_rg (tb v 0 = true)
          refine r_icmp_eq C 45 dX0_setFlow_39 (by decide) (by omega) (by omega) (fun hc5 => ?_) (fun hc5 => ?_)
          · skip
            have hwr : w < 3 := by
              obtain ⟨he9, hw8, hw9⟩ := hc1
              split at hw9 <;> omega
            refine r_aload_n C dX0_setFlow_45 hl 0 rfl ?_
            refine r_iload_n C dX0_setFlow_46 hl 1 rfl ?_
            refine r_iload_n C dX0_setFlow_47 hl 2 rfl ?_
            refine r_iload_n C dX0_setFlow_48 hl 3 rfl ?_
            refine r_callR (rest := []) (r := .int (iI (pReach P e w a))) C hl.1 (c_X0_reach l g o ad P e w a (show 0 ≤ e ∧ e < 32 by omega) (show 0 ≤ w ∧ w < 3 by omega) (show 0 ≤ a ∧ a < 8 by omega)) v_X0_71 rfl hW.1 0 rfl rfl rfl (by decide) (by decide) (Nat.le_of_ble_eq_true rfl) dX0_setFlow_49 rfl ?_
            have hq6 := byL_0 (p_flow P (e * 3 + w)) a
            refine r_istore C [(5, .int (iI (pReach P e w a))), (0, .ref (o)), (1, .int (iI (e))), (2, .int (iI (w))), (3, .int (iI (a))), (4, .int (iI (v)))] dX0_setFlow_52 hl (by decide) rfl (fun ls hl => ?_)
            refine r_iload_n C dX0_setFlow_54 hl 4 rfl ?_
            refine r_bipush (z := 8) C dX0_setFlow_55 rfl ?_
            refine r_imul C dX0_setFlow_57 ?_
            refine r_istore C [(6, .int (iI (a * 8))), (5, .int (iI (pReach P e w a))), (0, .ref (o)), (1, .int (iI (e))), (2, .int (iI (w))), (3, .int (iI (a))), (4, .int (iI (v)))] dX0_setFlow_58 hl (by decide) rfl (fun ls hl => ?_)
            refine r_aload_n C dX0_setFlow_60 hl 2 rfl ?_
            refine r_get (v := .ref (ad 7)) C f_X0_46 hW.1 0 rfl rfl dX0_setFlow_61 ?_
            refine r_iload_n C dX0_setFlow_64 hl 3 rfl ?_
            refine r_iconst (z := 3) C dX0_setFlow_65 rfl ?_
            refine r_imul C dX0_setFlow_66 ?_
            refine r_iload_n C dX0_setFlow_67 hl 4 rfl ?_
            refine r_iadd C dX0_setFlow_68 ?_
            refine r_lald (f := p_flow P) C hW.1 8 rfl (Nat.le_of_ble_eq_true rfl) (by omega) dX0_setFlow_69 ?_
            refine r_ldc2 (v := lI 255) C kc_317 dX0_setFlow_70 ?_
            refine r_iload C dX0_setFlow_73 hl 0 rfl ?_
            refine r_lshl8 C dX0_setFlow_75 ?_
            refine r_ldc2 (v := lI (-1)) C kc_318 dX0_setFlow_76 ?_
            refine r_lxor C dX0_setFlow_79 ?_
            refine r_land C dX0_setFlow_80 ?_
            refine r_lstore C [(7, .long ((p_flow P ((e * 3) + w)) &&& ((sfL 255 a) ^^^ (lI (-1))))), (6, .int (iI (a * 8))), (5, .int (iI (pReach P e w a))), (0, .ref (o)), (1, .int (iI (e))), (2, .int (iI (w))), (3, .int (iI (a))), (4, .int (iI (v)))] dX0_setFlow_81 hl (by decide) rfl (fun ls hl => ?_)
            refine r_aload_n C dX0_setFlow_83 hl 3 rfl ?_
            refine r_get (v := .ref (ad 7)) C f_X0_46 hW.1 0 rfl rfl dX0_setFlow_84 ?_
            refine r_iload_n C dX0_setFlow_87 hl 4 rfl ?_
            refine r_iconst (z := 3) C dX0_setFlow_88 rfl ?_
            refine r_imul C dX0_setFlow_89 ?_
            refine r_iload_n C dX0_setFlow_90 hl 5 rfl ?_
            refine r_iadd C dX0_setFlow_91 ?_
            refine r_lload C dX0_setFlow_92 hl 0 rfl ?_
            refine r_iload C dX0_setFlow_94 hl 7 rfl ?_
            refine r_i2l C (by omega) dX0_setFlow_96 ?_
            refine r_iload C dX0_setFlow_97 hl 1 rfl ?_
            refine r_lshl8 C dX0_setFlow_99 ?_
            refine r_lor C dX0_setFlow_100 ?_
            refine r_last (f := p_flow P) C hW (pW g o ad (ps_flow P (up (p_flow P) ((e * 3) + w) (((p_flow P ((e * 3) + w)) &&& ((sfL 255 a) ^^^ (lI (-1)))) ||| (sfL v a))))) 8 rfl (Nat.le_of_ble_eq_true rfl) (by omega) rfl dX0_setFlow_101 (fun H locs hW => ?_)
            refine r_iload C dX0_setFlow_102 hl 2 rfl ?_
            have hE : pSetFlow P e w a v = (pReach P e w a, ps_flow P (up (p_flow P) ((e * 3) + w) (((p_flow P ((e * 3) + w)) &&& ((sfL 255 a) ^^^ (lI (-1)))) ||| (sfL v a)))) := if_pos ⟨hc1, hc2, hc3, ⟨fun q => by rw [bI_t q] at hc5; omega, fun q => absurd q hc4⟩⟩
            exact MW_iret C hAe hrt hlk hW dX0_setFlow_104 (iw (by rw [hE])) (by rw [hE])
          · skip
            refine r_bipush (z := -2) C dX0_setFlow_42 rfl ?_
            have hE : pSetFlow P e w a v = (-2, P) := if_neg (fun h => hc5 (bI_f (fun q => hc4 (h.2.2.2.mp q))))
            exact MW_iret C hAe hrt hlk hW dX0_setFlow_44 (iw (by rw [hE])) (by rw [hE])
        · skip
          refine r_iconst (z := 1) C dX0_setFlow_34 rfl ?_
          refine r_goto C 39 dX0_setFlow_35 (by decide) ?_
          have hbb := bI_rg (tb v 0 = true)
          refine r_icmp_eq C 45 dX0_setFlow_39 (by decide) (by omega) (by omega) (fun hc7 => ?_) (fun hc7 => ?_)
          · skip
            have hwr : w < 3 := by
              obtain ⟨he9, hw8, hw9⟩ := hc1
              split at hw9 <;> omega
            refine r_aload_n C dX0_setFlow_45 hl 0 rfl ?_
            refine r_iload_n C dX0_setFlow_46 hl 1 rfl ?_
            refine r_iload_n C dX0_setFlow_47 hl 2 rfl ?_
            refine r_iload_n C dX0_setFlow_48 hl 3 rfl ?_
            refine r_callR (rest := []) (r := .int (iI (pReach P e w a))) C hl.1 (c_X0_reach l g o ad P e w a (show 0 ≤ e ∧ e < 32 by omega) (show 0 ≤ w ∧ w < 3 by omega) (show 0 ≤ a ∧ a < 8 by omega)) v_X0_71 rfl hW.1 0 rfl rfl rfl (by decide) (by decide) (Nat.le_of_ble_eq_true rfl) dX0_setFlow_49 rfl ?_
            have hq8 := byL_0 (p_flow P (e * 3 + w)) a
            refine r_istore C [(5, .int (iI (pReach P e w a))), (0, .ref (o)), (1, .int (iI (e))), (2, .int (iI (w))), (3, .int (iI (a))), (4, .int (iI (v)))] dX0_setFlow_52 hl (by decide) rfl (fun ls hl => ?_)
            refine r_iload_n C dX0_setFlow_54 hl 4 rfl ?_
            refine r_bipush (z := 8) C dX0_setFlow_55 rfl ?_
            refine r_imul C dX0_setFlow_57 ?_
            refine r_istore C [(6, .int (iI (a * 8))), (5, .int (iI (pReach P e w a))), (0, .ref (o)), (1, .int (iI (e))), (2, .int (iI (w))), (3, .int (iI (a))), (4, .int (iI (v)))] dX0_setFlow_58 hl (by decide) rfl (fun ls hl => ?_)
            refine r_aload_n C dX0_setFlow_60 hl 2 rfl ?_
            refine r_get (v := .ref (ad 7)) C f_X0_46 hW.1 0 rfl rfl dX0_setFlow_61 ?_
            refine r_iload_n C dX0_setFlow_64 hl 3 rfl ?_
            refine r_iconst (z := 3) C dX0_setFlow_65 rfl ?_
            refine r_imul C dX0_setFlow_66 ?_
            refine r_iload_n C dX0_setFlow_67 hl 4 rfl ?_
            refine r_iadd C dX0_setFlow_68 ?_
            refine r_lald (f := p_flow P) C hW.1 8 rfl (Nat.le_of_ble_eq_true rfl) (by omega) dX0_setFlow_69 ?_
            refine r_ldc2 (v := lI 255) C kc_317 dX0_setFlow_70 ?_
            refine r_iload C dX0_setFlow_73 hl 0 rfl ?_
            refine r_lshl8 C dX0_setFlow_75 ?_
            refine r_ldc2 (v := lI (-1)) C kc_318 dX0_setFlow_76 ?_
            refine r_lxor C dX0_setFlow_79 ?_
            refine r_land C dX0_setFlow_80 ?_
            refine r_lstore C [(7, .long ((p_flow P ((e * 3) + w)) &&& ((sfL 255 a) ^^^ (lI (-1))))), (6, .int (iI (a * 8))), (5, .int (iI (pReach P e w a))), (0, .ref (o)), (1, .int (iI (e))), (2, .int (iI (w))), (3, .int (iI (a))), (4, .int (iI (v)))] dX0_setFlow_81 hl (by decide) rfl (fun ls hl => ?_)
            refine r_aload_n C dX0_setFlow_83 hl 3 rfl ?_
            refine r_get (v := .ref (ad 7)) C f_X0_46 hW.1 0 rfl rfl dX0_setFlow_84 ?_
            refine r_iload_n C dX0_setFlow_87 hl 4 rfl ?_
            refine r_iconst (z := 3) C dX0_setFlow_88 rfl ?_
            refine r_imul C dX0_setFlow_89 ?_
            refine r_iload_n C dX0_setFlow_90 hl 5 rfl ?_
            refine r_iadd C dX0_setFlow_91 ?_
            refine r_lload C dX0_setFlow_92 hl 0 rfl ?_
            refine r_iload C dX0_setFlow_94 hl 7 rfl ?_
            refine r_i2l C (by omega) dX0_setFlow_96 ?_
            refine r_iload C dX0_setFlow_97 hl 1 rfl ?_
            refine r_lshl8 C dX0_setFlow_99 ?_
            refine r_lor C dX0_setFlow_100 ?_
            refine r_last (f := p_flow P) C hW (pW g o ad (ps_flow P (up (p_flow P) ((e * 3) + w) (((p_flow P ((e * 3) + w)) &&& ((sfL 255 a) ^^^ (lI (-1)))) ||| (sfL v a))))) 8 rfl (Nat.le_of_ble_eq_true rfl) (by omega) rfl dX0_setFlow_101 (fun H locs hW => ?_)
            refine r_iload C dX0_setFlow_102 hl 2 rfl ?_
            have hE : pSetFlow P e w a v = (pReach P e w a, ps_flow P (up (p_flow P) ((e * 3) + w) (((p_flow P ((e * 3) + w)) &&& ((sfL 255 a) ^^^ (lI (-1)))) ||| (sfL v a)))) := if_pos ⟨hc1, hc2, hc3, ⟨fun _ => hc4, fun _ => Decidable.byContradiction (fun q => by rw [bI_f q] at hc7; omega)⟩⟩
            exact MW_iret C hAe hrt hlk hW dX0_setFlow_104 (iw (by rw [hE])) (by rw [hE])
          · skip
            refine r_bipush (z := -2) C dX0_setFlow_42 rfl ?_
            have hE : pSetFlow P e w a v = (-2, P) := if_neg (fun h => hc7 (bI_t (h.2.2.2.mpr hc4)))
            exact MW_iret C hAe hrt hlk hW dX0_setFlow_44 (iw (by rw [hE])) (by rw [hE])
set_option maxHeartbeats 4000000 in
set_option maxRecDepth 100000 in
theorem c_X0_setStart (l : Launch) (g : GG) (o : Nat) (ad : Nat → Nat) (P : Pg) (v : Int) (hP : pOk P) (hv : rg v) : MW l g yX0_setStart cX0_setStart 3 (some .int) 1 21 [.ref (o), .int (iI (v))] (pW g o ad P) (pW g o ad ((pSetStart P v).2)) (some (.int (iI ((pSetStart P v).1)))) := by
  refine MW_start (by decide) (Nat.le_of_ble_eq_true rfl) ?_
  intro zp ze zs zm zb zt zc A hAe C hrt hlk hW ls hl
  have hA : ∀ q, zs.heap.size ≤ q → A q := fun q h => by rw [hAe]; exact Or.inr h
  have hl : lv_has ls 3 [(0, .ref (o)), (1, .int (iI (v)))] := hl
  obtain ⟨hP_procs, hP_nodes, hP_edges, hP_start, hP_entryOf, hP_exitOf, hP_procOf, hP_kindOf, hP_from, hP_to, hP_callee⟩ := id hP
  refine r_iload_n C dX0_setStart_0 hl 1 rfl ?_
  refine r_callRN (rest := []) (r := .int (iI (bI (0 ≤ v ∧ v ≤ 255)))) C hl.1 (c_X4_isFacts l g  v (show rg v by omega)) v_X0_96 rfl (fun k q h => by simp at h) (by decide) (by decide) (Nat.le_of_ble_eq_true rfl) dX0_setStart_1 rfl ?_
  refine r_ifb_eq C 15 dX0_setStart_4 (by decide) (fun hc1 => ?_) (fun hc1 => ?_)
  · skip
    refine r_bipush (z := -2) C dX0_setStart_15 rfl ?_
    have hE : pSetStart P v = (-2, P) := by first | exact if_pos ⟨by assumption, by assumption⟩ | exact if_neg (fun h => by first | exact absurd h.1 (by assumption) | exact absurd h.2 (by assumption))
    exact MW_iret C hAe hrt hlk hW dX0_setStart_17 (iw (by rw [hE])) (by rw [hE])
  · skip
    refine r_iload_n C dX0_setStart_7 hl 1 rfl ?_
    refine r_iconst (z := 0) C dX0_setStart_8 rfl ?_
    refine r_callRN (rest := []) (r := .int (iI (bI (tb v 0 = true)))) C hl.1 (c_X4_has l g  v 0 (show 0 ≤ v ∧ v < 2147483648 by omega) (show 0 ≤ 0 ∧ 0 < 31 by omega)) v_X0_67 rfl (fun k q h => by simp at h) (by decide) (by decide) (Nat.le_of_ble_eq_true rfl) dX0_setStart_9 rfl ?_
    refine r_ifb_ne C 18 dX0_setStart_12 (by decide) (fun hc2 => ?_) (fun hc2 => ?_)
    · skip
      refine r_aload_n C dX0_setStart_18 hl 0 rfl ?_
      refine r_get (v := .int (iI (p_start P))) C f_X0_21 hW.1 0 rfl rfl dX0_setStart_19 ?_
      refine r_istore_n C [(2, .int (iI (p_start P))), (0, .ref (o)), (1, .int (iI (v)))] dX0_setStart_22 hl (by decide) rfl (fun ls hl => ?_)
      refine r_aload_n C dX0_setStart_23 hl 1 rfl ?_
      refine r_iload_n C dX0_setStart_24 hl 2 rfl ?_
      refine r_put C f_X0_21 fp_0_3 hW (pW g o ad (ps_start P v)) 0 rfl rfl rfl (Nat.le_of_ble_eq_true rfl) rfl dX0_setStart_25 (fun H locs hW => ?_)
      refine r_iload_n C dX0_setStart_28 hl 0 rfl ?_
      have hE : pSetStart P v = (p_start P, ps_start P v) := by first | exact if_pos ⟨by assumption, by assumption⟩ | exact if_neg (fun h => by first | exact absurd h.1 (by assumption) | exact absurd h.2 (by assumption))
      exact MW_iret C hAe hrt hlk hW dX0_setStart_29 (iw (by rw [hE])) (by rw [hE])
    · skip
      refine r_bipush (z := -2) C dX0_setStart_15 rfl ?_
      have hE : pSetStart P v = (-2, P) := by first | exact if_pos ⟨by assumption, by assumption⟩ | exact if_neg (fun h => by first | exact absurd h.1 (by assumption) | exact absurd h.2 (by assumption))
      exact MW_iret C hAe hrt hlk hW dX0_setStart_17 (iw (by rw [hE])) (by rw [hE])
set_option maxHeartbeats 4000000 in
set_option maxRecDepth 100000 in
theorem c_X0_cutEdge (l : Launch) (g : GG) (o : Nat) (ad : Nat → Nat) (P : Pg) (e : Int) (hP : pOk P) (he : rg e) : MW l g yX0_cutEdge cX0_cutEdge 4 (some .int) 1 21 [.ref (o), .int (iI (e))] (pW g o ad P) (pW g o ad ((pCut P e).2)) (some (.int (iI ((pCut P e).1)))) := by
  refine MW_start (by decide) (Nat.le_of_ble_eq_true rfl) ?_
  intro zp ze zs zm zb zt zc A hAe C hrt hlk hW ls hl
  have hA : ∀ q, zs.heap.size ≤ q → A q := fun q h => by rw [hAe]; exact Or.inr h
  have hl : lv_has ls 4 [(0, .ref (o)), (1, .int (iI (e)))] := hl
  obtain ⟨hP_procs, hP_nodes, hP_edges, hP_start, hP_entryOf, hP_exitOf, hP_procOf, hP_kindOf, hP_from, hP_to, hP_callee⟩ := id hP
  refine r_aload_n C dX0_cutEdge_0 hl 0 rfl ?_
  refine r_iload_n C dX0_cutEdge_1 hl 1 rfl ?_
  refine r_callR (rest := []) (r := .int (iI (bI (0 ≤ e ∧ e < (p_edges P))))) C hl.1 (c_X0_isEdge l g o ad P e (by assumption) (show rg e by omega)) v_X0_60 rfl hW.1 0 rfl rfl rfl (by decide) (by decide) (Nat.le_of_ble_eq_true rfl) dX0_cutEdge_2 rfl ?_
  refine r_ifb_ne C 11 dX0_cutEdge_5 (by decide) (fun hc1 => ?_) (fun hc1 => ?_)
  · skip
    refine r_aload_n C dX0_cutEdge_11 hl 0 rfl ?_
    refine r_dup C rfl dX0_cutEdge_12 ?_
    refine r_get (v := .int (iI (p_edges P))) C f_X0_18 hW.1 0 rfl rfl dX0_cutEdge_13 ?_
    refine r_iconst (z := 1) C dX0_cutEdge_16 rfl ?_
    refine r_isub C dX0_cutEdge_17 ?_
    refine r_put C f_X0_18 fp_0_2 hW (pW g o ad (ps_edges P ((p_edges P) - 1))) 0 rfl rfl rfl (Nat.le_of_ble_eq_true rfl) rfl dX0_cutEdge_18 (fun H locs hW => ?_)
    refine r_iload_n C dX0_cutEdge_21 hl 1 rfl ?_
    refine r_istore_n C [(2, .int (iI (e))), (0, .ref (o)), (1, .int (iI (e)))] dX0_cutEdge_22 hl (by decide) rfl (fun ls hl => ?_)
    have hloop23 : ∀ (k23 : Nat) (i : Int) (X : Pg) (hkk : i + k23 = p_edges P - 1) (hi : e ≤ i) (hX : p_edges X = p_edges P - 1) (hq0 : pCut P e = (p_edges X, it pCut1 k23 i X)) (H : Heap) (locs : List Loc) (ls : Array Slot), HW g A zs.heap (pW g o ad X) H locs → lv_has ls 4 [(0, .ref (o)), (1, .int (iI (e))), (2, .int (iI (i)))] → W zp l ze (rmm 1 21) zs zm (List.toArray [.ref (o), .int (iI (e))]) zb zt zc H locs 0 0 (MQ zb (QW g (pW g o ad P) (pW g o ad ((pCut P e).2)) zs.heap.size (some (.int (iI ((pCut P e).1))))) (List.toArray [.ref (o), .int (iI (e))]) zs 0 0 A) (F0 zm 23 ls []) := by
      intro k23
      induction k23 with
      | zero =>
        intro i X hkk hi hX hq0 H locs ls hW hl
        refine r_iload_n C dX0_cutEdge_23 hl 2 rfl ?_
        refine r_aload_n C dX0_cutEdge_24 hl 0 rfl ?_
        refine r_get (v := .int (iI (p_edges X))) C f_X0_18 hW.1 0 rfl rfl dX0_cutEdge_25 ?_
        refine r_icmp_ge C 114 dX0_cutEdge_28 (by decide) (by omega) (by omega) (fun hc2 => ?_) (fun hc2 => ?_)
        · skip
          refine r_aload_n C dX0_cutEdge_114 hl 0 rfl ?_
          refine r_get (v := .int (iI (p_edges X))) C f_X0_18 hW.1 0 rfl rfl dX0_cutEdge_115 ?_
          have hE : pCut P e = (p_edges X, X) := by rw [hq0]; rfl
          exact MW_iret C hAe hrt hlk hW dX0_cutEdge_118 (iw (by rw [hE])) (by rw [hE])
        · exact absurd hc2 (by omega)
      | succ k23 ih23 =>
        intro i X hkk hi hX hq0 H locs ls hW hl
        refine r_iload_n C dX0_cutEdge_23 hl 2 rfl ?_
        refine r_aload_n C dX0_cutEdge_24 hl 0 rfl ?_
        refine r_get (v := .int (iI (p_edges X))) C f_X0_18 hW.1 0 rfl rfl dX0_cutEdge_25 ?_
        refine r_icmp_ge C 114 dX0_cutEdge_28 (by decide) (by omega) (by omega) (fun hc3 => ?_) (fun hc3 => ?_)
        · exact absurd hc3 (by omega)
        · skip
          refine r_aload_n C dX0_cutEdge_31 hl 0 rfl ?_
          refine r_get (v := .ref (ad 4)) C f_X0_37 hW.1 0 rfl rfl dX0_cutEdge_32 ?_
          refine r_iload_n C dX0_cutEdge_35 hl 2 rfl ?_
          refine r_aload_n C dX0_cutEdge_36 hl 0 rfl ?_
          refine r_get (v := .ref (ad 4)) C f_X0_37 hW.1 0 rfl rfl dX0_cutEdge_37 ?_
          refine r_iload_n C dX0_cutEdge_40 hl 2 rfl ?_
          refine r_iconst (z := 1) C dX0_cutEdge_41 rfl ?_
          refine r_iadd C dX0_cutEdge_42 ?_
          refine r_iald (f := p_from X) C hW.1 5 rfl (Nat.le_of_ble_eq_true rfl) (by omega) dX0_cutEdge_43 ?_
          refine r_iast (f := p_from X) C hW (pW g o ad (ps_from X (up (p_from X) i (p_from X (i + 1))))) 5 rfl (Nat.le_of_ble_eq_true rfl) (by omega) rfl dX0_cutEdge_44 (fun H locs hW => ?_)
          refine r_aload_n C dX0_cutEdge_45 hl 0 rfl ?_
          refine r_get (v := .ref (ad 5)) C f_X0_40 hW.1 0 rfl rfl dX0_cutEdge_46 ?_
          refine r_iload_n C dX0_cutEdge_49 hl 2 rfl ?_
          refine r_aload_n C dX0_cutEdge_50 hl 0 rfl ?_
          refine r_get (v := .ref (ad 5)) C f_X0_40 hW.1 0 rfl rfl dX0_cutEdge_51 ?_
          refine r_iload_n C dX0_cutEdge_54 hl 2 rfl ?_
          refine r_iconst (z := 1) C dX0_cutEdge_55 rfl ?_
          refine r_iadd C dX0_cutEdge_56 ?_
          refine r_iald (f := p_to X) C hW.1 6 rfl (Nat.le_of_ble_eq_true rfl) (by omega) dX0_cutEdge_57 ?_
          refine r_iast (f := p_to X) C hW (pW g o ad (ps_to (ps_from X (up (p_from X) i (p_from X (i + 1)))) (up (p_to X) i (p_to X (i + 1))))) 6 rfl (Nat.le_of_ble_eq_true rfl) (by omega) rfl dX0_cutEdge_58 (fun H locs hW => ?_)
          refine r_aload_n C dX0_cutEdge_59 hl 0 rfl ?_
          refine r_get (v := .ref (ad 6)) C f_X0_43 hW.1 0 rfl rfl dX0_cutEdge_60 ?_
          refine r_iload_n C dX0_cutEdge_63 hl 2 rfl ?_
          refine r_aload_n C dX0_cutEdge_64 hl 0 rfl ?_
          refine r_get (v := .ref (ad 6)) C f_X0_43 hW.1 0 rfl rfl dX0_cutEdge_65 ?_
          refine r_iload_n C dX0_cutEdge_68 hl 2 rfl ?_
          refine r_iconst (z := 1) C dX0_cutEdge_69 rfl ?_
          refine r_iadd C dX0_cutEdge_70 ?_
          refine r_iald (f := p_callee X) C hW.1 7 rfl (Nat.le_of_ble_eq_true rfl) (by omega) dX0_cutEdge_71 ?_
          refine r_iast (f := p_callee X) C hW (pW g o ad (ps_callee (ps_to (ps_from X (up (p_from X) i (p_from X (i + 1)))) (up (p_to X) i (p_to X (i + 1)))) (up (p_callee X) i (p_callee X (i + 1))))) 7 rfl (Nat.le_of_ble_eq_true rfl) (by omega) rfl dX0_cutEdge_72 (fun H locs hW => ?_)
          refine r_iconst (z := 0) C dX0_cutEdge_73 rfl ?_
          refine r_istore_n C [(3, .int (iI (0))), (0, .ref (o)), (1, .int (iI (e))), (2, .int (iI (i)))] dX0_cutEdge_74 hl (by decide) rfl (fun ls hl => ?_)
          have hloop75 : ∀ (k75 : Nat) (w : Int) (f : Int → Int64) (hkk1 : w + k75 = 3) (hw : 0 ≤ w) (hq1 : pCutF i (p_flow X) = it (fun w f => up f (i * 3 + w) (f ((i + 1) * 3 + w))) k75 w f) (H : Heap) (locs : List Loc) (ls : Array Slot), HW g A zs.heap (pW g o ad (ps_flow (ps_callee (ps_to (ps_from X (up (p_from X) i (p_from X (i + 1)))) (up (p_to X) i (p_to X (i + 1)))) (up (p_callee X) i (p_callee X (i + 1)))) f)) H locs → lv_has ls 4 [(0, .ref (o)), (1, .int (iI (e))), (2, .int (iI (i))), (3, .int (iI (w)))] → W zp l ze (rmm 1 21) zs zm (List.toArray [.ref (o), .int (iI (e))]) zb zt zc H locs 0 0 (MQ zb (QW g (pW g o ad P) (pW g o ad ((pCut P e).2)) zs.heap.size (some (.int (iI ((pCut P e).1))))) (List.toArray [.ref (o), .int (iI (e))]) zs 0 0 A) (F0 zm 75 ls []) := by
            intro k75
            induction k75 with
            | zero =>
              intro w f hkk1 hw hq1 H locs ls hW hl
              refine r_iload_n C dX0_cutEdge_75 hl 3 rfl ?_
              refine r_iconst (z := 3) C dX0_cutEdge_76 rfl ?_
              refine r_icmp_ge C 108 dX0_cutEdge_77 (by decide) (by omega) (by omega) (fun hc4 => ?_) (fun hc4 => ?_)
              · skip
                refine r_iinc (v := i + 1) C [(2, .int (iI (i + 1))), (0, .ref (o)), (1, .int (iI (e))), (3, .int (iI (w)))] dX0_cutEdge_108 hl 2 rfl (by decide) (by omega) rfl (fun ls hl => ?_)
                refine r_goto C 23 dX0_cutEdge_111 (by decide) ?_
                exact ih23 (i + 1) (ps_flow (ps_callee (ps_to (ps_from X (up (p_from X) i (p_from X (i + 1)))) (up (p_to X) i (p_to X (i + 1)))) (up (p_callee X) i (p_callee X (i + 1)))) f) (by omega) (by omega) hX (by rw [hq0, it_s, show pCut1 i X = ps_flow (ps_callee (ps_to (ps_from X (up (p_from X) i (p_from X (i + 1)))) (up (p_to X) i (p_to X (i + 1)))) (up (p_callee X) i (p_callee X (i + 1)))) f from by unfold pCut1; rw [hq1]; rfl]) H locs ls hW (lv_sub hl [1, 2, 0] rfl)
              · exact absurd hc4 (by omega)
            | succ k75 ih75 =>
              intro w f hkk1 hw hq1 H locs ls hW hl
              refine r_iload_n C dX0_cutEdge_75 hl 3 rfl ?_
              refine r_iconst (z := 3) C dX0_cutEdge_76 rfl ?_
              refine r_icmp_ge C 108 dX0_cutEdge_77 (by decide) (by omega) (by omega) (fun hc5 => ?_) (fun hc5 => ?_)
              · exact absurd hc5 (by omega)
              · skip
                refine r_aload_n C dX0_cutEdge_80 hl 0 rfl ?_
                refine r_get (v := .ref (ad 7)) C f_X0_46 hW.1 0 rfl rfl dX0_cutEdge_81 ?_
                refine r_iload_n C dX0_cutEdge_84 hl 2 rfl ?_
                refine r_iconst (z := 3) C dX0_cutEdge_85 rfl ?_
                refine r_imul C dX0_cutEdge_86 ?_
                refine r_iload_n C dX0_cutEdge_87 hl 3 rfl ?_
                refine r_iadd C dX0_cutEdge_88 ?_
                refine r_aload_n C dX0_cutEdge_89 hl 0 rfl ?_
                refine r_get (v := .ref (ad 7)) C f_X0_46 hW.1 0 rfl rfl dX0_cutEdge_90 ?_
                refine r_iload_n C dX0_cutEdge_93 hl 2 rfl ?_
                refine r_iconst (z := 1) C dX0_cutEdge_94 rfl ?_
                refine r_iadd C dX0_cutEdge_95 ?_
                refine r_iconst (z := 3) C dX0_cutEdge_96 rfl ?_
                refine r_imul C dX0_cutEdge_97 ?_
                refine r_iload_n C dX0_cutEdge_98 hl 3 rfl ?_
                refine r_iadd C dX0_cutEdge_99 ?_
                refine r_lald (f := f) C hW.1 8 rfl (Nat.le_of_ble_eq_true rfl) (by omega) dX0_cutEdge_100 ?_
                refine r_last (f := f) C hW (pW g o ad (ps_flow (ps_flow (ps_callee (ps_to (ps_from X (up (p_from X) i (p_from X (i + 1)))) (up (p_to X) i (p_to X (i + 1)))) (up (p_callee X) i (p_callee X (i + 1)))) f) (up f ((i * 3) + w) (f (((i + 1) * 3) + w))))) 8 rfl (Nat.le_of_ble_eq_true rfl) (by omega) rfl dX0_cutEdge_101 (fun H locs hW => ?_)
                refine r_iinc (v := w + 1) C [(3, .int (iI (w + 1))), (0, .ref (o)), (1, .int (iI (e))), (2, .int (iI (i)))] dX0_cutEdge_102 hl 3 rfl (by decide) (by omega) rfl (fun ls hl => ?_)
                refine r_goto C 75 dX0_cutEdge_105 (by decide) ?_
                exact ih75 _ _ (by omega) (by omega) (by rw [hq1, it_s]) H locs ls hW (lv_sub hl [1, 2, 3, 0] rfl)
          exact hloop75 3 0 _ (by omega) (by omega) rfl H locs ls hW (lv_sub hl [1, 2, 3, 0] rfl)
    exact hloop23 (p_edges P - 1 - e).toNat e _ (by omega) (by omega) rfl (by unfold pCut; rw [if_pos (by assumption)]) H locs ls hW (lv_sub hl [1, 2, 0] rfl)
  · skip
    refine r_bipush (z := -2) C dX0_cutEdge_8 rfl ?_
    have hE : pCut P e = (-2, P) := by exact if_neg (by assumption)
    exact MW_iret C hAe hrt hlk hW dX0_cutEdge_10 (iw (by rw [hE])) (by rw [hE])
end
