-- ===== PART A: goes FIRST, ahead of the names: the tables' words, and 'selects' of the private methods out of them =====
/-- a private method of a class that the tables say can be made, by its rows of tables_1 -/
def lw_okq (q : MethodName × Nat) : Prop := (q.1.cls ≠ "java/lang/invoke/MethodHandle" ∧ q.1.cls ≠ "java/lang/invoke/VarHandle") ∧ Cond.instantiable q.1.cls q.2 ∈ tables_1 ∧ Cond.privateMethod q.1 ∈ tables_1 ∧ Cond.instanceMethod q.1 ∈ tables_1
theorem lw_p0 : lw_okq (⟨"ShutPasses", "settle", "()V"⟩, 13) := ⟨⟨by decide +kernel, by decide +kernel⟩, List.mem_of_getElem? (i := 27) (by decide +kernel), List.mem_of_getElem? (i := 535) (by decide +kernel), List.mem_of_getElem? (i := 536) (by decide +kernel)⟩
theorem lw_p1 : lw_okq (⟨"ShutPasses$Odds", "causeRows", "(LShutPasses$Country;I)J"⟩, 2) := ⟨⟨by decide +kernel, by decide +kernel⟩, List.mem_of_getElem? (i := 308) (by decide +kernel), List.mem_of_getElem? (i := 551) (by decide +kernel), List.mem_of_getElem? (i := 552) (by decide +kernel)⟩
theorem lw_p2 : lw_okq (⟨"ShutPasses$Odds", "roadRows", "(IZZ)I"⟩, 2) := ⟨⟨by decide +kernel, by decide +kernel⟩, List.mem_of_getElem? (i := 308) (by decide +kernel), List.mem_of_getElem? (i := 567) (by decide +kernel), List.mem_of_getElem? (i := 568) (by decide +kernel)⟩
theorem lw_p3 : lw_okq (⟨"ShutPasses$Ways", "fillWorld", "(LShutPasses$Country;I)V"⟩, 3) := ⟨⟨by decide +kernel, by decide +kernel⟩, List.mem_of_getElem? (i := 327) (by decide +kernel), List.mem_of_getElem? (i := 598) (by decide +kernel), List.mem_of_getElem? (i := 599) (by decide +kernel)⟩
theorem lw_p4 : lw_okq (⟨"ShutPasses$Ways", "shorten", "(LShutPasses$Country;II)Z"⟩, 3) := ⟨⟨by decide +kernel, by decide +kernel⟩, List.mem_of_getElem? (i := 327) (by decide +kernel), List.mem_of_getElem? (i := 603) (by decide +kernel), List.mem_of_getElem? (i := 604) (by decide +kernel)⟩
theorem lw_p5 : lw_okq (⟨"ShutPasses", "tapeNumber", "(I)V"⟩, 13) := ⟨⟨by decide +kernel, by decide +kernel⟩, List.mem_of_getElem? (i := 27) (by decide +kernel), List.mem_of_getElem? (i := 656) (by decide +kernel), List.mem_of_getElem? (i := 657) (by decide +kernel)⟩
theorem lw_p6 : lw_okq (⟨"ShutPasses$Reader", "cut", "([BI)V"⟩, 13) := ⟨⟨by decide +kernel, by decide +kernel⟩, List.mem_of_getElem? (i := 153) (by decide +kernel), List.mem_of_getElem? (i := 668) (by decide +kernel), List.mem_of_getElem? (i := 669) (by decide +kernel)⟩
theorem lw_p7 : lw_okq (⟨"ShutPasses$Reader", "cutWord", "([BII)I"⟩, 13) := ⟨⟨by decide +kernel, by decide +kernel⟩, List.mem_of_getElem? (i := 153) (by decide +kernel), List.mem_of_getElem? (i := 672) (by decide +kernel), List.mem_of_getElem? (i := 673) (by decide +kernel)⟩
theorem lw_p8 : lw_okq (⟨"ShutPasses$Reader", "put", "(III)V"⟩, 13) := ⟨⟨by decide +kernel, by decide +kernel⟩, List.mem_of_getElem? (i := 153) (by decide +kernel), List.mem_of_getElem? (i := 676) (by decide +kernel), List.mem_of_getElem? (i := 677) (by decide +kernel)⟩
theorem lw_p9 : lw_okq (⟨"ShutPasses$Reader", "cutNumber", "([BII)I"⟩, 13) := ⟨⟨by decide +kernel, by decide +kernel⟩, List.mem_of_getElem? (i := 153) (by decide +kernel), List.mem_of_getElem? (i := 680) (by decide +kernel), List.mem_of_getElem? (i := 681) (by decide +kernel)⟩
theorem lw_p10 : lw_okq (⟨"ShutPasses$Reader", "moveTo", "(I)V"⟩, 13) := ⟨⟨by decide +kernel, by decide +kernel⟩, List.mem_of_getElem? (i := 153) (by decide +kernel), List.mem_of_getElem? (i := 685) (by decide +kernel), List.mem_of_getElem? (i := 686) (by decide +kernel)⟩
theorem lw_p11 : lw_okq (⟨"ShutPasses$Reader", "readPlaces", "()Z"⟩, 13) := ⟨⟨by decide +kernel, by decide +kernel⟩, List.mem_of_getElem? (i := 153) (by decide +kernel), List.mem_of_getElem? (i := 689) (by decide +kernel), List.mem_of_getElem? (i := 690) (by decide +kernel)⟩
theorem lw_p12 : lw_okq (⟨"ShutPasses$Reader", "fail", "(I)Z"⟩, 13) := ⟨⟨by decide +kernel, by decide +kernel⟩, List.mem_of_getElem? (i := 153) (by decide +kernel), List.mem_of_getElem? (i := 693) (by decide +kernel), List.mem_of_getElem? (i := 694) (by decide +kernel)⟩
theorem lw_p13 : lw_okq (⟨"ShutPasses$Reader", "numberOf", "([II)I"⟩, 13) := ⟨⟨by decide +kernel, by decide +kernel⟩, List.mem_of_getElem? (i := 153) (by decide +kernel), List.mem_of_getElem? (i := 697) (by decide +kernel), List.mem_of_getElem? (i := 698) (by decide +kernel)⟩
theorem lw_p14 : lw_okq (⟨"ShutPasses$Reader", "readCause", "()Z"⟩, 13) := ⟨⟨by decide +kernel, by decide +kernel⟩, List.mem_of_getElem? (i := 153) (by decide +kernel), List.mem_of_getElem? (i := 701) (by decide +kernel), List.mem_of_getElem? (i := 702) (by decide +kernel)⟩
theorem lw_p15 : lw_okq (⟨"ShutPasses$Reader", "takeNumber", "(I)I"⟩, 13) := ⟨⟨by decide +kernel, by decide +kernel⟩, List.mem_of_getElem? (i := 153) (by decide +kernel), List.mem_of_getElem? (i := 705) (by decide +kernel), List.mem_of_getElem? (i := 706) (by decide +kernel)⟩
def lw_privs_1 : List (MethodName × Nat) := [(⟨"ShutPasses", "settle", "()V"⟩, 13), (⟨"ShutPasses$Odds", "causeRows", "(LShutPasses$Country;I)J"⟩, 2), (⟨"ShutPasses$Odds", "roadRows", "(IZZ)I"⟩, 2), (⟨"ShutPasses$Ways", "fillWorld", "(LShutPasses$Country;I)V"⟩, 3), (⟨"ShutPasses$Ways", "shorten", "(LShutPasses$Country;II)Z"⟩, 3), (⟨"ShutPasses", "tapeNumber", "(I)V"⟩, 13), (⟨"ShutPasses$Reader", "cut", "([BI)V"⟩, 13), (⟨"ShutPasses$Reader", "cutWord", "([BII)I"⟩, 13), (⟨"ShutPasses$Reader", "put", "(III)V"⟩, 13), (⟨"ShutPasses$Reader", "cutNumber", "([BII)I"⟩, 13), (⟨"ShutPasses$Reader", "moveTo", "(I)V"⟩, 13), (⟨"ShutPasses$Reader", "readPlaces", "()Z"⟩, 13), (⟨"ShutPasses$Reader", "fail", "(I)Z"⟩, 13), (⟨"ShutPasses$Reader", "numberOf", "([II)I"⟩, 13), (⟨"ShutPasses$Reader", "readCause", "()Z"⟩, 13), (⟨"ShutPasses$Reader", "takeNumber", "(I)I"⟩, 13)]
theorem lw_r1 : ∀ q ∈ lw_privs_1, lw_okq q := List.forall_mem_cons.mpr ⟨lw_p0, List.forall_mem_cons.mpr ⟨lw_p1, List.forall_mem_cons.mpr ⟨lw_p2, List.forall_mem_cons.mpr ⟨lw_p3, List.forall_mem_cons.mpr ⟨lw_p4, List.forall_mem_cons.mpr ⟨lw_p5, List.forall_mem_cons.mpr ⟨lw_p6, List.forall_mem_cons.mpr ⟨lw_p7, List.forall_mem_cons.mpr ⟨lw_p8, List.forall_mem_cons.mpr ⟨lw_p9, List.forall_mem_cons.mpr ⟨lw_p10, List.forall_mem_cons.mpr ⟨lw_p11, List.forall_mem_cons.mpr ⟨lw_p12, List.forall_mem_cons.mpr ⟨lw_p13, List.forall_mem_cons.mpr ⟨lw_p14, List.forall_mem_cons.mpr ⟨lw_p15, fun _ h => absurd h List.not_mem_nil⟩⟩⟩⟩⟩⟩⟩⟩⟩⟩⟩⟩⟩⟩⟩⟩
theorem lw_p16 : lw_okq (⟨"ShutPasses$Reader", "readRoad", "()Z"⟩, 13) := ⟨⟨by decide +kernel, by decide +kernel⟩, List.mem_of_getElem? (i := 153) (by decide +kernel), List.mem_of_getElem? (i := 709) (by decide +kernel), List.mem_of_getElem? (i := 710) (by decide +kernel)⟩
theorem lw_p17 : lw_okq (⟨"ShutPasses$Reader", "takePlace", "()I"⟩, 13) := ⟨⟨by decide +kernel, by decide +kernel⟩, List.mem_of_getElem? (i := 153) (by decide +kernel), List.mem_of_getElem? (i := 713) (by decide +kernel), List.mem_of_getElem? (i := 714) (by decide +kernel)⟩
theorem lw_p18 : lw_okq (⟨"ShutPasses$Reader", "placeHere", "()I"⟩, 13) := ⟨⟨by decide +kernel, by decide +kernel⟩, List.mem_of_getElem? (i := 153) (by decide +kernel), List.mem_of_getElem? (i := 717) (by decide +kernel), List.mem_of_getElem? (i := 718) (by decide +kernel)⟩
theorem lw_p19 : lw_okq (⟨"ShutPasses$Reader", "readDoubts", "(III)Z"⟩, 13) := ⟨⟨by decide +kernel, by decide +kernel⟩, List.mem_of_getElem? (i := 153) (by decide +kernel), List.mem_of_getElem? (i := 721) (by decide +kernel), List.mem_of_getElem? (i := 722) (by decide +kernel)⟩
theorem lw_p20 : lw_okq (⟨"ShutPasses$Reader", "takeCause", "()I"⟩, 13) := ⟨⟨by decide +kernel, by decide +kernel⟩, List.mem_of_getElem? (i := 153) (by decide +kernel), List.mem_of_getElem? (i := 725) (by decide +kernel), List.mem_of_getElem? (i := 726) (by decide +kernel)⟩
theorem lw_p21 : lw_okq (⟨"ShutPasses$Reader", "readSight", "()Z"⟩, 13) := ⟨⟨by decide +kernel, by decide +kernel⟩, List.mem_of_getElem? (i := 153) (by decide +kernel), List.mem_of_getElem? (i := 733) (by decide +kernel), List.mem_of_getElem? (i := 734) (by decide +kernel)⟩
theorem lw_p22 : lw_okq (⟨"ShutPasses$Reader", "takeDoubtful", "()I"⟩, 13) := ⟨⟨by decide +kernel, by decide +kernel⟩, List.mem_of_getElem? (i := 153) (by decide +kernel), List.mem_of_getElem? (i := 737) (by decide +kernel), List.mem_of_getElem? (i := 738) (by decide +kernel)⟩
theorem lw_p23 : lw_okq (⟨"ShutPasses$Reader", "readInn", "()Z"⟩, 13) := ⟨⟨by decide +kernel, by decide +kernel⟩, List.mem_of_getElem? (i := 153) (by decide +kernel), List.mem_of_getElem? (i := 745) (by decide +kernel), List.mem_of_getElem? (i := 746) (by decide +kernel)⟩
theorem lw_p24 : lw_okq (⟨"ShutPasses$Reader", "readStart", "()Z"⟩, 13) := ⟨⟨by decide +kernel, by decide +kernel⟩, List.mem_of_getElem? (i := 153) (by decide +kernel), List.mem_of_getElem? (i := 753) (by decide +kernel), List.mem_of_getElem? (i := 754) (by decide +kernel)⟩
theorem lw_p25 : lw_okq (⟨"ShutPasses$Reader", "readGoal", "()Z"⟩, 13) := ⟨⟨by decide +kernel, by decide +kernel⟩, List.mem_of_getElem? (i := 153) (by decide +kernel), List.mem_of_getElem? (i := 757) (by decide +kernel), List.mem_of_getElem? (i := 758) (by decide +kernel)⟩
theorem lw_p26 : lw_okq (⟨"ShutPasses", "lacksPlan", "(I)Z"⟩, 13) := ⟨⟨by decide +kernel, by decide +kernel⟩, List.mem_of_getElem? (i := 27) (by decide +kernel), List.mem_of_getElem? (i := 814) (by decide +kernel), List.mem_of_getElem? (i := 815) (by decide +kernel)⟩
theorem lw_p27 : lw_okq (⟨"ShutPasses$Plans", "fillEnds", "(III)V"⟩, 17) := ⟨⟨by decide +kernel, by decide +kernel⟩, List.mem_of_getElem? (i := 302) (by decide +kernel), List.mem_of_getElem? (i := 822) (by decide +kernel), List.mem_of_getElem? (i := 823) (by decide +kernel)⟩
theorem lw_p28 : lw_okq (⟨"ShutPasses$Plans", "greaterEnd", "(II)J"⟩, 17) := ⟨⟨by decide +kernel, by decide +kernel⟩, List.mem_of_getElem? (i := 302) (by decide +kernel), List.mem_of_getElem? (i := 830) (by decide +kernel), List.mem_of_getElem? (i := 831) (by decide +kernel)⟩
theorem lw_p29 : lw_okq (⟨"ShutPasses$Solver", "solveKnown", "(IJ)V"⟩, 7) := ⟨⟨by decide +kernel, by decide +kernel⟩, List.mem_of_getElem? (i := 345) (by decide +kernel), List.mem_of_getElem? (i := 844) (by decide +kernel), List.mem_of_getElem? (i := 845) (by decide +kernel)⟩
theorem lw_p30 : lw_okq (⟨"ShutPasses$Solver", "learnt", "(III)J"⟩, 7) := ⟨⟨by decide +kernel, by decide +kernel⟩, List.mem_of_getElem? (i := 345) (by decide +kernel), List.mem_of_getElem? (i := 850) (by decide +kernel), List.mem_of_getElem? (i := 851) (by decide +kernel)⟩
theorem lw_p31 : lw_okq (⟨"ShutPasses$Solver", "improve", "(II)Z"⟩, 7) := ⟨⟨by decide +kernel, by decide +kernel⟩, List.mem_of_getElem? (i := 345) (by decide +kernel), List.mem_of_getElem? (i := 856) (by decide +kernel), List.mem_of_getElem? (i := 857) (by decide +kernel)⟩
def lw_privs_2 : List (MethodName × Nat) := [(⟨"ShutPasses$Reader", "readRoad", "()Z"⟩, 13), (⟨"ShutPasses$Reader", "takePlace", "()I"⟩, 13), (⟨"ShutPasses$Reader", "placeHere", "()I"⟩, 13), (⟨"ShutPasses$Reader", "readDoubts", "(III)Z"⟩, 13), (⟨"ShutPasses$Reader", "takeCause", "()I"⟩, 13), (⟨"ShutPasses$Reader", "readSight", "()Z"⟩, 13), (⟨"ShutPasses$Reader", "takeDoubtful", "()I"⟩, 13), (⟨"ShutPasses$Reader", "readInn", "()Z"⟩, 13), (⟨"ShutPasses$Reader", "readStart", "()Z"⟩, 13), (⟨"ShutPasses$Reader", "readGoal", "()Z"⟩, 13), (⟨"ShutPasses", "lacksPlan", "(I)Z"⟩, 13), (⟨"ShutPasses$Plans", "fillEnds", "(III)V"⟩, 17), (⟨"ShutPasses$Plans", "greaterEnd", "(II)J"⟩, 17), (⟨"ShutPasses$Solver", "solveKnown", "(IJ)V"⟩, 7), (⟨"ShutPasses$Solver", "learnt", "(III)J"⟩, 7), (⟨"ShutPasses$Solver", "improve", "(II)Z"⟩, 7)]
theorem lw_r2 : ∀ q ∈ lw_privs_2, lw_okq q := List.forall_mem_cons.mpr ⟨lw_p16, List.forall_mem_cons.mpr ⟨lw_p17, List.forall_mem_cons.mpr ⟨lw_p18, List.forall_mem_cons.mpr ⟨lw_p19, List.forall_mem_cons.mpr ⟨lw_p20, List.forall_mem_cons.mpr ⟨lw_p21, List.forall_mem_cons.mpr ⟨lw_p22, List.forall_mem_cons.mpr ⟨lw_p23, List.forall_mem_cons.mpr ⟨lw_p24, List.forall_mem_cons.mpr ⟨lw_p25, List.forall_mem_cons.mpr ⟨lw_p26, List.forall_mem_cons.mpr ⟨lw_p27, List.forall_mem_cons.mpr ⟨lw_p28, List.forall_mem_cons.mpr ⟨lw_p29, List.forall_mem_cons.mpr ⟨lw_p30, List.forall_mem_cons.mpr ⟨lw_p31, fun _ h => absurd h List.not_mem_nil⟩⟩⟩⟩⟩⟩⟩⟩⟩⟩⟩⟩⟩⟩⟩⟩
theorem lw_p32 : lw_okq (⟨"ShutPasses$Solver", "cost", "(II)J"⟩, 7) := ⟨⟨by decide +kernel, by decide +kernel⟩, List.mem_of_getElem? (i := 345) (by decide +kernel), List.mem_of_getElem? (i := 860) (by decide +kernel), List.mem_of_getElem? (i := 861) (by decide +kernel)⟩
theorem lw_p33 : lw_okq (⟨"ShutPasses$Plans", "trying", "([IIII)I"⟩, 17) := ⟨⟨by decide +kernel, by decide +kernel⟩, List.mem_of_getElem? (i := 302) (by decide +kernel), List.mem_of_getElem? (i := 889) (by decide +kernel), List.mem_of_getElem? (i := 890) (by decide +kernel)⟩
theorem lw_p34 : lw_okq (⟨"ShutPasses$Plans", "solveFair", "(I)V"⟩, 17) := ⟨⟨by decide +kernel, by decide +kernel⟩, List.mem_of_getElem? (i := 302) (by decide +kernel), List.mem_of_getElem? (i := 904) (by decide +kernel), List.mem_of_getElem? (i := 905) (by decide +kernel)⟩
theorem lw_p35 : lw_okq (⟨"ShutPasses", "isLikely", "(I)Z"⟩, 13) := ⟨⟨by decide +kernel, by decide +kernel⟩, List.mem_of_getElem? (i := 27) (by decide +kernel), List.mem_of_getElem? (i := 946) (by decide +kernel), List.mem_of_getElem? (i := 947) (by decide +kernel)⟩
theorem lw_p36 : lw_okq (⟨"ShutPasses$Advice", "permute", "([II)Z"⟩, 11) := ⟨⟨by decide +kernel, by decide +kernel⟩, List.mem_of_getElem? (i := 434) (by decide +kernel), List.mem_of_getElem? (i := 991) (by decide +kernel), List.mem_of_getElem? (i := 992) (by decide +kernel)⟩
theorem lw_p37 : lw_okq (⟨"ShutPasses$Advice", "swap", "([III)V"⟩, 11) := ⟨⟨by decide +kernel, by decide +kernel⟩, List.mem_of_getElem? (i := 434) (by decide +kernel), List.mem_of_getElem? (i := 995) (by decide +kernel), List.mem_of_getElem? (i := 996) (by decide +kernel)⟩
theorem lw_p38 : lw_okq (⟨"ShutPasses$Plans", "ringIn", "(II)I"⟩, 17) := ⟨⟨by decide +kernel, by decide +kernel⟩, List.mem_of_getElem? (i := 302) (by decide +kernel), List.mem_of_getElem? (i := 1015) (by decide +kernel), List.mem_of_getElem? (i := 1016) (by decide +kernel)⟩
theorem lw_p39 : lw_okq (⟨"ShutPasses$Plans", "trackedAt", "(III)I"⟩, 17) := ⟨⟨by decide +kernel, by decide +kernel⟩, List.mem_of_getElem? (i := 302) (by decide +kernel), List.mem_of_getElem? (i := 1019) (by decide +kernel), List.mem_of_getElem? (i := 1020) (by decide +kernel)⟩
theorem lw_p40 : lw_okq (⟨"ShutPasses$Bells", "fill", "([J)V"⟩, 6) := ⟨⟨by decide +kernel, by decide +kernel⟩, List.mem_of_getElem? (i := 480) (by decide +kernel), List.mem_of_getElem? (i := 1031) (by decide +kernel), List.mem_of_getElem? (i := 1032) (by decide +kernel)⟩
theorem lw_p41 : lw_okq (⟨"ShutPasses$Bells", "makeRoom", "()V"⟩, 6) := ⟨⟨by decide +kernel, by decide +kernel⟩, List.mem_of_getElem? (i := 480) (by decide +kernel), List.mem_of_getElem? (i := 1035) (by decide +kernel), List.mem_of_getElem? (i := 1036) (by decide +kernel)⟩
theorem lw_p42 : lw_okq (⟨"ShutPasses$Bells", "at", "(II)I"⟩, 6) := ⟨⟨by decide +kernel, by decide +kernel⟩, List.mem_of_getElem? (i := 480) (by decide +kernel), List.mem_of_getElem? (i := 1040) (by decide +kernel), List.mem_of_getElem? (i := 1041) (by decide +kernel)⟩
theorem lw_p43 : lw_okq (⟨"ShutPasses$Bells", "fillHour", "(III)V"⟩, 6) := ⟨⟨by decide +kernel, by decide +kernel⟩, List.mem_of_getElem? (i := 480) (by decide +kernel), List.mem_of_getElem? (i := 1051) (by decide +kernel), List.mem_of_getElem? (i := 1052) (by decide +kernel)⟩
theorem lw_p44 : lw_okq (⟨"ShutPasses$Bells", "learnt", "(IIII)I"⟩, 6) := ⟨⟨by decide +kernel, by decide +kernel⟩, List.mem_of_getElem? (i := 480) (by decide +kernel), List.mem_of_getElem? (i := 1055) (by decide +kernel), List.mem_of_getElem? (i := 1056) (by decide +kernel)⟩
theorem lw_p45 : lw_okq (⟨"ShutPasses$Bells", "mostByGoing", "(III)I"⟩, 6) := ⟨⟨by decide +kernel, by decide +kernel⟩, List.mem_of_getElem? (i := 480) (by decide +kernel), List.mem_of_getElem? (i := 1060) (by decide +kernel), List.mem_of_getElem? (i := 1061) (by decide +kernel)⟩
theorem lw_p46 : lw_okq (⟨"ShutPasses$Bells", "mostByHearing", "(III)I"⟩, 6) := ⟨⟨by decide +kernel, by decide +kernel⟩, List.mem_of_getElem? (i := 480) (by decide +kernel), List.mem_of_getElem? (i := 1064) (by decide +kernel), List.mem_of_getElem? (i := 1065) (by decide +kernel)⟩
theorem lw_p47 : lw_okq (⟨"ShutPasses$Advice", "meanWith", "(I)J"⟩, 11) := ⟨⟨by decide +kernel, by decide +kernel⟩, List.mem_of_getElem? (i := 434) (by decide +kernel), List.mem_of_getElem? (i := 1077) (by decide +kernel), List.mem_of_getElem? (i := 1078) (by decide +kernel)⟩
def lw_privs_3 : List (MethodName × Nat) := [(⟨"ShutPasses$Solver", "cost", "(II)J"⟩, 7), (⟨"ShutPasses$Plans", "trying", "([IIII)I"⟩, 17), (⟨"ShutPasses$Plans", "solveFair", "(I)V"⟩, 17), (⟨"ShutPasses", "isLikely", "(I)Z"⟩, 13), (⟨"ShutPasses$Advice", "permute", "([II)Z"⟩, 11), (⟨"ShutPasses$Advice", "swap", "([III)V"⟩, 11), (⟨"ShutPasses$Plans", "ringIn", "(II)I"⟩, 17), (⟨"ShutPasses$Plans", "trackedAt", "(III)I"⟩, 17), (⟨"ShutPasses$Bells", "fill", "([J)V"⟩, 6), (⟨"ShutPasses$Bells", "makeRoom", "()V"⟩, 6), (⟨"ShutPasses$Bells", "at", "(II)I"⟩, 6), (⟨"ShutPasses$Bells", "fillHour", "(III)V"⟩, 6), (⟨"ShutPasses$Bells", "learnt", "(IIII)I"⟩, 6), (⟨"ShutPasses$Bells", "mostByGoing", "(III)I"⟩, 6), (⟨"ShutPasses$Bells", "mostByHearing", "(III)I"⟩, 6), (⟨"ShutPasses$Advice", "meanWith", "(I)J"⟩, 11)]
theorem lw_r3 : ∀ q ∈ lw_privs_3, lw_okq q := List.forall_mem_cons.mpr ⟨lw_p32, List.forall_mem_cons.mpr ⟨lw_p33, List.forall_mem_cons.mpr ⟨lw_p34, List.forall_mem_cons.mpr ⟨lw_p35, List.forall_mem_cons.mpr ⟨lw_p36, List.forall_mem_cons.mpr ⟨lw_p37, List.forall_mem_cons.mpr ⟨lw_p38, List.forall_mem_cons.mpr ⟨lw_p39, List.forall_mem_cons.mpr ⟨lw_p40, List.forall_mem_cons.mpr ⟨lw_p41, List.forall_mem_cons.mpr ⟨lw_p42, List.forall_mem_cons.mpr ⟨lw_p43, List.forall_mem_cons.mpr ⟨lw_p44, List.forall_mem_cons.mpr ⟨lw_p45, List.forall_mem_cons.mpr ⟨lw_p46, List.forall_mem_cons.mpr ⟨lw_p47, fun _ h => absurd h List.not_mem_nil⟩⟩⟩⟩⟩⟩⟩⟩⟩⟩⟩⟩⟩⟩⟩⟩
theorem lw_p48 : lw_okq (⟨"ShutPasses$Advice", "solveTrial", "()V"⟩, 11) := ⟨⟨by decide +kernel, by decide +kernel⟩, List.mem_of_getElem? (i := 434) (by decide +kernel), List.mem_of_getElem? (i := 1111) (by decide +kernel), List.mem_of_getElem? (i := 1112) (by decide +kernel)⟩
theorem lw_p49 : lw_okq (⟨"ShutPasses$Advice", "actsOtherwise", "()Z"⟩, 11) := ⟨⟨by decide +kernel, by decide +kernel⟩, List.mem_of_getElem? (i := 434) (by decide +kernel), List.mem_of_getElem? (i := 1127) (by decide +kernel), List.mem_of_getElem? (i := 1128) (by decide +kernel)⟩
theorem lw_p50 : lw_okq (⟨"ShutPasses$Journey", "draw", "(LShutPasses$Country;I)I"⟩, 7) := ⟨⟨by decide +kernel, by decide +kernel⟩, List.mem_of_getElem? (i := 506) (by decide +kernel), List.mem_of_getElem? (i := 1140) (by decide +kernel), List.mem_of_getElem? (i := 1141) (by decide +kernel)⟩
theorem lw_p51 : lw_okq (⟨"ShutPasses$Journey", "follow", "(J)J"⟩, 7) := ⟨⟨by decide +kernel, by decide +kernel⟩, List.mem_of_getElem? (i := 506) (by decide +kernel), List.mem_of_getElem? (i := 1145) (by decide +kernel), List.mem_of_getElem? (i := 1146) (by decide +kernel)⟩
theorem lw_p52 : lw_okq (⟨"ShutPasses$Journey", "comes", "(JI)Z"⟩, 7) := ⟨⟨by decide +kernel, by decide +kernel⟩, List.mem_of_getElem? (i := 506) (by decide +kernel), List.mem_of_getElem? (i := 1152) (by decide +kernel), List.mem_of_getElem? (i := 1153) (by decide +kernel)⟩
theorem lw_p53 : lw_okq (⟨"ShutPasses$Journey", "shutBy", "(LShutPasses$Country;I)I"⟩, 7) := ⟨⟨by decide +kernel, by decide +kernel⟩, List.mem_of_getElem? (i := 506) (by decide +kernel), List.mem_of_getElem? (i := 1158) (by decide +kernel), List.mem_of_getElem? (i := 1159) (by decide +kernel)⟩
theorem lw_p54 : lw_okq (⟨"ShutPasses$Journey", "rests", "(LShutPasses$Country;)Z"⟩, 7) := ⟨⟨by decide +kernel, by decide +kernel⟩, List.mem_of_getElem? (i := 506) (by decide +kernel), List.mem_of_getElem? (i := 1172) (by decide +kernel), List.mem_of_getElem? (i := 1173) (by decide +kernel)⟩
theorem lw_p55 : lw_okq (⟨"ShutPasses$Journey", "take", "(III)V"⟩, 7) := ⟨⟨by decide +kernel, by decide +kernel⟩, List.mem_of_getElem? (i := 506) (by decide +kernel), List.mem_of_getElem? (i := 1177) (by decide +kernel), List.mem_of_getElem? (i := 1178) (by decide +kernel)⟩
theorem lw_p56 : lw_okq (⟨"java/lang/Throwable", "fillInStackTrace", "(I)Ljava/lang/Throwable;"⟩, 6) := ⟨⟨by decide +kernel, by decide +kernel⟩, List.mem_of_getElem? (i := 1256) (by decide +kernel), List.mem_of_getElem? (i := 1254) (by decide +kernel), List.mem_of_getElem? (i := 1255) (by decide +kernel)⟩
theorem lw_p57 : lw_okq (⟨"ShutPassesModel", "plain", "()V"⟩, 60) := ⟨⟨by decide +kernel, by decide +kernel⟩, List.mem_of_getElem? (i := 1302) (by decide +kernel), List.mem_of_getElem? (i := 1310) (by decide +kernel), List.mem_of_getElem? (i := 1311) (by decide +kernel)⟩
theorem lw_p58 : lw_okq (⟨"ShutPassesModel", "keep", "()V"⟩, 60) := ⟨⟨by decide +kernel, by decide +kernel⟩, List.mem_of_getElem? (i := 1302) (by decide +kernel), List.mem_of_getElem? (i := 1314) (by decide +kernel), List.mem_of_getElem? (i := 1315) (by decide +kernel)⟩
theorem lw_p59 : lw_okq (⟨"ShutPassesModel", "doubts", "()I"⟩, 60) := ⟨⟨by decide +kernel, by decide +kernel⟩, List.mem_of_getElem? (i := 1302) (by decide +kernel), List.mem_of_getElem? (i := 1318) (by decide +kernel), List.mem_of_getElem? (i := 1319) (by decide +kernel)⟩
theorem lw_p60 : lw_okq (⟨"ShutPassesModel", "openIn", "(I)I"⟩, 60) := ⟨⟨by decide +kernel, by decide +kernel⟩, List.mem_of_getElem? (i := 1302) (by decide +kernel), List.mem_of_getElem? (i := 1322) (by decide +kernel), List.mem_of_getElem? (i := 1323) (by decide +kernel)⟩
theorem lw_p61 : lw_okq (⟨"ShutPassesModel", "digit", "(II)I"⟩, 60) := ⟨⟨by decide +kernel, by decide +kernel⟩, List.mem_of_getElem? (i := 1302) (by decide +kernel), List.mem_of_getElem? (i := 1326) (by decide +kernel), List.mem_of_getElem? (i := 1327) (by decide +kernel)⟩
theorem lw_p62 : lw_okq (⟨"ShutPassesModel", "layWeights", "()V"⟩, 60) := ⟨⟨by decide +kernel, by decide +kernel⟩, List.mem_of_getElem? (i := 1302) (by decide +kernel), List.mem_of_getElem? (i := 1330) (by decide +kernel), List.mem_of_getElem? (i := 1331) (by decide +kernel)⟩
theorem lw_p63 : lw_okq (⟨"ShutPassesModel", "layUse", "(II)V"⟩, 60) := ⟨⟨by decide +kernel, by decide +kernel⟩, List.mem_of_getElem? (i := 1302) (by decide +kernel), List.mem_of_getElem? (i := 1334) (by decide +kernel), List.mem_of_getElem? (i := 1335) (by decide +kernel)⟩
def lw_privs_4 : List (MethodName × Nat) := [(⟨"ShutPasses$Advice", "solveTrial", "()V"⟩, 11), (⟨"ShutPasses$Advice", "actsOtherwise", "()Z"⟩, 11), (⟨"ShutPasses$Journey", "draw", "(LShutPasses$Country;I)I"⟩, 7), (⟨"ShutPasses$Journey", "follow", "(J)J"⟩, 7), (⟨"ShutPasses$Journey", "comes", "(JI)Z"⟩, 7), (⟨"ShutPasses$Journey", "shutBy", "(LShutPasses$Country;I)I"⟩, 7), (⟨"ShutPasses$Journey", "rests", "(LShutPasses$Country;)Z"⟩, 7), (⟨"ShutPasses$Journey", "take", "(III)V"⟩, 7), (⟨"java/lang/Throwable", "fillInStackTrace", "(I)Ljava/lang/Throwable;"⟩, 6), (⟨"ShutPassesModel", "plain", "()V"⟩, 60), (⟨"ShutPassesModel", "keep", "()V"⟩, 60), (⟨"ShutPassesModel", "doubts", "()I"⟩, 60), (⟨"ShutPassesModel", "openIn", "(I)I"⟩, 60), (⟨"ShutPassesModel", "digit", "(II)I"⟩, 60), (⟨"ShutPassesModel", "layWeights", "()V"⟩, 60), (⟨"ShutPassesModel", "layUse", "(II)V"⟩, 60)]
theorem lw_r4 : ∀ q ∈ lw_privs_4, lw_okq q := List.forall_mem_cons.mpr ⟨lw_p48, List.forall_mem_cons.mpr ⟨lw_p49, List.forall_mem_cons.mpr ⟨lw_p50, List.forall_mem_cons.mpr ⟨lw_p51, List.forall_mem_cons.mpr ⟨lw_p52, List.forall_mem_cons.mpr ⟨lw_p53, List.forall_mem_cons.mpr ⟨lw_p54, List.forall_mem_cons.mpr ⟨lw_p55, List.forall_mem_cons.mpr ⟨lw_p56, List.forall_mem_cons.mpr ⟨lw_p57, List.forall_mem_cons.mpr ⟨lw_p58, List.forall_mem_cons.mpr ⟨lw_p59, List.forall_mem_cons.mpr ⟨lw_p60, List.forall_mem_cons.mpr ⟨lw_p61, List.forall_mem_cons.mpr ⟨lw_p62, List.forall_mem_cons.mpr ⟨lw_p63, fun _ h => absurd h List.not_mem_nil⟩⟩⟩⟩⟩⟩⟩⟩⟩⟩⟩⟩⟩⟩⟩⟩
theorem lw_p64 : lw_okq (⟨"ShutPassesModel", "layLikely", "()V"⟩, 60) := ⟨⟨by decide +kernel, by decide +kernel⟩, List.mem_of_getElem? (i := 1302) (by decide +kernel), List.mem_of_getElem? (i := 1339) (by decide +kernel), List.mem_of_getElem? (i := 1340) (by decide +kernel)⟩
theorem lw_p65 : lw_okq (⟨"ShutPassesModel", "worldOf", "(I)I"⟩, 60) := ⟨⟨by decide +kernel, by decide +kernel⟩, List.mem_of_getElem? (i := 1302) (by decide +kernel), List.mem_of_getElem? (i := 1343) (by decide +kernel), List.mem_of_getElem? (i := 1344) (by decide +kernel)⟩
theorem lw_p66 : lw_okq (⟨"ShutPassesModel", "unknownIn", "(I)I"⟩, 60) := ⟨⟨by decide +kernel, by decide +kernel⟩, List.mem_of_getElem? (i := 1302) (by decide +kernel), List.mem_of_getElem? (i := 1347) (by decide +kernel), List.mem_of_getElem? (i := 1348) (by decide +kernel)⟩
theorem lw_p67 : lw_okq (⟨"ShutPassesModel", "take", "()V"⟩, 60) := ⟨⟨by decide +kernel, by decide +kernel⟩, List.mem_of_getElem? (i := 1302) (by decide +kernel), List.mem_of_getElem? (i := 1544) (by decide +kernel), List.mem_of_getElem? (i := 1545) (by decide +kernel)⟩
theorem lw_p68 : lw_okq (⟨"ShutPassesModel", "isSmall", "(I)Z"⟩, 60) := ⟨⟨by decide +kernel, by decide +kernel⟩, List.mem_of_getElem? (i := 1302) (by decide +kernel), List.mem_of_getElem? (i := 1548) (by decide +kernel), List.mem_of_getElem? (i := 1549) (by decide +kernel)⟩
theorem lw_p69 : lw_okq (⟨"ShutPassesModel", "wordAt", "(II)I"⟩, 60) := ⟨⟨by decide +kernel, by decide +kernel⟩, List.mem_of_getElem? (i := 1302) (by decide +kernel), List.mem_of_getElem? (i := 1552) (by decide +kernel), List.mem_of_getElem? (i := 1553) (by decide +kernel)⟩
theorem lw_p70 : lw_okq (⟨"ShutPassesModel", "packed", "(II)I"⟩, 60) := ⟨⟨by decide +kernel, by decide +kernel⟩, List.mem_of_getElem? (i := 1302) (by decide +kernel), List.mem_of_getElem? (i := 1556) (by decide +kernel), List.mem_of_getElem? (i := 1557) (by decide +kernel)⟩
theorem lw_p71 : lw_okq (⟨"ShutPassesModel", "isDigit", "(I)Z"⟩, 60) := ⟨⟨by decide +kernel, by decide +kernel⟩, List.mem_of_getElem? (i := 1302) (by decide +kernel), List.mem_of_getElem? (i := 1560) (by decide +kernel), List.mem_of_getElem? (i := 1561) (by decide +kernel)⟩
theorem lw_p72 : lw_okq (⟨"ShutPassesModel", "lineRead", "()Z"⟩, 60) := ⟨⟨by decide +kernel, by decide +kernel⟩, List.mem_of_getElem? (i := 1302) (by decide +kernel), List.mem_of_getElem? (i := 1564) (by decide +kernel), List.mem_of_getElem? (i := 1565) (by decide +kernel)⟩
theorem lw_p73 : lw_okq (⟨"ShutPassesModel", "wrong", "(I)Z"⟩, 60) := ⟨⟨by decide +kernel, by decide +kernel⟩, List.mem_of_getElem? (i := 1302) (by decide +kernel), List.mem_of_getElem? (i := 1568) (by decide +kernel), List.mem_of_getElem? (i := 1569) (by decide +kernel)⟩
theorem lw_p74 : lw_okq (⟨"ShutPassesModel", "placesRead", "()Z"⟩, 60) := ⟨⟨by decide +kernel, by decide +kernel⟩, List.mem_of_getElem? (i := 1302) (by decide +kernel), List.mem_of_getElem? (i := 1572) (by decide +kernel), List.mem_of_getElem? (i := 1573) (by decide +kernel)⟩
theorem lw_p75 : lw_okq (⟨"ShutPassesModel", "placeOf", "(I)I"⟩, 60) := ⟨⟨by decide +kernel, by decide +kernel⟩, List.mem_of_getElem? (i := 1302) (by decide +kernel), List.mem_of_getElem? (i := 1576) (by decide +kernel), List.mem_of_getElem? (i := 1577) (by decide +kernel)⟩
theorem lw_p76 : lw_okq (⟨"ShutPassesModel", "causeRead", "()Z"⟩, 60) := ⟨⟨by decide +kernel, by decide +kernel⟩, List.mem_of_getElem? (i := 1302) (by decide +kernel), List.mem_of_getElem? (i := 1580) (by decide +kernel), List.mem_of_getElem? (i := 1581) (by decide +kernel)⟩
theorem lw_p77 : lw_okq (⟨"ShutPassesModel", "causeBy", "(I)I"⟩, 60) := ⟨⟨by decide +kernel, by decide +kernel⟩, List.mem_of_getElem? (i := 1302) (by decide +kernel), List.mem_of_getElem? (i := 1584) (by decide +kernel), List.mem_of_getElem? (i := 1585) (by decide +kernel)⟩
theorem lw_p78 : lw_okq (⟨"ShutPassesModel", "numberRead", "(II)Z"⟩, 60) := ⟨⟨by decide +kernel, by decide +kernel⟩, List.mem_of_getElem? (i := 1302) (by decide +kernel), List.mem_of_getElem? (i := 1588) (by decide +kernel), List.mem_of_getElem? (i := 1589) (by decide +kernel)⟩
theorem lw_p79 : lw_okq (⟨"ShutPassesModel", "roadRead", "()Z"⟩, 60) := ⟨⟨by decide +kernel, by decide +kernel⟩, List.mem_of_getElem? (i := 1302) (by decide +kernel), List.mem_of_getElem? (i := 1592) (by decide +kernel), List.mem_of_getElem? (i := 1593) (by decide +kernel)⟩
def lw_privs_5 : List (MethodName × Nat) := [(⟨"ShutPassesModel", "layLikely", "()V"⟩, 60), (⟨"ShutPassesModel", "worldOf", "(I)I"⟩, 60), (⟨"ShutPassesModel", "unknownIn", "(I)I"⟩, 60), (⟨"ShutPassesModel", "take", "()V"⟩, 60), (⟨"ShutPassesModel", "isSmall", "(I)Z"⟩, 60), (⟨"ShutPassesModel", "wordAt", "(II)I"⟩, 60), (⟨"ShutPassesModel", "packed", "(II)I"⟩, 60), (⟨"ShutPassesModel", "isDigit", "(I)Z"⟩, 60), (⟨"ShutPassesModel", "lineRead", "()Z"⟩, 60), (⟨"ShutPassesModel", "wrong", "(I)Z"⟩, 60), (⟨"ShutPassesModel", "placesRead", "()Z"⟩, 60), (⟨"ShutPassesModel", "placeOf", "(I)I"⟩, 60), (⟨"ShutPassesModel", "causeRead", "()Z"⟩, 60), (⟨"ShutPassesModel", "causeBy", "(I)I"⟩, 60), (⟨"ShutPassesModel", "numberRead", "(II)Z"⟩, 60), (⟨"ShutPassesModel", "roadRead", "()Z"⟩, 60)]
theorem lw_r5 : ∀ q ∈ lw_privs_5, lw_okq q := List.forall_mem_cons.mpr ⟨lw_p64, List.forall_mem_cons.mpr ⟨lw_p65, List.forall_mem_cons.mpr ⟨lw_p66, List.forall_mem_cons.mpr ⟨lw_p67, List.forall_mem_cons.mpr ⟨lw_p68, List.forall_mem_cons.mpr ⟨lw_p69, List.forall_mem_cons.mpr ⟨lw_p70, List.forall_mem_cons.mpr ⟨lw_p71, List.forall_mem_cons.mpr ⟨lw_p72, List.forall_mem_cons.mpr ⟨lw_p73, List.forall_mem_cons.mpr ⟨lw_p74, List.forall_mem_cons.mpr ⟨lw_p75, List.forall_mem_cons.mpr ⟨lw_p76, List.forall_mem_cons.mpr ⟨lw_p77, List.forall_mem_cons.mpr ⟨lw_p78, List.forall_mem_cons.mpr ⟨lw_p79, fun _ h => absurd h List.not_mem_nil⟩⟩⟩⟩⟩⟩⟩⟩⟩⟩⟩⟩⟩⟩⟩⟩
theorem lw_p80 : lw_okq (⟨"ShutPassesModel", "spotRead", "()Z"⟩, 60) := ⟨⟨by decide +kernel, by decide +kernel⟩, List.mem_of_getElem? (i := 1302) (by decide +kernel), List.mem_of_getElem? (i := 1596) (by decide +kernel), List.mem_of_getElem? (i := 1597) (by decide +kernel)⟩
theorem lw_p81 : lw_okq (⟨"ShutPassesModel", "roadBetween", "(II)I"⟩, 60) := ⟨⟨by decide +kernel, by decide +kernel⟩, List.mem_of_getElem? (i := 1302) (by decide +kernel), List.mem_of_getElem? (i := 1600) (by decide +kernel), List.mem_of_getElem? (i := 1601) (by decide +kernel)⟩
theorem lw_p82 : lw_okq (⟨"ShutPassesModel", "isKey", "(I)Z"⟩, 60) := ⟨⟨by decide +kernel, by decide +kernel⟩, List.mem_of_getElem? (i := 1302) (by decide +kernel), List.mem_of_getElem? (i := 1604) (by decide +kernel), List.mem_of_getElem? (i := 1605) (by decide +kernel)⟩
theorem lw_p83 : lw_okq (⟨"ShutPassesModel", "isDoubtRoom", "()Z"⟩, 60) := ⟨⟨by decide +kernel, by decide +kernel⟩, List.mem_of_getElem? (i := 1302) (by decide +kernel), List.mem_of_getElem? (i := 1608) (by decide +kernel), List.mem_of_getElem? (i := 1609) (by decide +kernel)⟩
theorem lw_p84 : lw_okq (⟨"ShutPassesModel", "seesRead", "()Z"⟩, 60) := ⟨⟨by decide +kernel, by decide +kernel⟩, List.mem_of_getElem? (i := 1302) (by decide +kernel), List.mem_of_getElem? (i := 1612) (by decide +kernel), List.mem_of_getElem? (i := 1613) (by decide +kernel)⟩
theorem lw_p85 : lw_okq (⟨"ShutPassesModel", "seenRead", "()I"⟩, 60) := ⟨⟨by decide +kernel, by decide +kernel⟩, List.mem_of_getElem? (i := 1302) (by decide +kernel), List.mem_of_getElem? (i := 1616) (by decide +kernel), List.mem_of_getElem? (i := 1617) (by decide +kernel)⟩
theorem lw_p86 : lw_okq (⟨"ShutPassesModel", "innRead", "()Z"⟩, 60) := ⟨⟨by decide +kernel, by decide +kernel⟩, List.mem_of_getElem? (i := 1302) (by decide +kernel), List.mem_of_getElem? (i := 1620) (by decide +kernel), List.mem_of_getElem? (i := 1621) (by decide +kernel)⟩
theorem lw_p87 : lw_okq (⟨"ShutPassesModel", "endRead", "(I)Z"⟩, 60) := ⟨⟨by decide +kernel, by decide +kernel⟩, List.mem_of_getElem? (i := 1302) (by decide +kernel), List.mem_of_getElem? (i := 1624) (by decide +kernel), List.mem_of_getElem? (i := 1625) (by decide +kernel)⟩
theorem lw_p88 : lw_okq (⟨"ShutPassesModel", "isWorld", "(I)Z"⟩, 60) := ⟨⟨by decide +kernel, by decide +kernel⟩, List.mem_of_getElem? (i := 1302) (by decide +kernel), List.mem_of_getElem? (i := 1636) (by decide +kernel), List.mem_of_getElem? (i := 1637) (by decide +kernel)⟩
theorem lw_p89 : lw_okq (⟨"ShutPassesModel", "isKnowing", "(I)Z"⟩, 60) := ⟨⟨by decide +kernel, by decide +kernel⟩, List.mem_of_getElem? (i := 1302) (by decide +kernel), List.mem_of_getElem? (i := 1645) (by decide +kernel), List.mem_of_getElem? (i := 1646) (by decide +kernel)⟩
theorem lw_p90 : lw_okq (⟨"ShutPassesModel", "isDoubtful", "(I)Z"⟩, 60) := ⟨⟨by decide +kernel, by decide +kernel⟩, List.mem_of_getElem? (i := 1302) (by decide +kernel), List.mem_of_getElem? (i := 1653) (by decide +kernel), List.mem_of_getElem? (i := 1654) (by decide +kernel)⟩
theorem lw_p91 : lw_okq (⟨"ShutPassesModel", "fails", "(I)I"⟩, 60) := ⟨⟨by decide +kernel, by decide +kernel⟩, List.mem_of_getElem? (i := 1302) (by decide +kernel), List.mem_of_getElem? (i := 1661) (by decide +kernel), List.mem_of_getElem? (i := 1662) (by decide +kernel)⟩
theorem lw_p92 : lw_okq (⟨"ShutPassesModel", "hasEnds", "()Z"⟩, 60) := ⟨⟨by decide +kernel, by decide +kernel⟩, List.mem_of_getElem? (i := 1302) (by decide +kernel), List.mem_of_getElem? (i := 1672) (by decide +kernel), List.mem_of_getElem? (i := 1673) (by decide +kernel)⟩
theorem lw_p93 : lw_okq (⟨"ShutPassesModel", "knowingOf", "(I)I"⟩, 60) := ⟨⟨by decide +kernel, by decide +kernel⟩, List.mem_of_getElem? (i := 1302) (by decide +kernel), List.mem_of_getElem? (i := 1676) (by decide +kernel), List.mem_of_getElem? (i := 1677) (by decide +kernel)⟩
theorem lw_p94 : lw_okq (⟨"ShutPassesModel", "fullOf", "(I)I"⟩, 60) := ⟨⟨by decide +kernel, by decide +kernel⟩, List.mem_of_getElem? (i := 1302) (by decide +kernel), List.mem_of_getElem? (i := 1680) (by decide +kernel), List.mem_of_getElem? (i := 1681) (by decide +kernel)⟩
theorem lw_p95 : lw_okq (⟨"ShutPassesModel", "layFar", "(II)V"⟩, 60) := ⟨⟨by decide +kernel, by decide +kernel⟩, List.mem_of_getElem? (i := 1302) (by decide +kernel), List.mem_of_getElem? (i := 1684) (by decide +kernel), List.mem_of_getElem? (i := 1685) (by decide +kernel)⟩
def lw_privs_6 : List (MethodName × Nat) := [(⟨"ShutPassesModel", "spotRead", "()Z"⟩, 60), (⟨"ShutPassesModel", "roadBetween", "(II)I"⟩, 60), (⟨"ShutPassesModel", "isKey", "(I)Z"⟩, 60), (⟨"ShutPassesModel", "isDoubtRoom", "()Z"⟩, 60), (⟨"ShutPassesModel", "seesRead", "()Z"⟩, 60), (⟨"ShutPassesModel", "seenRead", "()I"⟩, 60), (⟨"ShutPassesModel", "innRead", "()Z"⟩, 60), (⟨"ShutPassesModel", "endRead", "(I)Z"⟩, 60), (⟨"ShutPassesModel", "isWorld", "(I)Z"⟩, 60), (⟨"ShutPassesModel", "isKnowing", "(I)Z"⟩, 60), (⟨"ShutPassesModel", "isDoubtful", "(I)Z"⟩, 60), (⟨"ShutPassesModel", "fails", "(I)I"⟩, 60), (⟨"ShutPassesModel", "hasEnds", "()Z"⟩, 60), (⟨"ShutPassesModel", "knowingOf", "(I)I"⟩, 60), (⟨"ShutPassesModel", "fullOf", "(I)I"⟩, 60), (⟨"ShutPassesModel", "layFar", "(II)V"⟩, 60)]
theorem lw_r6 : ∀ q ∈ lw_privs_6, lw_okq q := List.forall_mem_cons.mpr ⟨lw_p80, List.forall_mem_cons.mpr ⟨lw_p81, List.forall_mem_cons.mpr ⟨lw_p82, List.forall_mem_cons.mpr ⟨lw_p83, List.forall_mem_cons.mpr ⟨lw_p84, List.forall_mem_cons.mpr ⟨lw_p85, List.forall_mem_cons.mpr ⟨lw_p86, List.forall_mem_cons.mpr ⟨lw_p87, List.forall_mem_cons.mpr ⟨lw_p88, List.forall_mem_cons.mpr ⟨lw_p89, List.forall_mem_cons.mpr ⟨lw_p90, List.forall_mem_cons.mpr ⟨lw_p91, List.forall_mem_cons.mpr ⟨lw_p92, List.forall_mem_cons.mpr ⟨lw_p93, List.forall_mem_cons.mpr ⟨lw_p94, List.forall_mem_cons.mpr ⟨lw_p95, fun _ h => absurd h List.not_mem_nil⟩⟩⟩⟩⟩⟩⟩⟩⟩⟩⟩⟩⟩⟩⟩⟩
theorem lw_p96 : lw_okq (⟨"ShutPassesModel", "places", "()I"⟩, 60) := ⟨⟨by decide +kernel, by decide +kernel⟩, List.mem_of_getElem? (i := 1302) (by decide +kernel), List.mem_of_getElem? (i := 1688) (by decide +kernel), List.mem_of_getElem? (i := 1689) (by decide +kernel)⟩
theorem lw_p97 : lw_okq (⟨"ShutPassesModel", "hoursAs", "(III)I"⟩, 60) := ⟨⟨by decide +kernel, by decide +kernel⟩, List.mem_of_getElem? (i := 1302) (by decide +kernel), List.mem_of_getElem? (i := 1693) (by decide +kernel), List.mem_of_getElem? (i := 1694) (by decide +kernel)⟩
theorem lw_p98 : lw_okq (⟨"ShutPassesModel", "hoursOf", "(II)I"⟩, 60) := ⟨⟨by decide +kernel, by decide +kernel⟩, List.mem_of_getElem? (i := 1302) (by decide +kernel), List.mem_of_getElem? (i := 1697) (by decide +kernel), List.mem_of_getElem? (i := 1698) (by decide +kernel)⟩
theorem lw_p99 : lw_okq (⟨"ShutPassesModel", "layPlan", "(I)V"⟩, 60) := ⟨⟨by decide +kernel, by decide +kernel⟩, List.mem_of_getElem? (i := 1302) (by decide +kernel), List.mem_of_getElem? (i := 1708) (by decide +kernel), List.mem_of_getElem? (i := 1709) (by decide +kernel)⟩
theorem lw_p100 : lw_okq (⟨"ShutPassesModel", "layBest", "()V"⟩, 60) := ⟨⟨by decide +kernel, by decide +kernel⟩, List.mem_of_getElem? (i := 1302) (by decide +kernel), List.mem_of_getElem? (i := 1712) (by decide +kernel), List.mem_of_getElem? (i := 1713) (by decide +kernel)⟩
theorem lw_p101 : lw_okq (⟨"ShutPassesModel", "layValues", "(IZ)V"⟩, 60) := ⟨⟨by decide +kernel, by decide +kernel⟩, List.mem_of_getElem? (i := 1302) (by decide +kernel), List.mem_of_getElem? (i := 1716) (by decide +kernel), List.mem_of_getElem? (i := 1717) (by decide +kernel)⟩
theorem lw_p102 : lw_okq (⟨"ShutPassesModel", "layOne", "(IZI)V"⟩, 60) := ⟨⟨by decide +kernel, by decide +kernel⟩, List.mem_of_getElem? (i := 1302) (by decide +kernel), List.mem_of_getElem? (i := 1721) (by decide +kernel), List.mem_of_getElem? (i := 1722) (by decide +kernel)⟩
theorem lw_p103 : lw_okq (⟨"ShutPassesModel", "isSeen", "(II)Z"⟩, 60) := ⟨⟨by decide +kernel, by decide +kernel⟩, List.mem_of_getElem? (i := 1302) (by decide +kernel), List.mem_of_getElem? (i := 1725) (by decide +kernel), List.mem_of_getElem? (i := 1726) (by decide +kernel)⟩
theorem lw_p104 : lw_okq (⟨"ShutPassesModel", "arrives", "(IZII)J"⟩, 60) := ⟨⟨by decide +kernel, by decide +kernel⟩, List.mem_of_getElem? (i := 1302) (by decide +kernel), List.mem_of_getElem? (i := 1729) (by decide +kernel), List.mem_of_getElem? (i := 1730) (by decide +kernel)⟩
theorem lw_p105 : lw_okq (⟨"ShutPassesModel", "isSold", "(III)Z"⟩, 60) := ⟨⟨by decide +kernel, by decide +kernel⟩, List.mem_of_getElem? (i := 1302) (by decide +kernel), List.mem_of_getElem? (i := 1734) (by decide +kernel), List.mem_of_getElem? (i := 1735) (by decide +kernel)⟩
theorem lw_p106 : lw_okq (⟨"ShutPassesModel", "buys", "(IZII)J"⟩, 60) := ⟨⟨by decide +kernel, by decide +kernel⟩, List.mem_of_getElem? (i := 1302) (by decide +kernel), List.mem_of_getElem? (i := 1738) (by decide +kernel), List.mem_of_getElem? (i := 1739) (by decide +kernel)⟩
theorem lw_p107 : lw_okq (⟨"ShutPassesModel", "least", "(IJII)J"⟩, 60) := ⟨⟨by decide +kernel, by decide +kernel⟩, List.mem_of_getElem? (i := 1302) (by decide +kernel), List.mem_of_getElem? (i := 1742) (by decide +kernel), List.mem_of_getElem? (i := 1743) (by decide +kernel)⟩
theorem lw_p108 : lw_okq (⟨"ShutPassesModel", "goes", "(IJIII)J"⟩, 60) := ⟨⟨by decide +kernel, by decide +kernel⟩, List.mem_of_getElem? (i := 1302) (by decide +kernel), List.mem_of_getElem? (i := 1746) (by decide +kernel), List.mem_of_getElem? (i := 1747) (by decide +kernel)⟩
theorem lw_p109 : lw_okq (⟨"ShutPassesModel", "after", "(JIJ)J"⟩, 60) := ⟨⟨by decide +kernel, by decide +kernel⟩, List.mem_of_getElem? (i := 1302) (by decide +kernel), List.mem_of_getElem? (i := 1750) (by decide +kernel), List.mem_of_getElem? (i := 1751) (by decide +kernel)⟩
theorem lw_p110 : lw_okq (⟨"ShutPassesModel", "firstOf", "(IJII)I"⟩, 60) := ⟨⟨by decide +kernel, by decide +kernel⟩, List.mem_of_getElem? (i := 1302) (by decide +kernel), List.mem_of_getElem? (i := 1754) (by decide +kernel), List.mem_of_getElem? (i := 1755) (by decide +kernel)⟩
theorem lw_p111 : lw_okq (⟨"ShutPassesModel", "laySure", "()V"⟩, 60) := ⟨⟨by decide +kernel, by decide +kernel⟩, List.mem_of_getElem? (i := 1302) (by decide +kernel), List.mem_of_getElem? (i := 1758) (by decide +kernel), List.mem_of_getElem? (i := 1759) (by decide +kernel)⟩
def lw_privs_7 : List (MethodName × Nat) := [(⟨"ShutPassesModel", "places", "()I"⟩, 60), (⟨"ShutPassesModel", "hoursAs", "(III)I"⟩, 60), (⟨"ShutPassesModel", "hoursOf", "(II)I"⟩, 60), (⟨"ShutPassesModel", "layPlan", "(I)V"⟩, 60), (⟨"ShutPassesModel", "layBest", "()V"⟩, 60), (⟨"ShutPassesModel", "layValues", "(IZ)V"⟩, 60), (⟨"ShutPassesModel", "layOne", "(IZI)V"⟩, 60), (⟨"ShutPassesModel", "isSeen", "(II)Z"⟩, 60), (⟨"ShutPassesModel", "arrives", "(IZII)J"⟩, 60), (⟨"ShutPassesModel", "isSold", "(III)Z"⟩, 60), (⟨"ShutPassesModel", "buys", "(IZII)J"⟩, 60), (⟨"ShutPassesModel", "least", "(IJII)J"⟩, 60), (⟨"ShutPassesModel", "goes", "(IJIII)J"⟩, 60), (⟨"ShutPassesModel", "after", "(JIJ)J"⟩, 60), (⟨"ShutPassesModel", "firstOf", "(IJII)I"⟩, 60), (⟨"ShutPassesModel", "laySure", "()V"⟩, 60)]
theorem lw_r7 : ∀ q ∈ lw_privs_7, lw_okq q := List.forall_mem_cons.mpr ⟨lw_p96, List.forall_mem_cons.mpr ⟨lw_p97, List.forall_mem_cons.mpr ⟨lw_p98, List.forall_mem_cons.mpr ⟨lw_p99, List.forall_mem_cons.mpr ⟨lw_p100, List.forall_mem_cons.mpr ⟨lw_p101, List.forall_mem_cons.mpr ⟨lw_p102, List.forall_mem_cons.mpr ⟨lw_p103, List.forall_mem_cons.mpr ⟨lw_p104, List.forall_mem_cons.mpr ⟨lw_p105, List.forall_mem_cons.mpr ⟨lw_p106, List.forall_mem_cons.mpr ⟨lw_p107, List.forall_mem_cons.mpr ⟨lw_p108, List.forall_mem_cons.mpr ⟨lw_p109, List.forall_mem_cons.mpr ⟨lw_p110, List.forall_mem_cons.mpr ⟨lw_p111, fun _ h => absurd h List.not_mem_nil⟩⟩⟩⟩⟩⟩⟩⟩⟩⟩⟩⟩⟩⟩⟩⟩
theorem lw_p112 : lw_okq (⟨"ShutPassesModel", "layTerm", "()V"⟩, 60) := ⟨⟨by decide +kernel, by decide +kernel⟩, List.mem_of_getElem? (i := 1302) (by decide +kernel), List.mem_of_getElem? (i := 1762) (by decide +kernel), List.mem_of_getElem? (i := 1763) (by decide +kernel)⟩
theorem lw_p113 : lw_okq (⟨"ShutPassesModel", "layFair", "()V"⟩, 60) := ⟨⟨by decide +kernel, by decide +kernel⟩, List.mem_of_getElem? (i := 1302) (by decide +kernel), List.mem_of_getElem? (i := 1766) (by decide +kernel), List.mem_of_getElem? (i := 1767) (by decide +kernel)⟩
theorem lw_p114 : lw_okq (⟨"ShutPassesModel", "layTimes", "(I)Z"⟩, 60) := ⟨⟨by decide +kernel, by decide +kernel⟩, List.mem_of_getElem? (i := 1302) (by decide +kernel), List.mem_of_getElem? (i := 1770) (by decide +kernel), List.mem_of_getElem? (i := 1771) (by decide +kernel)⟩
theorem lw_p115 : lw_okq (⟨"ShutPassesModel", "hoursIn", "(II)J"⟩, 60) := ⟨⟨by decide +kernel, by decide +kernel⟩, List.mem_of_getElem? (i := 1302) (by decide +kernel), List.mem_of_getElem? (i := 1774) (by decide +kernel), List.mem_of_getElem? (i := 1775) (by decide +kernel)⟩
theorem lw_p116 : lw_okq (⟨"ShutPassesModel", "setsOut", "(I)V"⟩, 60) := ⟨⟨by decide +kernel, by decide +kernel⟩, List.mem_of_getElem? (i := 1302) (by decide +kernel), List.mem_of_getElem? (i := 1778) (by decide +kernel), List.mem_of_getElem? (i := 1779) (by decide +kernel)⟩
theorem lw_p117 : lw_okq (⟨"ShutPassesModel", "learns", "(III)I"⟩, 60) := ⟨⟨by decide +kernel, by decide +kernel⟩, List.mem_of_getElem? (i := 1302) (by decide +kernel), List.mem_of_getElem? (i := 1782) (by decide +kernel), List.mem_of_getElem? (i := 1783) (by decide +kernel)⟩
theorem lw_p118 : lw_okq (⟨"ShutPassesModel", "moves", "(II)Z"⟩, 60) := ⟨⟨by decide +kernel, by decide +kernel⟩, List.mem_of_getElem? (i := 1302) (by decide +kernel), List.mem_of_getElem? (i := 1786) (by decide +kernel), List.mem_of_getElem? (i := 1787) (by decide +kernel)⟩
theorem lw_p119 : lw_okq (⟨"ShutPassesModel", "actOf", "(III)I"⟩, 60) := ⟨⟨by decide +kernel, by decide +kernel⟩, List.mem_of_getElem? (i := 1302) (by decide +kernel), List.mem_of_getElem? (i := 1790) (by decide +kernel), List.mem_of_getElem? (i := 1791) (by decide +kernel)⟩
theorem lw_p120 : lw_okq (⟨"ShutPassesModel", "byHand", "(II)I"⟩, 60) := ⟨⟨by decide +kernel, by decide +kernel⟩, List.mem_of_getElem? (i := 1302) (by decide +kernel), List.mem_of_getElem? (i := 1794) (by decide +kernel), List.mem_of_getElem? (i := 1795) (by decide +kernel)⟩
theorem lw_p121 : lw_okq (⟨"ShutPassesModel", "firstUnknown", "(I)I"⟩, 60) := ⟨⟨by decide +kernel, by decide +kernel⟩, List.mem_of_getElem? (i := 1302) (by decide +kernel), List.mem_of_getElem? (i := 1798) (by decide +kernel), List.mem_of_getElem? (i := 1799) (by decide +kernel)⟩
theorem lw_p122 : lw_okq (⟨"ShutPassesModel", "hopAt", "(III)I"⟩, 60) := ⟨⟨by decide +kernel, by decide +kernel⟩, List.mem_of_getElem? (i := 1302) (by decide +kernel), List.mem_of_getElem? (i := 1802) (by decide +kernel), List.mem_of_getElem? (i := 1803) (by decide +kernel)⟩
theorem lw_p123 : lw_okq (⟨"ShutPassesModel", "layLimits", "(JJZ)V"⟩, 60) := ⟨⟨by decide +kernel, by decide +kernel⟩, List.mem_of_getElem? (i := 1302) (by decide +kernel), List.mem_of_getElem? (i := 1807) (by decide +kernel), List.mem_of_getElem? (i := 1808) (by decide +kernel)⟩
theorem lw_p124 : lw_okq (⟨"ShutPassesModel", "meanOf", "(I)J"⟩, 60) := ⟨⟨by decide +kernel, by decide +kernel⟩, List.mem_of_getElem? (i := 1302) (by decide +kernel), List.mem_of_getElem? (i := 1811) (by decide +kernel), List.mem_of_getElem? (i := 1812) (by decide +kernel)⟩
theorem lw_p125 : lw_okq (⟨"ShutPassesModel", "isPlace", "(I)Z"⟩, 60) := ⟨⟨by decide +kernel, by decide +kernel⟩, List.mem_of_getElem? (i := 1302) (by decide +kernel), List.mem_of_getElem? (i := 1831) (by decide +kernel), List.mem_of_getElem? (i := 1832) (by decide +kernel)⟩
theorem lw_p126 : lw_okq (⟨"ShutPassesModel", "told", "(J)J"⟩, 60) := ⟨⟨by decide +kernel, by decide +kernel⟩, List.mem_of_getElem? (i := 1302) (by decide +kernel), List.mem_of_getElem? (i := 1839) (by decide +kernel), List.mem_of_getElem? (i := 1840) (by decide +kernel)⟩
theorem lw_p127 : lw_okq (⟨"ShutPassesModel", "nextRow", "()Z"⟩, 60) := ⟨⟨by decide +kernel, by decide +kernel⟩, List.mem_of_getElem? (i := 1302) (by decide +kernel), List.mem_of_getElem? (i := 1855) (by decide +kernel), List.mem_of_getElem? (i := 1856) (by decide +kernel)⟩
def lw_privs_8 : List (MethodName × Nat) := [(⟨"ShutPassesModel", "layTerm", "()V"⟩, 60), (⟨"ShutPassesModel", "layFair", "()V"⟩, 60), (⟨"ShutPassesModel", "layTimes", "(I)Z"⟩, 60), (⟨"ShutPassesModel", "hoursIn", "(II)J"⟩, 60), (⟨"ShutPassesModel", "setsOut", "(I)V"⟩, 60), (⟨"ShutPassesModel", "learns", "(III)I"⟩, 60), (⟨"ShutPassesModel", "moves", "(II)Z"⟩, 60), (⟨"ShutPassesModel", "actOf", "(III)I"⟩, 60), (⟨"ShutPassesModel", "byHand", "(II)I"⟩, 60), (⟨"ShutPassesModel", "firstUnknown", "(I)I"⟩, 60), (⟨"ShutPassesModel", "hopAt", "(III)I"⟩, 60), (⟨"ShutPassesModel", "layLimits", "(JJZ)V"⟩, 60), (⟨"ShutPassesModel", "meanOf", "(I)J"⟩, 60), (⟨"ShutPassesModel", "isPlace", "(I)Z"⟩, 60), (⟨"ShutPassesModel", "told", "(J)J"⟩, 60), (⟨"ShutPassesModel", "nextRow", "()Z"⟩, 60)]
theorem lw_r8 : ∀ q ∈ lw_privs_8, lw_okq q := List.forall_mem_cons.mpr ⟨lw_p112, List.forall_mem_cons.mpr ⟨lw_p113, List.forall_mem_cons.mpr ⟨lw_p114, List.forall_mem_cons.mpr ⟨lw_p115, List.forall_mem_cons.mpr ⟨lw_p116, List.forall_mem_cons.mpr ⟨lw_p117, List.forall_mem_cons.mpr ⟨lw_p118, List.forall_mem_cons.mpr ⟨lw_p119, List.forall_mem_cons.mpr ⟨lw_p120, List.forall_mem_cons.mpr ⟨lw_p121, List.forall_mem_cons.mpr ⟨lw_p122, List.forall_mem_cons.mpr ⟨lw_p123, List.forall_mem_cons.mpr ⟨lw_p124, List.forall_mem_cons.mpr ⟨lw_p125, List.forall_mem_cons.mpr ⟨lw_p126, List.forall_mem_cons.mpr ⟨lw_p127, fun _ h => absurd h List.not_mem_nil⟩⟩⟩⟩⟩⟩⟩⟩⟩⟩⟩⟩⟩⟩⟩⟩
theorem lw_p128 : lw_okq (⟨"ShutPassesModel", "swap", "(II)V"⟩, 60) := ⟨⟨by decide +kernel, by decide +kernel⟩, List.mem_of_getElem? (i := 1302) (by decide +kernel), List.mem_of_getElem? (i := 1859) (by decide +kernel), List.mem_of_getElem? (i := 1860) (by decide +kernel)⟩
theorem lw_p129 : lw_okq (⟨"ShutPassesModel", "ringIn", "(II)I"⟩, 60) := ⟨⟨by decide +kernel, by decide +kernel⟩, List.mem_of_getElem? (i := 1302) (by decide +kernel), List.mem_of_getElem? (i := 1871) (by decide +kernel), List.mem_of_getElem? (i := 1872) (by decide +kernel)⟩
theorem lw_p130 : lw_okq (⟨"ShutPassesModel", "layBell", "(II)V"⟩, 60) := ⟨⟨by decide +kernel, by decide +kernel⟩, List.mem_of_getElem? (i := 1302) (by decide +kernel), List.mem_of_getElem? (i := 1879) (by decide +kernel), List.mem_of_getElem? (i := 1880) (by decide +kernel)⟩
theorem lw_p131 : lw_okq (⟨"ShutPassesModel", "bestInTime", "(III)I"⟩, 60) := ⟨⟨by decide +kernel, by decide +kernel⟩, List.mem_of_getElem? (i := 1302) (by decide +kernel), List.mem_of_getElem? (i := 1883) (by decide +kernel), List.mem_of_getElem? (i := 1884) (by decide +kernel)⟩
theorem lw_p132 : lw_okq (⟨"ShutPassesModel", "comesInTime", "(III)I"⟩, 60) := ⟨⟨by decide +kernel, by decide +kernel⟩, List.mem_of_getElem? (i := 1302) (by decide +kernel), List.mem_of_getElem? (i := 1887) (by decide +kernel), List.mem_of_getElem? (i := 1888) (by decide +kernel)⟩
theorem lw_p133 : lw_okq (⟨"ShutPassesModel", "knowingSome", "(I)J"⟩, 60) := ⟨⟨by decide +kernel, by decide +kernel⟩, List.mem_of_getElem? (i := 1302) (by decide +kernel), List.mem_of_getElem? (i := 1895) (by decide +kernel), List.mem_of_getElem? (i := 1896) (by decide +kernel)⟩
theorem lw_p134 : lw_okq (⟨"ShutPassesModel", "useAsTold", "()V"⟩, 60) := ⟨⟨by decide +kernel, by decide +kernel⟩, List.mem_of_getElem? (i := 1302) (by decide +kernel), List.mem_of_getElem? (i := 1907) (by decide +kernel), List.mem_of_getElem? (i := 1908) (by decide +kernel)⟩
theorem lw_p135 : lw_okq (⟨"ShutPassesModel", "canWalk", "()Z"⟩, 60) := ⟨⟨by decide +kernel, by decide +kernel⟩, List.mem_of_getElem? (i := 1302) (by decide +kernel), List.mem_of_getElem? (i := 1927) (by decide +kernel), List.mem_of_getElem? (i := 1928) (by decide +kernel)⟩
def lw_privs_9 : List (MethodName × Nat) := [(⟨"ShutPassesModel", "swap", "(II)V"⟩, 60), (⟨"ShutPassesModel", "ringIn", "(II)I"⟩, 60), (⟨"ShutPassesModel", "layBell", "(II)V"⟩, 60), (⟨"ShutPassesModel", "bestInTime", "(III)I"⟩, 60), (⟨"ShutPassesModel", "comesInTime", "(III)I"⟩, 60), (⟨"ShutPassesModel", "knowingSome", "(I)J"⟩, 60), (⟨"ShutPassesModel", "useAsTold", "()V"⟩, 60), (⟨"ShutPassesModel", "canWalk", "()Z"⟩, 60)]
theorem lw_r9 : ∀ q ∈ lw_privs_9, lw_okq q := List.forall_mem_cons.mpr ⟨lw_p128, List.forall_mem_cons.mpr ⟨lw_p129, List.forall_mem_cons.mpr ⟨lw_p130, List.forall_mem_cons.mpr ⟨lw_p131, List.forall_mem_cons.mpr ⟨lw_p132, List.forall_mem_cons.mpr ⟨lw_p133, List.forall_mem_cons.mpr ⟨lw_p134, List.forall_mem_cons.mpr ⟨lw_p135, fun _ h => absurd h List.not_mem_nil⟩⟩⟩⟩⟩⟩⟩⟩
def lw_privs : List (MethodName × Nat) := lw_privs_1 ++ (lw_privs_2 ++ (lw_privs_3 ++ (lw_privs_4 ++ (lw_privs_5 ++ (lw_privs_6 ++ (lw_privs_7 ++ (lw_privs_8 ++ (lw_privs_9))))))))
def lw_tbl : List Cond := k2_sels lw_privs ++ tables_1
theorem lw_privs_ok : ∀ q ∈ lw_privs, lw_okq q := by
  show ∀ q ∈ lw_privs_1 ++ (lw_privs_2 ++ (lw_privs_3 ++ (lw_privs_4 ++ (lw_privs_5 ++ (lw_privs_6 ++ (lw_privs_7 ++ (lw_privs_8 ++ (lw_privs_9)))))))), lw_okq q
  exact List.forall_mem_append.mpr ⟨lw_r1, List.forall_mem_append.mpr ⟨lw_r2, List.forall_mem_append.mpr ⟨lw_r3, List.forall_mem_append.mpr ⟨lw_r4, List.forall_mem_append.mpr ⟨lw_r5, List.forall_mem_append.mpr ⟨lw_r6, List.forall_mem_append.mpr ⟨lw_r7, List.forall_mem_append.mpr ⟨lw_r8, lw_r9⟩⟩⟩⟩⟩⟩⟩⟩
-- ===== end of PART A; then your names; then what follows =====
def RX0 : String := "ShutPasses$Advice"
def TX0 : u_T := fun k => match k with
  | 0 => ("ShutPasses$Advice", "codes", "LShutPasses$Codes;", true)
  | 1 => ("ShutPasses$Advice", "plans", "LShutPasses$Plans;", true)
  | 2 => ("ShutPasses$Advice", "odds", "LShutPasses$Odds;", true)
  | 3 => ("ShutPasses$Advice", "trial", "LShutPasses$Solver;", true)
  | 4 => ("ShutPasses$Advice", "noEnds", "[J", true)
  | 5 => ("ShutPasses$Advice", "kept", "[J", true)
  | 6 => ("ShutPasses$Advice", "edges", "[I", true)
  | 7 => ("ShutPasses$Advice", "country", "LShutPasses$Country;", false)
  | 8 => ("ShutPasses$Advice", "rowFound", "Z", false)
  | 9 => ("ShutPasses$Advice", "rowMean", "J", false)
  | _ => ("ShutPasses$Advice", "rowOrder", "[I", true)
def tyX0 : Nat → FieldType := fun k => match k with
  | 0 => .object "ShutPasses$Codes"
  | 1 => .object "ShutPasses$Plans"
  | 2 => .object "ShutPasses$Odds"
  | 3 => .object "ShutPasses$Solver"
  | 4 => .array .long
  | 5 => .array .long
  | 6 => .array .int
  | 7 => .object "ShutPasses$Country"
  | 8 => .boolean
  | 9 => .long
  | _ => .array .int
abbrev wsX00 : List Cond := u_ws RX0 TX0 11
theorem nmX0 : ∀ a, a < 11 → ∀ b, b < 11 → a ≠ b → (TX0 a).2.1 ≠ (TX0 b).2.1 := by decide +kernel
theorem tyX0_ok : ∀ k, k < 11 → parseFieldDescriptor (TX0 k).2.2.1 = some (tyX0 k) := by decide +kernel
def RX1 : String := "ShutPasses$Bells"
def TX1 : u_T := fun k => match k with
  | 0 => ("ShutPasses$Bells", "filled", "Z", false)
  | 1 => ("ShutPasses$Bells", "codes", "LShutPasses$Codes;", true)
  | 2 => ("ShutPasses$Bells", "sums", "[I", false)
  | 3 => ("ShutPasses$Bells", "passes", "[I", true)
  | 4 => ("ShutPasses$Bells", "missing", "[I", true)
  | _ => ("ShutPasses$Bells", "country", "LShutPasses$Country;", false)
def tyX1 : Nat → FieldType := fun k => match k with
  | 0 => .boolean
  | 1 => .object "ShutPasses$Codes"
  | 2 => .array .int
  | 3 => .array .int
  | 4 => .array .int
  | _ => .object "ShutPasses$Country"
abbrev wsX10 : List Cond := u_ws RX1 TX1 6
theorem nmX1 : ∀ a, a < 6 → ∀ b, b < 6 → a ≠ b → (TX1 a).2.1 ≠ (TX1 b).2.1 := by decide +kernel
theorem tyX1_ok : ∀ k, k < 6 → parseFieldDescriptor (TX1 k).2.2.1 = some (tyX1 k) := by decide +kernel
def RX2 : String := "ShutPasses$Codes"
def TX2 : u_T := fun k => match k with
  | 0 => ("ShutPasses$Codes", "open", "[I", true)
  | 1 => ("ShutPasses$Codes", "shut", "[I", true)
  | _ => ("ShutPasses$Codes", "spread", "[I", true)
def tyX2 : Nat → FieldType := fun k => match k with
  | 0 => .array .int
  | 1 => .array .int
  | _ => .array .int
abbrev wsX20 : List Cond := u_ws RX2 TX2 3
theorem nmX2 : ∀ a, a < 3 → ∀ b, b < 3 → a ≠ b → (TX2 a).2.1 ≠ (TX2 b).2.1 := by decide +kernel
theorem tyX2_ok : ∀ k, k < 3 → parseFieldDescriptor (TX2 k).2.2.1 = some (tyX2 k) := by decide +kernel
def RX3 : String := "ShutPasses$Country"
def TX3 : u_T := fun k => match k with
  | 0 => ("ShutPasses$Country", "places", "I", false)
  | 1 => ("ShutPasses$Country", "causes", "I", false)
  | 2 => ("ShutPasses$Country", "roads", "I", false)
  | 3 => ("ShutPasses$Country", "doubtful", "I", false)
  | 4 => ("ShutPasses$Country", "sees", "I", false)
  | 5 => ("ShutPasses$Country", "words", "I", false)
  | 6 => ("ShutPasses$Country", "start", "I", false)
  | 7 => ("ShutPasses$Country", "goal", "I", false)
  | 8 => ("ShutPasses$Country", "causeOdds", "[I", true)
  | 9 => ("ShutPasses$Country", "roadTable", "[I", true)
  | 10 => ("ShutPasses$Country", "doubtfulRoad", "[I", true)
  | 11 => ("ShutPasses$Country", "roadBetween", "[I", true)
  | 12 => ("ShutPasses$Country", "seenAt", "[I", true)
  | 13 => ("ShutPasses$Country", "wordPlace", "[I", true)
  | 14 => ("ShutPasses$Country", "wordRoad", "[I", true)
  | _ => ("ShutPasses$Country", "wordHours", "[I", true)
def tyX3 : Nat → FieldType := fun k => match k with
  | 0 => .int
  | 1 => .int
  | 2 => .int
  | 3 => .int
  | 4 => .int
  | 5 => .int
  | 6 => .int
  | 7 => .int
  | 8 => .array .int
  | 9 => .array .int
  | 10 => .array .int
  | 11 => .array .int
  | 12 => .array .int
  | 13 => .array .int
  | 14 => .array .int
  | _ => .array .int
abbrev wsX30 : List Cond := u_ws RX3 TX3 16
theorem nmX3 : ∀ a, a < 16 → ∀ b, b < 16 → a ≠ b → (TX3 a).2.1 ≠ (TX3 b).2.1 := by decide +kernel
theorem tyX3_ok : ∀ k, k < 16 → parseFieldDescriptor (TX3 k).2.2.1 = some (tyX3 k) := by decide +kernel
def RX4 : String := "ShutPasses$Hand"
def TX4 : u_T := fun k => match k with
  | 0 => ("ShutPasses$Hand", "size", "I", false)
  | 1 => ("ShutPasses$Hand", "places", "[I", true)
  | 2 => ("ShutPasses$Hand", "roads", "[I", true)
  | 3 => ("ShutPasses$Hand", "digits", "[I", true)
  | _ => ("ShutPasses$Hand", "targets", "[I", true)
def tyX4 : Nat → FieldType := fun k => match k with
  | 0 => .int
  | 1 => .array .int
  | 2 => .array .int
  | 3 => .array .int
  | _ => .array .int
abbrev wsX40 : List Cond := u_ws RX4 TX4 5
theorem nmX4 : ∀ a, a < 5 → ∀ b, b < 5 → a ≠ b → (TX4 a).2.1 ≠ (TX4 b).2.1 := by decide +kernel
theorem tyX4_ok : ∀ k, k < 5 → parseFieldDescriptor (TX4 k).2.2.1 = some (tyX4 k) := by decide +kernel
def RX5 : String := "ShutPasses$Journey"
def TX5 : u_T := fun k => match k with
  | 0 => ("ShutPasses$Journey", "on", "Z", false)
  | 1 => ("ShutPasses$Journey", "codes", "LShutPasses$Codes;", true)
  | 2 => ("ShutPasses$Journey", "world", "I", false)
  | 3 => ("ShutPasses$Journey", "steps", "I", false)
  | 4 => ("ShutPasses$Journey", "places", "[I", true)
  | 5 => ("ShutPasses$Journey", "hours", "[I", true)
  | _ => ("ShutPasses$Journey", "knowns", "[I", true)
def tyX5 : Nat → FieldType := fun k => match k with
  | 0 => .boolean
  | 1 => .object "ShutPasses$Codes"
  | 2 => .int
  | 3 => .int
  | 4 => .array .int
  | 5 => .array .int
  | _ => .array .int
abbrev wsX50 : List Cond := u_ws RX5 TX5 7
theorem nmX5 : ∀ a, a < 7 → ∀ b, b < 7 → a ≠ b → (TX5 a).2.1 ≠ (TX5 b).2.1 := by decide +kernel
theorem tyX5_ok : ∀ k, k < 7 → parseFieldDescriptor (TX5 k).2.2.1 = some (tyX5 k) := by decide +kernel
def RX6 : String := "ShutPasses$Odds"
def TX6 : u_T := fun k => match k with
  | 0 => ("ShutPasses$Odds", "weights", "[J", true)
  | _ => ("ShutPasses$Odds", "likely", "[J", true)
def tyX6 : Nat → FieldType := fun k => match k with
  | 0 => .array .long
  | _ => .array .long
abbrev wsX60 : List Cond := u_ws RX6 TX6 2
theorem nmX6 : ∀ a, a < 2 → ∀ b, b < 2 → a ≠ b → (TX6 a).2.1 ≠ (TX6 b).2.1 := by decide +kernel
theorem tyX6_ok : ∀ k, k < 2 → parseFieldDescriptor (TX6 k).2.2.1 = some (tyX6 k) := by decide +kernel
def RX7 : String := "ShutPasses$Plans"
def TX7 : u_T := fun k => match k with
  | 0 => ("ShutPasses$Plans", "codes", "LShutPasses$Codes;", true)
  | 1 => ("ShutPasses$Plans", "hand", "LShutPasses$Hand;", true)
  | 2 => ("ShutPasses$Plans", "country", "LShutPasses$Country;", false)
  | 3 => ("ShutPasses$Plans", "odds", "LShutPasses$Odds;", true)
  | 4 => ("ShutPasses$Plans", "ways", "LShutPasses$Ways;", true)
  | 5 => ("ShutPasses$Plans", "best", "LShutPasses$Solver;", true)
  | 6 => ("ShutPasses$Plans", "sure", "LShutPasses$Solver;", true)
  | 7 => ("ShutPasses$Plans", "fair", "LShutPasses$Solver;", true)
  | 8 => ("ShutPasses$Plans", "ends", "[J", true)
  | 9 => ("ShutPasses$Plans", "solved", "[Z", true)
  | 10 => ("ShutPasses$Plans", "row", "[I", true)
  | 11 => ("ShutPasses$Plans", "rowSize", "I", false)
  | 12 => ("ShutPasses$Plans", "trialRow", "[I", true)
  | 13 => ("ShutPasses$Plans", "trackPlace", "[I", true)
  | 14 => ("ShutPasses$Plans", "trackKnown", "[I", true)
  | 15 => ("ShutPasses$Plans", "timesHours", "I", false)
  | _ => ("ShutPasses$Plans", "timesKnowing", "I", false)
def tyX7 : Nat → FieldType := fun k => match k with
  | 0 => .object "ShutPasses$Codes"
  | 1 => .object "ShutPasses$Hand"
  | 2 => .object "ShutPasses$Country"
  | 3 => .object "ShutPasses$Odds"
  | 4 => .object "ShutPasses$Ways"
  | 5 => .object "ShutPasses$Solver"
  | 6 => .object "ShutPasses$Solver"
  | 7 => .object "ShutPasses$Solver"
  | 8 => .array .long
  | 9 => .array .boolean
  | 10 => .array .int
  | 11 => .int
  | 12 => .array .int
  | 13 => .array .int
  | 14 => .array .int
  | 15 => .int
  | _ => .int
abbrev wsX70 : List Cond := u_ws RX7 TX7 17
theorem nmX7 : ∀ a, a < 17 → ∀ b, b < 17 → a ≠ b → (TX7 a).2.1 ≠ (TX7 b).2.1 := by decide +kernel
theorem tyX7_ok : ∀ k, k < 17 → parseFieldDescriptor (TX7 k).2.2.1 = some (tyX7 k) := by decide +kernel
def RX8 : String := "ShutPasses$Reader"
def TX8 : u_T := fun k => match k with
  | 0 => ("ShutPasses$Reader", "language", "[I", true)
  | 1 => ("ShutPasses$Reader", "kinds", "[I", true)
  | 2 => ("ShutPasses$Reader", "tokenPlaces", "[I", true)
  | 3 => ("ShutPasses$Reader", "values", "[I", true)
  | 4 => ("ShutPasses$Reader", "size", "I", false)
  | 5 => ("ShutPasses$Reader", "placeNames", "[I", true)
  | 6 => ("ShutPasses$Reader", "causeNames", "[I", true)
  | 7 => ("ShutPasses$Reader", "sketch", "LShutPasses$Country;", false)
  | 8 => ("ShutPasses$Reader", "at", "I", false)
  | 9 => ("ShutPasses$Reader", "kind", "I", false)
  | 10 => ("ShutPasses$Reader", "value", "I", false)
  | 11 => ("ShutPasses$Reader", "faultKind", "I", false)
  | _ => ("ShutPasses$Reader", "faultPlace", "I", false)
def tyX8 : Nat → FieldType := fun k => match k with
  | 0 => .array .int
  | 1 => .array .int
  | 2 => .array .int
  | 3 => .array .int
  | 4 => .int
  | 5 => .array .int
  | 6 => .array .int
  | 7 => .object "ShutPasses$Country"
  | 8 => .int
  | 9 => .int
  | 10 => .int
  | 11 => .int
  | _ => .int
abbrev wsX80 : List Cond := u_ws RX8 TX8 13
theorem nmX8 : ∀ a, a < 13 → ∀ b, b < 13 → a ≠ b → (TX8 a).2.1 ≠ (TX8 b).2.1 := by decide +kernel
theorem tyX8_ok : ∀ k, k < 13 → parseFieldDescriptor (TX8 k).2.2.1 = some (tyX8 k) := by decide +kernel
def RX9 : String := "ShutPasses$Solver"
def TX9 : u_T := fun k => match k with
  | 0 => ("ShutPasses$Solver", "codes", "LShutPasses$Codes;", true)
  | 1 => ("ShutPasses$Solver", "values", "[J", true)
  | 2 => ("ShutPasses$Solver", "acts", "[I", true)
  | 3 => ("ShutPasses$Solver", "passes", "[I", true)
  | 4 => ("ShutPasses$Solver", "country", "LShutPasses$Country;", false)
  | 5 => ("ShutPasses$Solver", "likely", "[J", false)
  | _ => ("ShutPasses$Solver", "summing", "Z", false)
def tyX9 : Nat → FieldType := fun k => match k with
  | 0 => .object "ShutPasses$Codes"
  | 1 => .array .long
  | 2 => .array .int
  | 3 => .array .int
  | 4 => .object "ShutPasses$Country"
  | 5 => .array .long
  | _ => .boolean
abbrev wsX90 : List Cond := u_ws RX9 TX9 7
theorem nmX9 : ∀ a, a < 7 → ∀ b, b < 7 → a ≠ b → (TX9 a).2.1 ≠ (TX9 b).2.1 := by decide +kernel
theorem tyX9_ok : ∀ k, k < 7 → parseFieldDescriptor (TX9 k).2.2.1 = some (tyX9 k) := by decide +kernel
def RX10 : String := "ShutPasses$Ways"
def TX10 : u_T := fun k => match k with
  | 0 => ("ShutPasses$Ways", "hoursLeft", "[I", true)
  | 1 => ("ShutPasses$Ways", "nextPlace", "[I", true)
  | _ => ("ShutPasses$Ways", "passes", "[I", true)
def tyX10 : Nat → FieldType := fun k => match k with
  | 0 => .array .int
  | 1 => .array .int
  | _ => .array .int
abbrev wsX100 : List Cond := u_ws RX10 TX10 3
theorem nmX10 : ∀ a, a < 3 → ∀ b, b < 3 → a ≠ b → (TX10 a).2.1 ≠ (TX10 b).2.1 := by decide +kernel
theorem tyX10_ok : ∀ k, k < 3 → parseFieldDescriptor (TX10 k).2.2.1 = some (tyX10 k) := by decide +kernel
def RX11 : String := "ShutPasses"
def TX11 : u_T := fun k => match k with
  | 0 => ("ShutPasses", "tape", "[B", true)
  | 1 => ("ShutPasses", "taped", "I", false)
  | 2 => ("ShutPasses", "faultKind", "I", false)
  | 3 => ("ShutPasses", "faultPlace", "I", false)
  | 4 => ("ShutPasses", "country", "LShutPasses$Country;", false)
  | 5 => ("ShutPasses", "draft", "LShutPasses$Country;", false)
  | 6 => ("ShutPasses", "reader", "LShutPasses$Reader;", true)
  | 7 => ("ShutPasses", "codes", "LShutPasses$Codes;", true)
  | 8 => ("ShutPasses", "hand", "LShutPasses$Hand;", true)
  | 9 => ("ShutPasses", "plans", "LShutPasses$Plans;", true)
  | 10 => ("ShutPasses", "advice", "LShutPasses$Advice;", true)
  | 11 => ("ShutPasses", "bells", "LShutPasses$Bells;", true)
  | _ => ("ShutPasses", "journey", "LShutPasses$Journey;", true)
def tyX11 : Nat → FieldType := fun k => match k with
  | 0 => .array .byte
  | 1 => .int
  | 2 => .int
  | 3 => .int
  | 4 => .object "ShutPasses$Country"
  | 5 => .object "ShutPasses$Country"
  | 6 => .object "ShutPasses$Reader"
  | 7 => .object "ShutPasses$Codes"
  | 8 => .object "ShutPasses$Hand"
  | 9 => .object "ShutPasses$Plans"
  | 10 => .object "ShutPasses$Advice"
  | 11 => .object "ShutPasses$Bells"
  | _ => .object "ShutPasses$Journey"
abbrev wsX110 : List Cond := u_ws RX11 TX11 13
theorem nmX11 : ∀ a, a < 13 → ∀ b, b < 13 → a ≠ b → (TX11 a).2.1 ≠ (TX11 b).2.1 := by decide +kernel
theorem tyX11_ok : ∀ k, k < 13 → parseFieldDescriptor (TX11 k).2.2.1 = some (tyX11 k) := by decide +kernel
def RX12 : String := "ShutPassesModel"
def TX12 : u_T := fun k => match k with
  | 0 => ("ShutPassesModel", "tape", "[I", true)
  | 1 => ("ShutPassesModel", "tapeSize", "I", false)
  | 2 => ("ShutPassesModel", "thrown", "I", false)
  | 3 => ("ShutPassesModel", "words", "[I", true)
  | 4 => ("ShutPassesModel", "fault", "I", false)
  | 5 => ("ShutPassesModel", "faultPlace", "I", false)
  | 6 => ("ShutPassesModel", "stop", "I", false)
  | 7 => ("ShutPassesModel", "next", "I", false)
  | 8 => ("ShutPassesModel", "kind", "I", false)
  | 9 => ("ShutPassesModel", "which", "I", false)
  | 10 => ("ShutPassesModel", "at", "I", false)
  | 11 => ("ShutPassesModel", "many", "[I", true)
  | 12 => ("ShutPassesModel", "placeName", "[I", true)
  | 13 => ("ShutPassesModel", "causeName", "[I", true)
  | 14 => ("ShutPassesModel", "causeOf10", "[I", true)
  | 15 => ("ShutPassesModel", "road", "[I", true)
  | 16 => ("ShutPassesModel", "doubtful", "[I", true)
  | 17 => ("ShutPassesModel", "sight", "[I", true)
  | 18 => ("ShutPassesModel", "word", "[I", true)
  | 19 => ("ShutPassesModel", "spot", "I", false)
  | 20 => ("ShutPassesModel", "seen", "[I", true)
  | 21 => ("ShutPassesModel", "between", "[I", true)
  | 22 => ("ShutPassesModel", "worlds", "I", false)
  | 23 => ("ShutPassesModel", "knowings", "I", false)
  | 24 => ("ShutPassesModel", "three", "[I", true)
  | 25 => ("ShutPassesModel", "turn", "[I", true)
  | 26 => ("ShutPassesModel", "weight", "[J", true)
  | 27 => ("ShutPassesModel", "use", "[J", true)
  | 28 => ("ShutPassesModel", "likely", "[J", true)
  | 29 => ("ShutPassesModel", "far", "[I", true)
  | 30 => ("ShutPassesModel", "value", "[J", true)
  | 31 => ("ShutPassesModel", "act", "[I", true)
  | 32 => ("ShutPassesModel", "isLaid", "[Z", true)
  | 33 => ("ShutPassesModel", "ending", "[J", true)
  | 34 => ("ShutPassesModel", "term", "[J", true)
  | 35 => ("ShutPassesModel", "coming", "[J", true)
  | 36 => ("ShutPassesModel", "isNews", "[Z", true)
  | 37 => ("ShutPassesModel", "bought", "[J", true)
  | 38 => ("ShutPassesModel", "timesHours", "J", false)
  | 39 => ("ShutPassesModel", "timesKnowing", "J", false)
  | 40 => ("ShutPassesModel", "hop", "[I", true)
  | 41 => ("ShutPassesModel", "rowSize", "I", false)
  | 42 => ("ShutPassesModel", "row", "[I", true)
  | 43 => ("ShutPassesModel", "rules", "I", false)
  | 44 => ("ShutPassesModel", "rule", "[I", true)
  | 45 => ("ShutPassesModel", "atPlace", "I", false)
  | 46 => ("ShutPassesModel", "atKnown", "I", false)
  | 47 => ("ShutPassesModel", "atHours", "J", false)
  | 48 => ("ShutPassesModel", "kept", "[I", true)
  | 49 => ("ShutPassesModel", "best", "[I", true)
  | 50 => ("ShutPassesModel", "wentPlace", "[I", true)
  | 51 => ("ShutPassesModel", "wentKnown", "[I", true)
  | 52 => ("ShutPassesModel", "inTime", "[I", true)
  | 53 => ("ShutPassesModel", "doesAt", "[I", true)
  | 54 => ("ShutPassesModel", "walks", "Z", false)
  | 55 => ("ShutPassesModel", "world", "I", false)
  | 56 => ("ShutPassesModel", "steps", "I", false)
  | 57 => ("ShutPassesModel", "walkPlace", "[I", true)
  | 58 => ("ShutPassesModel", "walkHours", "[I", true)
  | _ => ("ShutPassesModel", "walkKnown", "[I", true)
def tyX12 : Nat → FieldType := fun k => match k with
  | 0 => .array .int
  | 1 => .int
  | 2 => .int
  | 3 => .array .int
  | 4 => .int
  | 5 => .int
  | 6 => .int
  | 7 => .int
  | 8 => .int
  | 9 => .int
  | 10 => .int
  | 11 => .array .int
  | 12 => .array .int
  | 13 => .array .int
  | 14 => .array .int
  | 15 => .array .int
  | 16 => .array .int
  | 17 => .array .int
  | 18 => .array .int
  | 19 => .int
  | 20 => .array .int
  | 21 => .array .int
  | 22 => .int
  | 23 => .int
  | 24 => .array .int
  | 25 => .array .int
  | 26 => .array .long
  | 27 => .array .long
  | 28 => .array .long
  | 29 => .array .int
  | 30 => .array .long
  | 31 => .array .int
  | 32 => .array .boolean
  | 33 => .array .long
  | 34 => .array .long
  | 35 => .array .long
  | 36 => .array .boolean
  | 37 => .array .long
  | 38 => .long
  | 39 => .long
  | 40 => .array .int
  | 41 => .int
  | 42 => .array .int
  | 43 => .int
  | 44 => .array .int
  | 45 => .int
  | 46 => .int
  | 47 => .long
  | 48 => .array .int
  | 49 => .array .int
  | 50 => .array .int
  | 51 => .array .int
  | 52 => .array .int
  | 53 => .array .int
  | 54 => .boolean
  | 55 => .int
  | 56 => .int
  | 57 => .array .int
  | 58 => .array .int
  | _ => .array .int
abbrev wsX120 : List Cond := u_ws RX12 TX12 60
theorem nmX12 : ∀ a, a < 60 → ∀ b, b < 60 → a ≠ b → (TX12 a).2.1 ≠ (TX12 b).2.1 := by decide +kernel
theorem tyX12_ok : ∀ k, k < 60 → parseFieldDescriptor (TX12 k).2.2.1 = some (tyX12 k) := by decide +kernel
def RJ6 : String := "java/lang/Integer"
def RJ9 : String := "java/lang/Math"
def RJ0 : String := "java/lang/String"
def RJ1 : String := "java/lang/StringLatin1"
def RJ2 : String := "java/lang/StringUTF16"
def RJ10 : String := "java/lang/System"
def RJ3 : String := "jdk/internal/util/Preconditions"
def RL : String := "ShutPassesLaw"
abbrev cX0_init : ByteArray := prog_2_method_1_code
def yX0_init : MethodName := ⟨RX0, "<init>", "(LShutPasses$Codes;LShutPasses$Plans;LShutPasses$Country;)V"⟩
abbrev cX0_settle : ByteArray := prog_2_method_2_code
def yX0_settle : MethodName := ⟨RX0, "settle", "(LShutPasses$Country;)V"⟩
abbrev cX0_meanWith : ByteArray := prog_2_method_3_code
def yX0_meanWith : MethodName := ⟨RX0, "meanWith", "(I)J"⟩
abbrev cX0_worthOf : ByteArray := prog_2_method_4_code
def yX0_worthOf : MethodName := ⟨RX0, "worthOf", "(I)J"⟩
abbrev cX0_lookAhead : ByteArray := prog_2_method_5_code
def yX0_lookAhead : MethodName := ⟨RX0, "lookAhead", "(II)J"⟩
abbrev cX0_keptOpen : ByteArray := prog_2_method_6_code
def yX0_keptOpen : MethodName := ⟨RX0, "keptOpen", "(I)J"⟩
abbrev cX0_edgeOf : ByteArray := prog_2_method_7_code
def yX0_edgeOf : MethodName := ⟨RX0, "edgeOf", "(I)I"⟩
abbrev cX0_solveTrial : ByteArray := prog_2_method_8_code
def yX0_solveTrial : MethodName := ⟨RX0, "solveTrial", "()V"⟩
abbrev cX0_actsOtherwise : ByteArray := prog_2_method_9_code
def yX0_actsOtherwise : MethodName := ⟨RX0, "actsOtherwise", "()Z"⟩
abbrev cX0_findRow : ByteArray := prog_2_method_10_code
def yX0_findRow : MethodName := ⟨RX0, "findRow", "()V"⟩
abbrev cX0_permute : ByteArray := prog_2_method_11_code
def yX0_permute : MethodName := ⟨RX0, "permute", "([II)Z"⟩
abbrev cX0_swap : ByteArray := prog_2_method_12_code
def yX0_swap : MethodName := ⟨RX0, "swap", "([III)V"⟩
abbrev cX1_init : ByteArray := prog_3_method_1_code
def yX1_init : MethodName := ⟨RX1, "<init>", "(LShutPasses$Codes;LShutPasses$Country;)V"⟩
abbrev cX1_mostBy : ByteArray := prog_3_method_2_code
def yX1_mostBy : MethodName := ⟨RX1, "mostBy", "(ILShutPasses$Country;[J)J"⟩
abbrev cX1_at : ByteArray := prog_3_method_3_code
def yX1_at : MethodName := ⟨RX1, "at", "(II)I"⟩
abbrev cX1_makeRoom : ByteArray := prog_3_method_4_code
def yX1_makeRoom : MethodName := ⟨RX1, "makeRoom", "()V"⟩
abbrev cX1_fill : ByteArray := prog_3_method_5_code
def yX1_fill : MethodName := ⟨RX1, "fill", "([J)V"⟩
abbrev cX1_fillHour : ByteArray := prog_3_method_6_code
def yX1_fillHour : MethodName := ⟨RX1, "fillHour", "(III)V"⟩
abbrev cX1_mostByGoing : ByteArray := prog_3_method_7_code
def yX1_mostByGoing : MethodName := ⟨RX1, "mostByGoing", "(III)I"⟩
abbrev cX1_mostByHearing : ByteArray := prog_3_method_8_code
def yX1_mostByHearing : MethodName := ⟨RX1, "mostByHearing", "(III)I"⟩
abbrev cX1_learnt : ByteArray := prog_3_method_9_code
def yX1_learnt : MethodName := ⟨RX1, "learnt", "(IIII)I"⟩
abbrev cX2_init : ByteArray := prog_4_method_1_code
def yX2_init : MethodName := ⟨RX2, "<init>", "()V"⟩
abbrev cX2_digit : ByteArray := prog_4_method_2_code
def yX2_digit : MethodName := ⟨RX2, "digit", "(II)I"⟩
abbrev cX2_told : ByteArray := prog_4_method_3_code
def yX2_told : MethodName := ⟨RX2, "told", "(II)I"⟩
abbrev cX2_seeing : ByteArray := prog_4_method_4_code
def yX2_seeing : MethodName := ⟨RX2, "seeing", "(III)I"⟩
abbrev cX2_firstMissing : ByteArray := prog_4_method_5_code
def yX2_firstMissing : MethodName := ⟨RX2, "firstMissing", "(II)I"⟩
abbrev cX3_init : ByteArray := prog_5_method_1_code
def yX3_init : MethodName := ⟨RX3, "<init>", "()V"⟩
abbrev cX3_empty : ByteArray := prog_5_method_2_code
def yX3_empty : MethodName := ⟨RX3, "empty", "()V"⟩
abbrev cX3_hasPlace : ByteArray := prog_5_method_3_code
def yX3_hasPlace : MethodName := ⟨RX3, "hasPlace", "(I)Z"⟩
abbrev cX3_hasDoubtful : ByteArray := prog_5_method_4_code
def yX3_hasDoubtful : MethodName := ⟨RX3, "hasDoubtful", "(I)Z"⟩
abbrev cX3_hasWorld : ByteArray := prog_5_method_5_code
def yX3_hasWorld : MethodName := ⟨RX3, "hasWorld", "(I)Z"⟩
abbrev cX3_hasKnown : ByteArray := prog_5_method_6_code
def yX3_hasKnown : MethodName := ⟨RX3, "hasKnown", "(I)Z"⟩
abbrev cX3_hasEnds : ByteArray := prog_5_method_7_code
def yX3_hasEnds : MethodName := ⟨RX3, "hasEnds", "()Z"⟩
abbrev cX3_worlds : ByteArray := prog_5_method_8_code
def yX3_worlds : MethodName := ⟨RX3, "worlds", "()I"⟩
abbrev cX3_knowns : ByteArray := prog_5_method_9_code
def yX3_knowns : MethodName := ⟨RX3, "knowns", "()I"⟩
abbrev cX3_roadFact : ByteArray := prog_5_method_10_code
def yX3_roadFact : MethodName := ⟨RX3, "roadFact", "(II)I"⟩
abbrev cX3_doubtOf : ByteArray := prog_5_method_11_code
def yX3_doubtOf : MethodName := ⟨RX3, "doubtOf", "(I)I"⟩
abbrev cX3_causeOf : ByteArray := prog_5_method_12_code
def yX3_causeOf : MethodName := ⟨RX3, "causeOf", "(I)I"⟩
abbrev cX3_passBetween : ByteArray := prog_5_method_13_code
def yX3_passBetween : MethodName := ⟨RX3, "passBetween", "(IIII)I"⟩
abbrev cX3_fillPasses : ByteArray := prog_5_method_14_code
def yX3_fillPasses : MethodName := ⟨RX3, "fillPasses", "([III)V"⟩
abbrev cX3_addRoad : ByteArray := prog_5_method_15_code
def yX3_addRoad : MethodName := ⟨RX3, "addRoad", "(IIIIII)V"⟩
abbrev cX3_addWord : ByteArray := prog_5_method_16_code
def yX3_addWord : MethodName := ⟨RX3, "addWord", "(III)V"⟩
abbrev cX3_doubtfulBetween : ByteArray := prog_5_method_17_code
def yX3_doubtfulBetween : MethodName := ⟨RX3, "doubtfulBetween", "(II)I"⟩
abbrev cX4_init : ByteArray := prog_6_method_1_code
def yX4_init : MethodName := ⟨RX4, "<init>", "()V"⟩
abbrev cX4_add : ByteArray := prog_6_method_2_code
def yX4_add : MethodName := ⟨RX4, "add", "(IIII)I"⟩
abbrev cX4_pick : ByteArray := prog_6_method_3_code
def yX4_pick : MethodName := ⟨RX4, "pick", "(LShutPasses$Country;LShutPasses$Codes;II)I"⟩
abbrev cX5_init : ByteArray := prog_7_method_1_code
def yX5_init : MethodName := ⟨RX5, "<init>", "(LShutPasses$Codes;)V"⟩
abbrev cX5_setOut : ByteArray := prog_7_method_2_code
def yX5_setOut : MethodName := ⟨RX5, "setOut", "(LShutPasses$Country;I)V"⟩
abbrev cX5_draw : ByteArray := prog_7_method_3_code
def yX5_draw : MethodName := ⟨RX5, "draw", "(LShutPasses$Country;I)I"⟩
abbrev cX5_follow : ByteArray := prog_7_method_4_code
def yX5_follow : MethodName := ⟨RX5, "follow", "(J)J"⟩
abbrev cX5_comes : ByteArray := prog_7_method_5_code
def yX5_comes : MethodName := ⟨RX5, "comes", "(JI)Z"⟩
abbrev cX5_shutBy : ByteArray := prog_7_method_6_code
def yX5_shutBy : MethodName := ⟨RX5, "shutBy", "(LShutPasses$Country;I)I"⟩
abbrev cX5_rests : ByteArray := prog_7_method_7_code
def yX5_rests : MethodName := ⟨RX5, "rests", "(LShutPasses$Country;)Z"⟩
abbrev cX5_travel : ByteArray := prog_7_method_8_code
def yX5_travel : MethodName := ⟨RX5, "travel", "(LShutPasses$Country;I)I"⟩
abbrev cX5_hear : ByteArray := prog_7_method_9_code
def yX5_hear : MethodName := ⟨RX5, "hear", "(LShutPasses$Country;I)I"⟩
abbrev cX5_take : ByteArray := prog_7_method_10_code
def yX5_take : MethodName := ⟨RX5, "take", "(III)V"⟩
abbrev cX5_undo : ByteArray := prog_7_method_11_code
def yX5_undo : MethodName := ⟨RX5, "undo", "()I"⟩
abbrev cX5_tell : ByteArray := prog_7_method_12_code
def yX5_tell : MethodName := ⟨RX5, "tell", "(LShutPasses$Country;I)I"⟩
abbrev cX6_init : ByteArray := prog_8_method_1_code
def yX6_init : MethodName := ⟨RX6, "<init>", "()V"⟩
abbrev cX6_weigh : ByteArray := prog_8_method_2_code
def yX6_weigh : MethodName := ⟨RX6, "weigh", "(LShutPasses$Country;II)V"⟩
abbrev cX6_causeRows : ByteArray := prog_8_method_3_code
def yX6_causeRows : MethodName := ⟨RX6, "causeRows", "(LShutPasses$Country;I)J"⟩
abbrev cX6_roadRows : ByteArray := prog_8_method_4_code
def yX6_roadRows : MethodName := ⟨RX6, "roadRows", "(IZZ)I"⟩
abbrev cX6_keepOpen : ByteArray := prog_8_method_5_code
def yX6_keepOpen : MethodName := ⟨RX6, "keepOpen", "(LShutPasses$Country;I)V"⟩
abbrev cX6_sumUp : ByteArray := prog_8_method_6_code
def yX6_sumUp : MethodName := ⟨RX6, "sumUp", "(LShutPasses$Country;LShutPasses$Codes;)V"⟩
abbrev cX7_init : ByteArray := prog_9_method_1_code
def yX7_init : MethodName := ⟨RX7, "<init>", "(LShutPasses$Codes;LShutPasses$Hand;LShutPasses$Country;)V"⟩
abbrev cX7_settle : ByteArray := prog_9_method_2_code
def yX7_settle : MethodName := ⟨RX7, "settle", "(LShutPasses$Country;)V"⟩
abbrev cX7_inRow : ByteArray := prog_9_method_3_code
def yX7_inRow : MethodName := ⟨RX7, "inRow", "(I)Z"⟩
abbrev cX7_addToRow : ByteArray := prog_9_method_4_code
def yX7_addToRow : MethodName := ⟨RX7, "addToRow", "(I)I"⟩
abbrev cX7_knowingOf : ByteArray := prog_9_method_5_code
def yX7_knowingOf : MethodName := ⟨RX7, "knowingOf", "(I)I"⟩
abbrev cX7_prepare : ByteArray := prog_9_method_6_code
def yX7_prepare : MethodName := ⟨RX7, "prepare", "(I)V"⟩
abbrev cX7_solveFair : ByteArray := prog_9_method_7_code
def yX7_solveFair : MethodName := ⟨RX7, "solveFair", "(I)V"⟩
abbrev cX7_fillEnds : ByteArray := prog_9_method_8_code
def yX7_fillEnds : MethodName := ⟨RX7, "fillEnds", "(III)V"⟩
abbrev cX7_greaterEnd : ByteArray := prog_9_method_9_code
def yX7_greaterEnd : MethodName := ⟨RX7, "greaterEnd", "(II)J"⟩
abbrev cX7_does : ByteArray := prog_9_method_10_code
def yX7_does : MethodName := ⟨RX7, "does", "(III)I"⟩
abbrev cX7_trying : ByteArray := prog_9_method_11_code
def yX7_trying : MethodName := ⟨RX7, "trying", "([IIII)I"⟩
abbrev cX7_hoursIn : ByteArray := prog_9_method_12_code
def yX7_hoursIn : MethodName := ⟨RX7, "hoursIn", "(II)I"⟩
abbrev cX7_meanOf : ByteArray := prog_9_method_13_code
def yX7_meanOf : MethodName := ⟨RX7, "meanOf", "(I)J"⟩
abbrev cX7_worstOf : ByteArray := prog_9_method_14_code
def yX7_worstOf : MethodName := ⟨RX7, "worstOf", "(I)I"⟩
abbrev cX7_gauge : ByteArray := prog_9_method_15_code
def yX7_gauge : MethodName := ⟨RX7, "gauge", "(I)Z"⟩
abbrev cX7_ringPlace : ByteArray := prog_9_method_16_code
def yX7_ringPlace : MethodName := ⟨RX7, "ringPlace", "(I)I"⟩
abbrev cX7_ringIn : ByteArray := prog_9_method_17_code
def yX7_ringIn : MethodName := ⟨RX7, "ringIn", "(II)I"⟩
abbrev cX7_trackedAt : ByteArray := prog_9_method_18_code
def yX7_trackedAt : MethodName := ⟨RX7, "trackedAt", "(III)I"⟩
abbrev cX8_init : ByteArray := prog_10_method_1_code
def yX8_init : MethodName := ⟨RX8, "<init>", "(LShutPasses$Country;)V"⟩
abbrev cX8_read : ByteArray := prog_10_method_2_code
def yX8_read : MethodName := ⟨RX8, "read", "([BILShutPasses$Country;)I"⟩
abbrev cX8_cut : ByteArray := prog_10_method_3_code
def yX8_cut : MethodName := ⟨RX8, "cut", "([BI)V"⟩
abbrev cX8_cutWord : ByteArray := prog_10_method_4_code
def yX8_cutWord : MethodName := ⟨RX8, "cutWord", "([BII)I"⟩
abbrev cX8_cutNumber : ByteArray := prog_10_method_5_code
def yX8_cutNumber : MethodName := ⟨RX8, "cutNumber", "([BII)I"⟩
abbrev cX8_put : ByteArray := prog_10_method_6_code
def yX8_put : MethodName := ⟨RX8, "put", "(III)V"⟩
abbrev cX8_moveTo : ByteArray := prog_10_method_7_code
def yX8_moveTo : MethodName := ⟨RX8, "moveTo", "(I)V"⟩
abbrev cX8_fail : ByteArray := prog_10_method_8_code
def yX8_fail : MethodName := ⟨RX8, "fail", "(I)Z"⟩
abbrev cX8_readPlaces : ByteArray := prog_10_method_9_code
def yX8_readPlaces : MethodName := ⟨RX8, "readPlaces", "()Z"⟩
abbrev cX8_readCause : ByteArray := prog_10_method_10_code
def yX8_readCause : MethodName := ⟨RX8, "readCause", "()Z"⟩
abbrev cX8_readRoad : ByteArray := prog_10_method_11_code
def yX8_readRoad : MethodName := ⟨RX8, "readRoad", "()Z"⟩
abbrev cX8_readDoubts : ByteArray := prog_10_method_12_code
def yX8_readDoubts : MethodName := ⟨RX8, "readDoubts", "(III)Z"⟩
abbrev cX8_readSight : ByteArray := prog_10_method_13_code
def yX8_readSight : MethodName := ⟨RX8, "readSight", "()Z"⟩
abbrev cX8_readInn : ByteArray := prog_10_method_14_code
def yX8_readInn : MethodName := ⟨RX8, "readInn", "()Z"⟩
abbrev cX8_readStart : ByteArray := prog_10_method_15_code
def yX8_readStart : MethodName := ⟨RX8, "readStart", "()Z"⟩
abbrev cX8_readGoal : ByteArray := prog_10_method_16_code
def yX8_readGoal : MethodName := ⟨RX8, "readGoal", "()Z"⟩
abbrev cX8_placeHere : ByteArray := prog_10_method_17_code
def yX8_placeHere : MethodName := ⟨RX8, "placeHere", "()I"⟩
abbrev cX8_takePlace : ByteArray := prog_10_method_18_code
def yX8_takePlace : MethodName := ⟨RX8, "takePlace", "()I"⟩
abbrev cX8_takeCause : ByteArray := prog_10_method_19_code
def yX8_takeCause : MethodName := ⟨RX8, "takeCause", "()I"⟩
abbrev cX8_takeDoubtful : ByteArray := prog_10_method_20_code
def yX8_takeDoubtful : MethodName := ⟨RX8, "takeDoubtful", "()I"⟩
abbrev cX8_takeNumber : ByteArray := prog_10_method_21_code
def yX8_takeNumber : MethodName := ⟨RX8, "takeNumber", "(I)I"⟩
abbrev cX8_numberOf : ByteArray := prog_10_method_22_code
def yX8_numberOf : MethodName := ⟨RX8, "numberOf", "([II)I"⟩
abbrev cX9_init : ByteArray := prog_11_method_1_code
def yX9_init : MethodName := ⟨RX9, "<init>", "(LShutPasses$Codes;LShutPasses$Country;)V"⟩
abbrev cX9_act : ByteArray := prog_11_method_2_code
def yX9_act : MethodName := ⟨RX9, "act", "(II)I"⟩
abbrev cX9_value : ByteArray := prog_11_method_3_code
def yX9_value : MethodName := ⟨RX9, "value", "(II)J"⟩
abbrev cX9_meanFrom : ByteArray := prog_11_method_4_code
def yX9_meanFrom : MethodName := ⟨RX9, "meanFrom", "(II)J"⟩
abbrev cX9_stayEverywhere : ByteArray := prog_11_method_5_code
def yX9_stayEverywhere : MethodName := ⟨RX9, "stayEverywhere", "()V"⟩
abbrev cX9_solve : ByteArray := prog_11_method_6_code
def yX9_solve : MethodName := ⟨RX9, "solve", "(LShutPasses$Country;[JZ[J)V"⟩
abbrev cX9_solveKnown : ByteArray := prog_11_method_7_code
def yX9_solveKnown : MethodName := ⟨RX9, "solveKnown", "(IJ)V"⟩
abbrev cX9_improve : ByteArray := prog_11_method_8_code
def yX9_improve : MethodName := ⟨RX9, "improve", "(II)Z"⟩
abbrev cX9_cost : ByteArray := prog_11_method_9_code
def yX9_cost : MethodName := ⟨RX9, "cost", "(II)J"⟩
abbrev cX9_learnt : ByteArray := prog_11_method_10_code
def yX9_learnt : MethodName := ⟨RX9, "learnt", "(III)J"⟩
abbrev cX10_init : ByteArray := prog_12_method_1_code
def yX10_init : MethodName := ⟨RX10, "<init>", "()V"⟩
abbrev cX10_fill : ByteArray := prog_12_method_2_code
def yX10_fill : MethodName := ⟨RX10, "fill", "(LShutPasses$Country;)V"⟩
abbrev cX10_fillWorld : ByteArray := prog_12_method_3_code
def yX10_fillWorld : MethodName := ⟨RX10, "fillWorld", "(LShutPasses$Country;I)V"⟩
abbrev cX10_shorten : ByteArray := prog_12_method_4_code
def yX10_shorten : MethodName := ⟨RX10, "shorten", "(LShutPasses$Country;II)Z"⟩
abbrev cX11_init : ByteArray := prog_1_method_1_code
def yX11_init : MethodName := ⟨RX11, "<init>", "()V"⟩
abbrev cX11_feed : ByteArray := prog_1_method_2_code
def yX11_feed : MethodName := ⟨RX11, "feed", "(IIIII)I"⟩
abbrev cX11_land : ByteArray := prog_1_method_3_code
def yX11_land : MethodName := ⟨RX11, "land", "(I)I"⟩
abbrev cX11_fault : ByteArray := prog_1_method_4_code
def yX11_fault : MethodName := ⟨RX11, "fault", "(I)I"⟩
abbrev cX11_weight : ByteArray := prog_1_method_6_code
def yX11_weight : MethodName := ⟨RX11, "weight", "(I)J"⟩
abbrev cX11_likely : ByteArray := prog_1_method_7_code
def yX11_likely : MethodName := ⟨RX11, "likely", "(I)J"⟩
abbrev cX11_shut : ByteArray := prog_1_method_8_code
def yX11_shut : MethodName := ⟨RX11, "shut", "(II)J"⟩
abbrev cX11_knowing : ByteArray := prog_1_method_9_code
def yX11_knowing : MethodName := ⟨RX11, "knowing", "(I)I"⟩
abbrev cX11_mean : ByteArray := prog_1_method_10_code
def yX11_mean : MethodName := ⟨RX11, "mean", "(I)J"⟩
abbrev cX11_worst : ByteArray := prog_1_method_11_code
def yX11_worst : MethodName := ⟨RX11, "worst", "(I)I"⟩
abbrev cX11_hours : ByteArray := prog_1_method_12_code
def yX11_hours : MethodName := ⟨RX11, "hours", "(II)I"⟩
abbrev cX11_times : ByteArray := prog_1_method_13_code
def yX11_times : MethodName := ⟨RX11, "times", "(II)I"⟩
abbrev cX11_next : ByteArray := prog_1_method_14_code
def yX11_next : MethodName := ⟨RX11, "next", "(III)I"⟩
abbrev cX11_from : ByteArray := prog_1_method_15_code
def yX11_from : MethodName := ⟨RX11, "from", "(II)J"⟩
abbrev cX11_row : ByteArray := prog_1_method_16_code
def yX11_row : MethodName := ⟨RX11, "row", "(I)I"⟩
abbrev cX11_clear : ByteArray := prog_1_method_17_code
def yX11_clear : MethodName := ⟨RX11, "clear", "()I"⟩
abbrev cX11_rows : ByteArray := prog_1_method_18_code
def yX11_rows : MethodName := ⟨RX11, "rows", "(I)J"⟩
abbrev cX11_rule : ByteArray := prog_1_method_19_code
def yX11_rule : MethodName := ⟨RX11, "rule", "(IIII)I"⟩
abbrev cX11_ring : ByteArray := prog_1_method_20_code
def yX11_ring : MethodName := ⟨RX11, "ring", "(I)I"⟩
abbrev cX11_bell : ByteArray := prog_1_method_21_code
def yX11_bell : MethodName := ⟨RX11, "bell", "(I)J"⟩
abbrev cX11_worth : ByteArray := prog_1_method_22_code
def yX11_worth : MethodName := ⟨RX11, "worth", "(I)J"⟩
abbrev cX11_scout : ByteArray := prog_1_method_23_code
def yX11_scout : MethodName := ⟨RX11, "scout", "(II)J"⟩
abbrev cX11_keep : ByteArray := prog_1_method_24_code
def yX11_keep : MethodName := ⟨RX11, "keep", "(I)J"⟩
abbrev cX11_edge : ByteArray := prog_1_method_25_code
def yX11_edge : MethodName := ⟨RX11, "edge", "(I)I"⟩
abbrev cX11_begin : ByteArray := prog_1_method_26_code
def yX11_begin : MethodName := ⟨RX11, "begin", "(I)Z"⟩
abbrev cX11_go : ByteArray := prog_1_method_27_code
def yX11_go : MethodName := ⟨RX11, "go", "(I)I"⟩
abbrev cX11_buy : ByteArray := prog_1_method_28_code
def yX11_buy : MethodName := ⟨RX11, "buy", "(I)I"⟩
abbrev cX11_back : ByteArray := prog_1_method_29_code
def yX11_back : MethodName := ⟨RX11, "back", "()I"⟩
abbrev cX11_walk : ByteArray := prog_1_method_30_code
def yX11_walk : MethodName := ⟨RX11, "walk", "(I)I"⟩
abbrev cX11_count : ByteArray := prog_1_method_31_code
def yX11_count : MethodName := ⟨RX11, "count", "(I)I"⟩
abbrev cX11_tapeNumber : ByteArray := prog_1_method_32_code
def yX11_tapeNumber : MethodName := ⟨RX11, "tapeNumber", "(I)V"⟩
abbrev cX11_settle : ByteArray := prog_1_method_33_code
def yX11_settle : MethodName := ⟨RX11, "settle", "()V"⟩
abbrev cX11_lacksPlan : ByteArray := prog_1_method_34_code
def yX11_lacksPlan : MethodName := ⟨RX11, "lacksPlan", "(I)Z"⟩
abbrev cX11_isLikely : ByteArray := prog_1_method_35_code
def yX11_isLikely : MethodName := ⟨RX11, "isLikely", "(I)Z"⟩
abbrev cX12_init : ByteArray := prog_14_method_1_code
def yX12_init : MethodName := ⟨RX12, "<init>", "()V"⟩
abbrev cX12_thrown : ByteArray := prog_14_method_2_code
def yX12_thrown : MethodName := ⟨RX12, "thrown", "()I"⟩
abbrev cX12_feed : ByteArray := prog_14_method_3_code
def yX12_feed : MethodName := ⟨RX12, "feed", "(IIIII)I"⟩
abbrev cX12_isIn : ByteArray := prog_14_method_4_code
def yX12_isIn : MethodName := ⟨RX12, "isIn", "(III)Z"⟩
abbrev cX12_wrong : ByteArray := prog_14_method_5_code
def yX12_wrong : MethodName := ⟨RX12, "wrong", "(I)Z"⟩
abbrev cX12_wordAt : ByteArray := prog_14_method_6_code
def yX12_wordAt : MethodName := ⟨RX12, "wordAt", "(II)I"⟩
abbrev cX12_isSmall : ByteArray := prog_14_method_7_code
def yX12_isSmall : MethodName := ⟨RX12, "isSmall", "(I)Z"⟩
abbrev cX12_isDigit : ByteArray := prog_14_method_8_code
def yX12_isDigit : MethodName := ⟨RX12, "isDigit", "(I)Z"⟩
abbrev cX12_take : ByteArray := prog_14_method_9_code
def yX12_take : MethodName := ⟨RX12, "take", "()V"⟩
abbrev cX12_packed : ByteArray := prog_14_method_10_code
def yX12_packed : MethodName := ⟨RX12, "packed", "(II)I"⟩
abbrev cX12_isKey : ByteArray := prog_14_method_11_code
def yX12_isKey : MethodName := ⟨RX12, "isKey", "(I)Z"⟩
abbrev cX12_plain : ByteArray := prog_14_method_12_code
def yX12_plain : MethodName := ⟨RX12, "plain", "()V"⟩
abbrev cX12_numberRead : ByteArray := prog_14_method_13_code
def yX12_numberRead : MethodName := ⟨RX12, "numberRead", "(II)Z"⟩
abbrev cX12_placeOf : ByteArray := prog_14_method_14_code
def yX12_placeOf : MethodName := ⟨RX12, "placeOf", "(I)I"⟩
abbrev cX12_causeBy : ByteArray := prog_14_method_15_code
def yX12_causeBy : MethodName := ⟨RX12, "causeBy", "(I)I"⟩
abbrev cX12_roadBetween : ByteArray := prog_14_method_16_code
def yX12_roadBetween : MethodName := ⟨RX12, "roadBetween", "(II)I"⟩
abbrev cX12_spotRead : ByteArray := prog_14_method_17_code
def yX12_spotRead : MethodName := ⟨RX12, "spotRead", "()Z"⟩
abbrev cX12_placesRead : ByteArray := prog_14_method_18_code
def yX12_placesRead : MethodName := ⟨RX12, "placesRead", "()Z"⟩
abbrev cX12_causeRead : ByteArray := prog_14_method_19_code
def yX12_causeRead : MethodName := ⟨RX12, "causeRead", "()Z"⟩
abbrev cX12_isDoubtRoom : ByteArray := prog_14_method_20_code
def yX12_isDoubtRoom : MethodName := ⟨RX12, "isDoubtRoom", "()Z"⟩
abbrev cX12_roadRead : ByteArray := prog_14_method_21_code
def yX12_roadRead : MethodName := ⟨RX12, "roadRead", "()Z"⟩
abbrev cX12_seenRead : ByteArray := prog_14_method_22_code
def yX12_seenRead : MethodName := ⟨RX12, "seenRead", "()I"⟩
abbrev cX12_seesRead : ByteArray := prog_14_method_23_code
def yX12_seesRead : MethodName := ⟨RX12, "seesRead", "()Z"⟩
abbrev cX12_innRead : ByteArray := prog_14_method_24_code
def yX12_innRead : MethodName := ⟨RX12, "innRead", "()Z"⟩
abbrev cX12_endRead : ByteArray := prog_14_method_25_code
def yX12_endRead : MethodName := ⟨RX12, "endRead", "(I)Z"⟩
abbrev cX12_lineRead : ByteArray := prog_14_method_26_code
def yX12_lineRead : MethodName := ⟨RX12, "lineRead", "()Z"⟩
abbrev cX12_land : ByteArray := prog_14_method_27_code
def yX12_land : MethodName := ⟨RX12, "land", "(I)I"⟩
abbrev cX12_fault : ByteArray := prog_14_method_28_code
def yX12_fault : MethodName := ⟨RX12, "fault", "(I)I"⟩
abbrev cX12_places : ByteArray := prog_14_method_29_code
def yX12_places : MethodName := ⟨RX12, "places", "()I"⟩
abbrev cX12_doubts : ByteArray := prog_14_method_30_code
def yX12_doubts : MethodName := ⟨RX12, "doubts", "()I"⟩
abbrev cX12_keep : ByteArray := prog_14_method_31_code
def yX12_keep : MethodName := ⟨RX12, "keep", "()V"⟩
abbrev cX12_digit : ByteArray := prog_14_method_32_code
def yX12_digit : MethodName := ⟨RX12, "digit", "(II)I"⟩
abbrev cX12_openIn : ByteArray := prog_14_method_33_code
def yX12_openIn : MethodName := ⟨RX12, "openIn", "(I)I"⟩
abbrev cX12_layUse : ByteArray := prog_14_method_34_code
def yX12_layUse : MethodName := ⟨RX12, "layUse", "(II)V"⟩
abbrev cX12_layWeights : ByteArray := prog_14_method_35_code
def yX12_layWeights : MethodName := ⟨RX12, "layWeights", "()V"⟩
abbrev cX12_useAsTold : ByteArray := prog_14_method_36_code
def yX12_useAsTold : MethodName := ⟨RX12, "useAsTold", "()V"⟩
abbrev cX12_unknownIn : ByteArray := prog_14_method_37_code
def yX12_unknownIn : MethodName := ⟨RX12, "unknownIn", "(I)I"⟩
abbrev cX12_worldOf : ByteArray := prog_14_method_38_code
def yX12_worldOf : MethodName := ⟨RX12, "worldOf", "(I)I"⟩
abbrev cX12_layLikely : ByteArray := prog_14_method_39_code
def yX12_layLikely : MethodName := ⟨RX12, "layLikely", "()V"⟩
abbrev cX12_isWorld : ByteArray := prog_14_method_40_code
def yX12_isWorld : MethodName := ⟨RX12, "isWorld", "(I)Z"⟩
abbrev cX12_isKnowing : ByteArray := prog_14_method_41_code
def yX12_isKnowing : MethodName := ⟨RX12, "isKnowing", "(I)Z"⟩
abbrev cX12_isDoubtful : ByteArray := prog_14_method_42_code
def yX12_isDoubtful : MethodName := ⟨RX12, "isDoubtful", "(I)Z"⟩
abbrev cX12_isPlace : ByteArray := prog_14_method_43_code
def yX12_isPlace : MethodName := ⟨RX12, "isPlace", "(I)Z"⟩
abbrev cX12_weight : ByteArray := prog_14_method_44_code
def yX12_weight : MethodName := ⟨RX12, "weight", "(I)J"⟩
abbrev cX12_likely : ByteArray := prog_14_method_45_code
def yX12_likely : MethodName := ⟨RX12, "likely", "(I)J"⟩
abbrev cX12_shut : ByteArray := prog_14_method_46_code
def yX12_shut : MethodName := ⟨RX12, "shut", "(II)J"⟩
abbrev cX12_fails : ByteArray := prog_14_method_47_code
def yX12_fails : MethodName := ⟨RX12, "fails", "(I)I"⟩
abbrev cX12_look : ByteArray := prog_14_method_48_code
def yX12_look : MethodName := ⟨RX12, "look", "(II)I"⟩
abbrev cX12_hasEnds : ByteArray := prog_14_method_49_code
def yX12_hasEnds : MethodName := ⟨RX12, "hasEnds", "()Z"⟩
abbrev cX12_hoursOf : ByteArray := prog_14_method_50_code
def yX12_hoursOf : MethodName := ⟨RX12, "hoursOf", "(II)I"⟩
abbrev cX12_hoursAs : ByteArray := prog_14_method_51_code
def yX12_hoursAs : MethodName := ⟨RX12, "hoursAs", "(III)I"⟩
abbrev cX12_layFar : ByteArray := prog_14_method_52_code
def yX12_layFar : MethodName := ⟨RX12, "layFar", "(II)V"⟩
abbrev cX12_fullOf : ByteArray := prog_14_method_53_code
def yX12_fullOf : MethodName := ⟨RX12, "fullOf", "(I)I"⟩
abbrev cX12_knowingOf : ByteArray := prog_14_method_54_code
def yX12_knowingOf : MethodName := ⟨RX12, "knowingOf", "(I)I"⟩
abbrev cX12_knowing : ByteArray := prog_14_method_55_code
def yX12_knowing : MethodName := ⟨RX12, "knowing", "(I)I"⟩
abbrev cX12_isSeen : ByteArray := prog_14_method_56_code
def yX12_isSeen : MethodName := ⟨RX12, "isSeen", "(II)Z"⟩
abbrev cX12_arrives : ByteArray := prog_14_method_57_code
def yX12_arrives : MethodName := ⟨RX12, "arrives", "(IZII)J"⟩
abbrev cX12_buys : ByteArray := prog_14_method_58_code
def yX12_buys : MethodName := ⟨RX12, "buys", "(IZII)J"⟩
abbrev cX12_layTerm : ByteArray := prog_14_method_59_code
def yX12_layTerm : MethodName := ⟨RX12, "layTerm", "()V"⟩
abbrev cX12_isSold : ByteArray := prog_14_method_60_code
def yX12_isSold : MethodName := ⟨RX12, "isSold", "(III)Z"⟩
abbrev cX12_after : ByteArray := prog_14_method_61_code
def yX12_after : MethodName := ⟨RX12, "after", "(JIJ)J"⟩
abbrev cX12_layValues : ByteArray := prog_14_method_62_code
def yX12_layValues : MethodName := ⟨RX12, "layValues", "(IZ)V"⟩
abbrev cX12_layOne : ByteArray := prog_14_method_63_code
def yX12_layOne : MethodName := ⟨RX12, "layOne", "(IZI)V"⟩
abbrev cX12_goes : ByteArray := prog_14_method_64_code
def yX12_goes : MethodName := ⟨RX12, "goes", "(IJIII)J"⟩
abbrev cX12_least : ByteArray := prog_14_method_65_code
def yX12_least : MethodName := ⟨RX12, "least", "(IJII)J"⟩
abbrev cX12_firstOf : ByteArray := prog_14_method_66_code
def yX12_firstOf : MethodName := ⟨RX12, "firstOf", "(IJII)I"⟩
abbrev cX12_layBest : ByteArray := prog_14_method_67_code
def yX12_layBest : MethodName := ⟨RX12, "layBest", "()V"⟩
abbrev cX12_laySure : ByteArray := prog_14_method_68_code
def yX12_laySure : MethodName := ⟨RX12, "laySure", "()V"⟩
abbrev cX12_layPlan : ByteArray := prog_14_method_69_code
def yX12_layPlan : MethodName := ⟨RX12, "layPlan", "(I)V"⟩
abbrev cX12_layTimes : ByteArray := prog_14_method_70_code
def yX12_layTimes : MethodName := ⟨RX12, "layTimes", "(I)Z"⟩
abbrev cX12_layFair : ByteArray := prog_14_method_71_code
def yX12_layFair : MethodName := ⟨RX12, "layFair", "()V"⟩
abbrev cX12_layLimits : ByteArray := prog_14_method_72_code
def yX12_layLimits : MethodName := ⟨RX12, "layLimits", "(JJZ)V"⟩
abbrev cX12_hopAt : ByteArray := prog_14_method_73_code
def yX12_hopAt : MethodName := ⟨RX12, "hopAt", "(III)I"⟩
abbrev cX12_firstUnknown : ByteArray := prog_14_method_74_code
def yX12_firstUnknown : MethodName := ⟨RX12, "firstUnknown", "(I)I"⟩
abbrev cX12_byHand : ByteArray := prog_14_method_75_code
def yX12_byHand : MethodName := ⟨RX12, "byHand", "(II)I"⟩
abbrev cX12_actOf : ByteArray := prog_14_method_76_code
def yX12_actOf : MethodName := ⟨RX12, "actOf", "(III)I"⟩
abbrev cX12_learns : ByteArray := prog_14_method_77_code
def yX12_learns : MethodName := ⟨RX12, "learns", "(III)I"⟩
abbrev cX12_moves : ByteArray := prog_14_method_78_code
def yX12_moves : MethodName := ⟨RX12, "moves", "(II)Z"⟩
abbrev cX12_setsOut : ByteArray := prog_14_method_79_code
def yX12_setsOut : MethodName := ⟨RX12, "setsOut", "(I)V"⟩
abbrev cX12_hoursIn : ByteArray := prog_14_method_80_code
def yX12_hoursIn : MethodName := ⟨RX12, "hoursIn", "(II)J"⟩
abbrev cX12_isPlan : ByteArray := prog_14_method_81_code
def yX12_isPlan : MethodName := ⟨RX12, "isPlan", "(I)Z"⟩
abbrev cX12_meanOf : ByteArray := prog_14_method_82_code
def yX12_meanOf : MethodName := ⟨RX12, "meanOf", "(I)J"⟩
abbrev cX12_mean : ByteArray := prog_14_method_83_code
def yX12_mean : MethodName := ⟨RX12, "mean", "(I)J"⟩
abbrev cX12_worst : ByteArray := prog_14_method_84_code
def yX12_worst : MethodName := ⟨RX12, "worst", "(I)I"⟩
abbrev cX12_hours : ByteArray := prog_14_method_85_code
def yX12_hours : MethodName := ⟨RX12, "hours", "(II)I"⟩
abbrev cX12_times : ByteArray := prog_14_method_86_code
def yX12_times : MethodName := ⟨RX12, "times", "(II)I"⟩
abbrev cX12_next : ByteArray := prog_14_method_87_code
def yX12_next : MethodName := ⟨RX12, "next", "(III)I"⟩
abbrev cX12_told : ByteArray := prog_14_method_88_code
def yX12_told : MethodName := ⟨RX12, "told", "(J)J"⟩
abbrev cX12_from : ByteArray := prog_14_method_89_code
def yX12_from : MethodName := ⟨RX12, "from", "(II)J"⟩
abbrev cX12_row : ByteArray := prog_14_method_90_code
def yX12_row : MethodName := ⟨RX12, "row", "(I)I"⟩
abbrev cX12_clear : ByteArray := prog_14_method_91_code
def yX12_clear : MethodName := ⟨RX12, "clear", "()I"⟩
abbrev cX12_nextRow : ByteArray := prog_14_method_92_code
def yX12_nextRow : MethodName := ⟨RX12, "nextRow", "()Z"⟩
abbrev cX12_swap : ByteArray := prog_14_method_93_code
def yX12_swap : MethodName := ⟨RX12, "swap", "(II)V"⟩
abbrev cX12_rows : ByteArray := prog_14_method_94_code
def yX12_rows : MethodName := ⟨RX12, "rows", "(I)J"⟩
abbrev cX12_rule : ByteArray := prog_14_method_95_code
def yX12_rule : MethodName := ⟨RX12, "rule", "(IIII)I"⟩
abbrev cX12_ring : ByteArray := prog_14_method_96_code
def yX12_ring : MethodName := ⟨RX12, "ring", "(I)I"⟩
abbrev cX12_ringIn : ByteArray := prog_14_method_97_code
def yX12_ringIn : MethodName := ⟨RX12, "ringIn", "(II)I"⟩
abbrev cX12_bell : ByteArray := prog_14_method_98_code
def yX12_bell : MethodName := ⟨RX12, "bell", "(I)J"⟩
abbrev cX12_layBell : ByteArray := prog_14_method_99_code
def yX12_layBell : MethodName := ⟨RX12, "layBell", "(II)V"⟩
abbrev cX12_bestInTime : ByteArray := prog_14_method_100_code
def yX12_bestInTime : MethodName := ⟨RX12, "bestInTime", "(III)I"⟩
abbrev cX12_comesInTime : ByteArray := prog_14_method_101_code
def yX12_comesInTime : MethodName := ⟨RX12, "comesInTime", "(III)I"⟩
abbrev cX12_knowingSome : ByteArray := prog_14_method_102_code
def yX12_knowingSome : MethodName := ⟨RX12, "knowingSome", "(I)J"⟩
abbrev cX12_worth : ByteArray := prog_14_method_103_code
def yX12_worth : MethodName := ⟨RX12, "worth", "(I)J"⟩
abbrev cX12_scout : ByteArray := prog_14_method_104_code
def yX12_scout : MethodName := ⟨RX12, "scout", "(II)J"⟩
abbrev cX12_keep_ : ByteArray := prog_14_method_105_code
def yX12_keep_ : MethodName := ⟨RX12, "keep", "(I)J"⟩
abbrev cX12_edge : ByteArray := prog_14_method_106_code
def yX12_edge : MethodName := ⟨RX12, "edge", "(I)I"⟩
abbrev cX12_begin : ByteArray := prog_14_method_107_code
def yX12_begin : MethodName := ⟨RX12, "begin", "(I)Z"⟩
abbrev cX12_canWalk : ByteArray := prog_14_method_108_code
def yX12_canWalk : MethodName := ⟨RX12, "canWalk", "()Z"⟩
abbrev cX12_go : ByteArray := prog_14_method_109_code
def yX12_go : MethodName := ⟨RX12, "go", "(I)I"⟩
abbrev cX12_buy : ByteArray := prog_14_method_110_code
def yX12_buy : MethodName := ⟨RX12, "buy", "(I)I"⟩
abbrev cX12_back : ByteArray := prog_14_method_111_code
def yX12_back : MethodName := ⟨RX12, "back", "()I"⟩
abbrev cX12_walk : ByteArray := prog_14_method_112_code
def yX12_walk : MethodName := ⟨RX12, "walk", "(I)I"⟩
abbrev cX12_count : ByteArray := prog_14_method_113_code
def yX12_count : MethodName := ⟨RX12, "count", "(I)I"⟩
abbrev cJ6_bitCount_0f7a4 : ByteArray := prog_20_method_49_code
def yJ6_bitCount_0f7a4 : MethodName := ⟨RJ6, "bitCount", "(I)I"⟩
abbrev vwCl : List vw_C := [(RX0, TX0, 11), (RX1, TX1, 6), (RX2, TX2, 3), (RX3, TX3, 16), (RX4, TX4, 5), (RX5, TX5, 7), (RX6, TX6, 2), (RX7, TX7, 17), (RX8, TX8, 13), (RX9, TX9, 7), (RX10, TX10, 3), (RX11, TX11, 13), (RX12, TX12, 60)]
