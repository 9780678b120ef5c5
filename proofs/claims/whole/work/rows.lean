section
-- ===== PART A: goes FIRST, ahead of the names: the tables' words, and 'selects' of the private methods out of them =====
/-- a private method of a class that the tables say can be made, by its rows of tables_1 -/
def lw_okq (q : MethodName × Nat) : Prop := (q.1.cls ≠ "java/lang/invoke/MethodHandle" ∧ q.1.cls ≠ "java/lang/invoke/VarHandle") ∧ Cond.instantiable q.1.cls q.2 ∈ tables_1 ∧ Cond.privateMethod q.1 ∈ tables_1 ∧ Cond.instanceMethod q.1 ∈ tables_1
theorem lw_p0 : lw_okq (⟨"TuneBench", "refuse", "(I)Z"⟩, 10) := ⟨⟨by decide +kernel, by decide +kernel⟩, List.mem_of_getElem? (i := 15) (by decide +kernel), List.mem_of_getElem? (i := 199) (by decide +kernel), List.mem_of_getElem? (i := 200) (by decide +kernel)⟩
theorem lw_p1 : lw_okq (⟨"TuneBench", "putMade", "(I)Z"⟩, 10) := ⟨⟨by decide +kernel, by decide +kernel⟩, List.mem_of_getElem? (i := 15) (by decide +kernel), List.mem_of_getElem? (i := 203) (by decide +kernel), List.mem_of_getElem? (i := 204) (by decide +kernel)⟩
theorem lw_p2 : lw_okq (⟨"TuneBench", "accept", "()Z"⟩, 10) := ⟨⟨by decide +kernel, by decide +kernel⟩, List.mem_of_getElem? (i := 15) (by decide +kernel), List.mem_of_getElem? (i := 216) (by decide +kernel), List.mem_of_getElem? (i := 217) (by decide +kernel)⟩
theorem lw_p3 : lw_okq (⟨"TuneBench$Natural", "settle", "()V"⟩, 3) := ⟨⟨by decide +kernel, by decide +kernel⟩, List.mem_of_getElem? (i := 31) (by decide +kernel), List.mem_of_getElem? (i := 256) (by decide +kernel), List.mem_of_getElem? (i := 257) (by decide +kernel)⟩
theorem lw_p4 : lw_okq (⟨"TuneBench$Sizes", "foldBetween", "([I[III[I)Z"⟩, 3) := ⟨⟨by decide +kernel, by decide +kernel⟩, List.mem_of_getElem? (i := 25) (by decide +kernel), List.mem_of_getElem? (i := 279) (by decide +kernel), List.mem_of_getElem? (i := 280) (by decide +kernel)⟩
theorem lw_p5 : lw_okq (⟨"TuneBench", "faultOf", "(I)I"⟩, 10) := ⟨⟨by decide +kernel, by decide +kernel⟩, List.mem_of_getElem? (i := 15) (by decide +kernel), List.mem_of_getElem? (i := 289) (by decide +kernel), List.mem_of_getElem? (i := 290) (by decide +kernel)⟩
theorem lw_p6 : lw_okq (⟨"TuneBench", "none", "(I)I"⟩, 10) := ⟨⟨by decide +kernel, by decide +kernel⟩, List.mem_of_getElem? (i := 15) (by decide +kernel), List.mem_of_getElem? (i := 297) (by decide +kernel), List.mem_of_getElem? (i := 298) (by decide +kernel)⟩
theorem lw_p7 : lw_okq (⟨"TuneBench", "answer", "(I)I"⟩, 10) := ⟨⟨by decide +kernel, by decide +kernel⟩, List.mem_of_getElem? (i := 15) (by decide +kernel), List.mem_of_getElem? (i := 304) (by decide +kernel), List.mem_of_getElem? (i := 305) (by decide +kernel)⟩
theorem lw_p8 : lw_okq (⟨"TuneBench$Commas", "fillTable", "()V"⟩, 4) := ⟨⟨by decide +kernel, by decide +kernel⟩, List.mem_of_getElem? (i := 60) (by decide +kernel), List.mem_of_getElem? (i := 381) (by decide +kernel), List.mem_of_getElem? (i := 382) (by decide +kernel)⟩
theorem lw_p9 : lw_okq (⟨"TuneBench$Commas", "eliminate", "(II)I"⟩, 4) := ⟨⟨by decide +kernel, by decide +kernel⟩, List.mem_of_getElem? (i := 60) (by decide +kernel), List.mem_of_getElem? (i := 385) (by decide +kernel), List.mem_of_getElem? (i := 386) (by decide +kernel)⟩
theorem lw_p10 : lw_okq (⟨"TuneBench$Commas", "raisePivot", "(III)Z"⟩, 4) := ⟨⟨by decide +kernel, by decide +kernel⟩, List.mem_of_getElem? (i := 60) (by decide +kernel), List.mem_of_getElem? (i := 389) (by decide +kernel), List.mem_of_getElem? (i := 390) (by decide +kernel)⟩
theorem lw_p11 : lw_okq (⟨"TuneBench$Commas", "reduceLine", "([J[JII)V"⟩, 4) := ⟨⟨by decide +kernel, by decide +kernel⟩, List.mem_of_getElem? (i := 60) (by decide +kernel), List.mem_of_getElem? (i := 393) (by decide +kernel), List.mem_of_getElem? (i := 394) (by decide +kernel)⟩
theorem lw_p12 : lw_okq (⟨"TuneBench$Commas", "determinant", "(III)J"⟩, 4) := ⟨⟨by decide +kernel, by decide +kernel⟩, List.mem_of_getElem? (i := 60) (by decide +kernel), List.mem_of_getElem? (i := 412) (by decide +kernel), List.mem_of_getElem? (i := 413) (by decide +kernel)⟩
theorem lw_p13 : lw_okq (⟨"TuneBench$Commas", "isSupportedBy", "(I)Z"⟩, 4) := ⟨⟨by decide +kernel, by decide +kernel⟩, List.mem_of_getElem? (i := 60) (by decide +kernel), List.mem_of_getElem? (i := 434) (by decide +kernel), List.mem_of_getElem? (i := 435) (by decide +kernel)⟩
theorem lw_p14 : lw_okq (⟨"TuneBench$Scale", "takeComing", "()V"⟩, 9) := ⟨⟨by decide +kernel, by decide +kernel⟩, List.mem_of_getElem? (i := 84) (by decide +kernel), List.mem_of_getElem? (i := 497) (by decide +kernel), List.mem_of_getElem? (i := 498) (by decide +kernel)⟩
theorem lw_p15 : lw_okq (⟨"TuneBench$Scale", "readStep", "(II[I)V"⟩, 9) := ⟨⟨by decide +kernel, by decide +kernel⟩, List.mem_of_getElem? (i := 84) (by decide +kernel), List.mem_of_getElem? (i := 521) (by decide +kernel), List.mem_of_getElem? (i := 522) (by decide +kernel)⟩
def lw_privs_1 : List (MethodName × Nat) := [(⟨"TuneBench", "refuse", "(I)Z"⟩, 10), (⟨"TuneBench", "putMade", "(I)Z"⟩, 10), (⟨"TuneBench", "accept", "()Z"⟩, 10), (⟨"TuneBench$Natural", "settle", "()V"⟩, 3), (⟨"TuneBench$Sizes", "foldBetween", "([I[III[I)Z"⟩, 3), (⟨"TuneBench", "faultOf", "(I)I"⟩, 10), (⟨"TuneBench", "none", "(I)I"⟩, 10), (⟨"TuneBench", "answer", "(I)I"⟩, 10), (⟨"TuneBench$Commas", "fillTable", "()V"⟩, 4), (⟨"TuneBench$Commas", "eliminate", "(II)I"⟩, 4), (⟨"TuneBench$Commas", "raisePivot", "(III)Z"⟩, 4), (⟨"TuneBench$Commas", "reduceLine", "([J[JII)V"⟩, 4), (⟨"TuneBench$Commas", "determinant", "(III)J"⟩, 4), (⟨"TuneBench$Commas", "isSupportedBy", "(I)Z"⟩, 4), (⟨"TuneBench$Scale", "takeComing", "()V"⟩, 9), (⟨"TuneBench$Scale", "readStep", "(II[I)V"⟩, 9)]
theorem lw_r1 : ∀ q ∈ lw_privs_1, lw_okq q := List.forall_mem_cons.mpr ⟨lw_p0, List.forall_mem_cons.mpr ⟨lw_p1, List.forall_mem_cons.mpr ⟨lw_p2, List.forall_mem_cons.mpr ⟨lw_p3, List.forall_mem_cons.mpr ⟨lw_p4, List.forall_mem_cons.mpr ⟨lw_p5, List.forall_mem_cons.mpr ⟨lw_p6, List.forall_mem_cons.mpr ⟨lw_p7, List.forall_mem_cons.mpr ⟨lw_p8, List.forall_mem_cons.mpr ⟨lw_p9, List.forall_mem_cons.mpr ⟨lw_p10, List.forall_mem_cons.mpr ⟨lw_p11, List.forall_mem_cons.mpr ⟨lw_p12, List.forall_mem_cons.mpr ⟨lw_p13, List.forall_mem_cons.mpr ⟨lw_p14, List.forall_mem_cons.mpr ⟨lw_p15, fun _ h => absurd h List.not_mem_nil⟩⟩⟩⟩⟩⟩⟩⟩⟩⟩⟩⟩⟩⟩⟩⟩
theorem lw_p16 : lw_okq (⟨"TuneBench$Scale", "allReach", "(II)Z"⟩, 9) := ⟨⟨by decide +kernel, by decide +kernel⟩, List.mem_of_getElem? (i := 84) (by decide +kernel), List.mem_of_getElem? (i := 535) (by decide +kernel), List.mem_of_getElem? (i := 536) (by decide +kernel)⟩
theorem lw_p17 : lw_okq (⟨"TuneBench$Scale", "findHighest", "(I)V"⟩, 9) := ⟨⟨by decide +kernel, by decide +kernel⟩, List.mem_of_getElem? (i := 84) (by decide +kernel), List.mem_of_getElem? (i := 540) (by decide +kernel), List.mem_of_getElem? (i := 541) (by decide +kernel)⟩
theorem lw_p18 : lw_okq (⟨"TuneBench$Scale", "swapKinds", "(II)V"⟩, 9) := ⟨⟨by decide +kernel, by decide +kernel⟩, List.mem_of_getElem? (i := 84) (by decide +kernel), List.mem_of_getElem? (i := 557) (by decide +kernel), List.mem_of_getElem? (i := 558) (by decide +kernel)⟩
theorem lw_p19 : lw_okq (⟨"TuneBench$Measure", "firstBelowOne", "()I"⟩, 4) := ⟨⟨by decide +kernel, by decide +kernel⟩, List.mem_of_getElem? (i := 138) (by decide +kernel), List.mem_of_getElem? (i := 588) (by decide +kernel), List.mem_of_getElem? (i := 589) (by decide +kernel)⟩
theorem lw_p20 : lw_okq (⟨"TuneBench$Measure", "stays", "(I)Z"⟩, 4) := ⟨⟨by decide +kernel, by decide +kernel⟩, List.mem_of_getElem? (i := 138) (by decide +kernel), List.mem_of_getElem? (i := 592) (by decide +kernel), List.mem_of_getElem? (i := 593) (by decide +kernel)⟩
theorem lw_p21 : lw_okq (⟨"TuneBenchModel", "refuse", "(I)Z"⟩, 25) := ⟨⟨by decide +kernel, by decide +kernel⟩, List.mem_of_getElem? (i := 600) (by decide +kernel), List.mem_of_getElem? (i := 693) (by decide +kernel), List.mem_of_getElem? (i := 694) (by decide +kernel)⟩
theorem lw_p22 : lw_okq (⟨"TuneBenchModel", "comes", "(I)Z"⟩, 25) := ⟨⟨by decide +kernel, by decide +kernel⟩, List.mem_of_getElem? (i := 600) (by decide +kernel), List.mem_of_getElem? (i := 697) (by decide +kernel), List.mem_of_getElem? (i := 698) (by decide +kernel)⟩
theorem lw_p23 : lw_okq (⟨"TuneBenchModel", "isFar", "()Z"⟩, 25) := ⟨⟨by decide +kernel, by decide +kernel⟩, List.mem_of_getElem? (i := 600) (by decide +kernel), List.mem_of_getElem? (i := 701) (by decide +kernel), List.mem_of_getElem? (i := 702) (by decide +kernel)⟩
theorem lw_p24 : lw_okq (⟨"TuneBenchModel", "give", "([II)V"⟩, 25) := ⟨⟨by decide +kernel, by decide +kernel⟩, List.mem_of_getElem? (i := 600) (by decide +kernel), List.mem_of_getElem? (i := 705) (by decide +kernel), List.mem_of_getElem? (i := 706) (by decide +kernel)⟩
theorem lw_p25 : lw_okq (⟨"TuneBenchModel", "hold", "([II)V"⟩, 25) := ⟨⟨by decide +kernel, by decide +kernel⟩, List.mem_of_getElem? (i := 600) (by decide +kernel), List.mem_of_getElem? (i := 721) (by decide +kernel), List.mem_of_getElem? (i := 722) (by decide +kernel)⟩
theorem lw_p26 : lw_okq (⟨"TuneBenchModel", "isPeriod", "(I)Z"⟩, 25) := ⟨⟨by decide +kernel, by decide +kernel⟩, List.mem_of_getElem? (i := 600) (by decide +kernel), List.mem_of_getElem? (i := 729) (by decide +kernel), List.mem_of_getElem? (i := 730) (by decide +kernel)⟩
theorem lw_p27 : lw_okq (⟨"TuneBenchModel", "sign", "()I"⟩, 25) := ⟨⟨by decide +kernel, by decide +kernel⟩, List.mem_of_getElem? (i := 600) (by decide +kernel), List.mem_of_getElem? (i := 733) (by decide +kernel), List.mem_of_getElem? (i := 734) (by decide +kernel)⟩
theorem lw_p28 : lw_okq (⟨"TuneBenchModel", "products", "()V"⟩, 25) := ⟨⟨by decide +kernel, by decide +kernel⟩, List.mem_of_getElem? (i := 600) (by decide +kernel), List.mem_of_getElem? (i := 737) (by decide +kernel), List.mem_of_getElem? (i := 738) (by decide +kernel)⟩
theorem lw_p29 : lw_okq (⟨"TuneBenchModel", "set6", "([I[II)V"⟩, 25) := ⟨⟨by decide +kernel, by decide +kernel⟩, List.mem_of_getElem? (i := 600) (by decide +kernel), List.mem_of_getElem? (i := 745) (by decide +kernel), List.mem_of_getElem? (i := 746) (by decide +kernel)⟩
theorem lw_p30 : lw_okq (⟨"TuneBenchModel", "folds", "()Z"⟩, 25) := ⟨⟨by decide +kernel, by decide +kernel⟩, List.mem_of_getElem? (i := 600) (by decide +kernel), List.mem_of_getElem? (i := 749) (by decide +kernel), List.mem_of_getElem? (i := 750) (by decide +kernel)⟩
theorem lw_p31 : lw_okq (⟨"TuneBenchModel", "powered", "(I)V"⟩, 25) := ⟨⟨by decide +kernel, by decide +kernel⟩, List.mem_of_getElem? (i := 600) (by decide +kernel), List.mem_of_getElem? (i := 756) (by decide +kernel), List.mem_of_getElem? (i := 757) (by decide +kernel)⟩
def lw_privs_2 : List (MethodName × Nat) := [(⟨"TuneBench$Scale", "allReach", "(II)Z"⟩, 9), (⟨"TuneBench$Scale", "findHighest", "(I)V"⟩, 9), (⟨"TuneBench$Scale", "swapKinds", "(II)V"⟩, 9), (⟨"TuneBench$Measure", "firstBelowOne", "()I"⟩, 4), (⟨"TuneBench$Measure", "stays", "(I)Z"⟩, 4), (⟨"TuneBenchModel", "refuse", "(I)Z"⟩, 25), (⟨"TuneBenchModel", "comes", "(I)Z"⟩, 25), (⟨"TuneBenchModel", "isFar", "()Z"⟩, 25), (⟨"TuneBenchModel", "give", "([II)V"⟩, 25), (⟨"TuneBenchModel", "hold", "([II)V"⟩, 25), (⟨"TuneBenchModel", "isPeriod", "(I)Z"⟩, 25), (⟨"TuneBenchModel", "sign", "()I"⟩, 25), (⟨"TuneBenchModel", "products", "()V"⟩, 25), (⟨"TuneBenchModel", "set6", "([I[II)V"⟩, 25), (⟨"TuneBenchModel", "folds", "()Z"⟩, 25), (⟨"TuneBenchModel", "powered", "(I)V"⟩, 25)]
theorem lw_r2 : ∀ q ∈ lw_privs_2, lw_okq q := List.forall_mem_cons.mpr ⟨lw_p16, List.forall_mem_cons.mpr ⟨lw_p17, List.forall_mem_cons.mpr ⟨lw_p18, List.forall_mem_cons.mpr ⟨lw_p19, List.forall_mem_cons.mpr ⟨lw_p20, List.forall_mem_cons.mpr ⟨lw_p21, List.forall_mem_cons.mpr ⟨lw_p22, List.forall_mem_cons.mpr ⟨lw_p23, List.forall_mem_cons.mpr ⟨lw_p24, List.forall_mem_cons.mpr ⟨lw_p25, List.forall_mem_cons.mpr ⟨lw_p26, List.forall_mem_cons.mpr ⟨lw_p27, List.forall_mem_cons.mpr ⟨lw_p28, List.forall_mem_cons.mpr ⟨lw_p29, List.forall_mem_cons.mpr ⟨lw_p30, List.forall_mem_cons.mpr ⟨lw_p31, fun _ h => absurd h List.not_mem_nil⟩⟩⟩⟩⟩⟩⟩⟩⟩⟩⟩⟩⟩⟩⟩⟩
theorem lw_p32 : lw_okq (⟨"TuneBenchModel", "less", "([II)V"⟩, 25) := ⟨⟨by decide +kernel, by decide +kernel⟩, List.mem_of_getElem? (i := 600) (by decide +kernel), List.mem_of_getElem? (i := 760) (by decide +kernel), List.mem_of_getElem? (i := 761) (by decide +kernel)⟩
theorem lw_p33 : lw_okq (⟨"TuneBenchModel", "none", "(I)I"⟩, 25) := ⟨⟨by decide +kernel, by decide +kernel⟩, List.mem_of_getElem? (i := 600) (by decide +kernel), List.mem_of_getElem? (i := 772) (by decide +kernel), List.mem_of_getElem? (i := 773) (by decide +kernel)⟩
theorem lw_p34 : lw_okq (⟨"TuneBenchModel", "compare", "([II[II)I"⟩, 25) := ⟨⟨by decide +kernel, by decide +kernel⟩, List.mem_of_getElem? (i := 600) (by decide +kernel), List.mem_of_getElem? (i := 780) (by decide +kernel), List.mem_of_getElem? (i := 781) (by decide +kernel)⟩
theorem lw_p35 : lw_okq (⟨"TuneBenchModel", "tellNumber", "([II)V"⟩, 25) := ⟨⟨by decide +kernel, by decide +kernel⟩, List.mem_of_getElem? (i := 600) (by decide +kernel), List.mem_of_getElem? (i := 788) (by decide +kernel), List.mem_of_getElem? (i := 789) (by decide +kernel)⟩
theorem lw_p36 : lw_okq (⟨"TuneBenchModel", "tell", "(I)V"⟩, 25) := ⟨⟨by decide +kernel, by decide +kernel⟩, List.mem_of_getElem? (i := 600) (by decide +kernel), List.mem_of_getElem? (i := 793) (by decide +kernel), List.mem_of_getElem? (i := 794) (by decide +kernel)⟩
theorem lw_p37 : lw_okq (⟨"TuneBenchModel", "mapOf", "(II)I"⟩, 25) := ⟨⟨by decide +kernel, by decide +kernel⟩, List.mem_of_getElem? (i := 600) (by decide +kernel), List.mem_of_getElem? (i := 808) (by decide +kernel), List.mem_of_getElem? (i := 809) (by decide +kernel)⟩
theorem lw_p38 : lw_okq (⟨"TuneBenchModel", "stepsOf", "([III)I"⟩, 25) := ⟨⟨by decide +kernel, by decide +kernel⟩, List.mem_of_getElem? (i := 600) (by decide +kernel), List.mem_of_getElem? (i := 816) (by decide +kernel), List.mem_of_getElem? (i := 817) (by decide +kernel)⟩
theorem lw_p39 : lw_okq (⟨"TuneBenchModel", "commaRank", "()I"⟩, 25) := ⟨⟨by decide +kernel, by decide +kernel⟩, List.mem_of_getElem? (i := 600) (by decide +kernel), List.mem_of_getElem? (i := 832) (by decide +kernel), List.mem_of_getElem? (i := 833) (by decide +kernel)⟩
theorem lw_p40 : lw_okq (⟨"TuneBenchModel", "rankOf", "(I)I"⟩, 25) := ⟨⟨by decide +kernel, by decide +kernel⟩, List.mem_of_getElem? (i := 600) (by decide +kernel), List.mem_of_getElem? (i := 836) (by decide +kernel), List.mem_of_getElem? (i := 837) (by decide +kernel)⟩
theorem lw_p41 : lw_okq (⟨"TuneBenchModel", "change", "(II)V"⟩, 25) := ⟨⟨by decide +kernel, by decide +kernel⟩, List.mem_of_getElem? (i := 600) (by decide +kernel), List.mem_of_getElem? (i := 840) (by decide +kernel), List.mem_of_getElem? (i := 841) (by decide +kernel)⟩
theorem lw_p42 : lw_okq (⟨"TuneBenchModel", "minor", "(III)J"⟩, 25) := ⟨⟨by decide +kernel, by decide +kernel⟩, List.mem_of_getElem? (i := 600) (by decide +kernel), List.mem_of_getElem? (i := 851) (by decide +kernel), List.mem_of_getElem? (i := 852) (by decide +kernel)⟩
theorem lw_p43 : lw_okq (⟨"TuneBenchModel", "placeIn", "([II)I"⟩, 25) := ⟨⟨by decide +kernel, by decide +kernel⟩, List.mem_of_getElem? (i := 600) (by decide +kernel), List.mem_of_getElem? (i := 871) (by decide +kernel), List.mem_of_getElem? (i := 872) (by decide +kernel)⟩
theorem lw_p44 : lw_okq (⟨"TuneBenchModel", "insert", "([III)V"⟩, 25) := ⟨⟨by decide +kernel, by decide +kernel⟩, List.mem_of_getElem? (i := 600) (by decide +kernel), List.mem_of_getElem? (i := 875) (by decide +kernel), List.mem_of_getElem? (i := 876) (by decide +kernel)⟩
theorem lw_p45 : lw_okq (⟨"TuneBenchModel", "noteAt", "(I)V"⟩, 25) := ⟨⟨by decide +kernel, by decide +kernel⟩, List.mem_of_getElem? (i := 600) (by decide +kernel), List.mem_of_getElem? (i := 887) (by decide +kernel), List.mem_of_getElem? (i := 888) (by decide +kernel)⟩
theorem lw_p46 : lw_okq (⟨"TuneBenchModel", "isMyth", "()Z"⟩, 25) := ⟨⟨by decide +kernel, by decide +kernel⟩, List.mem_of_getElem? (i := 600) (by decide +kernel), List.mem_of_getElem? (i := 895) (by decide +kernel), List.mem_of_getElem? (i := 896) (by decide +kernel)⟩
theorem lw_p47 : lw_okq (⟨"TuneBenchModel", "stepsBy", "(I)V"⟩, 25) := ⟨⟨by decide +kernel, by decide +kernel⟩, List.mem_of_getElem? (i := 600) (by decide +kernel), List.mem_of_getElem? (i := 899) (by decide +kernel), List.mem_of_getElem? (i := 900) (by decide +kernel)⟩
def lw_privs_3 : List (MethodName × Nat) := [(⟨"TuneBenchModel", "less", "([II)V"⟩, 25), (⟨"TuneBenchModel", "none", "(I)I"⟩, 25), (⟨"TuneBenchModel", "compare", "([II[II)I"⟩, 25), (⟨"TuneBenchModel", "tellNumber", "([II)V"⟩, 25), (⟨"TuneBenchModel", "tell", "(I)V"⟩, 25), (⟨"TuneBenchModel", "mapOf", "(II)I"⟩, 25), (⟨"TuneBenchModel", "stepsOf", "([III)I"⟩, 25), (⟨"TuneBenchModel", "commaRank", "()I"⟩, 25), (⟨"TuneBenchModel", "rankOf", "(I)I"⟩, 25), (⟨"TuneBenchModel", "change", "(II)V"⟩, 25), (⟨"TuneBenchModel", "minor", "(III)J"⟩, 25), (⟨"TuneBenchModel", "placeIn", "([II)I"⟩, 25), (⟨"TuneBenchModel", "insert", "([III)V"⟩, 25), (⟨"TuneBenchModel", "noteAt", "(I)V"⟩, 25), (⟨"TuneBenchModel", "isMyth", "()Z"⟩, 25), (⟨"TuneBenchModel", "stepsBy", "(I)V"⟩, 25)]
theorem lw_r3 : ∀ q ∈ lw_privs_3, lw_okq q := List.forall_mem_cons.mpr ⟨lw_p32, List.forall_mem_cons.mpr ⟨lw_p33, List.forall_mem_cons.mpr ⟨lw_p34, List.forall_mem_cons.mpr ⟨lw_p35, List.forall_mem_cons.mpr ⟨lw_p36, List.forall_mem_cons.mpr ⟨lw_p37, List.forall_mem_cons.mpr ⟨lw_p38, List.forall_mem_cons.mpr ⟨lw_p39, List.forall_mem_cons.mpr ⟨lw_p40, List.forall_mem_cons.mpr ⟨lw_p41, List.forall_mem_cons.mpr ⟨lw_p42, List.forall_mem_cons.mpr ⟨lw_p43, List.forall_mem_cons.mpr ⟨lw_p44, List.forall_mem_cons.mpr ⟨lw_p45, List.forall_mem_cons.mpr ⟨lw_p46, List.forall_mem_cons.mpr ⟨lw_p47, fun _ h => absurd h List.not_mem_nil⟩⟩⟩⟩⟩⟩⟩⟩⟩⟩⟩⟩⟩⟩⟩⟩
theorem lw_p48 : lw_okq (⟨"TuneBenchModel", "isProper", "(Z)Z"⟩, 25) := ⟨⟨by decide +kernel, by decide +kernel⟩, List.mem_of_getElem? (i := 600) (by decide +kernel), List.mem_of_getElem? (i := 903) (by decide +kernel), List.mem_of_getElem? (i := 904) (by decide +kernel)⟩
theorem lw_p49 : lw_okq (⟨"TuneBenchModel", "isDim", "()Z"⟩, 25) := ⟨⟨by decide +kernel, by decide +kernel⟩, List.mem_of_getElem? (i := 600) (by decide +kernel), List.mem_of_getElem? (i := 927) (by decide +kernel), List.mem_of_getElem? (i := 928) (by decide +kernel)⟩
def lw_privs_4 : List (MethodName × Nat) := [(⟨"TuneBenchModel", "isProper", "(Z)Z"⟩, 25), (⟨"TuneBenchModel", "isDim", "()Z"⟩, 25)]
theorem lw_r4 : ∀ q ∈ lw_privs_4, lw_okq q := List.forall_mem_cons.mpr ⟨lw_p48, List.forall_mem_cons.mpr ⟨lw_p49, fun _ h => absurd h List.not_mem_nil⟩⟩
def lw_privs : List (MethodName × Nat) := lw_privs_1 ++ (lw_privs_2 ++ (lw_privs_3 ++ (lw_privs_4)))
def lw_tbl : List Cond := k2_sels lw_privs ++ tables_1
theorem lw_privs_ok : ∀ q ∈ lw_privs, lw_okq q := by
  show ∀ q ∈ lw_privs_1 ++ (lw_privs_2 ++ (lw_privs_3 ++ (lw_privs_4))), lw_okq q
  exact List.forall_mem_append.mpr ⟨lw_r1, List.forall_mem_append.mpr ⟨lw_r2, List.forall_mem_append.mpr ⟨lw_r3, lw_r4⟩⟩⟩
end
section
/-! ===== BEGIN words of one list among another's, by their places ===== -/
theorem goodIn_r {big : List Cond} (ws : List Cond) (ps : List Nat) (hp : ws = ps.filterMap (fun i => big[i]?)) (h : ws.all goodWord = true) : GoodIn big ws := by
  intro w hw
  have h1 := List.all_eq_true.mp h w hw
  rw [hp] at hw
  obtain ⟨i, -, hi⟩ := List.mem_filterMap.mp hw
  have hm : w ∈ big := by first | exact List.mem_of_getElem? hi | exact List.getElem?_mem hi
  exact ⟨hm, good_of_word h1⟩
theorem goodIn_app {big a b : List Cond} (ha : GoodIn big a) (hb : GoodIn big b) : GoodIn big (a ++ b) := fun w h => (List.mem_append.mp h).elim (ha w) (hb w)
theorem goodIn_ca {big a b : List Cond} {c : Cond} (ha : GoodIn big (c :: a)) (hb : GoodIn big b) : GoodIn big (c :: (a ++ b)) := fun w h => (List.mem_cons.mp h).elim (fun e => ha w (List.mem_cons.mpr (Or.inl e))) (fun h => (List.mem_append.mp h).elim (fun h => ha w (List.mem_cons.mpr (Or.inr h))) (hb w))
theorem goodIn_sub {big ws : List Cond} (hm : ∀ w ∈ ws, w ∈ big) (h : ws.all goodWord = true) : GoodIn big ws := fun w hw => ⟨hm w hw, good_of_word (List.all_eq_true.mp h w hw)⟩
/-! ===== END ===== -/

def RX0 : String := "TuneBench$Commas"
def TX0 : u_T := fun k => match k with
  | 0 => ("TuneBench$Commas", "rows", "[[I", true)
  | 1 => ("TuneBench$Commas", "table", "[[J", true)
  | 2 => ("TuneBench$Commas", "count", "I", false)
  | _ => ("TuneBench$Commas", "lastPivot", "J", false)
def tyX0 : Nat → FieldType := fun k => match k with
  | 0 => .array (.array .int)
  | 1 => .array (.array .long)
  | 2 => .int
  | _ => .long
abbrev wsX00 : List Cond := u_ws RX0 TX0 4
theorem nmX0 : ∀ a, a < 4 → ∀ b, b < 4 → a ≠ b → (TX0 a).2.1 ≠ (TX0 b).2.1 := by decide +kernel
theorem tyX0_ok : ∀ k, k < 4 → parseFieldDescriptor (TX0 k).2.2.1 = some (tyX0 k) := by decide +kernel
abbrev cX0_init : ByteArray := prog_2_method_1_code
def yX0_init : MethodName := ⟨RX0, "<init>", "()V"⟩
abbrev cX0_add : ByteArray := prog_2_method_2_code
def yX0_add : MethodName := ⟨RX0, "add", "([I)Z"⟩
abbrev cX0_findRank : ByteArray := prog_2_method_3_code
def yX0_findRank : MethodName := ⟨RX0, "findRank", "()I"⟩
abbrev cX0_spans : ByteArray := prog_2_method_4_code
def yX0_spans : MethodName := ⟨RX0, "spans", "([I)Z"⟩
abbrev cX0_findTwist : ByteArray := prog_2_method_5_code
def yX0_findTwist : MethodName := ⟨RX0, "findTwist", "()J"⟩
abbrev cX0_firstSupport : ByteArray := prog_2_method_6_code
def yX0_firstSupport : MethodName := ⟨RX0, "firstSupport", "(I)I"⟩
abbrev cX0_isSupportedBy : ByteArray := prog_2_method_7_code
def yX0_isSupportedBy : MethodName := ⟨RX0, "isSupportedBy", "(I)Z"⟩
abbrev cX0_fillTable : ByteArray := prog_2_method_8_code
def yX0_fillTable : MethodName := ⟨RX0, "fillTable", "()V"⟩
abbrev cX0_determinant : ByteArray := prog_2_method_9_code
def yX0_determinant : MethodName := ⟨RX0, "determinant", "(III)J"⟩
abbrev cX0_eliminate : ByteArray := prog_2_method_10_code
def yX0_eliminate : MethodName := ⟨RX0, "eliminate", "(II)I"⟩
abbrev cX0_raisePivot : ByteArray := prog_2_method_11_code
def yX0_raisePivot : MethodName := ⟨RX0, "raisePivot", "(III)Z"⟩
abbrev cX0_reduceLine : ByteArray := prog_2_method_12_code
def yX0_reduceLine : MethodName := ⟨RX0, "reduceLine", "([J[JII)V"⟩
def RX1 : String := "TuneBench$Divisions"
def TX1 : u_T := fun k => match k with
  | _ => ("", "", "", false)
def tyX1 : Nat → FieldType := fun k => match k with
  | _ => .int
abbrev wsX10 : List Cond := u_ws RX1 TX1 0
theorem nmX1 : ∀ a, a < 0 → ∀ b, b < 0 → a ≠ b → (TX1 a).2.1 ≠ (TX1 b).2.1 := by decide +kernel
theorem tyX1_ok : ∀ k, k < 0 → parseFieldDescriptor (TX1 k).2.2.1 = some (tyX1 k) := by decide +kernel
abbrev cX1_isDivision : ByteArray := prog_3_method_2_code
def yX1_isDivision : MethodName := ⟨RX1, "isDivision", "(I)Z"⟩
abbrev cX1_nearest : ByteArray := prog_3_method_3_code
def yX1_nearest : MethodName := ⟨RX1, "nearest", "(II)I"⟩
abbrev cX1_stepsOf : ByteArray := prog_3_method_4_code
def yX1_stepsOf : MethodName := ⟨RX1, "stepsOf", "([II)I"⟩
def RX2 : String := "TuneBench$Measure"
def TX2 : u_T := fun k => match k with
  | 0 => ("TuneBench$Measure", "sizes", "LTuneBench$Sizes;", true)
  | 1 => ("TuneBench$Measure", "made", "[I", true)
  | 2 => ("TuneBench$Measure", "x", "[I", false)
  | _ => ("TuneBench$Measure", "y", "[I", false)
def tyX2 : Nat → FieldType := fun k => match k with
  | 0 => .object "TuneBench$Sizes"
  | 1 => .array .int
  | 2 => .array .int
  | _ => .array .int
abbrev wsX20 : List Cond := u_ws RX2 TX2 4
theorem nmX2 : ∀ a, a < 4 → ∀ b, b < 4 → a ≠ b → (TX2 a).2.1 ≠ (TX2 b).2.1 := by decide +kernel
theorem tyX2_ok : ∀ k, k < 4 → parseFieldDescriptor (TX2 k).2.2.1 = some (tyX2 k) := by decide +kernel
abbrev cX2_init : ByteArray := prog_4_method_1_code
def yX2_init : MethodName := ⟨RX2, "<init>", "(LTuneBench$Sizes;)V"⟩
abbrev cX2_tell : ByteArray := prog_4_method_2_code
def yX2_tell : MethodName := ⟨RX2, "tell", "([I[II)I"⟩
abbrev cX2_firstBelowOne : ByteArray := prog_4_method_3_code
def yX2_firstBelowOne : MethodName := ⟨RX2, "firstBelowOne", "()I"⟩
abbrev cX2_stays : ByteArray := prog_4_method_4_code
def yX2_stays : MethodName := ⟨RX2, "stays", "(I)Z"⟩
def RX3 : String := "TuneBench$Natural"
def TX3 : u_T := fun k => match k with
  | 0 => ("TuneBench$Natural", "words", "[I", true)
  | 1 => ("TuneBench$Natural", "length", "I", false)
  | _ => ("TuneBench$Natural", "waiting", "J", false)
def tyX3 : Nat → FieldType := fun k => match k with
  | 0 => .array .int
  | 1 => .int
  | _ => .long
abbrev wsX30 : List Cond := u_ws RX3 TX3 3
theorem nmX3 : ∀ a, a < 3 → ∀ b, b < 3 → a ≠ b → (TX3 a).2.1 ≠ (TX3 b).2.1 := by decide +kernel
theorem tyX3_ok : ∀ k, k < 3 → parseFieldDescriptor (TX3 k).2.2.1 = some (tyX3 k) := by decide +kernel
abbrev cX3_init : ByteArray := prog_5_method_1_code
def yX3_init : MethodName := ⟨RX3, "<init>", "()V"⟩
abbrev cX3_build : ByteArray := prog_5_method_2_code
def yX3_build : MethodName := ⟨RX3, "build", "([II)V"⟩
abbrev cX3_settle : ByteArray := prog_5_method_3_code
def yX3_settle : MethodName := ⟨RX3, "settle", "()V"⟩
abbrev cX3_against : ByteArray := prog_5_method_4_code
def yX3_against : MethodName := ⟨RX3, "against", "(LTuneBench$Natural;)I"⟩
abbrev cX3_write : ByteArray := prog_5_method_5_code
def yX3_write : MethodName := ⟨RX3, "write", "([BI)I"⟩
def RX4 : String := "TuneBench$NoteList"
def TX4 : u_T := fun k => match k with
  | 0 => ("TuneBench$NoteList", "rows", "[[I", true)
  | _ => ("TuneBench$NoteList", "count", "I", false)
def tyX4 : Nat → FieldType := fun k => match k with
  | 0 => .array (.array .int)
  | _ => .int
abbrev wsX40 : List Cond := u_ws RX4 TX4 2
theorem nmX4 : ∀ a, a < 2 → ∀ b, b < 2 → a ≠ b → (TX4 a).2.1 ≠ (TX4 b).2.1 := by decide +kernel
theorem tyX4_ok : ∀ k, k < 2 → parseFieldDescriptor (TX4 k).2.2.1 = some (tyX4 k) := by decide +kernel
abbrev cX4_init : ByteArray := prog_6_method_1_code
def yX4_init : MethodName := ⟨RX4, "<init>", "()V"⟩
abbrev cX4_isFull : ByteArray := prog_6_method_2_code
def yX4_isFull : MethodName := ⟨RX4, "isFull", "()Z"⟩
abbrev cX4_restart : ByteArray := prog_6_method_3_code
def yX4_restart : MethodName := ⟨RX4, "restart", "()V"⟩
abbrev cX4_has : ByteArray := prog_6_method_4_code
def yX4_has : MethodName := ⟨RX4, "has", "([I)Z"⟩
abbrev cX4_insert : ByteArray := prog_6_method_5_code
def yX4_insert : MethodName := ⟨RX4, "insert", "(I[I)I"⟩
abbrev cX4_placeOf : ByteArray := prog_6_method_6_code
def yX4_placeOf : MethodName := ⟨RX4, "placeOf", "([ILTuneBench$Sizes;)I"⟩
def RX5 : String := "TuneBench$Row"
def TX5 : u_T := fun k => match k with
  | _ => ("", "", "", false)
def tyX5 : Nat → FieldType := fun k => match k with
  | _ => .int
abbrev wsX50 : List Cond := u_ws RX5 TX5 0
theorem nmX5 : ∀ a, a < 0 → ∀ b, b < 0 → a ≠ b → (TX5 a).2.1 ≠ (TX5 b).2.1 := by decide +kernel
theorem tyX5_ok : ∀ k, k < 0 → parseFieldDescriptor (TX5 k).2.2.1 = some (tyX5 k) := by decide +kernel
abbrev cX5_makeOne : ByteArray := prog_7_method_2_code
def yX5_makeOne : MethodName := ⟨RX5, "makeOne", "([I)V"⟩
abbrev cX5_copy : ByteArray := prog_7_method_3_code
def yX5_copy : MethodName := ⟨RX5, "copy", "([I[I)V"⟩
abbrev cX5_combine : ByteArray := prog_7_method_4_code
def yX5_combine : MethodName := ⟨RX5, "combine", "([I[II[I)V"⟩
abbrev cX5_isWithin : ByteArray := prog_7_method_5_code
def yX5_isWithin : MethodName := ⟨RX5, "isWithin", "([II)Z"⟩
abbrev cX5_isOne : ByteArray := prog_7_method_6_code
def yX5_isOne : MethodName := ⟨RX5, "isOne", "([I)Z"⟩
abbrev cX5_isSame : ByteArray := prog_7_method_7_code
def yX5_isSame : MethodName := ⟨RX5, "isSame", "([I[I)Z"⟩
abbrev cX5_factor : ByteArray := prog_7_method_8_code
def yX5_factor : MethodName := ⟨RX5, "factor", "(II[I)Z"⟩
abbrev cX5_commonDivisor : ByteArray := prog_7_method_9_code
def yX5_commonDivisor : MethodName := ⟨RX5, "commonDivisor", "(JJ)J"⟩
def RX6 : String := "TuneBench$Scale"
def TX6 : u_T := fun k => match k with
  | 0 => ("TuneBench$Scale", "sizes", "LTuneBench$Sizes;", true)
  | 1 => ("TuneBench$Scale", "period", "[I", true)
  | 2 => ("TuneBench$Scale", "made", "[I", true)
  | 3 => ("TuneBench$Scale", "unfolded", "[I", true)
  | 4 => ("TuneBench$Scale", "highest", "[I", true)
  | 5 => ("TuneBench$Scale", "kindRows", "[[I", true)
  | 6 => ("TuneBench$Scale", "kindCounts", "[I", true)
  | 7 => ("TuneBench$Scale", "notes", "LTuneBench$NoteList;", false)
  | _ => ("TuneBench$Scale", "coming", "LTuneBench$NoteList;", false)
def tyX6 : Nat → FieldType := fun k => match k with
  | 0 => .object "TuneBench$Sizes"
  | 1 => .array .int
  | 2 => .array .int
  | 3 => .array .int
  | 4 => .array .int
  | 5 => .array (.array .int)
  | 6 => .array .int
  | 7 => .object "TuneBench$NoteList"
  | _ => .object "TuneBench$NoteList"
abbrev wsX60 : List Cond := u_ws RX6 TX6 9
theorem nmX6 : ∀ a, a < 9 → ∀ b, b < 9 → a ≠ b → (TX6 a).2.1 ≠ (TX6 b).2.1 := by decide +kernel
theorem tyX6_ok : ∀ k, k < 9 → parseFieldDescriptor (TX6 k).2.2.1 = some (tyX6 k) := by decide +kernel
abbrev cX6_init : ByteArray := prog_8_method_1_code
def yX6_init : MethodName := ⟨RX6, "<init>", "(LTuneBench$Sizes;)V"⟩
abbrev cX6_exists : ByteArray := prog_8_method_2_code
def yX6_exists : MethodName := ⟨RX6, "exists", "()Z"⟩
abbrev cX6_start : ByteArray := prog_8_method_3_code
def yX6_start : MethodName := ⟨RX6, "start", "([I)V"⟩
abbrev cX6_stack : ByteArray := prog_8_method_4_code
def yX6_stack : MethodName := ⟨RX6, "stack", "([I[II)I"⟩
abbrev cX6_turn : ByteArray := prog_8_method_5_code
def yX6_turn : MethodName := ⟨RX6, "turn", "(I)Z"⟩
abbrev cX6_takeComing : ByteArray := prog_8_method_6_code
def yX6_takeComing : MethodName := ⟨RX6, "takeComing", "()V"⟩
abbrev cX6_readNote : ByteArray := prog_8_method_7_code
def yX6_readNote : MethodName := ⟨RX6, "readNote", "(I[I)V"⟩
abbrev cX6_readStep : ByteArray := prog_8_method_8_code
def yX6_readStep : MethodName := ⟨RX6, "readStep", "(II[I)V"⟩
abbrev cX6_gatherKinds : ByteArray := prog_8_method_9_code
def yX6_gatherKinds : MethodName := ⟨RX6, "gatherKinds", "(I)I"⟩
abbrev cX6_readKind : ByteArray := prog_8_method_10_code
def yX6_readKind : MethodName := ⟨RX6, "readKind", "(II[I)I"⟩
abbrev cX6_swapKinds : ByteArray := prog_8_method_11_code
def yX6_swapKinds : MethodName := ⟨RX6, "swapKinds", "(II)V"⟩
abbrev cX6_isMoment : ByteArray := prog_8_method_12_code
def yX6_isMoment : MethodName := ⟨RX6, "isMoment", "()Z"⟩
abbrev cX6_isMyth : ByteArray := prog_8_method_13_code
def yX6_isMyth : MethodName := ⟨RX6, "isMyth", "()Z"⟩
abbrev cX6_isOrderly : ByteArray := prog_8_method_14_code
def yX6_isOrderly : MethodName := ⟨RX6, "isOrderly", "(Z)Z"⟩
abbrev cX6_allReach : ByteArray := prog_8_method_15_code
def yX6_allReach : MethodName := ⟨RX6, "allReach", "(II)Z"⟩
abbrev cX6_findHighest : ByteArray := prog_8_method_16_code
def yX6_findHighest : MethodName := ⟨RX6, "findHighest", "(I)V"⟩
abbrev cX6_agreesWith : ByteArray := prog_8_method_17_code
def yX6_agreesWith : MethodName := ⟨RX6, "agreesWith", "(I)Z"⟩
def RX7 : String := "TuneBench$Sizes"
def TX7 : u_T := fun k => match k with
  | 0 => ("TuneBench$Sizes", "upper", "LTuneBench$Natural;", true)
  | 1 => ("TuneBench$Sizes", "lower", "LTuneBench$Natural;", true)
  | _ => ("TuneBench$Sizes", "between", "[I", true)
def tyX7 : Nat → FieldType := fun k => match k with
  | 0 => .object "TuneBench$Natural"
  | 1 => .object "TuneBench$Natural"
  | _ => .array .int
abbrev wsX70 : List Cond := u_ws RX7 TX7 3
theorem nmX7 : ∀ a, a < 3 → ∀ b, b < 3 → a ≠ b → (TX7 a).2.1 ≠ (TX7 b).2.1 := by decide +kernel
theorem tyX7_ok : ∀ k, k < 3 → parseFieldDescriptor (TX7 k).2.2.1 = some (tyX7 k) := by decide +kernel
abbrev cX7_init : ByteArray := prog_9_method_1_code
def yX7_init : MethodName := ⟨RX7, "<init>", "()V"⟩
abbrev cX7_sign : ByteArray := prog_9_method_2_code
def yX7_sign : MethodName := ⟨RX7, "sign", "([I)I"⟩
abbrev cX7_compareSizes : ByteArray := prog_9_method_3_code
def yX7_compareSizes : MethodName := ⟨RX7, "compareSizes", "([I[I)I"⟩
abbrev cX7_writeRatio : ByteArray := prog_9_method_4_code
def yX7_writeRatio : MethodName := ⟨RX7, "writeRatio", "([I[B)I"⟩
abbrev cX7_foldInto : ByteArray := prog_9_method_5_code
def yX7_foldInto : MethodName := ⟨RX7, "foldInto", "([I[I[I)Z"⟩
abbrev cX7_foldBetween : ByteArray := prog_9_method_6_code
def yX7_foldBetween : MethodName := ⟨RX7, "foldBetween", "([I[III[I)Z"⟩
def RX8 : String := "TuneBench"
def TX8 : u_T := fun k => match k with
  | 0 => ("TuneBench", "shelves", "[[I", true)
  | 1 => ("TuneBench", "filled", "[Z", true)
  | 2 => ("TuneBench", "made", "[I", true)
  | 3 => ("TuneBench", "text", "[B", true)
  | 4 => ("TuneBench", "sizes", "LTuneBench$Sizes;", true)
  | 5 => ("TuneBench", "commas", "LTuneBench$Commas;", true)
  | 6 => ("TuneBench", "tuned", "LTuneBench$Scale;", true)
  | 7 => ("TuneBench", "measure", "LTuneBench$Measure;", true)
  | 8 => ("TuneBench", "textLength", "I", false)
  | _ => ("TuneBench", "state", "I", false)
def tyX8 : Nat → FieldType := fun k => match k with
  | 0 => .array (.array .int)
  | 1 => .array .boolean
  | 2 => .array .int
  | 3 => .array .byte
  | 4 => .object "TuneBench$Sizes"
  | 5 => .object "TuneBench$Commas"
  | 6 => .object "TuneBench$Scale"
  | 7 => .object "TuneBench$Measure"
  | 8 => .int
  | _ => .int
abbrev wsX80 : List Cond := u_ws RX8 TX8 10
theorem nmX8 : ∀ a, a < 10 → ∀ b, b < 10 → a ≠ b → (TX8 a).2.1 ≠ (TX8 b).2.1 := by decide +kernel
theorem tyX8_ok : ∀ k, k < 10 → parseFieldDescriptor (TX8 k).2.2.1 = some (tyX8 k) := by decide +kernel
abbrev cX8_init : ByteArray := prog_1_method_1_code
def yX8_init : MethodName := ⟨RX8, "<init>", "()V"⟩
abbrev cX8_status : ByteArray := prog_1_method_2_code
def yX8_status : MethodName := ⟨RX8, "status", "()I"⟩
abbrev cX8_set : ByteArray := prog_1_method_3_code
def yX8_set : MethodName := ⟨RX8, "set", "(IIIIIII)Z"⟩
abbrev cX8_ratio : ByteArray := prog_1_method_4_code
def yX8_ratio : MethodName := ⟨RX8, "ratio", "(III)Z"⟩
abbrev cX8_times : ByteArray := prog_1_method_5_code
def yX8_times : MethodName := ⟨RX8, "times", "(IIII)Z"⟩
abbrev cX8_fold : ByteArray := prog_1_method_6_code
def yX8_fold : MethodName := ⟨RX8, "fold", "(III)Z"⟩
abbrev cX8_drop : ByteArray := prog_1_method_7_code
def yX8_drop : MethodName := ⟨RX8, "drop", "(I)Z"⟩
abbrev cX8_exponent : ByteArray := prog_1_method_8_code
def yX8_exponent : MethodName := ⟨RX8, "exponent", "(II)I"⟩
abbrev cX8_order : ByteArray := prog_1_method_9_code
def yX8_order : MethodName := ⟨RX8, "order", "(II)I"⟩
abbrev cX8_show : ByteArray := prog_1_method_10_code
def yX8_show : MethodName := ⟨RX8, "show", "(I)I"⟩
abbrev cX8_out : ByteArray := prog_1_method_11_code
def yX8_out : MethodName := ⟨RX8, "out", "(I)I"⟩
abbrev cX8_map : ByteArray := prog_1_method_12_code
def yX8_map : MethodName := ⟨RX8, "map", "(II)I"⟩
abbrev cX8_steps : ByteArray := prog_1_method_13_code
def yX8_steps : MethodName := ⟨RX8, "steps", "(II)I"⟩
abbrev cX8_comma : ByteArray := prog_1_method_14_code
def yX8_comma : MethodName := ⟨RX8, "comma", "(I)I"⟩
abbrev cX8_clear : ByteArray := prog_1_method_15_code
def yX8_clear : MethodName := ⟨RX8, "clear", "()I"⟩
abbrev cX8_rank : ByteArray := prog_1_method_16_code
def yX8_rank : MethodName := ⟨RX8, "rank", "()I"⟩
abbrev cX8_twist : ByteArray := prog_1_method_17_code
def yX8_twist : MethodName := ⟨RX8, "twist", "()J"⟩
abbrev cX8_vanishes : ByteArray := prog_1_method_18_code
def yX8_vanishes : MethodName := ⟨RX8, "vanishes", "(I)I"⟩
abbrev cX8_supports : ByteArray := prog_1_method_19_code
def yX8_supports : MethodName := ⟨RX8, "supports", "(I)I"⟩
abbrev cX8_begin : ByteArray := prog_1_method_20_code
def yX8_begin : MethodName := ⟨RX8, "begin", "(I)Z"⟩
abbrev cX8_note : ByteArray := prog_1_method_21_code
def yX8_note : MethodName := ⟨RX8, "note", "(I)I"⟩
abbrev cX8_lay : ByteArray := prog_1_method_22_code
def yX8_lay : MethodName := ⟨RX8, "lay", "(III)Z"⟩
abbrev cX8_take : ByteArray := prog_1_method_23_code
def yX8_take : MethodName := ⟨RX8, "take", "(II)Z"⟩
abbrev cX8_scale : ByteArray := prog_1_method_24_code
def yX8_scale : MethodName := ⟨RX8, "scale", "(I)I"⟩
abbrev cX8_kinds : ByteArray := prog_1_method_25_code
def yX8_kinds : MethodName := ⟨RX8, "kinds", "(I)I"⟩
abbrev cX8_step : ByteArray := prog_1_method_26_code
def yX8_step : MethodName := ⟨RX8, "step", "(III)I"⟩
abbrev cX8_mode : ByteArray := prog_1_method_27_code
def yX8_mode : MethodName := ⟨RX8, "mode", "(I)Z"⟩
abbrev cX8_follows : ByteArray := prog_1_method_28_code
def yX8_follows : MethodName := ⟨RX8, "follows", "(I)I"⟩
abbrev cX8_quotient : ByteArray := prog_1_method_29_code
def yX8_quotient : MethodName := ⟨RX8, "quotient", "(III)I"⟩
abbrev cX8_isShelf : ByteArray := prog_1_method_30_code
def yX8_isShelf : MethodName := ⟨RX8, "isShelf", "(I)Z"⟩
abbrev cX8_isPrimeNumber : ByteArray := prog_1_method_31_code
def yX8_isPrimeNumber : MethodName := ⟨RX8, "isPrimeNumber", "(I)Z"⟩
abbrev cX8_faultOf : ByteArray := prog_1_method_32_code
def yX8_faultOf : MethodName := ⟨RX8, "faultOf", "(I)I"⟩
abbrev cX8_putMade : ByteArray := prog_1_method_33_code
def yX8_putMade : MethodName := ⟨RX8, "putMade", "(I)Z"⟩
abbrev cX8_accept : ByteArray := prog_1_method_34_code
def yX8_accept : MethodName := ⟨RX8, "accept", "()Z"⟩
abbrev cX8_refuse : ByteArray := prog_1_method_35_code
def yX8_refuse : MethodName := ⟨RX8, "refuse", "(I)Z"⟩
abbrev cX8_answer : ByteArray := prog_1_method_36_code
def yX8_answer : MethodName := ⟨RX8, "answer", "(I)I"⟩
abbrev cX8_none : ByteArray := prog_1_method_37_code
def yX8_none : MethodName := ⟨RX8, "none", "(I)I"⟩
def RX9 : String := "TuneBenchModel"
def TX9 : u_T := fun k => match k with
  | 0 => ("TuneBenchModel", "status", "I", false)
  | 1 => ("TuneBenchModel", "shelf", "[I", true)
  | 2 => ("TuneBenchModel", "isOn", "[Z", true)
  | 3 => ("TuneBenchModel", "above", "[I", true)
  | 4 => ("TuneBenchModel", "below", "[I", true)
  | 5 => ("TuneBenchModel", "aboveMany", "I", false)
  | 6 => ("TuneBenchModel", "belowMany", "I", false)
  | 7 => ("TuneBenchModel", "hand", "[I", true)
  | 8 => ("TuneBenchModel", "what", "[I", true)
  | 9 => ("TuneBenchModel", "period", "[I", true)
  | 10 => ("TuneBenchModel", "output", "[I", true)
  | 11 => ("TuneBenchModel", "outs", "I", false)
  | 12 => ("TuneBenchModel", "maps", "[I", true)
  | 13 => ("TuneBenchModel", "commas", "[I", true)
  | 14 => ("TuneBenchModel", "commaMany", "I", false)
  | 15 => ("TuneBenchModel", "table", "[J", true)
  | 16 => ("TuneBenchModel", "note", "[I", true)
  | 17 => ("TuneBenchModel", "fresh", "[I", true)
  | 18 => ("TuneBenchModel", "noteMany", "I", false)
  | 19 => ("TuneBenchModel", "kind", "[I", true)
  | 20 => ("TuneBenchModel", "often", "[I", true)
  | 21 => ("TuneBenchModel", "nextKind", "[I", true)
  | 22 => ("TuneBenchModel", "kindMany", "I", false)
  | 23 => ("TuneBenchModel", "x", "[I", true)
  | _ => ("TuneBenchModel", "y", "[I", true)
def tyX9 : Nat → FieldType := fun k => match k with
  | 0 => .int
  | 1 => .array .int
  | 2 => .array .boolean
  | 3 => .array .int
  | 4 => .array .int
  | 5 => .int
  | 6 => .int
  | 7 => .array .int
  | 8 => .array .int
  | 9 => .array .int
  | 10 => .array .int
  | 11 => .int
  | 12 => .array .int
  | 13 => .array .int
  | 14 => .int
  | 15 => .array .long
  | 16 => .array .int
  | 17 => .array .int
  | 18 => .int
  | 19 => .array .int
  | 20 => .array .int
  | 21 => .array .int
  | 22 => .int
  | 23 => .array .int
  | _ => .array .int
abbrev wsX90 : List Cond := u_ws RX9 TX9 25
theorem nmX9 : ∀ a, a < 25 → ∀ b, b < 25 → a ≠ b → (TX9 a).2.1 ≠ (TX9 b).2.1 := by decide +kernel
theorem tyX9_ok : ∀ k, k < 25 → parseFieldDescriptor (TX9 k).2.2.1 = some (tyX9 k) := by decide +kernel
abbrev cX9_init : ByteArray := prog_11_method_1_code
def yX9_init : MethodName := ⟨RX9, "<init>", "()V"⟩
abbrev cX9_status : ByteArray := prog_11_method_2_code
def yX9_status : MethodName := ⟨RX9, "status", "()I"⟩
abbrev cX9_refuse : ByteArray := prog_11_method_3_code
def yX9_refuse : MethodName := ⟨RX9, "refuse", "(I)Z"⟩
abbrev cX9_none : ByteArray := prog_11_method_4_code
def yX9_none : MethodName := ⟨RX9, "none", "(I)I"⟩
abbrev cX9_prime : ByteArray := prog_11_method_5_code
def yX9_prime : MethodName := ⟨RX9, "prime", "(I)I"⟩
abbrev cX9_isShelf : ByteArray := prog_11_method_6_code
def yX9_isShelf : MethodName := ⟨RX9, "isShelf", "(I)Z"⟩
abbrev cX9_multiply : ByteArray := prog_11_method_7_code
def yX9_multiply : MethodName := ⟨RX9, "multiply", "([III)I"⟩
abbrev cX9_products : ByteArray := prog_11_method_8_code
def yX9_products : MethodName := ⟨RX9, "products", "()V"⟩
abbrev cX9_sign : ByteArray := prog_11_method_9_code
def yX9_sign : MethodName := ⟨RX9, "sign", "()I"⟩
abbrev cX9_hold : ByteArray := prog_11_method_10_code
def yX9_hold : MethodName := ⟨RX9, "hold", "([II)V"⟩
abbrev cX9_give : ByteArray := prog_11_method_11_code
def yX9_give : MethodName := ⟨RX9, "give", "([II)V"⟩
abbrev cX9_less : ByteArray := prog_11_method_12_code
def yX9_less : MethodName := ⟨RX9, "less", "([II)V"⟩
abbrev cX9_isFar : ByteArray := prog_11_method_13_code
def yX9_isFar : MethodName := ⟨RX9, "isFar", "()Z"⟩
abbrev cX9_compare : ByteArray := prog_11_method_14_code
def yX9_compare : MethodName := ⟨RX9, "compare", "([II[II)I"⟩
abbrev cX9_comes : ByteArray := prog_11_method_15_code
def yX9_comes : MethodName := ⟨RX9, "comes", "(I)Z"⟩
abbrev cX9_set : ByteArray := prog_11_method_16_code
def yX9_set : MethodName := ⟨RX9, "set", "(IIIIIII)Z"⟩
abbrev cX9_ratio : ByteArray := prog_11_method_17_code
def yX9_ratio : MethodName := ⟨RX9, "ratio", "(III)Z"⟩
abbrev cX9_times : ByteArray := prog_11_method_18_code
def yX9_times : MethodName := ⟨RX9, "times", "(IIII)Z"⟩
abbrev cX9_down : ByteArray := prog_11_method_19_code
def yX9_down : MethodName := ⟨RX9, "down", "(II)I"⟩
abbrev cX9_folds : ByteArray := prog_11_method_20_code
def yX9_folds : MethodName := ⟨RX9, "folds", "()Z"⟩
abbrev cX9_powered : ByteArray := prog_11_method_21_code
def yX9_powered : MethodName := ⟨RX9, "powered", "(I)V"⟩
abbrev cX9_isPeriod : ByteArray := prog_11_method_22_code
def yX9_isPeriod : MethodName := ⟨RX9, "isPeriod", "(I)Z"⟩
abbrev cX9_set6 : ByteArray := prog_11_method_23_code
def yX9_set6 : MethodName := ⟨RX9, "set6", "([I[II)V"⟩
abbrev cX9_fold : ByteArray := prog_11_method_24_code
def yX9_fold : MethodName := ⟨RX9, "fold", "(III)Z"⟩
abbrev cX9_drop : ByteArray := prog_11_method_25_code
def yX9_drop : MethodName := ⟨RX9, "drop", "(I)Z"⟩
abbrev cX9_exponent : ByteArray := prog_11_method_26_code
def yX9_exponent : MethodName := ⟨RX9, "exponent", "(II)I"⟩
abbrev cX9_order : ByteArray := prog_11_method_27_code
def yX9_order : MethodName := ⟨RX9, "order", "(II)I"⟩
abbrev cX9_tell : ByteArray := prog_11_method_28_code
def yX9_tell : MethodName := ⟨RX9, "tell", "(I)V"⟩
abbrev cX9_tellNumber : ByteArray := prog_11_method_29_code
def yX9_tellNumber : MethodName := ⟨RX9, "tellNumber", "([II)V"⟩
abbrev cX9_show : ByteArray := prog_11_method_30_code
def yX9_show : MethodName := ⟨RX9, "show", "(I)I"⟩
abbrev cX9_out : ByteArray := prog_11_method_31_code
def yX9_out : MethodName := ⟨RX9, "out", "(I)I"⟩
abbrev cX9_mapOf : ByteArray := prog_11_method_32_code
def yX9_mapOf : MethodName := ⟨RX9, "mapOf", "(II)I"⟩
abbrev cX9_isDivision : ByteArray := prog_11_method_33_code
def yX9_isDivision : MethodName := ⟨RX9, "isDivision", "(I)Z"⟩
abbrev cX9_map : ByteArray := prog_11_method_34_code
def yX9_map : MethodName := ⟨RX9, "map", "(II)I"⟩
abbrev cX9_stepsOf : ByteArray := prog_11_method_35_code
def yX9_stepsOf : MethodName := ⟨RX9, "stepsOf", "([III)I"⟩
abbrev cX9_steps : ByteArray := prog_11_method_36_code
def yX9_steps : MethodName := ⟨RX9, "steps", "(II)I"⟩
abbrev cX9_comma : ByteArray := prog_11_method_37_code
def yX9_comma : MethodName := ⟨RX9, "comma", "(I)I"⟩
abbrev cX9_clear : ByteArray := prog_11_method_38_code
def yX9_clear : MethodName := ⟨RX9, "clear", "()I"⟩
abbrev cX9_change : ByteArray := prog_11_method_39_code
def yX9_change : MethodName := ⟨RX9, "change", "(II)V"⟩
abbrev cX9_rankOf : ByteArray := prog_11_method_40_code
def yX9_rankOf : MethodName := ⟨RX9, "rankOf", "(I)I"⟩
abbrev cX9_commaRank : ByteArray := prog_11_method_41_code
def yX9_commaRank : MethodName := ⟨RX9, "commaRank", "()I"⟩
abbrev cX9_rank : ByteArray := prog_11_method_42_code
def yX9_rank : MethodName := ⟨RX9, "rank", "()I"⟩
abbrev cX9_bits : ByteArray := prog_11_method_43_code
def yX9_bits : MethodName := ⟨RX9, "bits", "(I)I"⟩
abbrev cX9_minor : ByteArray := prog_11_method_44_code
def yX9_minor : MethodName := ⟨RX9, "minor", "(III)J"⟩
abbrev cX9_twist : ByteArray := prog_11_method_45_code
def yX9_twist : MethodName := ⟨RX9, "twist", "()J"⟩
abbrev cX9_vanishes : ByteArray := prog_11_method_46_code
def yX9_vanishes : MethodName := ⟨RX9, "vanishes", "(I)I"⟩
abbrev cX9_supports : ByteArray := prog_11_method_47_code
def yX9_supports : MethodName := ⟨RX9, "supports", "(I)I"⟩
abbrev cX9_begin : ByteArray := prog_11_method_48_code
def yX9_begin : MethodName := ⟨RX9, "begin", "(I)Z"⟩
abbrev cX9_placeIn : ByteArray := prog_11_method_49_code
def yX9_placeIn : MethodName := ⟨RX9, "placeIn", "([II)I"⟩
abbrev cX9_insert : ByteArray := prog_11_method_50_code
def yX9_insert : MethodName := ⟨RX9, "insert", "([III)V"⟩
abbrev cX9_note : ByteArray := prog_11_method_51_code
def yX9_note : MethodName := ⟨RX9, "note", "(I)I"⟩
abbrev cX9_lay : ByteArray := prog_11_method_52_code
def yX9_lay : MethodName := ⟨RX9, "lay", "(III)Z"⟩
abbrev cX9_noteAt : ByteArray := prog_11_method_53_code
def yX9_noteAt : MethodName := ⟨RX9, "noteAt", "(I)V"⟩
abbrev cX9_take : ByteArray := prog_11_method_54_code
def yX9_take : MethodName := ⟨RX9, "take", "(II)Z"⟩
abbrev cX9_stepsBy : ByteArray := prog_11_method_55_code
def yX9_stepsBy : MethodName := ⟨RX9, "stepsBy", "(I)V"⟩
abbrev cX9_isProper : ByteArray := prog_11_method_56_code
def yX9_isProper : MethodName := ⟨RX9, "isProper", "(Z)Z"⟩
abbrev cX9_isMyth : ByteArray := prog_11_method_57_code
def yX9_isMyth : MethodName := ⟨RX9, "isMyth", "()Z"⟩
abbrev cX9_scale : ByteArray := prog_11_method_58_code
def yX9_scale : MethodName := ⟨RX9, "scale", "(I)I"⟩
abbrev cX9_kinds : ByteArray := prog_11_method_59_code
def yX9_kinds : MethodName := ⟨RX9, "kinds", "(I)I"⟩
abbrev cX9_step : ByteArray := prog_11_method_60_code
def yX9_step : MethodName := ⟨RX9, "step", "(III)I"⟩
abbrev cX9_mode : ByteArray := prog_11_method_61_code
def yX9_mode : MethodName := ⟨RX9, "mode", "(I)Z"⟩
abbrev cX9_follows : ByteArray := prog_11_method_62_code
def yX9_follows : MethodName := ⟨RX9, "follows", "(I)I"⟩
abbrev cX9_isDim : ByteArray := prog_11_method_63_code
def yX9_isDim : MethodName := ⟨RX9, "isDim", "()Z"⟩
abbrev cX9_quotient : ByteArray := prog_11_method_64_code
def yX9_quotient : MethodName := ⟨RX9, "quotient", "(III)I"⟩
def RJ6 : String := "java/lang/Integer"
def TJ6 : u_T := fun k => match k with
  | _ => ("", "", "", false)
def tyJ6 : Nat → FieldType := fun k => match k with
  | _ => .int
abbrev wsJ60 : List Cond := u_ws RJ6 TJ6 0
theorem nmJ6 : ∀ a, a < 0 → ∀ b, b < 0 → a ≠ b → (TJ6 a).2.1 ≠ (TJ6 b).2.1 := by decide +kernel
theorem tyJ6_ok : ∀ k, k < 0 → parseFieldDescriptor (TJ6 k).2.2.1 = some (tyJ6 k) := by decide +kernel
abbrev cJ6_bitCount_0f7a4 : ByteArray := prog_12_method_49_code
def yJ6_bitCount_0f7a4 : MethodName := ⟨RJ6, "bitCount", "(I)I"⟩
def RJ9 : String := "java/lang/Math"
def TJ9 : u_T := fun k => match k with
  | _ => ("", "", "", false)
def tyJ9 : Nat → FieldType := fun k => match k with
  | _ => .int
abbrev wsJ90 : List Cond := u_ws RJ9 TJ9 0
theorem nmJ9 : ∀ a, a < 0 → ∀ b, b < 0 → a ≠ b → (TJ9 a).2.1 ≠ (TJ9 b).2.1 := by decide +kernel
theorem tyJ9_ok : ∀ k, k < 0 → parseFieldDescriptor (TJ9 k).2.2.1 = some (tyJ9 k) := by decide +kernel
abbrev cJ9_floorDiv_7cf53 : ByteArray := prog_13_method_47_code
def yJ9_floorDiv_7cf53 : MethodName := ⟨RJ9, "floorDiv", "(II)I"⟩
abbrev cJ9_abs_067f4 : ByteArray := prog_13_method_61_code
def yJ9_abs_067f4 : MethodName := ⟨RJ9, "abs", "(J)J"⟩
abbrev cJ9_max_7cf53 : ByteArray := prog_13_method_65_code
def yJ9_max_7cf53 : MethodName := ⟨RJ9, "max", "(II)I"⟩
abbrev cJ9_min_7cf53 : ByteArray := prog_13_method_69_code
def yJ9_min_7cf53 : MethodName := ⟨RJ9, "min", "(II)I"⟩
def RJ10 : String := "java/lang/System"
def TJ10 : u_T := fun k => match k with
  | _ => ("", "", "", false)
def tyJ10 : Nat → FieldType := fun k => match k with
  | _ => .int
abbrev wsJ100 : List Cond := u_ws RJ10 TJ10 0
theorem nmJ10 : ∀ a, a < 0 → ∀ b, b < 0 → a ≠ b → (TJ10 a).2.1 ≠ (TJ10 b).2.1 := by decide +kernel
theorem tyJ10_ok : ∀ k, k < 0 → parseFieldDescriptor (TJ10 k).2.2.1 = some (tyJ10 k) := by decide +kernel
def RL : String := "TuneBenchLaw"
abbrev cL_law : ByteArray := code
def yL_law : MethodName := ⟨RL, "law", "([I)Z"⟩
abbrev vwCl : List vw_C := [(RX0, TX0, 4), (RX2, TX2, 4), (RX3, TX3, 3), (RX4, TX4, 2), (RX6, TX6, 9), (RX7, TX7, 3), (RX8, TX8, 10), (RX9, TX9, 25)]
end
section
theorem dX0_init_0 : decode cX0_init 0 = .ok (.aload_n 0, 1) := by decide +kernel
theorem dX0_init_1 : decode cX0_init 1 = .ok (.invokespecial 3, 3) := by decide +kernel
theorem dX0_init_4 : decode cX0_init 4 = .ok (.aload_n 0, 1) := by decide +kernel
theorem dX0_init_5 : decode cX0_init 5 = .ok (.iconst 5, 1) := by decide +kernel
theorem dX0_init_6 : decode cX0_init 6 = .ok (.bipush 6, 2) := by decide +kernel
theorem dX0_init_8 : decode cX0_init 8 = .ok (.multianewarray 11 2, 4) := by decide +kernel
theorem dX0_init_12 : decode cX0_init 12 = .ok (.putfield 13, 3) := by decide +kernel
theorem dX0_init_15 : decode cX0_init 15 = .ok (.aload_n 0, 1) := by decide +kernel
theorem dX0_init_16 : decode cX0_init 16 = .ok (.bipush 6, 2) := by decide +kernel
theorem dX0_init_18 : decode cX0_init 18 = .ok (.bipush 6, 2) := by decide +kernel
theorem dX0_init_20 : decode cX0_init 20 = .ok (.multianewarray 16 2, 4) := by decide +kernel
theorem dX0_init_24 : decode cX0_init 24 = .ok (.putfield 18, 3) := by decide +kernel
theorem dX0_init_27 : decode cX0_init 27 = .ok (.aload_n 0, 1) := by decide +kernel
theorem dX0_init_28 : decode cX0_init 28 = .ok (.iconst 0, 1) := by decide +kernel
theorem dX0_init_29 : decode cX0_init 29 = .ok (.putfield 21, 3) := by decide +kernel
theorem dX0_init_32 : decode cX0_init 32 = .ok (.aload_n 0, 1) := by decide +kernel
theorem dX0_init_33 : decode cX0_init 33 = .ok (.lconst 1, 1) := by decide +kernel
theorem dX0_init_34 : decode cX0_init 34 = .ok (.putfield 25, 3) := by decide +kernel
theorem dX0_init_37 : decode cX0_init 37 = .ok (.return_, 1) := by decide +kernel
theorem dX0_add_0 : decode cX0_add 0 = .ok (.aload_n 0, 1) := by decide +kernel
theorem dX0_add_1 : decode cX0_add 1 = .ok (.getfield 21, 3) := by decide +kernel
theorem dX0_add_4 : decode cX0_add 4 = .ok (.ifCond .lt 11, 3) := by decide +kernel
theorem dX0_add_7 : decode cX0_add 7 = .ok (.aload_n 0, 1) := by decide +kernel
theorem dX0_add_8 : decode cX0_add 8 = .ok (.getfield 21, 3) := by decide +kernel
theorem dX0_add_11 : decode cX0_add 11 = .ok (.iconst 5, 1) := by decide +kernel
theorem dX0_add_12 : decode cX0_add 12 = .ok (.if_icmp .lt 5, 3) := by decide +kernel
theorem dX0_add_15 : decode cX0_add 15 = .ok (.iconst 0, 1) := by decide +kernel
theorem dX0_add_16 : decode cX0_add 16 = .ok (.ireturn, 1) := by decide +kernel
theorem dX0_add_17 : decode cX0_add 17 = .ok (.aload_n 1, 1) := by decide +kernel
theorem dX0_add_18 : decode cX0_add 18 = .ok (.aload_n 0, 1) := by decide +kernel
theorem dX0_add_19 : decode cX0_add 19 = .ok (.getfield 13, 3) := by decide +kernel
theorem dX0_add_22 : decode cX0_add 22 = .ok (.aload_n 0, 1) := by decide +kernel
theorem dX0_add_23 : decode cX0_add 23 = .ok (.getfield 21, 3) := by decide +kernel
theorem dX0_add_26 : decode cX0_add 26 = .ok (.aaload, 1) := by decide +kernel
theorem dX0_add_27 : decode cX0_add 27 = .ok (.invokestatic 29, 3) := by decide +kernel
theorem dX0_add_30 : decode cX0_add 30 = .ok (.aload_n 0, 1) := by decide +kernel
theorem dX0_add_31 : decode cX0_add 31 = .ok (.dup, 1) := by decide +kernel
theorem dX0_add_32 : decode cX0_add 32 = .ok (.getfield 21, 3) := by decide +kernel
theorem dX0_add_35 : decode cX0_add 35 = .ok (.iconst 1, 1) := by decide +kernel
theorem dX0_add_36 : decode cX0_add 36 = .ok (.iadd, 1) := by decide +kernel
theorem dX0_add_37 : decode cX0_add 37 = .ok (.putfield 21, 3) := by decide +kernel
theorem dX0_add_40 : decode cX0_add 40 = .ok (.iconst 1, 1) := by decide +kernel
theorem dX0_add_41 : decode cX0_add 41 = .ok (.ireturn, 1) := by decide +kernel
theorem dX0_findRank_0 : decode cX0_findRank 0 = .ok (.aload_n 0, 1) := by decide +kernel
theorem dX0_findRank_1 : decode cX0_findRank 1 = .ok (.invokevirtual 35, 3) := by decide +kernel
theorem dX0_findRank_4 : decode cX0_findRank 4 = .ok (.aload_n 0, 1) := by decide +kernel
theorem dX0_findRank_5 : decode cX0_findRank 5 = .ok (.aload_n 0, 1) := by decide +kernel
theorem dX0_findRank_6 : decode cX0_findRank 6 = .ok (.getfield 21, 3) := by decide +kernel
theorem dX0_findRank_9 : decode cX0_findRank 9 = .ok (.bipush 6, 2) := by decide +kernel
theorem dX0_findRank_11 : decode cX0_findRank 11 = .ok (.invokevirtual 38, 3) := by decide +kernel
theorem dX0_findRank_14 : decode cX0_findRank 14 = .ok (.ireturn, 1) := by decide +kernel
theorem dX0_spans_0 : decode cX0_spans 0 = .ok (.aload_n 0, 1) := by decide +kernel
theorem dX0_spans_1 : decode cX0_spans 1 = .ok (.invokevirtual 42, 3) := by decide +kernel
theorem dX0_spans_4 : decode cX0_spans 4 = .ok (.istore_n 2, 1) := by decide +kernel
theorem dX0_spans_5 : decode cX0_spans 5 = .ok (.aload_n 0, 1) := by decide +kernel
theorem dX0_spans_6 : decode cX0_spans 6 = .ok (.invokevirtual 35, 3) := by decide +kernel
theorem dX0_spans_9 : decode cX0_spans 9 = .ok (.iconst 0, 1) := by decide +kernel
theorem dX0_spans_10 : decode cX0_spans 10 = .ok (.istore_n 3, 1) := by decide +kernel
theorem dX0_spans_11 : decode cX0_spans 11 = .ok (.iload_n 3, 1) := by decide +kernel
theorem dX0_spans_12 : decode cX0_spans 12 = .ok (.bipush 6, 2) := by decide +kernel
theorem dX0_spans_14 : decode cX0_spans 14 = .ok (.if_icmp .ge 24, 3) := by decide +kernel
theorem dX0_spans_17 : decode cX0_spans 17 = .ok (.aload_n 0, 1) := by decide +kernel
theorem dX0_spans_18 : decode cX0_spans 18 = .ok (.getfield 18, 3) := by decide +kernel
theorem dX0_spans_21 : decode cX0_spans 21 = .ok (.aload_n 0, 1) := by decide +kernel
theorem dX0_spans_22 : decode cX0_spans 22 = .ok (.getfield 21, 3) := by decide +kernel
theorem dX0_spans_25 : decode cX0_spans 25 = .ok (.aaload, 1) := by decide +kernel
theorem dX0_spans_26 : decode cX0_spans 26 = .ok (.iload_n 3, 1) := by decide +kernel
theorem dX0_spans_27 : decode cX0_spans 27 = .ok (.aload_n 1, 1) := by decide +kernel
theorem dX0_spans_28 : decode cX0_spans 28 = .ok (.iload_n 3, 1) := by decide +kernel
theorem dX0_spans_29 : decode cX0_spans 29 = .ok (.iaload, 1) := by decide +kernel
theorem dX0_spans_30 : decode cX0_spans 30 = .ok (.i2l, 1) := by decide +kernel
theorem dX0_spans_31 : decode cX0_spans 31 = .ok (.lastore, 1) := by decide +kernel
theorem dX0_spans_32 : decode cX0_spans 32 = .ok (.iinc 3 1, 3) := by decide +kernel
theorem dX0_spans_35 : decode cX0_spans 35 = .ok (.goto (-24), 3) := by decide +kernel
theorem dX0_spans_38 : decode cX0_spans 38 = .ok (.aload_n 0, 1) := by decide +kernel
theorem dX0_spans_39 : decode cX0_spans 39 = .ok (.aload_n 0, 1) := by decide +kernel
theorem dX0_spans_40 : decode cX0_spans 40 = .ok (.getfield 21, 3) := by decide +kernel
theorem dX0_spans_43 : decode cX0_spans 43 = .ok (.iconst 1, 1) := by decide +kernel
theorem dX0_spans_44 : decode cX0_spans 44 = .ok (.iadd, 1) := by decide +kernel
theorem dX0_spans_45 : decode cX0_spans 45 = .ok (.bipush 6, 2) := by decide +kernel
theorem dX0_spans_47 : decode cX0_spans 47 = .ok (.invokevirtual 38, 3) := by decide +kernel
theorem dX0_spans_50 : decode cX0_spans 50 = .ok (.iload_n 2, 1) := by decide +kernel
theorem dX0_spans_51 : decode cX0_spans 51 = .ok (.if_icmp .ne 7, 3) := by decide +kernel
theorem dX0_spans_54 : decode cX0_spans 54 = .ok (.iconst 1, 1) := by decide +kernel
theorem dX0_spans_55 : decode cX0_spans 55 = .ok (.goto 4, 3) := by decide +kernel
theorem dX0_spans_58 : decode cX0_spans 58 = .ok (.iconst 0, 1) := by decide +kernel
theorem dX0_spans_59 : decode cX0_spans 59 = .ok (.ireturn, 1) := by decide +kernel
theorem dX0_findTwist_0 : decode cX0_findTwist 0 = .ok (.aload_n 0, 1) := by decide +kernel
theorem dX0_findTwist_1 : decode cX0_findTwist 1 = .ok (.invokevirtual 42, 3) := by decide +kernel
theorem dX0_findTwist_4 : decode cX0_findTwist 4 = .ok (.istore_n 1, 1) := by decide +kernel
theorem dX0_findTwist_5 : decode cX0_findTwist 5 = .ok (.iload_n 1, 1) := by decide +kernel
theorem dX0_findTwist_6 : decode cX0_findTwist 6 = .ok (.ifCond .ne 5, 3) := by decide +kernel
theorem dX0_findTwist_9 : decode cX0_findTwist 9 = .ok (.lconst 1, 1) := by decide +kernel
theorem dX0_findTwist_10 : decode cX0_findTwist 10 = .ok (.lreturn, 1) := by decide +kernel
theorem dX0_findTwist_11 : decode cX0_findTwist 11 = .ok (.lconst 0, 1) := by decide +kernel
theorem dX0_findTwist_12 : decode cX0_findTwist 12 = .ok (.lstore_n 2, 1) := by decide +kernel
theorem dX0_findTwist_13 : decode cX0_findTwist 13 = .ok (.iconst 0, 1) := by decide +kernel
theorem dX0_findTwist_14 : decode cX0_findTwist 14 = .ok (.istore 4, 2) := by decide +kernel
theorem dX0_findTwist_16 : decode cX0_findTwist 16 = .ok (.iload 4, 2) := by decide +kernel
theorem dX0_findTwist_18 : decode cX0_findTwist 18 = .ok (.iconst 1, 1) := by decide +kernel
theorem dX0_findTwist_19 : decode cX0_findTwist 19 = .ok (.aload_n 0, 1) := by decide +kernel
theorem dX0_findTwist_20 : decode cX0_findTwist 20 = .ok (.getfield 21, 3) := by decide +kernel
theorem dX0_findTwist_23 : decode cX0_findTwist 23 = .ok (.ishl, 1) := by decide +kernel
theorem dX0_findTwist_24 : decode cX0_findTwist 24 = .ok (.if_icmp .ge 63, 3) := by decide +kernel
theorem dX0_findTwist_27 : decode cX0_findTwist 27 = .ok (.iconst 0, 1) := by decide +kernel
theorem dX0_findTwist_28 : decode cX0_findTwist 28 = .ok (.istore 5, 2) := by decide +kernel
theorem dX0_findTwist_30 : decode cX0_findTwist 30 = .ok (.iload 5, 2) := by decide +kernel
theorem dX0_findTwist_32 : decode cX0_findTwist 32 = .ok (.bipush 64, 2) := by decide +kernel
theorem dX0_findTwist_34 : decode cX0_findTwist 34 = .ok (.if_icmp .ge 47, 3) := by decide +kernel
theorem dX0_findTwist_37 : decode cX0_findTwist 37 = .ok (.lload_n 2, 1) := by decide +kernel
theorem dX0_findTwist_38 : decode cX0_findTwist 38 = .ok (.lconst 1, 1) := by decide +kernel
theorem dX0_findTwist_39 : decode cX0_findTwist 39 = .ok (.lcmp, 1) := by decide +kernel
theorem dX0_findTwist_40 : decode cX0_findTwist 40 = .ok (.ifCond .eq 41, 3) := by decide +kernel
theorem dX0_findTwist_43 : decode cX0_findTwist 43 = .ok (.iload 4, 2) := by decide +kernel
theorem dX0_findTwist_45 : decode cX0_findTwist 45 = .ok (.invokestatic 46, 3) := by decide +kernel
theorem dX0_findTwist_48 : decode cX0_findTwist 48 = .ok (.iload_n 1, 1) := by decide +kernel
theorem dX0_findTwist_49 : decode cX0_findTwist 49 = .ok (.if_icmp .ne 26, 3) := by decide +kernel
theorem dX0_findTwist_52 : decode cX0_findTwist 52 = .ok (.iload 5, 2) := by decide +kernel
theorem dX0_findTwist_54 : decode cX0_findTwist 54 = .ok (.invokestatic 46, 3) := by decide +kernel
theorem dX0_findTwist_57 : decode cX0_findTwist 57 = .ok (.iload_n 1, 1) := by decide +kernel
theorem dX0_findTwist_58 : decode cX0_findTwist 58 = .ok (.if_icmp .ne 17, 3) := by decide +kernel
theorem dX0_findTwist_61 : decode cX0_findTwist 61 = .ok (.lload_n 2, 1) := by decide +kernel
theorem dX0_findTwist_62 : decode cX0_findTwist 62 = .ok (.aload_n 0, 1) := by decide +kernel
theorem dX0_findTwist_63 : decode cX0_findTwist 63 = .ok (.iload 4, 2) := by decide +kernel
theorem dX0_findTwist_65 : decode cX0_findTwist 65 = .ok (.iload 5, 2) := by decide +kernel
theorem dX0_findTwist_67 : decode cX0_findTwist 67 = .ok (.iload_n 1, 1) := by decide +kernel
theorem dX0_findTwist_68 : decode cX0_findTwist 68 = .ok (.invokevirtual 52, 3) := by decide +kernel
theorem dX0_findTwist_71 : decode cX0_findTwist 71 = .ok (.invokestatic 56, 3) := by decide +kernel
theorem dX0_findTwist_74 : decode cX0_findTwist 74 = .ok (.lstore_n 2, 1) := by decide +kernel
theorem dX0_findTwist_75 : decode cX0_findTwist 75 = .ok (.iinc 5 1, 3) := by decide +kernel
theorem dX0_findTwist_78 : decode cX0_findTwist 78 = .ok (.goto (-48), 3) := by decide +kernel
theorem dX0_findTwist_81 : decode cX0_findTwist 81 = .ok (.iinc 4 1, 3) := by decide +kernel
theorem dX0_findTwist_84 : decode cX0_findTwist 84 = .ok (.goto (-68), 3) := by decide +kernel
theorem dX0_findTwist_87 : decode cX0_findTwist 87 = .ok (.lload_n 2, 1) := by decide +kernel
theorem dX0_findTwist_88 : decode cX0_findTwist 88 = .ok (.lreturn, 1) := by decide +kernel
theorem dX0_firstSupport_0 : decode cX0_firstSupport 0 = .ok (.iload_n 1, 1) := by decide +kernel
theorem dX0_firstSupport_1 : decode cX0_firstSupport 1 = .ok (.istore_n 2, 1) := by decide +kernel
theorem dX0_firstSupport_2 : decode cX0_firstSupport 2 = .ok (.iload_n 2, 1) := by decide +kernel
theorem dX0_firstSupport_3 : decode cX0_firstSupport 3 = .ok (.bipush 99, 2) := by decide +kernel
theorem dX0_firstSupport_5 : decode cX0_firstSupport 5 = .ok (.if_icmp .gt 19, 3) := by decide +kernel
theorem dX0_firstSupport_8 : decode cX0_firstSupport 8 = .ok (.aload_n 0, 1) := by decide +kernel
theorem dX0_firstSupport_9 : decode cX0_firstSupport 9 = .ok (.iload_n 2, 1) := by decide +kernel
theorem dX0_firstSupport_10 : decode cX0_firstSupport 10 = .ok (.invokevirtual 62, 3) := by decide +kernel
theorem dX0_firstSupport_13 : decode cX0_firstSupport 13 = .ok (.ifCond .eq 5, 3) := by decide +kernel
theorem dX0_firstSupport_16 : decode cX0_firstSupport 16 = .ok (.iload_n 2, 1) := by decide +kernel
theorem dX0_firstSupport_17 : decode cX0_firstSupport 17 = .ok (.ireturn, 1) := by decide +kernel
theorem dX0_firstSupport_18 : decode cX0_firstSupport 18 = .ok (.iinc 2 1, 3) := by decide +kernel
theorem dX0_firstSupport_21 : decode cX0_firstSupport 21 = .ok (.goto (-19), 3) := by decide +kernel
theorem dX0_firstSupport_24 : decode cX0_firstSupport 24 = .ok (.iconst 0, 1) := by decide +kernel
theorem dX0_firstSupport_25 : decode cX0_firstSupport 25 = .ok (.ireturn, 1) := by decide +kernel
theorem dX0_isSupportedBy_0 : decode cX0_isSupportedBy 0 = .ok (.iconst 0, 1) := by decide +kernel
theorem dX0_isSupportedBy_1 : decode cX0_isSupportedBy 1 = .ok (.istore_n 2, 1) := by decide +kernel
theorem dX0_isSupportedBy_2 : decode cX0_isSupportedBy 2 = .ok (.iload_n 2, 1) := by decide +kernel
theorem dX0_isSupportedBy_3 : decode cX0_isSupportedBy 3 = .ok (.aload_n 0, 1) := by decide +kernel
theorem dX0_isSupportedBy_4 : decode cX0_isSupportedBy 4 = .ok (.getfield 21, 3) := by decide +kernel
theorem dX0_isSupportedBy_7 : decode cX0_isSupportedBy 7 = .ok (.if_icmp .ge 24, 3) := by decide +kernel
theorem dX0_isSupportedBy_10 : decode cX0_isSupportedBy 10 = .ok (.aload_n 0, 1) := by decide +kernel
theorem dX0_isSupportedBy_11 : decode cX0_isSupportedBy 11 = .ok (.getfield 13, 3) := by decide +kernel
theorem dX0_isSupportedBy_14 : decode cX0_isSupportedBy 14 = .ok (.iload_n 2, 1) := by decide +kernel
theorem dX0_isSupportedBy_15 : decode cX0_isSupportedBy 15 = .ok (.aaload, 1) := by decide +kernel
theorem dX0_isSupportedBy_16 : decode cX0_isSupportedBy 16 = .ok (.iload_n 1, 1) := by decide +kernel
theorem dX0_isSupportedBy_17 : decode cX0_isSupportedBy 17 = .ok (.invokestatic 66, 3) := by decide +kernel
theorem dX0_isSupportedBy_20 : decode cX0_isSupportedBy 20 = .ok (.ifCond .eq 5, 3) := by decide +kernel
theorem dX0_isSupportedBy_23 : decode cX0_isSupportedBy 23 = .ok (.iconst 0, 1) := by decide +kernel
theorem dX0_isSupportedBy_24 : decode cX0_isSupportedBy 24 = .ok (.ireturn, 1) := by decide +kernel
theorem dX0_isSupportedBy_25 : decode cX0_isSupportedBy 25 = .ok (.iinc 2 1, 3) := by decide +kernel
theorem dX0_isSupportedBy_28 : decode cX0_isSupportedBy 28 = .ok (.goto (-26), 3) := by decide +kernel
theorem dX0_isSupportedBy_31 : decode cX0_isSupportedBy 31 = .ok (.iconst 1, 1) := by decide +kernel
theorem dX0_isSupportedBy_32 : decode cX0_isSupportedBy 32 = .ok (.ireturn, 1) := by decide +kernel
theorem dX0_fillTable_0 : decode cX0_fillTable 0 = .ok (.iconst 0, 1) := by decide +kernel
theorem dX0_fillTable_1 : decode cX0_fillTable 1 = .ok (.istore_n 1, 1) := by decide +kernel
theorem dX0_fillTable_2 : decode cX0_fillTable 2 = .ok (.iload_n 1, 1) := by decide +kernel
theorem dX0_fillTable_3 : decode cX0_fillTable 3 = .ok (.aload_n 0, 1) := by decide +kernel
theorem dX0_fillTable_4 : decode cX0_fillTable 4 = .ok (.getfield 21, 3) := by decide +kernel
theorem dX0_fillTable_7 : decode cX0_fillTable 7 = .ok (.if_icmp .ge 40, 3) := by decide +kernel
theorem dX0_fillTable_10 : decode cX0_fillTable 10 = .ok (.iconst 0, 1) := by decide +kernel
theorem dX0_fillTable_11 : decode cX0_fillTable 11 = .ok (.istore_n 2, 1) := by decide +kernel
theorem dX0_fillTable_12 : decode cX0_fillTable 12 = .ok (.iload_n 2, 1) := by decide +kernel
theorem dX0_fillTable_13 : decode cX0_fillTable 13 = .ok (.bipush 6, 2) := by decide +kernel
theorem dX0_fillTable_15 : decode cX0_fillTable 15 = .ok (.if_icmp .ge 26, 3) := by decide +kernel
theorem dX0_fillTable_18 : decode cX0_fillTable 18 = .ok (.aload_n 0, 1) := by decide +kernel
theorem dX0_fillTable_19 : decode cX0_fillTable 19 = .ok (.getfield 18, 3) := by decide +kernel
theorem dX0_fillTable_22 : decode cX0_fillTable 22 = .ok (.iload_n 1, 1) := by decide +kernel
theorem dX0_fillTable_23 : decode cX0_fillTable 23 = .ok (.aaload, 1) := by decide +kernel
theorem dX0_fillTable_24 : decode cX0_fillTable 24 = .ok (.iload_n 2, 1) := by decide +kernel
theorem dX0_fillTable_25 : decode cX0_fillTable 25 = .ok (.aload_n 0, 1) := by decide +kernel
theorem dX0_fillTable_26 : decode cX0_fillTable 26 = .ok (.getfield 13, 3) := by decide +kernel
theorem dX0_fillTable_29 : decode cX0_fillTable 29 = .ok (.iload_n 1, 1) := by decide +kernel
theorem dX0_fillTable_30 : decode cX0_fillTable 30 = .ok (.aaload, 1) := by decide +kernel
theorem dX0_fillTable_31 : decode cX0_fillTable 31 = .ok (.iload_n 2, 1) := by decide +kernel
theorem dX0_fillTable_32 : decode cX0_fillTable 32 = .ok (.iaload, 1) := by decide +kernel
theorem dX0_fillTable_33 : decode cX0_fillTable 33 = .ok (.i2l, 1) := by decide +kernel
theorem dX0_fillTable_34 : decode cX0_fillTable 34 = .ok (.lastore, 1) := by decide +kernel
theorem dX0_fillTable_35 : decode cX0_fillTable 35 = .ok (.iinc 2 1, 3) := by decide +kernel
theorem dX0_fillTable_38 : decode cX0_fillTable 38 = .ok (.goto (-26), 3) := by decide +kernel
theorem dX0_fillTable_41 : decode cX0_fillTable 41 = .ok (.iinc 1 1, 3) := by decide +kernel
theorem dX0_fillTable_44 : decode cX0_fillTable 44 = .ok (.goto (-42), 3) := by decide +kernel
theorem dX0_fillTable_47 : decode cX0_fillTable 47 = .ok (.return_, 1) := by decide +kernel
theorem dX0_determinant_0 : decode cX0_determinant 0 = .ok (.iconst 0, 1) := by decide +kernel
theorem dX0_determinant_1 : decode cX0_determinant 1 = .ok (.istore 4, 2) := by decide +kernel
theorem dX0_determinant_3 : decode cX0_determinant 3 = .ok (.iconst 0, 1) := by decide +kernel
theorem dX0_determinant_4 : decode cX0_determinant 4 = .ok (.istore 5, 2) := by decide +kernel
theorem dX0_determinant_6 : decode cX0_determinant 6 = .ok (.iload 5, 2) := by decide +kernel
theorem dX0_determinant_8 : decode cX0_determinant 8 = .ok (.aload_n 0, 1) := by decide +kernel
theorem dX0_determinant_9 : decode cX0_determinant 9 = .ok (.getfield 21, 3) := by decide +kernel
theorem dX0_determinant_12 : decode cX0_determinant 12 = .ok (.if_icmp .ge 73, 3) := by decide +kernel
theorem dX0_determinant_15 : decode cX0_determinant 15 = .ok (.iload_n 1, 1) := by decide +kernel
theorem dX0_determinant_16 : decode cX0_determinant 16 = .ok (.iload 5, 2) := by decide +kernel
theorem dX0_determinant_18 : decode cX0_determinant 18 = .ok (.ishr, 1) := by decide +kernel
theorem dX0_determinant_19 : decode cX0_determinant 19 = .ok (.iconst 1, 1) := by decide +kernel
theorem dX0_determinant_20 : decode cX0_determinant 20 = .ok (.iand, 1) := by decide +kernel
theorem dX0_determinant_21 : decode cX0_determinant 21 = .ok (.ifCond .eq 58, 3) := by decide +kernel
theorem dX0_determinant_24 : decode cX0_determinant 24 = .ok (.iconst 0, 1) := by decide +kernel
theorem dX0_determinant_25 : decode cX0_determinant 25 = .ok (.istore 6, 2) := by decide +kernel
theorem dX0_determinant_27 : decode cX0_determinant 27 = .ok (.iconst 0, 1) := by decide +kernel
theorem dX0_determinant_28 : decode cX0_determinant 28 = .ok (.istore 7, 2) := by decide +kernel
theorem dX0_determinant_30 : decode cX0_determinant 30 = .ok (.iload 7, 2) := by decide +kernel
theorem dX0_determinant_32 : decode cX0_determinant 32 = .ok (.bipush 6, 2) := by decide +kernel
theorem dX0_determinant_34 : decode cX0_determinant 34 = .ok (.if_icmp .ge 42, 3) := by decide +kernel
theorem dX0_determinant_37 : decode cX0_determinant 37 = .ok (.iload_n 2, 1) := by decide +kernel
theorem dX0_determinant_38 : decode cX0_determinant 38 = .ok (.iload 7, 2) := by decide +kernel
theorem dX0_determinant_40 : decode cX0_determinant 40 = .ok (.ishr, 1) := by decide +kernel
theorem dX0_determinant_41 : decode cX0_determinant 41 = .ok (.iconst 1, 1) := by decide +kernel
theorem dX0_determinant_42 : decode cX0_determinant 42 = .ok (.iand, 1) := by decide +kernel
theorem dX0_determinant_43 : decode cX0_determinant 43 = .ok (.ifCond .eq 27, 3) := by decide +kernel
theorem dX0_determinant_46 : decode cX0_determinant 46 = .ok (.aload_n 0, 1) := by decide +kernel
theorem dX0_determinant_47 : decode cX0_determinant 47 = .ok (.getfield 18, 3) := by decide +kernel
theorem dX0_determinant_50 : decode cX0_determinant 50 = .ok (.iload 4, 2) := by decide +kernel
theorem dX0_determinant_52 : decode cX0_determinant 52 = .ok (.aaload, 1) := by decide +kernel
theorem dX0_determinant_53 : decode cX0_determinant 53 = .ok (.iload 6, 2) := by decide +kernel
theorem dX0_determinant_55 : decode cX0_determinant 55 = .ok (.aload_n 0, 1) := by decide +kernel
theorem dX0_determinant_56 : decode cX0_determinant 56 = .ok (.getfield 13, 3) := by decide +kernel
theorem dX0_determinant_59 : decode cX0_determinant 59 = .ok (.iload 5, 2) := by decide +kernel
theorem dX0_determinant_61 : decode cX0_determinant 61 = .ok (.aaload, 1) := by decide +kernel
theorem dX0_determinant_62 : decode cX0_determinant 62 = .ok (.iload 7, 2) := by decide +kernel
theorem dX0_determinant_64 : decode cX0_determinant 64 = .ok (.iaload, 1) := by decide +kernel
theorem dX0_determinant_65 : decode cX0_determinant 65 = .ok (.i2l, 1) := by decide +kernel
theorem dX0_determinant_66 : decode cX0_determinant 66 = .ok (.lastore, 1) := by decide +kernel
theorem dX0_determinant_67 : decode cX0_determinant 67 = .ok (.iinc 6 1, 3) := by decide +kernel
theorem dX0_determinant_70 : decode cX0_determinant 70 = .ok (.iinc 7 1, 3) := by decide +kernel
theorem dX0_determinant_73 : decode cX0_determinant 73 = .ok (.goto (-43), 3) := by decide +kernel
theorem dX0_determinant_76 : decode cX0_determinant 76 = .ok (.iinc 4 1, 3) := by decide +kernel
theorem dX0_determinant_79 : decode cX0_determinant 79 = .ok (.iinc 5 1, 3) := by decide +kernel
theorem dX0_determinant_82 : decode cX0_determinant 82 = .ok (.goto (-76), 3) := by decide +kernel
theorem dX0_determinant_85 : decode cX0_determinant 85 = .ok (.aload_n 0, 1) := by decide +kernel
theorem dX0_determinant_86 : decode cX0_determinant 86 = .ok (.iload_n 3, 1) := by decide +kernel
theorem dX0_determinant_87 : decode cX0_determinant 87 = .ok (.iload_n 3, 1) := by decide +kernel
theorem dX0_determinant_88 : decode cX0_determinant 88 = .ok (.invokevirtual 38, 3) := by decide +kernel
theorem dX0_determinant_91 : decode cX0_determinant 91 = .ok (.iload_n 3, 1) := by decide +kernel
theorem dX0_determinant_92 : decode cX0_determinant 92 = .ok (.if_icmp .ne 13, 3) := by decide +kernel
theorem dX0_determinant_95 : decode cX0_determinant 95 = .ok (.aload_n 0, 1) := by decide +kernel
theorem dX0_determinant_96 : decode cX0_determinant 96 = .ok (.getfield 25, 3) := by decide +kernel
theorem dX0_determinant_99 : decode cX0_determinant 99 = .ok (.invokestatic 70, 3) := by decide +kernel
theorem dX0_determinant_102 : decode cX0_determinant 102 = .ok (.goto 4, 3) := by decide +kernel
theorem dX0_determinant_105 : decode cX0_determinant 105 = .ok (.lconst 0, 1) := by decide +kernel
theorem dX0_determinant_106 : decode cX0_determinant 106 = .ok (.lreturn, 1) := by decide +kernel
theorem dX0_eliminate_0 : decode cX0_eliminate 0 = .ok (.iconst 0, 1) := by decide +kernel
theorem dX0_eliminate_1 : decode cX0_eliminate 1 = .ok (.istore_n 3, 1) := by decide +kernel
theorem dX0_eliminate_2 : decode cX0_eliminate 2 = .ok (.aload_n 0, 1) := by decide +kernel
theorem dX0_eliminate_3 : decode cX0_eliminate 3 = .ok (.lconst 1, 1) := by decide +kernel
theorem dX0_eliminate_4 : decode cX0_eliminate 4 = .ok (.putfield 25, 3) := by decide +kernel
theorem dX0_eliminate_7 : decode cX0_eliminate 7 = .ok (.iconst 0, 1) := by decide +kernel
theorem dX0_eliminate_8 : decode cX0_eliminate 8 = .ok (.istore 4, 2) := by decide +kernel
theorem dX0_eliminate_10 : decode cX0_eliminate 10 = .ok (.iload 4, 2) := by decide +kernel
theorem dX0_eliminate_12 : decode cX0_eliminate 12 = .ok (.iload_n 2, 1) := by decide +kernel
theorem dX0_eliminate_13 : decode cX0_eliminate 13 = .ok (.if_icmp .ge 82, 3) := by decide +kernel
theorem dX0_eliminate_16 : decode cX0_eliminate 16 = .ok (.iload_n 3, 1) := by decide +kernel
theorem dX0_eliminate_17 : decode cX0_eliminate 17 = .ok (.iload_n 1, 1) := by decide +kernel
theorem dX0_eliminate_18 : decode cX0_eliminate 18 = .ok (.if_icmp .ge 77, 3) := by decide +kernel
theorem dX0_eliminate_21 : decode cX0_eliminate 21 = .ok (.aload_n 0, 1) := by decide +kernel
theorem dX0_eliminate_22 : decode cX0_eliminate 22 = .ok (.iload_n 3, 1) := by decide +kernel
theorem dX0_eliminate_23 : decode cX0_eliminate 23 = .ok (.iload_n 1, 1) := by decide +kernel
theorem dX0_eliminate_24 : decode cX0_eliminate 24 = .ok (.iload 4, 2) := by decide +kernel
theorem dX0_eliminate_26 : decode cX0_eliminate 26 = .ok (.invokevirtual 76, 3) := by decide +kernel
theorem dX0_eliminate_29 : decode cX0_eliminate 29 = .ok (.ifCond .eq 60, 3) := by decide +kernel
theorem dX0_eliminate_32 : decode cX0_eliminate 32 = .ok (.aload_n 0, 1) := by decide +kernel
theorem dX0_eliminate_33 : decode cX0_eliminate 33 = .ok (.getfield 18, 3) := by decide +kernel
theorem dX0_eliminate_36 : decode cX0_eliminate 36 = .ok (.iload_n 3, 1) := by decide +kernel
theorem dX0_eliminate_37 : decode cX0_eliminate 37 = .ok (.aaload, 1) := by decide +kernel
theorem dX0_eliminate_38 : decode cX0_eliminate 38 = .ok (.iload 4, 2) := by decide +kernel
theorem dX0_eliminate_40 : decode cX0_eliminate 40 = .ok (.laload, 1) := by decide +kernel
theorem dX0_eliminate_41 : decode cX0_eliminate 41 = .ok (.lstore 5, 2) := by decide +kernel
theorem dX0_eliminate_43 : decode cX0_eliminate 43 = .ok (.iload_n 3, 1) := by decide +kernel
theorem dX0_eliminate_44 : decode cX0_eliminate 44 = .ok (.iconst 1, 1) := by decide +kernel
theorem dX0_eliminate_45 : decode cX0_eliminate 45 = .ok (.iadd, 1) := by decide +kernel
theorem dX0_eliminate_46 : decode cX0_eliminate 46 = .ok (.istore 7, 2) := by decide +kernel
theorem dX0_eliminate_48 : decode cX0_eliminate 48 = .ok (.iload 7, 2) := by decide +kernel
theorem dX0_eliminate_50 : decode cX0_eliminate 50 = .ok (.iload_n 1, 1) := by decide +kernel
theorem dX0_eliminate_51 : decode cX0_eliminate 51 = .ok (.if_icmp .ge 29, 3) := by decide +kernel
theorem dX0_eliminate_54 : decode cX0_eliminate 54 = .ok (.aload_n 0, 1) := by decide +kernel
theorem dX0_eliminate_55 : decode cX0_eliminate 55 = .ok (.aload_n 0, 1) := by decide +kernel
theorem dX0_eliminate_56 : decode cX0_eliminate 56 = .ok (.getfield 18, 3) := by decide +kernel
theorem dX0_eliminate_59 : decode cX0_eliminate 59 = .ok (.iload 7, 2) := by decide +kernel
theorem dX0_eliminate_61 : decode cX0_eliminate 61 = .ok (.aaload, 1) := by decide +kernel
theorem dX0_eliminate_62 : decode cX0_eliminate 62 = .ok (.aload_n 0, 1) := by decide +kernel
theorem dX0_eliminate_63 : decode cX0_eliminate 63 = .ok (.getfield 18, 3) := by decide +kernel
theorem dX0_eliminate_66 : decode cX0_eliminate 66 = .ok (.iload_n 3, 1) := by decide +kernel
theorem dX0_eliminate_67 : decode cX0_eliminate 67 = .ok (.aaload, 1) := by decide +kernel
theorem dX0_eliminate_68 : decode cX0_eliminate 68 = .ok (.iload 4, 2) := by decide +kernel
theorem dX0_eliminate_70 : decode cX0_eliminate 70 = .ok (.iload_n 2, 1) := by decide +kernel
theorem dX0_eliminate_71 : decode cX0_eliminate 71 = .ok (.invokevirtual 80, 3) := by decide +kernel
theorem dX0_eliminate_74 : decode cX0_eliminate 74 = .ok (.iinc 7 1, 3) := by decide +kernel
theorem dX0_eliminate_77 : decode cX0_eliminate 77 = .ok (.goto (-29), 3) := by decide +kernel
theorem dX0_eliminate_80 : decode cX0_eliminate 80 = .ok (.aload_n 0, 1) := by decide +kernel
theorem dX0_eliminate_81 : decode cX0_eliminate 81 = .ok (.lload 5, 2) := by decide +kernel
theorem dX0_eliminate_83 : decode cX0_eliminate 83 = .ok (.putfield 25, 3) := by decide +kernel
theorem dX0_eliminate_86 : decode cX0_eliminate 86 = .ok (.iinc 3 1, 3) := by decide +kernel
theorem dX0_eliminate_89 : decode cX0_eliminate 89 = .ok (.iinc 4 1, 3) := by decide +kernel
theorem dX0_eliminate_92 : decode cX0_eliminate 92 = .ok (.goto (-82), 3) := by decide +kernel
theorem dX0_eliminate_95 : decode cX0_eliminate 95 = .ok (.iload_n 3, 1) := by decide +kernel
theorem dX0_eliminate_96 : decode cX0_eliminate 96 = .ok (.ireturn, 1) := by decide +kernel
theorem dX0_raisePivot_0 : decode cX0_raisePivot 0 = .ok (.iload_n 1, 1) := by decide +kernel
theorem dX0_raisePivot_1 : decode cX0_raisePivot 1 = .ok (.istore 4, 2) := by decide +kernel
theorem dX0_raisePivot_3 : decode cX0_raisePivot 3 = .ok (.iload 4, 2) := by decide +kernel
theorem dX0_raisePivot_5 : decode cX0_raisePivot 5 = .ok (.iload_n 2, 1) := by decide +kernel
theorem dX0_raisePivot_6 : decode cX0_raisePivot 6 = .ok (.if_icmp .ge 55, 3) := by decide +kernel
theorem dX0_raisePivot_9 : decode cX0_raisePivot 9 = .ok (.aload_n 0, 1) := by decide +kernel
theorem dX0_raisePivot_10 : decode cX0_raisePivot 10 = .ok (.getfield 18, 3) := by decide +kernel
theorem dX0_raisePivot_13 : decode cX0_raisePivot 13 = .ok (.iload 4, 2) := by decide +kernel
theorem dX0_raisePivot_15 : decode cX0_raisePivot 15 = .ok (.aaload, 1) := by decide +kernel
theorem dX0_raisePivot_16 : decode cX0_raisePivot 16 = .ok (.iload_n 3, 1) := by decide +kernel
theorem dX0_raisePivot_17 : decode cX0_raisePivot 17 = .ok (.laload, 1) := by decide +kernel
theorem dX0_raisePivot_18 : decode cX0_raisePivot 18 = .ok (.lconst 0, 1) := by decide +kernel
theorem dX0_raisePivot_19 : decode cX0_raisePivot 19 = .ok (.lcmp, 1) := by decide +kernel
theorem dX0_raisePivot_20 : decode cX0_raisePivot 20 = .ok (.ifCond .eq 35, 3) := by decide +kernel
theorem dX0_raisePivot_23 : decode cX0_raisePivot 23 = .ok (.aload_n 0, 1) := by decide +kernel
theorem dX0_raisePivot_24 : decode cX0_raisePivot 24 = .ok (.getfield 18, 3) := by decide +kernel
theorem dX0_raisePivot_27 : decode cX0_raisePivot 27 = .ok (.iload 4, 2) := by decide +kernel
theorem dX0_raisePivot_29 : decode cX0_raisePivot 29 = .ok (.aaload, 1) := by decide +kernel
theorem dX0_raisePivot_30 : decode cX0_raisePivot 30 = .ok (.astore 5, 2) := by decide +kernel
theorem dX0_raisePivot_32 : decode cX0_raisePivot 32 = .ok (.aload_n 0, 1) := by decide +kernel
theorem dX0_raisePivot_33 : decode cX0_raisePivot 33 = .ok (.getfield 18, 3) := by decide +kernel
theorem dX0_raisePivot_36 : decode cX0_raisePivot 36 = .ok (.iload 4, 2) := by decide +kernel
theorem dX0_raisePivot_38 : decode cX0_raisePivot 38 = .ok (.aload_n 0, 1) := by decide +kernel
theorem dX0_raisePivot_39 : decode cX0_raisePivot 39 = .ok (.getfield 18, 3) := by decide +kernel
theorem dX0_raisePivot_42 : decode cX0_raisePivot 42 = .ok (.iload_n 1, 1) := by decide +kernel
theorem dX0_raisePivot_43 : decode cX0_raisePivot 43 = .ok (.aaload, 1) := by decide +kernel
theorem dX0_raisePivot_44 : decode cX0_raisePivot 44 = .ok (.aastore, 1) := by decide +kernel
theorem dX0_raisePivot_45 : decode cX0_raisePivot 45 = .ok (.aload_n 0, 1) := by decide +kernel
theorem dX0_raisePivot_46 : decode cX0_raisePivot 46 = .ok (.getfield 18, 3) := by decide +kernel
theorem dX0_raisePivot_49 : decode cX0_raisePivot 49 = .ok (.iload_n 1, 1) := by decide +kernel
theorem dX0_raisePivot_50 : decode cX0_raisePivot 50 = .ok (.aload 5, 2) := by decide +kernel
theorem dX0_raisePivot_52 : decode cX0_raisePivot 52 = .ok (.aastore, 1) := by decide +kernel
theorem dX0_raisePivot_53 : decode cX0_raisePivot 53 = .ok (.iconst 1, 1) := by decide +kernel
theorem dX0_raisePivot_54 : decode cX0_raisePivot 54 = .ok (.ireturn, 1) := by decide +kernel
theorem dX0_raisePivot_55 : decode cX0_raisePivot 55 = .ok (.iinc 4 1, 3) := by decide +kernel
theorem dX0_raisePivot_58 : decode cX0_raisePivot 58 = .ok (.goto (-55), 3) := by decide +kernel
theorem dX0_raisePivot_61 : decode cX0_raisePivot 61 = .ok (.iconst 0, 1) := by decide +kernel
theorem dX0_raisePivot_62 : decode cX0_raisePivot 62 = .ok (.ireturn, 1) := by decide +kernel
theorem dX0_reduceLine_0 : decode cX0_reduceLine 0 = .ok (.aload_n 0, 1) := by decide +kernel
theorem dX0_reduceLine_1 : decode cX0_reduceLine 1 = .ok (.getfield 25, 3) := by decide +kernel
theorem dX0_reduceLine_4 : decode cX0_reduceLine 4 = .ok (.lconst 0, 1) := by decide +kernel
theorem dX0_reduceLine_5 : decode cX0_reduceLine 5 = .ok (.lcmp, 1) := by decide +kernel
theorem dX0_reduceLine_6 : decode cX0_reduceLine 6 = .ok (.ifCond .ne 4, 3) := by decide +kernel
theorem dX0_reduceLine_9 : decode cX0_reduceLine 9 = .ok (.return_, 1) := by decide +kernel
theorem dX0_reduceLine_10 : decode cX0_reduceLine 10 = .ok (.aload_n 1, 1) := by decide +kernel
theorem dX0_reduceLine_11 : decode cX0_reduceLine 11 = .ok (.iload_n 3, 1) := by decide +kernel
theorem dX0_reduceLine_12 : decode cX0_reduceLine 12 = .ok (.laload, 1) := by decide +kernel
theorem dX0_reduceLine_13 : decode cX0_reduceLine 13 = .ok (.lstore 5, 2) := by decide +kernel
theorem dX0_reduceLine_15 : decode cX0_reduceLine 15 = .ok (.iload_n 3, 1) := by decide +kernel
theorem dX0_reduceLine_16 : decode cX0_reduceLine 16 = .ok (.istore 7, 2) := by decide +kernel
theorem dX0_reduceLine_18 : decode cX0_reduceLine 18 = .ok (.iload 7, 2) := by decide +kernel
theorem dX0_reduceLine_20 : decode cX0_reduceLine 20 = .ok (.iload 4, 2) := by decide +kernel
theorem dX0_reduceLine_22 : decode cX0_reduceLine 22 = .ok (.if_icmp .ge 34, 3) := by decide +kernel
theorem dX0_reduceLine_25 : decode cX0_reduceLine 25 = .ok (.aload_n 1, 1) := by decide +kernel
theorem dX0_reduceLine_26 : decode cX0_reduceLine 26 = .ok (.iload 7, 2) := by decide +kernel
theorem dX0_reduceLine_28 : decode cX0_reduceLine 28 = .ok (.aload_n 1, 1) := by decide +kernel
theorem dX0_reduceLine_29 : decode cX0_reduceLine 29 = .ok (.iload 7, 2) := by decide +kernel
theorem dX0_reduceLine_31 : decode cX0_reduceLine 31 = .ok (.laload, 1) := by decide +kernel
theorem dX0_reduceLine_32 : decode cX0_reduceLine 32 = .ok (.aload_n 2, 1) := by decide +kernel
theorem dX0_reduceLine_33 : decode cX0_reduceLine 33 = .ok (.iload_n 3, 1) := by decide +kernel
theorem dX0_reduceLine_34 : decode cX0_reduceLine 34 = .ok (.laload, 1) := by decide +kernel
theorem dX0_reduceLine_35 : decode cX0_reduceLine 35 = .ok (.lmul, 1) := by decide +kernel
theorem dX0_reduceLine_36 : decode cX0_reduceLine 36 = .ok (.lload 5, 2) := by decide +kernel
theorem dX0_reduceLine_38 : decode cX0_reduceLine 38 = .ok (.aload_n 2, 1) := by decide +kernel
theorem dX0_reduceLine_39 : decode cX0_reduceLine 39 = .ok (.iload 7, 2) := by decide +kernel
theorem dX0_reduceLine_41 : decode cX0_reduceLine 41 = .ok (.laload, 1) := by decide +kernel
theorem dX0_reduceLine_42 : decode cX0_reduceLine 42 = .ok (.lmul, 1) := by decide +kernel
theorem dX0_reduceLine_43 : decode cX0_reduceLine 43 = .ok (.lsub, 1) := by decide +kernel
theorem dX0_reduceLine_44 : decode cX0_reduceLine 44 = .ok (.aload_n 0, 1) := by decide +kernel
theorem dX0_reduceLine_45 : decode cX0_reduceLine 45 = .ok (.getfield 25, 3) := by decide +kernel
theorem dX0_reduceLine_48 : decode cX0_reduceLine 48 = .ok (.ldiv, 1) := by decide +kernel
theorem dX0_reduceLine_49 : decode cX0_reduceLine 49 = .ok (.lastore, 1) := by decide +kernel
theorem dX0_reduceLine_50 : decode cX0_reduceLine 50 = .ok (.iinc 7 1, 3) := by decide +kernel
theorem dX0_reduceLine_53 : decode cX0_reduceLine 53 = .ok (.goto (-35), 3) := by decide +kernel
theorem dX0_reduceLine_56 : decode cX0_reduceLine 56 = .ok (.return_, 1) := by decide +kernel
theorem dX1_isDivision_0 : decode cX1_isDivision 0 = .ok (.iload_n 0, 1) := by decide +kernel
theorem dX1_isDivision_1 : decode cX1_isDivision 1 = .ok (.iconst 1, 1) := by decide +kernel
theorem dX1_isDivision_2 : decode cX1_isDivision 2 = .ok (.if_icmp .lt 13, 3) := by decide +kernel
theorem dX1_isDivision_5 : decode cX1_isDivision 5 = .ok (.iload_n 0, 1) := by decide +kernel
theorem dX1_isDivision_6 : decode cX1_isDivision 6 = .ok (.bipush 99, 2) := by decide +kernel
theorem dX1_isDivision_8 : decode cX1_isDivision 8 = .ok (.if_icmp .gt 7, 3) := by decide +kernel
theorem dX1_isDivision_11 : decode cX1_isDivision 11 = .ok (.iconst 1, 1) := by decide +kernel
theorem dX1_isDivision_12 : decode cX1_isDivision 12 = .ok (.goto 4, 3) := by decide +kernel
theorem dX1_isDivision_15 : decode cX1_isDivision 15 = .ok (.iconst 0, 1) := by decide +kernel
theorem dX1_isDivision_16 : decode cX1_isDivision 16 = .ok (.ireturn, 1) := by decide +kernel
theorem dX1_nearest_0 : decode cX1_nearest 0 = .ok (.iload_n 1, 1) := by decide +kernel
theorem dX1_nearest_1 : decode cX1_nearest 1 = .ok (.invokestatic 11, 3) := by decide +kernel
theorem dX1_nearest_4 : decode cX1_nearest 4 = .ok (.ifCond .ne 5, 3) := by decide +kernel
theorem dX1_nearest_7 : decode cX1_nearest 7 = .ok (.iconst 0, 1) := by decide +kernel
theorem dX1_nearest_8 : decode cX1_nearest 8 = .ok (.ireturn, 1) := by decide +kernel
theorem dX1_nearest_9 : decode cX1_nearest 9 = .ok (.iconst 2, 1) := by decide +kernel
theorem dX1_nearest_10 : decode cX1_nearest 10 = .ok (.iload_n 0, 1) := by decide +kernel
theorem dX1_nearest_11 : decode cX1_nearest 11 = .ok (.imul, 1) := by decide +kernel
theorem dX1_nearest_12 : decode cX1_nearest 12 = .ok (.i2l, 1) := by decide +kernel
theorem dX1_nearest_13 : decode cX1_nearest 13 = .ok (.getstatic 15, 3) := by decide +kernel
theorem dX1_nearest_16 : decode cX1_nearest 16 = .ok (.iload_n 1, 1) := by decide +kernel
theorem dX1_nearest_17 : decode cX1_nearest 17 = .ok (.laload, 1) := by decide +kernel
theorem dX1_nearest_18 : decode cX1_nearest 18 = .ok (.lmul, 1) := by decide +kernel
theorem dX1_nearest_19 : decode cX1_nearest 19 = .ok (.ldc2_w 19, 3) := by decide +kernel
theorem dX1_nearest_22 : decode cX1_nearest 22 = .ok (.ladd, 1) := by decide +kernel
theorem dX1_nearest_23 : decode cX1_nearest 23 = .ok (.ldc2_w 21, 3) := by decide +kernel
theorem dX1_nearest_26 : decode cX1_nearest 26 = .ok (.ldiv, 1) := by decide +kernel
theorem dX1_nearest_27 : decode cX1_nearest 27 = .ok (.l2i, 1) := by decide +kernel
theorem dX1_nearest_28 : decode cX1_nearest 28 = .ok (.ireturn, 1) := by decide +kernel
theorem dX1_stepsOf_0 : decode cX1_stepsOf 0 = .ok (.iconst 0, 1) := by decide +kernel
theorem dX1_stepsOf_1 : decode cX1_stepsOf 1 = .ok (.istore_n 2, 1) := by decide +kernel
theorem dX1_stepsOf_2 : decode cX1_stepsOf 2 = .ok (.iconst 0, 1) := by decide +kernel
theorem dX1_stepsOf_3 : decode cX1_stepsOf 3 = .ok (.istore_n 3, 1) := by decide +kernel
theorem dX1_stepsOf_4 : decode cX1_stepsOf 4 = .ok (.iload_n 3, 1) := by decide +kernel
theorem dX1_stepsOf_5 : decode cX1_stepsOf 5 = .ok (.bipush 6, 2) := by decide +kernel
theorem dX1_stepsOf_7 : decode cX1_stepsOf 7 = .ok (.if_icmp .ge 27, 3) := by decide +kernel
theorem dX1_stepsOf_10 : decode cX1_stepsOf 10 = .ok (.aload_n 0, 1) := by decide +kernel
theorem dX1_stepsOf_11 : decode cX1_stepsOf 11 = .ok (.iload_n 3, 1) := by decide +kernel
theorem dX1_stepsOf_12 : decode cX1_stepsOf 12 = .ok (.iaload, 1) := by decide +kernel
theorem dX1_stepsOf_13 : decode cX1_stepsOf 13 = .ok (.ifCond .eq 15, 3) := by decide +kernel
theorem dX1_stepsOf_16 : decode cX1_stepsOf 16 = .ok (.iload_n 2, 1) := by decide +kernel
theorem dX1_stepsOf_17 : decode cX1_stepsOf 17 = .ok (.aload_n 0, 1) := by decide +kernel
theorem dX1_stepsOf_18 : decode cX1_stepsOf 18 = .ok (.iload_n 3, 1) := by decide +kernel
theorem dX1_stepsOf_19 : decode cX1_stepsOf 19 = .ok (.iaload, 1) := by decide +kernel
theorem dX1_stepsOf_20 : decode cX1_stepsOf 20 = .ok (.iload_n 1, 1) := by decide +kernel
theorem dX1_stepsOf_21 : decode cX1_stepsOf 21 = .ok (.iload_n 3, 1) := by decide +kernel
theorem dX1_stepsOf_22 : decode cX1_stepsOf 22 = .ok (.invokestatic 23, 3) := by decide +kernel
theorem dX1_stepsOf_25 : decode cX1_stepsOf 25 = .ok (.imul, 1) := by decide +kernel
theorem dX1_stepsOf_26 : decode cX1_stepsOf 26 = .ok (.iadd, 1) := by decide +kernel
theorem dX1_stepsOf_27 : decode cX1_stepsOf 27 = .ok (.istore_n 2, 1) := by decide +kernel
theorem dX1_stepsOf_28 : decode cX1_stepsOf 28 = .ok (.iinc 3 1, 3) := by decide +kernel
theorem dX1_stepsOf_31 : decode cX1_stepsOf 31 = .ok (.goto (-27), 3) := by decide +kernel
theorem dX1_stepsOf_34 : decode cX1_stepsOf 34 = .ok (.iload_n 2, 1) := by decide +kernel
theorem dX1_stepsOf_35 : decode cX1_stepsOf 35 = .ok (.ireturn, 1) := by decide +kernel
theorem dX2_init_0 : decode cX2_init 0 = .ok (.aload_n 0, 1) := by decide +kernel
theorem dX2_init_1 : decode cX2_init 1 = .ok (.invokespecial 3, 3) := by decide +kernel
theorem dX2_init_4 : decode cX2_init 4 = .ok (.aload_n 0, 1) := by decide +kernel
theorem dX2_init_5 : decode cX2_init 5 = .ok (.aload_n 1, 1) := by decide +kernel
theorem dX2_init_6 : decode cX2_init 6 = .ok (.putfield 9, 3) := by decide +kernel
theorem dX2_init_9 : decode cX2_init 9 = .ok (.aload_n 0, 1) := by decide +kernel
theorem dX2_init_10 : decode cX2_init 10 = .ok (.bipush 6, 2) := by decide +kernel
theorem dX2_init_12 : decode cX2_init 12 = .ok (.newarray .int, 2) := by decide +kernel
theorem dX2_init_14 : decode cX2_init 14 = .ok (.putfield 15, 3) := by decide +kernel
theorem dX2_init_17 : decode cX2_init 17 = .ok (.aload_n 0, 1) := by decide +kernel
theorem dX2_init_18 : decode cX2_init 18 = .ok (.bipush 6, 2) := by decide +kernel
theorem dX2_init_20 : decode cX2_init 20 = .ok (.newarray .int, 2) := by decide +kernel
theorem dX2_init_22 : decode cX2_init 22 = .ok (.putfield 19, 3) := by decide +kernel
theorem dX2_init_25 : decode cX2_init 25 = .ok (.aload_n 0, 1) := by decide +kernel
theorem dX2_init_26 : decode cX2_init 26 = .ok (.bipush 6, 2) := by decide +kernel
theorem dX2_init_28 : decode cX2_init 28 = .ok (.newarray .int, 2) := by decide +kernel
theorem dX2_init_30 : decode cX2_init 30 = .ok (.putfield 22, 3) := by decide +kernel
theorem dX2_init_33 : decode cX2_init 33 = .ok (.return_, 1) := by decide +kernel
theorem dX2_tell_0 : decode cX2_tell 0 = .ok (.aload_n 1, 1) := by decide +kernel
theorem dX2_tell_1 : decode cX2_tell 1 = .ok (.aload_n 0, 1) := by decide +kernel
theorem dX2_tell_2 : decode cX2_tell 2 = .ok (.getfield 19, 3) := by decide +kernel
theorem dX2_tell_5 : decode cX2_tell 5 = .ok (.invokestatic 25, 3) := by decide +kernel
theorem dX2_tell_8 : decode cX2_tell 8 = .ok (.aload_n 2, 1) := by decide +kernel
theorem dX2_tell_9 : decode cX2_tell 9 = .ok (.aload_n 0, 1) := by decide +kernel
theorem dX2_tell_10 : decode cX2_tell 10 = .ok (.getfield 22, 3) := by decide +kernel
theorem dX2_tell_13 : decode cX2_tell 13 = .ok (.invokestatic 25, 3) := by decide +kernel
theorem dX2_tell_16 : decode cX2_tell 16 = .ok (.iconst 0, 1) := by decide +kernel
theorem dX2_tell_17 : decode cX2_tell 17 = .ok (.istore 4, 2) := by decide +kernel
theorem dX2_tell_19 : decode cX2_tell 19 = .ok (.iload 4, 2) := by decide +kernel
theorem dX2_tell_21 : decode cX2_tell 21 = .ok (.iload_n 3, 1) := by decide +kernel
theorem dX2_tell_22 : decode cX2_tell 22 = .ok (.if_icmp .gt 85, 3) := by decide +kernel
theorem dX2_tell_25 : decode cX2_tell 25 = .ok (.aload_n 0, 1) := by decide +kernel
theorem dX2_tell_26 : decode cX2_tell 26 = .ok (.invokevirtual 31, 3) := by decide +kernel
theorem dX2_tell_29 : decode cX2_tell 29 = .ok (.istore 5, 2) := by decide +kernel
theorem dX2_tell_31 : decode cX2_tell 31 = .ok (.iload 5, 2) := by decide +kernel
theorem dX2_tell_33 : decode cX2_tell 33 = .ok (.ifCond .ne 5, 3) := by decide +kernel
theorem dX2_tell_36 : decode cX2_tell 36 = .ok (.iconst (-1), 1) := by decide +kernel
theorem dX2_tell_37 : decode cX2_tell 37 = .ok (.ireturn, 1) := by decide +kernel
theorem dX2_tell_38 : decode cX2_tell 38 = .ok (.iload 4, 2) := by decide +kernel
theorem dX2_tell_40 : decode cX2_tell 40 = .ok (.iload_n 3, 1) := by decide +kernel
theorem dX2_tell_41 : decode cX2_tell 41 = .ok (.if_icmp .ne 8, 3) := by decide +kernel
theorem dX2_tell_44 : decode cX2_tell 44 = .ok (.iload 5, 2) := by decide +kernel
theorem dX2_tell_46 : decode cX2_tell 46 = .ok (.iconst 1, 1) := by decide +kernel
theorem dX2_tell_47 : decode cX2_tell 47 = .ok (.isub, 1) := by decide +kernel
theorem dX2_tell_48 : decode cX2_tell 48 = .ok (.ireturn, 1) := by decide +kernel
theorem dX2_tell_49 : decode cX2_tell 49 = .ok (.aload_n 0, 1) := by decide +kernel
theorem dX2_tell_50 : decode cX2_tell 50 = .ok (.getfield 19, 3) := by decide +kernel
theorem dX2_tell_53 : decode cX2_tell 53 = .ok (.aload_n 0, 1) := by decide +kernel
theorem dX2_tell_54 : decode cX2_tell 54 = .ok (.getfield 22, 3) := by decide +kernel
theorem dX2_tell_57 : decode cX2_tell 57 = .ok (.iconst 1, 1) := by decide +kernel
theorem dX2_tell_58 : decode cX2_tell 58 = .ok (.iload 5, 2) := by decide +kernel
theorem dX2_tell_60 : decode cX2_tell 60 = .ok (.isub, 1) := by decide +kernel
theorem dX2_tell_61 : decode cX2_tell 61 = .ok (.aload_n 0, 1) := by decide +kernel
theorem dX2_tell_62 : decode cX2_tell 62 = .ok (.getfield 19, 3) := by decide +kernel
theorem dX2_tell_65 : decode cX2_tell 65 = .ok (.invokestatic 35, 3) := by decide +kernel
theorem dX2_tell_68 : decode cX2_tell 68 = .ok (.aload_n 0, 1) := by decide +kernel
theorem dX2_tell_69 : decode cX2_tell 69 = .ok (.getfield 19, 3) := by decide +kernel
theorem dX2_tell_72 : decode cX2_tell 72 = .ok (.invokestatic 39, 3) := by decide +kernel
theorem dX2_tell_75 : decode cX2_tell 75 = .ok (.ifCond .eq 6, 3) := by decide +kernel
theorem dX2_tell_78 : decode cX2_tell 78 = .ok (.bipush (-2), 2) := by decide +kernel
theorem dX2_tell_80 : decode cX2_tell 80 = .ok (.ireturn, 1) := by decide +kernel
theorem dX2_tell_81 : decode cX2_tell 81 = .ok (.aload_n 0, 1) := by decide +kernel
theorem dX2_tell_82 : decode cX2_tell 82 = .ok (.getfield 19, 3) := by decide +kernel
theorem dX2_tell_85 : decode cX2_tell 85 = .ok (.astore 6, 2) := by decide +kernel
theorem dX2_tell_87 : decode cX2_tell 87 = .ok (.aload_n 0, 1) := by decide +kernel
theorem dX2_tell_88 : decode cX2_tell 88 = .ok (.aload_n 0, 1) := by decide +kernel
theorem dX2_tell_89 : decode cX2_tell 89 = .ok (.getfield 22, 3) := by decide +kernel
theorem dX2_tell_92 : decode cX2_tell 92 = .ok (.putfield 19, 3) := by decide +kernel
theorem dX2_tell_95 : decode cX2_tell 95 = .ok (.aload_n 0, 1) := by decide +kernel
theorem dX2_tell_96 : decode cX2_tell 96 = .ok (.aload 6, 2) := by decide +kernel
theorem dX2_tell_98 : decode cX2_tell 98 = .ok (.putfield 22, 3) := by decide +kernel
theorem dX2_tell_101 : decode cX2_tell 101 = .ok (.iinc 4 1, 3) := by decide +kernel
theorem dX2_tell_104 : decode cX2_tell 104 = .ok (.goto (-85), 3) := by decide +kernel
theorem dX2_tell_107 : decode cX2_tell 107 = .ok (.bipush (-2), 2) := by decide +kernel
theorem dX2_tell_109 : decode cX2_tell 109 = .ok (.ireturn, 1) := by decide +kernel
theorem dX2_firstBelowOne_0 : decode cX2_firstBelowOne 0 = .ok (.iconst 0, 1) := by decide +kernel
theorem dX2_firstBelowOne_1 : decode cX2_firstBelowOne 1 = .ok (.istore_n 1, 1) := by decide +kernel
theorem dX2_firstBelowOne_2 : decode cX2_firstBelowOne 2 = .ok (.iconst 1, 1) := by decide +kernel
theorem dX2_firstBelowOne_3 : decode cX2_firstBelowOne 3 = .ok (.istore_n 2, 1) := by decide +kernel
theorem dX2_firstBelowOne_4 : decode cX2_firstBelowOne 4 = .ok (.iconst 0, 1) := by decide +kernel
theorem dX2_firstBelowOne_5 : decode cX2_firstBelowOne 5 = .ok (.istore_n 3, 1) := by decide +kernel
theorem dX2_firstBelowOne_6 : decode cX2_firstBelowOne 6 = .ok (.iload_n 3, 1) := by decide +kernel
theorem dX2_firstBelowOne_7 : decode cX2_firstBelowOne 7 = .ok (.bipush 10, 2) := by decide +kernel
theorem dX2_firstBelowOne_9 : decode cX2_firstBelowOne 9 = .ok (.if_icmp .ge 23, 3) := by decide +kernel
theorem dX2_firstBelowOne_12 : decode cX2_firstBelowOne 12 = .ok (.aload_n 0, 1) := by decide +kernel
theorem dX2_firstBelowOne_13 : decode cX2_firstBelowOne 13 = .ok (.iload_n 2, 1) := by decide +kernel
theorem dX2_firstBelowOne_14 : decode cX2_firstBelowOne 14 = .ok (.invokevirtual 43, 3) := by decide +kernel
theorem dX2_firstBelowOne_17 : decode cX2_firstBelowOne 17 = .ok (.ifCond .eq 15, 3) := by decide +kernel
theorem dX2_firstBelowOne_20 : decode cX2_firstBelowOne 20 = .ok (.iload_n 2, 1) := by decide +kernel
theorem dX2_firstBelowOne_21 : decode cX2_firstBelowOne 21 = .ok (.istore_n 1, 1) := by decide +kernel
theorem dX2_firstBelowOne_22 : decode cX2_firstBelowOne 22 = .ok (.iload_n 2, 1) := by decide +kernel
theorem dX2_firstBelowOne_23 : decode cX2_firstBelowOne 23 = .ok (.iconst 2, 1) := by decide +kernel
theorem dX2_firstBelowOne_24 : decode cX2_firstBelowOne 24 = .ok (.imul, 1) := by decide +kernel
theorem dX2_firstBelowOne_25 : decode cX2_firstBelowOne 25 = .ok (.istore_n 2, 1) := by decide +kernel
theorem dX2_firstBelowOne_26 : decode cX2_firstBelowOne 26 = .ok (.iinc 3 1, 3) := by decide +kernel
theorem dX2_firstBelowOne_29 : decode cX2_firstBelowOne 29 = .ok (.goto (-23), 3) := by decide +kernel
theorem dX2_firstBelowOne_32 : decode cX2_firstBelowOne 32 = .ok (.iconst 0, 1) := by decide +kernel
theorem dX2_firstBelowOne_33 : decode cX2_firstBelowOne 33 = .ok (.istore_n 3, 1) := by decide +kernel
theorem dX2_firstBelowOne_34 : decode cX2_firstBelowOne 34 = .ok (.iload_n 3, 1) := by decide +kernel
theorem dX2_firstBelowOne_35 : decode cX2_firstBelowOne 35 = .ok (.bipush 10, 2) := by decide +kernel
theorem dX2_firstBelowOne_37 : decode cX2_firstBelowOne 37 = .ok (.if_icmp .ge 41, 3) := by decide +kernel
theorem dX2_firstBelowOne_40 : decode cX2_firstBelowOne 40 = .ok (.iload_n 1, 1) := by decide +kernel
theorem dX2_firstBelowOne_41 : decode cX2_firstBelowOne 41 = .ok (.iconst 1, 1) := by decide +kernel
theorem dX2_firstBelowOne_42 : decode cX2_firstBelowOne 42 = .ok (.iadd, 1) := by decide +kernel
theorem dX2_firstBelowOne_43 : decode cX2_firstBelowOne 43 = .ok (.iload_n 2, 1) := by decide +kernel
theorem dX2_firstBelowOne_44 : decode cX2_firstBelowOne 44 = .ok (.if_icmp .ge 34, 3) := by decide +kernel
theorem dX2_firstBelowOne_47 : decode cX2_firstBelowOne 47 = .ok (.iload_n 1, 1) := by decide +kernel
theorem dX2_firstBelowOne_48 : decode cX2_firstBelowOne 48 = .ok (.iload_n 2, 1) := by decide +kernel
theorem dX2_firstBelowOne_49 : decode cX2_firstBelowOne 49 = .ok (.iadd, 1) := by decide +kernel
theorem dX2_firstBelowOne_50 : decode cX2_firstBelowOne 50 = .ok (.iconst 2, 1) := by decide +kernel
theorem dX2_firstBelowOne_51 : decode cX2_firstBelowOne 51 = .ok (.idiv, 1) := by decide +kernel
theorem dX2_firstBelowOne_52 : decode cX2_firstBelowOne 52 = .ok (.istore 4, 2) := by decide +kernel
theorem dX2_firstBelowOne_54 : decode cX2_firstBelowOne 54 = .ok (.aload_n 0, 1) := by decide +kernel
theorem dX2_firstBelowOne_55 : decode cX2_firstBelowOne 55 = .ok (.iload 4, 2) := by decide +kernel
theorem dX2_firstBelowOne_57 : decode cX2_firstBelowOne 57 = .ok (.invokevirtual 43, 3) := by decide +kernel
theorem dX2_firstBelowOne_60 : decode cX2_firstBelowOne 60 = .ok (.ifCond .eq 9, 3) := by decide +kernel
theorem dX2_firstBelowOne_63 : decode cX2_firstBelowOne 63 = .ok (.iload 4, 2) := by decide +kernel
theorem dX2_firstBelowOne_65 : decode cX2_firstBelowOne 65 = .ok (.istore_n 1, 1) := by decide +kernel
theorem dX2_firstBelowOne_66 : decode cX2_firstBelowOne 66 = .ok (.goto 6, 3) := by decide +kernel
theorem dX2_firstBelowOne_69 : decode cX2_firstBelowOne 69 = .ok (.iload 4, 2) := by decide +kernel
theorem dX2_firstBelowOne_71 : decode cX2_firstBelowOne 71 = .ok (.istore_n 2, 1) := by decide +kernel
theorem dX2_firstBelowOne_72 : decode cX2_firstBelowOne 72 = .ok (.iinc 3 1, 3) := by decide +kernel
theorem dX2_firstBelowOne_75 : decode cX2_firstBelowOne 75 = .ok (.goto (-41), 3) := by decide +kernel
theorem dX2_firstBelowOne_78 : decode cX2_firstBelowOne 78 = .ok (.aload_n 0, 1) := by decide +kernel
theorem dX2_firstBelowOne_79 : decode cX2_firstBelowOne 79 = .ok (.getfield 19, 3) := by decide +kernel
theorem dX2_firstBelowOne_82 : decode cX2_firstBelowOne 82 = .ok (.aload_n 0, 1) := by decide +kernel
theorem dX2_firstBelowOne_83 : decode cX2_firstBelowOne 83 = .ok (.getfield 22, 3) := by decide +kernel
theorem dX2_firstBelowOne_86 : decode cX2_firstBelowOne 86 = .ok (.iload_n 2, 1) := by decide +kernel
theorem dX2_firstBelowOne_87 : decode cX2_firstBelowOne 87 = .ok (.ineg, 1) := by decide +kernel
theorem dX2_firstBelowOne_88 : decode cX2_firstBelowOne 88 = .ok (.aload_n 0, 1) := by decide +kernel
theorem dX2_firstBelowOne_89 : decode cX2_firstBelowOne 89 = .ok (.getfield 15, 3) := by decide +kernel
theorem dX2_firstBelowOne_92 : decode cX2_firstBelowOne 92 = .ok (.invokestatic 35, 3) := by decide +kernel
theorem dX2_firstBelowOne_95 : decode cX2_firstBelowOne 95 = .ok (.aload_n 0, 1) := by decide +kernel
theorem dX2_firstBelowOne_96 : decode cX2_firstBelowOne 96 = .ok (.getfield 15, 3) := by decide +kernel
theorem dX2_firstBelowOne_99 : decode cX2_firstBelowOne 99 = .ok (.sipush 200, 3) := by decide +kernel
theorem dX2_firstBelowOne_102 : decode cX2_firstBelowOne 102 = .ok (.invokestatic 47, 3) := by decide +kernel
theorem dX2_firstBelowOne_105 : decode cX2_firstBelowOne 105 = .ok (.ifCond .eq 7, 3) := by decide +kernel
theorem dX2_firstBelowOne_108 : decode cX2_firstBelowOne 108 = .ok (.iload_n 2, 1) := by decide +kernel
theorem dX2_firstBelowOne_109 : decode cX2_firstBelowOne 109 = .ok (.goto 4, 3) := by decide +kernel
theorem dX2_firstBelowOne_112 : decode cX2_firstBelowOne 112 = .ok (.iconst 0, 1) := by decide +kernel
theorem dX2_firstBelowOne_113 : decode cX2_firstBelowOne 113 = .ok (.ireturn, 1) := by decide +kernel
theorem dX2_stays_0 : decode cX2_stays 0 = .ok (.aload_n 0, 1) := by decide +kernel
theorem dX2_stays_1 : decode cX2_stays 1 = .ok (.getfield 19, 3) := by decide +kernel
theorem dX2_stays_4 : decode cX2_stays 4 = .ok (.aload_n 0, 1) := by decide +kernel
theorem dX2_stays_5 : decode cX2_stays 5 = .ok (.getfield 22, 3) := by decide +kernel
theorem dX2_stays_8 : decode cX2_stays 8 = .ok (.iload_n 1, 1) := by decide +kernel
theorem dX2_stays_9 : decode cX2_stays 9 = .ok (.ineg, 1) := by decide +kernel
theorem dX2_stays_10 : decode cX2_stays 10 = .ok (.aload_n 0, 1) := by decide +kernel
theorem dX2_stays_11 : decode cX2_stays 11 = .ok (.getfield 15, 3) := by decide +kernel
theorem dX2_stays_14 : decode cX2_stays 14 = .ok (.invokestatic 35, 3) := by decide +kernel
theorem dX2_stays_17 : decode cX2_stays 17 = .ok (.aload_n 0, 1) := by decide +kernel
theorem dX2_stays_18 : decode cX2_stays 18 = .ok (.getfield 15, 3) := by decide +kernel
theorem dX2_stays_21 : decode cX2_stays 21 = .ok (.sipush 200, 3) := by decide +kernel
theorem dX2_stays_24 : decode cX2_stays 24 = .ok (.invokestatic 47, 3) := by decide +kernel
theorem dX2_stays_27 : decode cX2_stays 27 = .ok (.ifCond .eq 21, 3) := by decide +kernel
theorem dX2_stays_30 : decode cX2_stays 30 = .ok (.aload_n 0, 1) := by decide +kernel
theorem dX2_stays_31 : decode cX2_stays 31 = .ok (.getfield 9, 3) := by decide +kernel
theorem dX2_stays_34 : decode cX2_stays 34 = .ok (.aload_n 0, 1) := by decide +kernel
theorem dX2_stays_35 : decode cX2_stays 35 = .ok (.getfield 15, 3) := by decide +kernel
theorem dX2_stays_38 : decode cX2_stays 38 = .ok (.invokevirtual 51, 3) := by decide +kernel
theorem dX2_stays_41 : decode cX2_stays 41 = .ok (.ifCond .lt 7, 3) := by decide +kernel
theorem dX2_stays_44 : decode cX2_stays 44 = .ok (.iconst 1, 1) := by decide +kernel
theorem dX2_stays_45 : decode cX2_stays 45 = .ok (.goto 4, 3) := by decide +kernel
theorem dX2_stays_48 : decode cX2_stays 48 = .ok (.iconst 0, 1) := by decide +kernel
theorem dX2_stays_49 : decode cX2_stays 49 = .ok (.ireturn, 1) := by decide +kernel
theorem dX3_init_0 : decode cX3_init 0 = .ok (.aload_n 0, 1) := by decide +kernel
theorem dX3_init_1 : decode cX3_init 1 = .ok (.invokespecial 3, 3) := by decide +kernel
theorem dX3_init_4 : decode cX3_init 4 = .ok (.aload_n 0, 1) := by decide +kernel
theorem dX3_init_5 : decode cX3_init 5 = .ok (.bipush 104, 2) := by decide +kernel
theorem dX3_init_7 : decode cX3_init 7 = .ok (.newarray .int, 2) := by decide +kernel
theorem dX3_init_9 : decode cX3_init 9 = .ok (.putfield 11, 3) := by decide +kernel
theorem dX3_init_12 : decode cX3_init 12 = .ok (.aload_n 0, 1) := by decide +kernel
theorem dX3_init_13 : decode cX3_init 13 = .ok (.getfield 11, 3) := by decide +kernel
theorem dX3_init_16 : decode cX3_init 16 = .ok (.iconst 0, 1) := by decide +kernel
theorem dX3_init_17 : decode cX3_init 17 = .ok (.iconst 1, 1) := by decide +kernel
theorem dX3_init_18 : decode cX3_init 18 = .ok (.iastore, 1) := by decide +kernel
theorem dX3_init_19 : decode cX3_init 19 = .ok (.aload_n 0, 1) := by decide +kernel
theorem dX3_init_20 : decode cX3_init 20 = .ok (.iconst 1, 1) := by decide +kernel
theorem dX3_init_21 : decode cX3_init 21 = .ok (.putfield 15, 3) := by decide +kernel
theorem dX3_init_24 : decode cX3_init 24 = .ok (.aload_n 0, 1) := by decide +kernel
theorem dX3_init_25 : decode cX3_init 25 = .ok (.lconst 1, 1) := by decide +kernel
theorem dX3_init_26 : decode cX3_init 26 = .ok (.putfield 19, 3) := by decide +kernel
theorem dX3_init_29 : decode cX3_init 29 = .ok (.return_, 1) := by decide +kernel
theorem dX3_build_0 : decode cX3_build 0 = .ok (.aload_n 0, 1) := by decide +kernel
theorem dX3_build_1 : decode cX3_build 1 = .ok (.getfield 11, 3) := by decide +kernel
theorem dX3_build_4 : decode cX3_build 4 = .ok (.iconst 0, 1) := by decide +kernel
theorem dX3_build_5 : decode cX3_build 5 = .ok (.iconst 1, 1) := by decide +kernel
theorem dX3_build_6 : decode cX3_build 6 = .ok (.iastore, 1) := by decide +kernel
theorem dX3_build_7 : decode cX3_build 7 = .ok (.aload_n 0, 1) := by decide +kernel
theorem dX3_build_8 : decode cX3_build 8 = .ok (.iconst 1, 1) := by decide +kernel
theorem dX3_build_9 : decode cX3_build 9 = .ok (.putfield 15, 3) := by decide +kernel
theorem dX3_build_12 : decode cX3_build 12 = .ok (.aload_n 0, 1) := by decide +kernel
theorem dX3_build_13 : decode cX3_build 13 = .ok (.lconst 1, 1) := by decide +kernel
theorem dX3_build_14 : decode cX3_build 14 = .ok (.putfield 19, 3) := by decide +kernel
theorem dX3_build_17 : decode cX3_build 17 = .ok (.iconst 0, 1) := by decide +kernel
theorem dX3_build_18 : decode cX3_build 18 = .ok (.istore_n 3, 1) := by decide +kernel
theorem dX3_build_19 : decode cX3_build 19 = .ok (.iload_n 3, 1) := by decide +kernel
theorem dX3_build_20 : decode cX3_build 20 = .ok (.bipush 6, 2) := by decide +kernel
theorem dX3_build_22 : decode cX3_build 22 = .ok (.if_icmp .ge 62, 3) := by decide +kernel
theorem dX3_build_25 : decode cX3_build 25 = .ok (.iload_n 2, 1) := by decide +kernel
theorem dX3_build_26 : decode cX3_build 26 = .ok (.aload_n 1, 1) := by decide +kernel
theorem dX3_build_27 : decode cX3_build 27 = .ok (.iload_n 3, 1) := by decide +kernel
theorem dX3_build_28 : decode cX3_build 28 = .ok (.iaload, 1) := by decide +kernel
theorem dX3_build_29 : decode cX3_build 29 = .ok (.imul, 1) := by decide +kernel
theorem dX3_build_30 : decode cX3_build 30 = .ok (.istore 4, 2) := by decide +kernel
theorem dX3_build_32 : decode cX3_build 32 = .ok (.iconst 0, 1) := by decide +kernel
theorem dX3_build_33 : decode cX3_build 33 = .ok (.istore 5, 2) := by decide +kernel
theorem dX3_build_35 : decode cX3_build 35 = .ok (.iload 5, 2) := by decide +kernel
theorem dX3_build_37 : decode cX3_build 37 = .ok (.iload 4, 2) := by decide +kernel
theorem dX3_build_39 : decode cX3_build 39 = .ok (.if_icmp .ge 39, 3) := by decide +kernel
theorem dX3_build_42 : decode cX3_build 42 = .ok (.aload_n 0, 1) := by decide +kernel
theorem dX3_build_43 : decode cX3_build 43 = .ok (.getfield 19, 3) := by decide +kernel
theorem dX3_build_46 : decode cX3_build 46 = .ok (.ldc2_w 23, 3) := by decide +kernel
theorem dX3_build_49 : decode cX3_build 49 = .ok (.lcmp, 1) := by decide +kernel
theorem dX3_build_50 : decode cX3_build 50 = .ok (.ifCond .le 7, 3) := by decide +kernel
theorem dX3_build_53 : decode cX3_build 53 = .ok (.aload_n 0, 1) := by decide +kernel
theorem dX3_build_54 : decode cX3_build 54 = .ok (.invokevirtual 25, 3) := by decide +kernel
theorem dX3_build_57 : decode cX3_build 57 = .ok (.aload_n 0, 1) := by decide +kernel
theorem dX3_build_58 : decode cX3_build 58 = .ok (.dup, 1) := by decide +kernel
theorem dX3_build_59 : decode cX3_build 59 = .ok (.getfield 19, 3) := by decide +kernel
theorem dX3_build_62 : decode cX3_build 62 = .ok (.getstatic 28, 3) := by decide +kernel
theorem dX3_build_65 : decode cX3_build 65 = .ok (.iload_n 3, 1) := by decide +kernel
theorem dX3_build_66 : decode cX3_build 66 = .ok (.iaload, 1) := by decide +kernel
theorem dX3_build_67 : decode cX3_build 67 = .ok (.i2l, 1) := by decide +kernel
theorem dX3_build_68 : decode cX3_build 68 = .ok (.lmul, 1) := by decide +kernel
theorem dX3_build_69 : decode cX3_build 69 = .ok (.putfield 19, 3) := by decide +kernel
theorem dX3_build_72 : decode cX3_build 72 = .ok (.iinc 5 1, 3) := by decide +kernel
theorem dX3_build_75 : decode cX3_build 75 = .ok (.goto (-40), 3) := by decide +kernel
theorem dX3_build_78 : decode cX3_build 78 = .ok (.iinc 3 1, 3) := by decide +kernel
theorem dX3_build_81 : decode cX3_build 81 = .ok (.goto (-62), 3) := by decide +kernel
theorem dX3_build_84 : decode cX3_build 84 = .ok (.aload_n 0, 1) := by decide +kernel
theorem dX3_build_85 : decode cX3_build 85 = .ok (.invokevirtual 25, 3) := by decide +kernel
theorem dX3_build_88 : decode cX3_build 88 = .ok (.return_, 1) := by decide +kernel
theorem dX3_settle_0 : decode cX3_settle 0 = .ok (.lconst 0, 1) := by decide +kernel
theorem dX3_settle_1 : decode cX3_settle 1 = .ok (.lstore_n 1, 1) := by decide +kernel
theorem dX3_settle_2 : decode cX3_settle 2 = .ok (.iconst 0, 1) := by decide +kernel
theorem dX3_settle_3 : decode cX3_settle 3 = .ok (.istore_n 3, 1) := by decide +kernel
theorem dX3_settle_4 : decode cX3_settle 4 = .ok (.iload_n 3, 1) := by decide +kernel
theorem dX3_settle_5 : decode cX3_settle 5 = .ok (.aload_n 0, 1) := by decide +kernel
theorem dX3_settle_6 : decode cX3_settle 6 = .ok (.getfield 15, 3) := by decide +kernel
theorem dX3_settle_9 : decode cX3_settle 9 = .ok (.if_icmp .ge 47, 3) := by decide +kernel
theorem dX3_settle_12 : decode cX3_settle 12 = .ok (.aload_n 0, 1) := by decide +kernel
theorem dX3_settle_13 : decode cX3_settle 13 = .ok (.getfield 11, 3) := by decide +kernel
theorem dX3_settle_16 : decode cX3_settle 16 = .ok (.iload_n 3, 1) := by decide +kernel
theorem dX3_settle_17 : decode cX3_settle 17 = .ok (.iaload, 1) := by decide +kernel
theorem dX3_settle_18 : decode cX3_settle 18 = .ok (.i2l, 1) := by decide +kernel
theorem dX3_settle_19 : decode cX3_settle 19 = .ok (.aload_n 0, 1) := by decide +kernel
theorem dX3_settle_20 : decode cX3_settle 20 = .ok (.getfield 19, 3) := by decide +kernel
theorem dX3_settle_23 : decode cX3_settle 23 = .ok (.lmul, 1) := by decide +kernel
theorem dX3_settle_24 : decode cX3_settle 24 = .ok (.lload_n 1, 1) := by decide +kernel
theorem dX3_settle_25 : decode cX3_settle 25 = .ok (.ladd, 1) := by decide +kernel
theorem dX3_settle_26 : decode cX3_settle 26 = .ok (.lstore 4, 2) := by decide +kernel
theorem dX3_settle_28 : decode cX3_settle 28 = .ok (.lload 4, 2) := by decide +kernel
theorem dX3_settle_30 : decode cX3_settle 30 = .ok (.ldc2_w 31, 3) := by decide +kernel
theorem dX3_settle_33 : decode cX3_settle 33 = .ok (.ldiv, 1) := by decide +kernel
theorem dX3_settle_34 : decode cX3_settle 34 = .ok (.lstore_n 1, 1) := by decide +kernel
theorem dX3_settle_35 : decode cX3_settle 35 = .ok (.aload_n 0, 1) := by decide +kernel
theorem dX3_settle_36 : decode cX3_settle 36 = .ok (.getfield 11, 3) := by decide +kernel
theorem dX3_settle_39 : decode cX3_settle 39 = .ok (.iload_n 3, 1) := by decide +kernel
theorem dX3_settle_40 : decode cX3_settle 40 = .ok (.lload 4, 2) := by decide +kernel
theorem dX3_settle_42 : decode cX3_settle 42 = .ok (.lload_n 1, 1) := by decide +kernel
theorem dX3_settle_43 : decode cX3_settle 43 = .ok (.ldc2_w 31, 3) := by decide +kernel
theorem dX3_settle_46 : decode cX3_settle 46 = .ok (.lmul, 1) := by decide +kernel
theorem dX3_settle_47 : decode cX3_settle 47 = .ok (.lsub, 1) := by decide +kernel
theorem dX3_settle_48 : decode cX3_settle 48 = .ok (.l2i, 1) := by decide +kernel
theorem dX3_settle_49 : decode cX3_settle 49 = .ok (.iastore, 1) := by decide +kernel
theorem dX3_settle_50 : decode cX3_settle 50 = .ok (.iinc 3 1, 3) := by decide +kernel
theorem dX3_settle_53 : decode cX3_settle 53 = .ok (.goto (-49), 3) := by decide +kernel
theorem dX3_settle_56 : decode cX3_settle 56 = .ok (.iconst 0, 1) := by decide +kernel
theorem dX3_settle_57 : decode cX3_settle 57 = .ok (.istore_n 3, 1) := by decide +kernel
theorem dX3_settle_58 : decode cX3_settle 58 = .ok (.iload_n 3, 1) := by decide +kernel
theorem dX3_settle_59 : decode cX3_settle 59 = .ok (.iconst 2, 1) := by decide +kernel
theorem dX3_settle_60 : decode cX3_settle 60 = .ok (.if_icmp .ge 55, 3) := by decide +kernel
theorem dX3_settle_63 : decode cX3_settle 63 = .ok (.lload_n 1, 1) := by decide +kernel
theorem dX3_settle_64 : decode cX3_settle 64 = .ok (.lconst 0, 1) := by decide +kernel
theorem dX3_settle_65 : decode cX3_settle 65 = .ok (.lcmp, 1) := by decide +kernel
theorem dX3_settle_66 : decode cX3_settle 66 = .ok (.ifCond .eq 49, 3) := by decide +kernel
theorem dX3_settle_69 : decode cX3_settle 69 = .ok (.aload_n 0, 1) := by decide +kernel
theorem dX3_settle_70 : decode cX3_settle 70 = .ok (.getfield 15, 3) := by decide +kernel
theorem dX3_settle_73 : decode cX3_settle 73 = .ok (.bipush 104, 2) := by decide +kernel
theorem dX3_settle_75 : decode cX3_settle 75 = .ok (.if_icmp .ge 40, 3) := by decide +kernel
theorem dX3_settle_78 : decode cX3_settle 78 = .ok (.aload_n 0, 1) := by decide +kernel
theorem dX3_settle_79 : decode cX3_settle 79 = .ok (.getfield 11, 3) := by decide +kernel
theorem dX3_settle_82 : decode cX3_settle 82 = .ok (.aload_n 0, 1) := by decide +kernel
theorem dX3_settle_83 : decode cX3_settle 83 = .ok (.getfield 15, 3) := by decide +kernel
theorem dX3_settle_86 : decode cX3_settle 86 = .ok (.lload_n 1, 1) := by decide +kernel
theorem dX3_settle_87 : decode cX3_settle 87 = .ok (.ldc2_w 31, 3) := by decide +kernel
theorem dX3_settle_90 : decode cX3_settle 90 = .ok (.lrem, 1) := by decide +kernel
theorem dX3_settle_91 : decode cX3_settle 91 = .ok (.l2i, 1) := by decide +kernel
theorem dX3_settle_92 : decode cX3_settle 92 = .ok (.iastore, 1) := by decide +kernel
theorem dX3_settle_93 : decode cX3_settle 93 = .ok (.aload_n 0, 1) := by decide +kernel
theorem dX3_settle_94 : decode cX3_settle 94 = .ok (.dup, 1) := by decide +kernel
theorem dX3_settle_95 : decode cX3_settle 95 = .ok (.getfield 15, 3) := by decide +kernel
theorem dX3_settle_98 : decode cX3_settle 98 = .ok (.iconst 1, 1) := by decide +kernel
theorem dX3_settle_99 : decode cX3_settle 99 = .ok (.iadd, 1) := by decide +kernel
theorem dX3_settle_100 : decode cX3_settle 100 = .ok (.putfield 15, 3) := by decide +kernel
theorem dX3_settle_103 : decode cX3_settle 103 = .ok (.lload_n 1, 1) := by decide +kernel
theorem dX3_settle_104 : decode cX3_settle 104 = .ok (.ldc2_w 31, 3) := by decide +kernel
theorem dX3_settle_107 : decode cX3_settle 107 = .ok (.ldiv, 1) := by decide +kernel
theorem dX3_settle_108 : decode cX3_settle 108 = .ok (.lstore_n 1, 1) := by decide +kernel
theorem dX3_settle_109 : decode cX3_settle 109 = .ok (.iinc 3 1, 3) := by decide +kernel
theorem dX3_settle_112 : decode cX3_settle 112 = .ok (.goto (-54), 3) := by decide +kernel
theorem dX3_settle_115 : decode cX3_settle 115 = .ok (.aload_n 0, 1) := by decide +kernel
theorem dX3_settle_116 : decode cX3_settle 116 = .ok (.lconst 1, 1) := by decide +kernel
theorem dX3_settle_117 : decode cX3_settle 117 = .ok (.putfield 19, 3) := by decide +kernel
theorem dX3_settle_120 : decode cX3_settle 120 = .ok (.return_, 1) := by decide +kernel
theorem dX3_against_0 : decode cX3_against 0 = .ok (.aload_n 0, 1) := by decide +kernel
theorem dX3_against_1 : decode cX3_against 1 = .ok (.getfield 15, 3) := by decide +kernel
theorem dX3_against_4 : decode cX3_against 4 = .ok (.aload_n 1, 1) := by decide +kernel
theorem dX3_against_5 : decode cX3_against 5 = .ok (.getfield 15, 3) := by decide +kernel
theorem dX3_against_8 : decode cX3_against 8 = .ok (.if_icmp .eq 20, 3) := by decide +kernel
theorem dX3_against_11 : decode cX3_against 11 = .ok (.aload_n 0, 1) := by decide +kernel
theorem dX3_against_12 : decode cX3_against 12 = .ok (.getfield 15, 3) := by decide +kernel
theorem dX3_against_15 : decode cX3_against 15 = .ok (.aload_n 1, 1) := by decide +kernel
theorem dX3_against_16 : decode cX3_against 16 = .ok (.getfield 15, 3) := by decide +kernel
theorem dX3_against_19 : decode cX3_against 19 = .ok (.if_icmp .le 7, 3) := by decide +kernel
theorem dX3_against_22 : decode cX3_against 22 = .ok (.iconst 1, 1) := by decide +kernel
theorem dX3_against_23 : decode cX3_against 23 = .ok (.goto 4, 3) := by decide +kernel
theorem dX3_against_26 : decode cX3_against 26 = .ok (.iconst (-1), 1) := by decide +kernel
theorem dX3_against_27 : decode cX3_against 27 = .ok (.ireturn, 1) := by decide +kernel
theorem dX3_against_28 : decode cX3_against 28 = .ok (.aload_n 0, 1) := by decide +kernel
theorem dX3_against_29 : decode cX3_against 29 = .ok (.getfield 15, 3) := by decide +kernel
theorem dX3_against_32 : decode cX3_against 32 = .ok (.iconst 1, 1) := by decide +kernel
theorem dX3_against_33 : decode cX3_against 33 = .ok (.isub, 1) := by decide +kernel
theorem dX3_against_34 : decode cX3_against 34 = .ok (.istore_n 2, 1) := by decide +kernel
theorem dX3_against_35 : decode cX3_against 35 = .ok (.iload_n 2, 1) := by decide +kernel
theorem dX3_against_36 : decode cX3_against 36 = .ok (.ifCond .lt 45, 3) := by decide +kernel
theorem dX3_against_39 : decode cX3_against 39 = .ok (.aload_n 0, 1) := by decide +kernel
theorem dX3_against_40 : decode cX3_against 40 = .ok (.getfield 11, 3) := by decide +kernel
theorem dX3_against_43 : decode cX3_against 43 = .ok (.iload_n 2, 1) := by decide +kernel
theorem dX3_against_44 : decode cX3_against 44 = .ok (.iaload, 1) := by decide +kernel
theorem dX3_against_45 : decode cX3_against 45 = .ok (.aload_n 1, 1) := by decide +kernel
theorem dX3_against_46 : decode cX3_against 46 = .ok (.getfield 11, 3) := by decide +kernel
theorem dX3_against_49 : decode cX3_against 49 = .ok (.iload_n 2, 1) := by decide +kernel
theorem dX3_against_50 : decode cX3_against 50 = .ok (.iaload, 1) := by decide +kernel
theorem dX3_against_51 : decode cX3_against 51 = .ok (.if_icmp .eq 24, 3) := by decide +kernel
theorem dX3_against_54 : decode cX3_against 54 = .ok (.aload_n 0, 1) := by decide +kernel
theorem dX3_against_55 : decode cX3_against 55 = .ok (.getfield 11, 3) := by decide +kernel
theorem dX3_against_58 : decode cX3_against 58 = .ok (.iload_n 2, 1) := by decide +kernel
theorem dX3_against_59 : decode cX3_against 59 = .ok (.iaload, 1) := by decide +kernel
theorem dX3_against_60 : decode cX3_against 60 = .ok (.aload_n 1, 1) := by decide +kernel
theorem dX3_against_61 : decode cX3_against 61 = .ok (.getfield 11, 3) := by decide +kernel
theorem dX3_against_64 : decode cX3_against 64 = .ok (.iload_n 2, 1) := by decide +kernel
theorem dX3_against_65 : decode cX3_against 65 = .ok (.iaload, 1) := by decide +kernel
theorem dX3_against_66 : decode cX3_against 66 = .ok (.if_icmp .le 7, 3) := by decide +kernel
theorem dX3_against_69 : decode cX3_against 69 = .ok (.iconst 1, 1) := by decide +kernel
theorem dX3_against_70 : decode cX3_against 70 = .ok (.goto 4, 3) := by decide +kernel
theorem dX3_against_73 : decode cX3_against 73 = .ok (.iconst (-1), 1) := by decide +kernel
theorem dX3_against_74 : decode cX3_against 74 = .ok (.ireturn, 1) := by decide +kernel
theorem dX3_against_75 : decode cX3_against 75 = .ok (.iinc 2 (-1), 3) := by decide +kernel
theorem dX3_against_78 : decode cX3_against 78 = .ok (.goto (-43), 3) := by decide +kernel
theorem dX3_against_81 : decode cX3_against 81 = .ok (.iconst 0, 1) := by decide +kernel
theorem dX3_against_82 : decode cX3_against 82 = .ok (.ireturn, 1) := by decide +kernel
theorem dX3_write_0 : decode cX3_write 0 = .ok (.iload_n 2, 1) := by decide +kernel
theorem dX3_write_1 : decode cX3_write 1 = .ok (.istore_n 3, 1) := by decide +kernel
theorem dX3_write_2 : decode cX3_write 2 = .ok (.iconst 0, 1) := by decide +kernel
theorem dX3_write_3 : decode cX3_write 3 = .ok (.istore 4, 2) := by decide +kernel
theorem dX3_write_5 : decode cX3_write 5 = .ok (.aload_n 0, 1) := by decide +kernel
theorem dX3_write_6 : decode cX3_write 6 = .ok (.getfield 15, 3) := by decide +kernel
theorem dX3_write_9 : decode cX3_write 9 = .ok (.iconst 1, 1) := by decide +kernel
theorem dX3_write_10 : decode cX3_write 10 = .ok (.isub, 1) := by decide +kernel
theorem dX3_write_11 : decode cX3_write 11 = .ok (.istore 5, 2) := by decide +kernel
theorem dX3_write_13 : decode cX3_write 13 = .ok (.iload 5, 2) := by decide +kernel
theorem dX3_write_15 : decode cX3_write 15 = .ok (.ifCond .lt 100, 3) := by decide +kernel
theorem dX3_write_18 : decode cX3_write 18 = .ok (.ldc 33, 2) := by decide +kernel
theorem dX3_write_20 : decode cX3_write 20 = .ok (.istore 6, 2) := by decide +kernel
theorem dX3_write_22 : decode cX3_write 22 = .ok (.iconst 0, 1) := by decide +kernel
theorem dX3_write_23 : decode cX3_write 23 = .ok (.istore 7, 2) := by decide +kernel
theorem dX3_write_25 : decode cX3_write 25 = .ok (.iload 7, 2) := by decide +kernel
theorem dX3_write_27 : decode cX3_write 27 = .ok (.bipush 9, 2) := by decide +kernel
theorem dX3_write_29 : decode cX3_write 29 = .ok (.if_icmp .ge 80, 3) := by decide +kernel
theorem dX3_write_32 : decode cX3_write 32 = .ok (.iload 6, 2) := by decide +kernel
theorem dX3_write_34 : decode cX3_write 34 = .ok (.ifCond .le 75, 3) := by decide +kernel
theorem dX3_write_37 : decode cX3_write 37 = .ok (.aload_n 0, 1) := by decide +kernel
theorem dX3_write_38 : decode cX3_write 38 = .ok (.getfield 11, 3) := by decide +kernel
theorem dX3_write_41 : decode cX3_write 41 = .ok (.iload 5, 2) := by decide +kernel
theorem dX3_write_43 : decode cX3_write 43 = .ok (.iaload, 1) := by decide +kernel
theorem dX3_write_44 : decode cX3_write 44 = .ok (.iload 6, 2) := by decide +kernel
theorem dX3_write_46 : decode cX3_write 46 = .ok (.idiv, 1) := by decide +kernel
theorem dX3_write_47 : decode cX3_write 47 = .ok (.bipush 10, 2) := by decide +kernel
theorem dX3_write_49 : decode cX3_write 49 = .ok (.irem, 1) := by decide +kernel
theorem dX3_write_50 : decode cX3_write 50 = .ok (.istore 8, 2) := by decide +kernel
theorem dX3_write_52 : decode cX3_write 52 = .ok (.iload 4, 2) := by decide +kernel
theorem dX3_write_54 : decode cX3_write 54 = .ok (.ifCond .ne 8, 3) := by decide +kernel
theorem dX3_write_57 : decode cX3_write 57 = .ok (.iload 8, 2) := by decide +kernel
theorem dX3_write_59 : decode cX3_write 59 = .ok (.ifCond .eq 7, 3) := by decide +kernel
theorem dX3_write_62 : decode cX3_write 62 = .ok (.iconst 1, 1) := by decide +kernel
theorem dX3_write_63 : decode cX3_write 63 = .ok (.goto 4, 3) := by decide +kernel
theorem dX3_write_66 : decode cX3_write 66 = .ok (.iconst 0, 1) := by decide +kernel
theorem dX3_write_67 : decode cX3_write 67 = .ok (.istore 4, 2) := by decide +kernel
theorem dX3_write_69 : decode cX3_write 69 = .ok (.iload 4, 2) := by decide +kernel
theorem dX3_write_71 : decode cX3_write 71 = .ok (.ifCond .eq 25, 3) := by decide +kernel
theorem dX3_write_74 : decode cX3_write 74 = .ok (.iload_n 3, 1) := by decide +kernel
theorem dX3_write_75 : decode cX3_write 75 = .ok (.ifCond .lt 21, 3) := by decide +kernel
theorem dX3_write_78 : decode cX3_write 78 = .ok (.iload_n 3, 1) := by decide +kernel
theorem dX3_write_79 : decode cX3_write 79 = .ok (.aload_n 1, 1) := by decide +kernel
theorem dX3_write_80 : decode cX3_write 80 = .ok (.arraylength, 1) := by decide +kernel
theorem dX3_write_81 : decode cX3_write 81 = .ok (.if_icmp .ge 15, 3) := by decide +kernel
theorem dX3_write_84 : decode cX3_write 84 = .ok (.aload_n 1, 1) := by decide +kernel
theorem dX3_write_85 : decode cX3_write 85 = .ok (.iload_n 3, 1) := by decide +kernel
theorem dX3_write_86 : decode cX3_write 86 = .ok (.bipush 48, 2) := by decide +kernel
theorem dX3_write_88 : decode cX3_write 88 = .ok (.iload 8, 2) := by decide +kernel
theorem dX3_write_90 : decode cX3_write 90 = .ok (.iadd, 1) := by decide +kernel
theorem dX3_write_91 : decode cX3_write 91 = .ok (.i2b, 1) := by decide +kernel
theorem dX3_write_92 : decode cX3_write 92 = .ok (.bastore, 1) := by decide +kernel
theorem dX3_write_93 : decode cX3_write 93 = .ok (.iinc 3 1, 3) := by decide +kernel
theorem dX3_write_96 : decode cX3_write 96 = .ok (.iload 6, 2) := by decide +kernel
theorem dX3_write_98 : decode cX3_write 98 = .ok (.bipush 10, 2) := by decide +kernel
theorem dX3_write_100 : decode cX3_write 100 = .ok (.idiv, 1) := by decide +kernel
theorem dX3_write_101 : decode cX3_write 101 = .ok (.istore 6, 2) := by decide +kernel
theorem dX3_write_103 : decode cX3_write 103 = .ok (.iinc 7 1, 3) := by decide +kernel
theorem dX3_write_106 : decode cX3_write 106 = .ok (.goto (-81), 3) := by decide +kernel
theorem dX3_write_109 : decode cX3_write 109 = .ok (.iinc 5 (-1), 3) := by decide +kernel
theorem dX3_write_112 : decode cX3_write 112 = .ok (.goto (-99), 3) := by decide +kernel
theorem dX3_write_115 : decode cX3_write 115 = .ok (.iload_n 3, 1) := by decide +kernel
theorem dX3_write_116 : decode cX3_write 116 = .ok (.ireturn, 1) := by decide +kernel
theorem dX4_init_0 : decode cX4_init 0 = .ok (.aload_n 0, 1) := by decide +kernel
theorem dX4_init_1 : decode cX4_init 1 = .ok (.invokespecial 3, 3) := by decide +kernel
theorem dX4_init_4 : decode cX4_init 4 = .ok (.aload_n 0, 1) := by decide +kernel
theorem dX4_init_5 : decode cX4_init 5 = .ok (.bipush 24, 2) := by decide +kernel
theorem dX4_init_7 : decode cX4_init 7 = .ok (.bipush 6, 2) := by decide +kernel
theorem dX4_init_9 : decode cX4_init 9 = .ok (.multianewarray 11 2, 4) := by decide +kernel
theorem dX4_init_13 : decode cX4_init 13 = .ok (.putfield 13, 3) := by decide +kernel
theorem dX4_init_16 : decode cX4_init 16 = .ok (.aload_n 0, 1) := by decide +kernel
theorem dX4_init_17 : decode cX4_init 17 = .ok (.iconst 0, 1) := by decide +kernel
theorem dX4_init_18 : decode cX4_init 18 = .ok (.putfield 16, 3) := by decide +kernel
theorem dX4_init_21 : decode cX4_init 21 = .ok (.return_, 1) := by decide +kernel
theorem dX4_isFull_0 : decode cX4_isFull 0 = .ok (.aload_n 0, 1) := by decide +kernel
theorem dX4_isFull_1 : decode cX4_isFull 1 = .ok (.getfield 16, 3) := by decide +kernel
theorem dX4_isFull_4 : decode cX4_isFull 4 = .ok (.bipush 24, 2) := by decide +kernel
theorem dX4_isFull_6 : decode cX4_isFull 6 = .ok (.if_icmp .lt 7, 3) := by decide +kernel
theorem dX4_isFull_9 : decode cX4_isFull 9 = .ok (.iconst 1, 1) := by decide +kernel
theorem dX4_isFull_10 : decode cX4_isFull 10 = .ok (.goto 4, 3) := by decide +kernel
theorem dX4_isFull_13 : decode cX4_isFull 13 = .ok (.iconst 0, 1) := by decide +kernel
theorem dX4_isFull_14 : decode cX4_isFull 14 = .ok (.ireturn, 1) := by decide +kernel
theorem dX4_restart_0 : decode cX4_restart 0 = .ok (.aload_n 0, 1) := by decide +kernel
theorem dX4_restart_1 : decode cX4_restart 1 = .ok (.getfield 13, 3) := by decide +kernel
theorem dX4_restart_4 : decode cX4_restart 4 = .ok (.iconst 0, 1) := by decide +kernel
theorem dX4_restart_5 : decode cX4_restart 5 = .ok (.aaload, 1) := by decide +kernel
theorem dX4_restart_6 : decode cX4_restart 6 = .ok (.invokestatic 20, 3) := by decide +kernel
theorem dX4_restart_9 : decode cX4_restart 9 = .ok (.aload_n 0, 1) := by decide +kernel
theorem dX4_restart_10 : decode cX4_restart 10 = .ok (.iconst 1, 1) := by decide +kernel
theorem dX4_restart_11 : decode cX4_restart 11 = .ok (.putfield 16, 3) := by decide +kernel
theorem dX4_restart_14 : decode cX4_restart 14 = .ok (.return_, 1) := by decide +kernel
theorem dX4_has_0 : decode cX4_has 0 = .ok (.iconst 0, 1) := by decide +kernel
theorem dX4_has_1 : decode cX4_has 1 = .ok (.istore_n 2, 1) := by decide +kernel
theorem dX4_has_2 : decode cX4_has 2 = .ok (.iload_n 2, 1) := by decide +kernel
theorem dX4_has_3 : decode cX4_has 3 = .ok (.aload_n 0, 1) := by decide +kernel
theorem dX4_has_4 : decode cX4_has 4 = .ok (.getfield 16, 3) := by decide +kernel
theorem dX4_has_7 : decode cX4_has 7 = .ok (.if_icmp .ge 24, 3) := by decide +kernel
theorem dX4_has_10 : decode cX4_has 10 = .ok (.aload_n 0, 1) := by decide +kernel
theorem dX4_has_11 : decode cX4_has 11 = .ok (.getfield 13, 3) := by decide +kernel
theorem dX4_has_14 : decode cX4_has 14 = .ok (.iload_n 2, 1) := by decide +kernel
theorem dX4_has_15 : decode cX4_has 15 = .ok (.aaload, 1) := by decide +kernel
theorem dX4_has_16 : decode cX4_has 16 = .ok (.aload_n 1, 1) := by decide +kernel
theorem dX4_has_17 : decode cX4_has 17 = .ok (.invokestatic 26, 3) := by decide +kernel
theorem dX4_has_20 : decode cX4_has 20 = .ok (.ifCond .eq 5, 3) := by decide +kernel
theorem dX4_has_23 : decode cX4_has 23 = .ok (.iconst 1, 1) := by decide +kernel
theorem dX4_has_24 : decode cX4_has 24 = .ok (.ireturn, 1) := by decide +kernel
theorem dX4_has_25 : decode cX4_has 25 = .ok (.iinc 2 1, 3) := by decide +kernel
theorem dX4_has_28 : decode cX4_has 28 = .ok (.goto (-26), 3) := by decide +kernel
theorem dX4_has_31 : decode cX4_has 31 = .ok (.iconst 0, 1) := by decide +kernel
theorem dX4_has_32 : decode cX4_has 32 = .ok (.ireturn, 1) := by decide +kernel
theorem dX4_insert_0 : decode cX4_insert 0 = .ok (.aload_n 0, 1) := by decide +kernel
theorem dX4_insert_1 : decode cX4_insert 1 = .ok (.getfield 16, 3) := by decide +kernel
theorem dX4_insert_4 : decode cX4_insert 4 = .ok (.ifCond .lt 24, 3) := by decide +kernel
theorem dX4_insert_7 : decode cX4_insert 7 = .ok (.aload_n 0, 1) := by decide +kernel
theorem dX4_insert_8 : decode cX4_insert 8 = .ok (.getfield 16, 3) := by decide +kernel
theorem dX4_insert_11 : decode cX4_insert 11 = .ok (.bipush 24, 2) := by decide +kernel
theorem dX4_insert_13 : decode cX4_insert 13 = .ok (.if_icmp .ge 15, 3) := by decide +kernel
theorem dX4_insert_16 : decode cX4_insert 16 = .ok (.iload_n 1, 1) := by decide +kernel
theorem dX4_insert_17 : decode cX4_insert 17 = .ok (.ifCond .lt 11, 3) := by decide +kernel
theorem dX4_insert_20 : decode cX4_insert 20 = .ok (.iload_n 1, 1) := by decide +kernel
theorem dX4_insert_21 : decode cX4_insert 21 = .ok (.aload_n 0, 1) := by decide +kernel
theorem dX4_insert_22 : decode cX4_insert 22 = .ok (.getfield 16, 3) := by decide +kernel
theorem dX4_insert_25 : decode cX4_insert 25 = .ok (.if_icmp .le 5, 3) := by decide +kernel
theorem dX4_insert_28 : decode cX4_insert 28 = .ok (.iconst (-1), 1) := by decide +kernel
theorem dX4_insert_29 : decode cX4_insert 29 = .ok (.ireturn, 1) := by decide +kernel
theorem dX4_insert_30 : decode cX4_insert 30 = .ok (.aload_n 0, 1) := by decide +kernel
theorem dX4_insert_31 : decode cX4_insert 31 = .ok (.getfield 13, 3) := by decide +kernel
theorem dX4_insert_34 : decode cX4_insert 34 = .ok (.aload_n 0, 1) := by decide +kernel
theorem dX4_insert_35 : decode cX4_insert 35 = .ok (.getfield 16, 3) := by decide +kernel
theorem dX4_insert_38 : decode cX4_insert 38 = .ok (.aaload, 1) := by decide +kernel
theorem dX4_insert_39 : decode cX4_insert 39 = .ok (.astore_n 3, 1) := by decide +kernel
theorem dX4_insert_40 : decode cX4_insert 40 = .ok (.aload_n 0, 1) := by decide +kernel
theorem dX4_insert_41 : decode cX4_insert 41 = .ok (.getfield 16, 3) := by decide +kernel
theorem dX4_insert_44 : decode cX4_insert 44 = .ok (.istore 4, 2) := by decide +kernel
theorem dX4_insert_46 : decode cX4_insert 46 = .ok (.iload 4, 2) := by decide +kernel
theorem dX4_insert_48 : decode cX4_insert 48 = .ok (.iload_n 1, 1) := by decide +kernel
theorem dX4_insert_49 : decode cX4_insert 49 = .ok (.if_icmp .le 25, 3) := by decide +kernel
theorem dX4_insert_52 : decode cX4_insert 52 = .ok (.aload_n 0, 1) := by decide +kernel
theorem dX4_insert_53 : decode cX4_insert 53 = .ok (.getfield 13, 3) := by decide +kernel
theorem dX4_insert_56 : decode cX4_insert 56 = .ok (.iload 4, 2) := by decide +kernel
theorem dX4_insert_58 : decode cX4_insert 58 = .ok (.aload_n 0, 1) := by decide +kernel
theorem dX4_insert_59 : decode cX4_insert 59 = .ok (.getfield 13, 3) := by decide +kernel
theorem dX4_insert_62 : decode cX4_insert 62 = .ok (.iload 4, 2) := by decide +kernel
theorem dX4_insert_64 : decode cX4_insert 64 = .ok (.iconst 1, 1) := by decide +kernel
theorem dX4_insert_65 : decode cX4_insert 65 = .ok (.isub, 1) := by decide +kernel
theorem dX4_insert_66 : decode cX4_insert 66 = .ok (.aaload, 1) := by decide +kernel
theorem dX4_insert_67 : decode cX4_insert 67 = .ok (.aastore, 1) := by decide +kernel
theorem dX4_insert_68 : decode cX4_insert 68 = .ok (.iinc 4 (-1), 3) := by decide +kernel
theorem dX4_insert_71 : decode cX4_insert 71 = .ok (.goto (-25), 3) := by decide +kernel
theorem dX4_insert_74 : decode cX4_insert 74 = .ok (.aload_n 0, 1) := by decide +kernel
theorem dX4_insert_75 : decode cX4_insert 75 = .ok (.getfield 13, 3) := by decide +kernel
theorem dX4_insert_78 : decode cX4_insert 78 = .ok (.iload_n 1, 1) := by decide +kernel
theorem dX4_insert_79 : decode cX4_insert 79 = .ok (.aload_n 3, 1) := by decide +kernel
theorem dX4_insert_80 : decode cX4_insert 80 = .ok (.aastore, 1) := by decide +kernel
theorem dX4_insert_81 : decode cX4_insert 81 = .ok (.aload_n 2, 1) := by decide +kernel
theorem dX4_insert_82 : decode cX4_insert 82 = .ok (.aload_n 3, 1) := by decide +kernel
theorem dX4_insert_83 : decode cX4_insert 83 = .ok (.invokestatic 30, 3) := by decide +kernel
theorem dX4_insert_86 : decode cX4_insert 86 = .ok (.aload_n 0, 1) := by decide +kernel
theorem dX4_insert_87 : decode cX4_insert 87 = .ok (.dup, 1) := by decide +kernel
theorem dX4_insert_88 : decode cX4_insert 88 = .ok (.getfield 16, 3) := by decide +kernel
theorem dX4_insert_91 : decode cX4_insert 91 = .ok (.iconst 1, 1) := by decide +kernel
theorem dX4_insert_92 : decode cX4_insert 92 = .ok (.iadd, 1) := by decide +kernel
theorem dX4_insert_93 : decode cX4_insert 93 = .ok (.putfield 16, 3) := by decide +kernel
theorem dX4_insert_96 : decode cX4_insert 96 = .ok (.iload_n 1, 1) := by decide +kernel
theorem dX4_insert_97 : decode cX4_insert 97 = .ok (.ireturn, 1) := by decide +kernel
theorem dX4_placeOf_0 : decode cX4_placeOf 0 = .ok (.iconst 0, 1) := by decide +kernel
theorem dX4_placeOf_1 : decode cX4_placeOf 1 = .ok (.istore_n 3, 1) := by decide +kernel
theorem dX4_placeOf_2 : decode cX4_placeOf 2 = .ok (.aload_n 0, 1) := by decide +kernel
theorem dX4_placeOf_3 : decode cX4_placeOf 3 = .ok (.getfield 16, 3) := by decide +kernel
theorem dX4_placeOf_6 : decode cX4_placeOf 6 = .ok (.istore 4, 2) := by decide +kernel
theorem dX4_placeOf_8 : decode cX4_placeOf 8 = .ok (.iconst 0, 1) := by decide +kernel
theorem dX4_placeOf_9 : decode cX4_placeOf 9 = .ok (.istore 5, 2) := by decide +kernel
theorem dX4_placeOf_11 : decode cX4_placeOf 11 = .ok (.iload 5, 2) := by decide +kernel
theorem dX4_placeOf_13 : decode cX4_placeOf 13 = .ok (.bipush 8, 2) := by decide +kernel
theorem dX4_placeOf_15 : decode cX4_placeOf 15 = .ok (.if_icmp .ge 50, 3) := by decide +kernel
theorem dX4_placeOf_18 : decode cX4_placeOf 18 = .ok (.iload_n 3, 1) := by decide +kernel
theorem dX4_placeOf_19 : decode cX4_placeOf 19 = .ok (.iload 4, 2) := by decide +kernel
theorem dX4_placeOf_21 : decode cX4_placeOf 21 = .ok (.if_icmp .ge 44, 3) := by decide +kernel
theorem dX4_placeOf_24 : decode cX4_placeOf 24 = .ok (.iload_n 3, 1) := by decide +kernel
theorem dX4_placeOf_25 : decode cX4_placeOf 25 = .ok (.iload 4, 2) := by decide +kernel
theorem dX4_placeOf_27 : decode cX4_placeOf 27 = .ok (.iadd, 1) := by decide +kernel
theorem dX4_placeOf_28 : decode cX4_placeOf 28 = .ok (.iconst 2, 1) := by decide +kernel
theorem dX4_placeOf_29 : decode cX4_placeOf 29 = .ok (.idiv, 1) := by decide +kernel
theorem dX4_placeOf_30 : decode cX4_placeOf 30 = .ok (.istore 6, 2) := by decide +kernel
theorem dX4_placeOf_32 : decode cX4_placeOf 32 = .ok (.aload_n 2, 1) := by decide +kernel
theorem dX4_placeOf_33 : decode cX4_placeOf 33 = .ok (.aload_n 0, 1) := by decide +kernel
theorem dX4_placeOf_34 : decode cX4_placeOf 34 = .ok (.getfield 13, 3) := by decide +kernel
theorem dX4_placeOf_37 : decode cX4_placeOf 37 = .ok (.iload 6, 2) := by decide +kernel
theorem dX4_placeOf_39 : decode cX4_placeOf 39 = .ok (.aaload, 1) := by decide +kernel
theorem dX4_placeOf_40 : decode cX4_placeOf 40 = .ok (.aload_n 1, 1) := by decide +kernel
theorem dX4_placeOf_41 : decode cX4_placeOf 41 = .ok (.invokevirtual 34, 3) := by decide +kernel
theorem dX4_placeOf_44 : decode cX4_placeOf 44 = .ok (.ifCond .ge 11, 3) := by decide +kernel
theorem dX4_placeOf_47 : decode cX4_placeOf 47 = .ok (.iload 6, 2) := by decide +kernel
theorem dX4_placeOf_49 : decode cX4_placeOf 49 = .ok (.iconst 1, 1) := by decide +kernel
theorem dX4_placeOf_50 : decode cX4_placeOf 50 = .ok (.iadd, 1) := by decide +kernel
theorem dX4_placeOf_51 : decode cX4_placeOf 51 = .ok (.istore_n 3, 1) := by decide +kernel
theorem dX4_placeOf_52 : decode cX4_placeOf 52 = .ok (.goto 7, 3) := by decide +kernel
theorem dX4_placeOf_55 : decode cX4_placeOf 55 = .ok (.iload 6, 2) := by decide +kernel
theorem dX4_placeOf_57 : decode cX4_placeOf 57 = .ok (.istore 4, 2) := by decide +kernel
theorem dX4_placeOf_59 : decode cX4_placeOf 59 = .ok (.iinc 5 1, 3) := by decide +kernel
theorem dX4_placeOf_62 : decode cX4_placeOf 62 = .ok (.goto (-51), 3) := by decide +kernel
theorem dX4_placeOf_65 : decode cX4_placeOf 65 = .ok (.iload_n 3, 1) := by decide +kernel
theorem dX4_placeOf_66 : decode cX4_placeOf 66 = .ok (.ireturn, 1) := by decide +kernel
theorem dX5_makeOne_0 : decode cX5_makeOne 0 = .ok (.iconst 0, 1) := by decide +kernel
theorem dX5_makeOne_1 : decode cX5_makeOne 1 = .ok (.istore_n 1, 1) := by decide +kernel
theorem dX5_makeOne_2 : decode cX5_makeOne 2 = .ok (.iload_n 1, 1) := by decide +kernel
theorem dX5_makeOne_3 : decode cX5_makeOne 3 = .ok (.bipush 6, 2) := by decide +kernel
theorem dX5_makeOne_5 : decode cX5_makeOne 5 = .ok (.if_icmp .ge 13, 3) := by decide +kernel
theorem dX5_makeOne_8 : decode cX5_makeOne 8 = .ok (.aload_n 0, 1) := by decide +kernel
theorem dX5_makeOne_9 : decode cX5_makeOne 9 = .ok (.iload_n 1, 1) := by decide +kernel
theorem dX5_makeOne_10 : decode cX5_makeOne 10 = .ok (.iconst 0, 1) := by decide +kernel
theorem dX5_makeOne_11 : decode cX5_makeOne 11 = .ok (.iastore, 1) := by decide +kernel
theorem dX5_makeOne_12 : decode cX5_makeOne 12 = .ok (.iinc 1 1, 3) := by decide +kernel
theorem dX5_makeOne_15 : decode cX5_makeOne 15 = .ok (.goto (-13), 3) := by decide +kernel
theorem dX5_makeOne_18 : decode cX5_makeOne 18 = .ok (.return_, 1) := by decide +kernel
theorem dX5_copy_0 : decode cX5_copy 0 = .ok (.aload_n 0, 1) := by decide +kernel
theorem dX5_copy_1 : decode cX5_copy 1 = .ok (.iconst 0, 1) := by decide +kernel
theorem dX5_copy_2 : decode cX5_copy 2 = .ok (.aload_n 1, 1) := by decide +kernel
theorem dX5_copy_3 : decode cX5_copy 3 = .ok (.iconst 0, 1) := by decide +kernel
theorem dX5_copy_4 : decode cX5_copy 4 = .ok (.bipush 6, 2) := by decide +kernel
theorem dX5_copy_6 : decode cX5_copy 6 = .ok (.invokestatic 9, 3) := by decide +kernel
theorem dX5_copy_9 : decode cX5_copy 9 = .ok (.return_, 1) := by decide +kernel
theorem dX5_combine_0 : decode cX5_combine 0 = .ok (.iconst 0, 1) := by decide +kernel
theorem dX5_combine_1 : decode cX5_combine 1 = .ok (.istore 4, 2) := by decide +kernel
theorem dX5_combine_3 : decode cX5_combine 3 = .ok (.iload 4, 2) := by decide +kernel
theorem dX5_combine_5 : decode cX5_combine 5 = .ok (.bipush 6, 2) := by decide +kernel
theorem dX5_combine_7 : decode cX5_combine 7 = .ok (.if_icmp .ge 24, 3) := by decide +kernel
theorem dX5_combine_10 : decode cX5_combine 10 = .ok (.aload_n 3, 1) := by decide +kernel
theorem dX5_combine_11 : decode cX5_combine 11 = .ok (.iload 4, 2) := by decide +kernel
theorem dX5_combine_13 : decode cX5_combine 13 = .ok (.aload_n 0, 1) := by decide +kernel
theorem dX5_combine_14 : decode cX5_combine 14 = .ok (.iload 4, 2) := by decide +kernel
theorem dX5_combine_16 : decode cX5_combine 16 = .ok (.iaload, 1) := by decide +kernel
theorem dX5_combine_17 : decode cX5_combine 17 = .ok (.iload_n 2, 1) := by decide +kernel
theorem dX5_combine_18 : decode cX5_combine 18 = .ok (.aload_n 1, 1) := by decide +kernel
theorem dX5_combine_19 : decode cX5_combine 19 = .ok (.iload 4, 2) := by decide +kernel
theorem dX5_combine_21 : decode cX5_combine 21 = .ok (.iaload, 1) := by decide +kernel
theorem dX5_combine_22 : decode cX5_combine 22 = .ok (.imul, 1) := by decide +kernel
theorem dX5_combine_23 : decode cX5_combine 23 = .ok (.iadd, 1) := by decide +kernel
theorem dX5_combine_24 : decode cX5_combine 24 = .ok (.iastore, 1) := by decide +kernel
theorem dX5_combine_25 : decode cX5_combine 25 = .ok (.iinc 4 1, 3) := by decide +kernel
theorem dX5_combine_28 : decode cX5_combine 28 = .ok (.goto (-25), 3) := by decide +kernel
theorem dX5_combine_31 : decode cX5_combine 31 = .ok (.return_, 1) := by decide +kernel
theorem dX5_isWithin_0 : decode cX5_isWithin 0 = .ok (.iconst 0, 1) := by decide +kernel
theorem dX5_isWithin_1 : decode cX5_isWithin 1 = .ok (.istore_n 2, 1) := by decide +kernel
theorem dX5_isWithin_2 : decode cX5_isWithin 2 = .ok (.iload_n 2, 1) := by decide +kernel
theorem dX5_isWithin_3 : decode cX5_isWithin 3 = .ok (.bipush 6, 2) := by decide +kernel
theorem dX5_isWithin_5 : decode cX5_isWithin 5 = .ok (.if_icmp .ge 26, 3) := by decide +kernel
theorem dX5_isWithin_8 : decode cX5_isWithin 8 = .ok (.aload_n 0, 1) := by decide +kernel
theorem dX5_isWithin_9 : decode cX5_isWithin 9 = .ok (.iload_n 2, 1) := by decide +kernel
theorem dX5_isWithin_10 : decode cX5_isWithin 10 = .ok (.iaload, 1) := by decide +kernel
theorem dX5_isWithin_11 : decode cX5_isWithin 11 = .ok (.iload_n 1, 1) := by decide +kernel
theorem dX5_isWithin_12 : decode cX5_isWithin 12 = .ok (.ineg, 1) := by decide +kernel
theorem dX5_isWithin_13 : decode cX5_isWithin 13 = .ok (.if_icmp .lt 10, 3) := by decide +kernel
theorem dX5_isWithin_16 : decode cX5_isWithin 16 = .ok (.aload_n 0, 1) := by decide +kernel
theorem dX5_isWithin_17 : decode cX5_isWithin 17 = .ok (.iload_n 2, 1) := by decide +kernel
theorem dX5_isWithin_18 : decode cX5_isWithin 18 = .ok (.iaload, 1) := by decide +kernel
theorem dX5_isWithin_19 : decode cX5_isWithin 19 = .ok (.iload_n 1, 1) := by decide +kernel
theorem dX5_isWithin_20 : decode cX5_isWithin 20 = .ok (.if_icmp .le 5, 3) := by decide +kernel
theorem dX5_isWithin_23 : decode cX5_isWithin 23 = .ok (.iconst 0, 1) := by decide +kernel
theorem dX5_isWithin_24 : decode cX5_isWithin 24 = .ok (.ireturn, 1) := by decide +kernel
theorem dX5_isWithin_25 : decode cX5_isWithin 25 = .ok (.iinc 2 1, 3) := by decide +kernel
theorem dX5_isWithin_28 : decode cX5_isWithin 28 = .ok (.goto (-26), 3) := by decide +kernel
theorem dX5_isWithin_31 : decode cX5_isWithin 31 = .ok (.iconst 1, 1) := by decide +kernel
theorem dX5_isWithin_32 : decode cX5_isWithin 32 = .ok (.ireturn, 1) := by decide +kernel
theorem dX5_isOne_0 : decode cX5_isOne 0 = .ok (.aload_n 0, 1) := by decide +kernel
theorem dX5_isOne_1 : decode cX5_isOne 1 = .ok (.iconst 0, 1) := by decide +kernel
theorem dX5_isOne_2 : decode cX5_isOne 2 = .ok (.invokestatic 15, 3) := by decide +kernel
theorem dX5_isOne_5 : decode cX5_isOne 5 = .ok (.ireturn, 1) := by decide +kernel
theorem dX5_isSame_0 : decode cX5_isSame 0 = .ok (.iconst 0, 1) := by decide +kernel
theorem dX5_isSame_1 : decode cX5_isSame 1 = .ok (.istore_n 2, 1) := by decide +kernel
theorem dX5_isSame_2 : decode cX5_isSame 2 = .ok (.iload_n 2, 1) := by decide +kernel
theorem dX5_isSame_3 : decode cX5_isSame 3 = .ok (.bipush 6, 2) := by decide +kernel
theorem dX5_isSame_5 : decode cX5_isSame 5 = .ok (.if_icmp .ge 20, 3) := by decide +kernel
theorem dX5_isSame_8 : decode cX5_isSame 8 = .ok (.aload_n 0, 1) := by decide +kernel
theorem dX5_isSame_9 : decode cX5_isSame 9 = .ok (.iload_n 2, 1) := by decide +kernel
theorem dX5_isSame_10 : decode cX5_isSame 10 = .ok (.iaload, 1) := by decide +kernel
theorem dX5_isSame_11 : decode cX5_isSame 11 = .ok (.aload_n 1, 1) := by decide +kernel
theorem dX5_isSame_12 : decode cX5_isSame 12 = .ok (.iload_n 2, 1) := by decide +kernel
theorem dX5_isSame_13 : decode cX5_isSame 13 = .ok (.iaload, 1) := by decide +kernel
theorem dX5_isSame_14 : decode cX5_isSame 14 = .ok (.if_icmp .eq 5, 3) := by decide +kernel
theorem dX5_isSame_17 : decode cX5_isSame 17 = .ok (.iconst 0, 1) := by decide +kernel
theorem dX5_isSame_18 : decode cX5_isSame 18 = .ok (.ireturn, 1) := by decide +kernel
theorem dX5_isSame_19 : decode cX5_isSame 19 = .ok (.iinc 2 1, 3) := by decide +kernel
theorem dX5_isSame_22 : decode cX5_isSame 22 = .ok (.goto (-20), 3) := by decide +kernel
theorem dX5_isSame_25 : decode cX5_isSame 25 = .ok (.iconst 1, 1) := by decide +kernel
theorem dX5_isSame_26 : decode cX5_isSame 26 = .ok (.ireturn, 1) := by decide +kernel
theorem dX5_factor_0 : decode cX5_factor 0 = .ok (.iload_n 0, 1) := by decide +kernel
theorem dX5_factor_1 : decode cX5_factor 1 = .ok (.i2l, 1) := by decide +kernel
theorem dX5_factor_2 : decode cX5_factor 2 = .ok (.iload_n 1, 1) := by decide +kernel
theorem dX5_factor_3 : decode cX5_factor 3 = .ok (.i2l, 1) := by decide +kernel
theorem dX5_factor_4 : decode cX5_factor 4 = .ok (.invokestatic 21, 3) := by decide +kernel
theorem dX5_factor_7 : decode cX5_factor 7 = .ok (.lstore_n 3, 1) := by decide +kernel
theorem dX5_factor_8 : decode cX5_factor 8 = .ok (.lload_n 3, 1) := by decide +kernel
theorem dX5_factor_9 : decode cX5_factor 9 = .ok (.lconst 1, 1) := by decide +kernel
theorem dX5_factor_10 : decode cX5_factor 10 = .ok (.lcmp, 1) := by decide +kernel
theorem dX5_factor_11 : decode cX5_factor 11 = .ok (.ifCond .ge 5, 3) := by decide +kernel
theorem dX5_factor_14 : decode cX5_factor 14 = .ok (.iconst 0, 1) := by decide +kernel
theorem dX5_factor_15 : decode cX5_factor 15 = .ok (.ireturn, 1) := by decide +kernel
theorem dX5_factor_16 : decode cX5_factor 16 = .ok (.iload_n 0, 1) := by decide +kernel
theorem dX5_factor_17 : decode cX5_factor 17 = .ok (.i2l, 1) := by decide +kernel
theorem dX5_factor_18 : decode cX5_factor 18 = .ok (.lload_n 3, 1) := by decide +kernel
theorem dX5_factor_19 : decode cX5_factor 19 = .ok (.ldiv, 1) := by decide +kernel
theorem dX5_factor_20 : decode cX5_factor 20 = .ok (.lstore 5, 2) := by decide +kernel
theorem dX5_factor_22 : decode cX5_factor 22 = .ok (.iload_n 1, 1) := by decide +kernel
theorem dX5_factor_23 : decode cX5_factor 23 = .ok (.i2l, 1) := by decide +kernel
theorem dX5_factor_24 : decode cX5_factor 24 = .ok (.lload_n 3, 1) := by decide +kernel
theorem dX5_factor_25 : decode cX5_factor 25 = .ok (.ldiv, 1) := by decide +kernel
theorem dX5_factor_26 : decode cX5_factor 26 = .ok (.lstore 7, 2) := by decide +kernel
theorem dX5_factor_28 : decode cX5_factor 28 = .ok (.iconst 0, 1) := by decide +kernel
theorem dX5_factor_29 : decode cX5_factor 29 = .ok (.istore 9, 2) := by decide +kernel
theorem dX5_factor_31 : decode cX5_factor 31 = .ok (.iload 9, 2) := by decide +kernel
theorem dX5_factor_33 : decode cX5_factor 33 = .ok (.bipush 6, 2) := by decide +kernel
theorem dX5_factor_35 : decode cX5_factor 35 = .ok (.if_icmp .ge 110, 3) := by decide +kernel
theorem dX5_factor_38 : decode cX5_factor 38 = .ok (.iconst 0, 1) := by decide +kernel
theorem dX5_factor_39 : decode cX5_factor 39 = .ok (.istore 10, 2) := by decide +kernel
theorem dX5_factor_41 : decode cX5_factor 41 = .ok (.iconst 0, 1) := by decide +kernel
theorem dX5_factor_42 : decode cX5_factor 42 = .ok (.istore 11, 2) := by decide +kernel
theorem dX5_factor_44 : decode cX5_factor 44 = .ok (.iload 11, 2) := by decide +kernel
theorem dX5_factor_46 : decode cX5_factor 46 = .ok (.bipush 64, 2) := by decide +kernel
theorem dX5_factor_48 : decode cX5_factor 48 = .ok (.if_icmp .ge 39, 3) := by decide +kernel
theorem dX5_factor_51 : decode cX5_factor 51 = .ok (.lload 5, 2) := by decide +kernel
theorem dX5_factor_53 : decode cX5_factor 53 = .ok (.getstatic 25, 3) := by decide +kernel
theorem dX5_factor_56 : decode cX5_factor 56 = .ok (.iload 9, 2) := by decide +kernel
theorem dX5_factor_58 : decode cX5_factor 58 = .ok (.iaload, 1) := by decide +kernel
theorem dX5_factor_59 : decode cX5_factor 59 = .ok (.i2l, 1) := by decide +kernel
theorem dX5_factor_60 : decode cX5_factor 60 = .ok (.lrem, 1) := by decide +kernel
theorem dX5_factor_61 : decode cX5_factor 61 = .ok (.lconst 0, 1) := by decide +kernel
theorem dX5_factor_62 : decode cX5_factor 62 = .ok (.lcmp, 1) := by decide +kernel
theorem dX5_factor_63 : decode cX5_factor 63 = .ok (.ifCond .ne 24, 3) := by decide +kernel
theorem dX5_factor_66 : decode cX5_factor 66 = .ok (.lload 5, 2) := by decide +kernel
theorem dX5_factor_68 : decode cX5_factor 68 = .ok (.getstatic 25, 3) := by decide +kernel
theorem dX5_factor_71 : decode cX5_factor 71 = .ok (.iload 9, 2) := by decide +kernel
theorem dX5_factor_73 : decode cX5_factor 73 = .ok (.iaload, 1) := by decide +kernel
theorem dX5_factor_74 : decode cX5_factor 74 = .ok (.i2l, 1) := by decide +kernel
theorem dX5_factor_75 : decode cX5_factor 75 = .ok (.ldiv, 1) := by decide +kernel
theorem dX5_factor_76 : decode cX5_factor 76 = .ok (.lstore 5, 2) := by decide +kernel
theorem dX5_factor_78 : decode cX5_factor 78 = .ok (.iinc 10 1, 3) := by decide +kernel
theorem dX5_factor_81 : decode cX5_factor 81 = .ok (.iinc 11 1, 3) := by decide +kernel
theorem dX5_factor_84 : decode cX5_factor 84 = .ok (.goto (-40), 3) := by decide +kernel
theorem dX5_factor_87 : decode cX5_factor 87 = .ok (.iconst 0, 1) := by decide +kernel
theorem dX5_factor_88 : decode cX5_factor 88 = .ok (.istore 11, 2) := by decide +kernel
theorem dX5_factor_90 : decode cX5_factor 90 = .ok (.iload 11, 2) := by decide +kernel
theorem dX5_factor_92 : decode cX5_factor 92 = .ok (.bipush 64, 2) := by decide +kernel
theorem dX5_factor_94 : decode cX5_factor 94 = .ok (.if_icmp .ge 39, 3) := by decide +kernel
theorem dX5_factor_97 : decode cX5_factor 97 = .ok (.lload 7, 2) := by decide +kernel
theorem dX5_factor_99 : decode cX5_factor 99 = .ok (.getstatic 25, 3) := by decide +kernel
theorem dX5_factor_102 : decode cX5_factor 102 = .ok (.iload 9, 2) := by decide +kernel
theorem dX5_factor_104 : decode cX5_factor 104 = .ok (.iaload, 1) := by decide +kernel
theorem dX5_factor_105 : decode cX5_factor 105 = .ok (.i2l, 1) := by decide +kernel
theorem dX5_factor_106 : decode cX5_factor 106 = .ok (.lrem, 1) := by decide +kernel
theorem dX5_factor_107 : decode cX5_factor 107 = .ok (.lconst 0, 1) := by decide +kernel
theorem dX5_factor_108 : decode cX5_factor 108 = .ok (.lcmp, 1) := by decide +kernel
theorem dX5_factor_109 : decode cX5_factor 109 = .ok (.ifCond .ne 24, 3) := by decide +kernel
theorem dX5_factor_112 : decode cX5_factor 112 = .ok (.lload 7, 2) := by decide +kernel
theorem dX5_factor_114 : decode cX5_factor 114 = .ok (.getstatic 25, 3) := by decide +kernel
theorem dX5_factor_117 : decode cX5_factor 117 = .ok (.iload 9, 2) := by decide +kernel
theorem dX5_factor_119 : decode cX5_factor 119 = .ok (.iaload, 1) := by decide +kernel
theorem dX5_factor_120 : decode cX5_factor 120 = .ok (.i2l, 1) := by decide +kernel
theorem dX5_factor_121 : decode cX5_factor 121 = .ok (.ldiv, 1) := by decide +kernel
theorem dX5_factor_122 : decode cX5_factor 122 = .ok (.lstore 7, 2) := by decide +kernel
theorem dX5_factor_124 : decode cX5_factor 124 = .ok (.iinc 10 (-1), 3) := by decide +kernel
theorem dX5_factor_127 : decode cX5_factor 127 = .ok (.iinc 11 1, 3) := by decide +kernel
theorem dX5_factor_130 : decode cX5_factor 130 = .ok (.goto (-40), 3) := by decide +kernel
theorem dX5_factor_133 : decode cX5_factor 133 = .ok (.aload_n 2, 1) := by decide +kernel
theorem dX5_factor_134 : decode cX5_factor 134 = .ok (.iload 9, 2) := by decide +kernel
theorem dX5_factor_136 : decode cX5_factor 136 = .ok (.iload 10, 2) := by decide +kernel
theorem dX5_factor_138 : decode cX5_factor 138 = .ok (.iastore, 1) := by decide +kernel
theorem dX5_factor_139 : decode cX5_factor 139 = .ok (.iinc 9 1, 3) := by decide +kernel
theorem dX5_factor_142 : decode cX5_factor 142 = .ok (.goto (-111), 3) := by decide +kernel
theorem dX5_factor_145 : decode cX5_factor 145 = .ok (.lload 5, 2) := by decide +kernel
theorem dX5_factor_147 : decode cX5_factor 147 = .ok (.lconst 1, 1) := by decide +kernel
theorem dX5_factor_148 : decode cX5_factor 148 = .ok (.lcmp, 1) := by decide +kernel
theorem dX5_factor_149 : decode cX5_factor 149 = .ok (.ifCond .ne 14, 3) := by decide +kernel
theorem dX5_factor_152 : decode cX5_factor 152 = .ok (.lload 7, 2) := by decide +kernel
theorem dX5_factor_154 : decode cX5_factor 154 = .ok (.lconst 1, 1) := by decide +kernel
theorem dX5_factor_155 : decode cX5_factor 155 = .ok (.lcmp, 1) := by decide +kernel
theorem dX5_factor_156 : decode cX5_factor 156 = .ok (.ifCond .ne 7, 3) := by decide +kernel
theorem dX5_factor_159 : decode cX5_factor 159 = .ok (.iconst 1, 1) := by decide +kernel
theorem dX5_factor_160 : decode cX5_factor 160 = .ok (.goto 4, 3) := by decide +kernel
theorem dX5_factor_163 : decode cX5_factor 163 = .ok (.iconst 0, 1) := by decide +kernel
theorem dX5_factor_164 : decode cX5_factor 164 = .ok (.ireturn, 1) := by decide +kernel
theorem dX5_commonDivisor_0 : decode cX5_commonDivisor 0 = .ok (.lload_n 0, 1) := by decide +kernel
theorem dX5_commonDivisor_1 : decode cX5_commonDivisor 1 = .ok (.invokestatic 29, 3) := by decide +kernel
theorem dX5_commonDivisor_4 : decode cX5_commonDivisor 4 = .ok (.lstore 4, 2) := by decide +kernel
theorem dX5_commonDivisor_6 : decode cX5_commonDivisor 6 = .ok (.lload_n 2, 1) := by decide +kernel
theorem dX5_commonDivisor_7 : decode cX5_commonDivisor 7 = .ok (.invokestatic 29, 3) := by decide +kernel
theorem dX5_commonDivisor_10 : decode cX5_commonDivisor 10 = .ok (.lstore 6, 2) := by decide +kernel
theorem dX5_commonDivisor_12 : decode cX5_commonDivisor 12 = .ok (.iconst 0, 1) := by decide +kernel
theorem dX5_commonDivisor_13 : decode cX5_commonDivisor 13 = .ok (.istore 8, 2) := by decide +kernel
theorem dX5_commonDivisor_15 : decode cX5_commonDivisor 15 = .ok (.iload 8, 2) := by decide +kernel
theorem dX5_commonDivisor_17 : decode cX5_commonDivisor 17 = .ok (.sipush 128, 3) := by decide +kernel
theorem dX5_commonDivisor_20 : decode cX5_commonDivisor 20 = .ok (.if_icmp .ge 31, 3) := by decide +kernel
theorem dX5_commonDivisor_23 : decode cX5_commonDivisor 23 = .ok (.lload 6, 2) := by decide +kernel
theorem dX5_commonDivisor_25 : decode cX5_commonDivisor 25 = .ok (.lconst 0, 1) := by decide +kernel
theorem dX5_commonDivisor_26 : decode cX5_commonDivisor 26 = .ok (.lcmp, 1) := by decide +kernel
theorem dX5_commonDivisor_27 : decode cX5_commonDivisor 27 = .ok (.ifCond .eq 24, 3) := by decide +kernel
theorem dX5_commonDivisor_30 : decode cX5_commonDivisor 30 = .ok (.lload 4, 2) := by decide +kernel
theorem dX5_commonDivisor_32 : decode cX5_commonDivisor 32 = .ok (.lload 6, 2) := by decide +kernel
theorem dX5_commonDivisor_34 : decode cX5_commonDivisor 34 = .ok (.lrem, 1) := by decide +kernel
theorem dX5_commonDivisor_35 : decode cX5_commonDivisor 35 = .ok (.lstore 9, 2) := by decide +kernel
theorem dX5_commonDivisor_37 : decode cX5_commonDivisor 37 = .ok (.lload 6, 2) := by decide +kernel
theorem dX5_commonDivisor_39 : decode cX5_commonDivisor 39 = .ok (.lstore 4, 2) := by decide +kernel
theorem dX5_commonDivisor_41 : decode cX5_commonDivisor 41 = .ok (.lload 9, 2) := by decide +kernel
theorem dX5_commonDivisor_43 : decode cX5_commonDivisor 43 = .ok (.lstore 6, 2) := by decide +kernel
theorem dX5_commonDivisor_45 : decode cX5_commonDivisor 45 = .ok (.iinc 8 1, 3) := by decide +kernel
theorem dX5_commonDivisor_48 : decode cX5_commonDivisor 48 = .ok (.goto (-33), 3) := by decide +kernel
theorem dX5_commonDivisor_51 : decode cX5_commonDivisor 51 = .ok (.lload 4, 2) := by decide +kernel
theorem dX5_commonDivisor_53 : decode cX5_commonDivisor 53 = .ok (.lreturn, 1) := by decide +kernel
theorem dX6_init_0 : decode cX6_init 0 = .ok (.aload_n 0, 1) := by decide +kernel
theorem dX6_init_1 : decode cX6_init 1 = .ok (.invokespecial 3, 3) := by decide +kernel
theorem dX6_init_4 : decode cX6_init 4 = .ok (.aload_n 0, 1) := by decide +kernel
theorem dX6_init_5 : decode cX6_init 5 = .ok (.aload_n 1, 1) := by decide +kernel
theorem dX6_init_6 : decode cX6_init 6 = .ok (.putfield 9, 3) := by decide +kernel
theorem dX6_init_9 : decode cX6_init 9 = .ok (.aload_n 0, 1) := by decide +kernel
theorem dX6_init_10 : decode cX6_init 10 = .ok (.bipush 6, 2) := by decide +kernel
theorem dX6_init_12 : decode cX6_init 12 = .ok (.newarray .int, 2) := by decide +kernel
theorem dX6_init_14 : decode cX6_init 14 = .ok (.putfield 15, 3) := by decide +kernel
theorem dX6_init_17 : decode cX6_init 17 = .ok (.aload_n 0, 1) := by decide +kernel
theorem dX6_init_18 : decode cX6_init 18 = .ok (.bipush 6, 2) := by decide +kernel
theorem dX6_init_20 : decode cX6_init 20 = .ok (.newarray .int, 2) := by decide +kernel
theorem dX6_init_22 : decode cX6_init 22 = .ok (.putfield 19, 3) := by decide +kernel
theorem dX6_init_25 : decode cX6_init 25 = .ok (.aload_n 0, 1) := by decide +kernel
theorem dX6_init_26 : decode cX6_init 26 = .ok (.bipush 6, 2) := by decide +kernel
theorem dX6_init_28 : decode cX6_init 28 = .ok (.newarray .int, 2) := by decide +kernel
theorem dX6_init_30 : decode cX6_init 30 = .ok (.putfield 22, 3) := by decide +kernel
theorem dX6_init_33 : decode cX6_init 33 = .ok (.aload_n 0, 1) := by decide +kernel
theorem dX6_init_34 : decode cX6_init 34 = .ok (.bipush 6, 2) := by decide +kernel
theorem dX6_init_36 : decode cX6_init 36 = .ok (.newarray .int, 2) := by decide +kernel
theorem dX6_init_38 : decode cX6_init 38 = .ok (.putfield 25, 3) := by decide +kernel
theorem dX6_init_41 : decode cX6_init 41 = .ok (.aload_n 0, 1) := by decide +kernel
theorem dX6_init_42 : decode cX6_init 42 = .ok (.bipush 24, 2) := by decide +kernel
theorem dX6_init_44 : decode cX6_init 44 = .ok (.bipush 6, 2) := by decide +kernel
theorem dX6_init_46 : decode cX6_init 46 = .ok (.multianewarray 30 2, 4) := by decide +kernel
theorem dX6_init_50 : decode cX6_init 50 = .ok (.putfield 32, 3) := by decide +kernel
theorem dX6_init_53 : decode cX6_init 53 = .ok (.aload_n 0, 1) := by decide +kernel
theorem dX6_init_54 : decode cX6_init 54 = .ok (.bipush 24, 2) := by decide +kernel
theorem dX6_init_56 : decode cX6_init 56 = .ok (.newarray .int, 2) := by decide +kernel
theorem dX6_init_58 : decode cX6_init 58 = .ok (.putfield 35, 3) := by decide +kernel
theorem dX6_init_61 : decode cX6_init 61 = .ok (.aload_n 0, 1) := by decide +kernel
theorem dX6_init_62 : decode cX6_init 62 = .ok (.new 28, 3) := by decide +kernel
theorem dX6_init_65 : decode cX6_init 65 = .ok (.dup, 1) := by decide +kernel
theorem dX6_init_66 : decode cX6_init 66 = .ok (.invokespecial 38, 3) := by decide +kernel
theorem dX6_init_69 : decode cX6_init 69 = .ok (.putfield 39, 3) := by decide +kernel
theorem dX6_init_72 : decode cX6_init 72 = .ok (.aload_n 0, 1) := by decide +kernel
theorem dX6_init_73 : decode cX6_init 73 = .ok (.new 28, 3) := by decide +kernel
theorem dX6_init_76 : decode cX6_init 76 = .ok (.dup, 1) := by decide +kernel
theorem dX6_init_77 : decode cX6_init 77 = .ok (.invokespecial 38, 3) := by decide +kernel
theorem dX6_init_80 : decode cX6_init 80 = .ok (.putfield 43, 3) := by decide +kernel
theorem dX6_init_83 : decode cX6_init 83 = .ok (.return_, 1) := by decide +kernel
theorem dX6_exists_0 : decode cX6_exists 0 = .ok (.aload_n 0, 1) := by decide +kernel
theorem dX6_exists_1 : decode cX6_exists 1 = .ok (.getfield 39, 3) := by decide +kernel
theorem dX6_exists_4 : decode cX6_exists 4 = .ok (.getfield 46, 3) := by decide +kernel
theorem dX6_exists_7 : decode cX6_exists 7 = .ok (.ifCond .le 7, 3) := by decide +kernel
theorem dX6_exists_10 : decode cX6_exists 10 = .ok (.iconst 1, 1) := by decide +kernel
theorem dX6_exists_11 : decode cX6_exists 11 = .ok (.goto 4, 3) := by decide +kernel
theorem dX6_exists_14 : decode cX6_exists 14 = .ok (.iconst 0, 1) := by decide +kernel
theorem dX6_exists_15 : decode cX6_exists 15 = .ok (.ireturn, 1) := by decide +kernel
theorem dX6_start_0 : decode cX6_start 0 = .ok (.aload_n 1, 1) := by decide +kernel
theorem dX6_start_1 : decode cX6_start 1 = .ok (.aload_n 0, 1) := by decide +kernel
theorem dX6_start_2 : decode cX6_start 2 = .ok (.getfield 15, 3) := by decide +kernel
theorem dX6_start_5 : decode cX6_start 5 = .ok (.invokestatic 50, 3) := by decide +kernel
theorem dX6_start_8 : decode cX6_start 8 = .ok (.aload_n 0, 1) := by decide +kernel
theorem dX6_start_9 : decode cX6_start 9 = .ok (.getfield 39, 3) := by decide +kernel
theorem dX6_start_12 : decode cX6_start 12 = .ok (.invokevirtual 56, 3) := by decide +kernel
theorem dX6_start_15 : decode cX6_start 15 = .ok (.return_, 1) := by decide +kernel
theorem dX6_stack_0 : decode cX6_stack 0 = .ok (.iconst 0, 1) := by decide +kernel
theorem dX6_stack_1 : decode cX6_stack 1 = .ok (.istore 4, 2) := by decide +kernel
theorem dX6_stack_3 : decode cX6_stack 3 = .ok (.aload_n 0, 1) := by decide +kernel
theorem dX6_stack_4 : decode cX6_stack 4 = .ok (.getfield 43, 3) := by decide +kernel
theorem dX6_stack_7 : decode cX6_stack 7 = .ok (.invokevirtual 56, 3) := by decide +kernel
theorem dX6_stack_10 : decode cX6_stack 10 = .ok (.iconst 1, 1) := by decide +kernel
theorem dX6_stack_11 : decode cX6_stack 11 = .ok (.istore 5, 2) := by decide +kernel
theorem dX6_stack_13 : decode cX6_stack 13 = .ok (.iload 5, 2) := by decide +kernel
theorem dX6_stack_15 : decode cX6_stack 15 = .ok (.iload_n 3, 1) := by decide +kernel
theorem dX6_stack_16 : decode cX6_stack 16 = .ok (.if_icmp .ge 90, 3) := by decide +kernel
theorem dX6_stack_19 : decode cX6_stack 19 = .ok (.aload_n 2, 1) := by decide +kernel
theorem dX6_stack_20 : decode cX6_stack 20 = .ok (.aload_n 2, 1) := by decide +kernel
theorem dX6_stack_21 : decode cX6_stack 21 = .ok (.iload 5, 2) := by decide +kernel
theorem dX6_stack_23 : decode cX6_stack 23 = .ok (.iconst 1, 1) := by decide +kernel
theorem dX6_stack_24 : decode cX6_stack 24 = .ok (.isub, 1) := by decide +kernel
theorem dX6_stack_25 : decode cX6_stack 25 = .ok (.aload_n 0, 1) := by decide +kernel
theorem dX6_stack_26 : decode cX6_stack 26 = .ok (.getfield 22, 3) := by decide +kernel
theorem dX6_stack_29 : decode cX6_stack 29 = .ok (.invokestatic 59, 3) := by decide +kernel
theorem dX6_stack_32 : decode cX6_stack 32 = .ok (.aload_n 0, 1) := by decide +kernel
theorem dX6_stack_33 : decode cX6_stack 33 = .ok (.getfield 9, 3) := by decide +kernel
theorem dX6_stack_36 : decode cX6_stack 36 = .ok (.aload_n 0, 1) := by decide +kernel
theorem dX6_stack_37 : decode cX6_stack 37 = .ok (.getfield 22, 3) := by decide +kernel
theorem dX6_stack_40 : decode cX6_stack 40 = .ok (.aload_n 1, 1) := by decide +kernel
theorem dX6_stack_41 : decode cX6_stack 41 = .ok (.aload_n 0, 1) := by decide +kernel
theorem dX6_stack_42 : decode cX6_stack 42 = .ok (.getfield 19, 3) := by decide +kernel
theorem dX6_stack_45 : decode cX6_stack 45 = .ok (.invokevirtual 63, 3) := by decide +kernel
theorem dX6_stack_48 : decode cX6_stack 48 = .ok (.ifCond .ne 5, 3) := by decide +kernel
theorem dX6_stack_51 : decode cX6_stack 51 = .ok (.iconst 4, 1) := by decide +kernel
theorem dX6_stack_52 : decode cX6_stack 52 = .ok (.ireturn, 1) := by decide +kernel
theorem dX6_stack_53 : decode cX6_stack 53 = .ok (.aload_n 0, 1) := by decide +kernel
theorem dX6_stack_54 : decode cX6_stack 54 = .ok (.getfield 43, 3) := by decide +kernel
theorem dX6_stack_57 : decode cX6_stack 57 = .ok (.aload_n 0, 1) := by decide +kernel
theorem dX6_stack_58 : decode cX6_stack 58 = .ok (.getfield 19, 3) := by decide +kernel
theorem dX6_stack_61 : decode cX6_stack 61 = .ok (.invokevirtual 69, 3) := by decide +kernel
theorem dX6_stack_64 : decode cX6_stack 64 = .ok (.ifCond .eq 9, 3) := by decide +kernel
theorem dX6_stack_67 : decode cX6_stack 67 = .ok (.iconst 1, 1) := by decide +kernel
theorem dX6_stack_68 : decode cX6_stack 68 = .ok (.istore 4, 2) := by decide +kernel
theorem dX6_stack_70 : decode cX6_stack 70 = .ok (.goto 30, 3) := by decide +kernel
theorem dX6_stack_73 : decode cX6_stack 73 = .ok (.aload_n 0, 1) := by decide +kernel
theorem dX6_stack_74 : decode cX6_stack 74 = .ok (.getfield 43, 3) := by decide +kernel
theorem dX6_stack_77 : decode cX6_stack 77 = .ok (.aload_n 0, 1) := by decide +kernel
theorem dX6_stack_78 : decode cX6_stack 78 = .ok (.getfield 43, 3) := by decide +kernel
theorem dX6_stack_81 : decode cX6_stack 81 = .ok (.aload_n 0, 1) := by decide +kernel
theorem dX6_stack_82 : decode cX6_stack 82 = .ok (.getfield 19, 3) := by decide +kernel
theorem dX6_stack_85 : decode cX6_stack 85 = .ok (.aload_n 0, 1) := by decide +kernel
theorem dX6_stack_86 : decode cX6_stack 86 = .ok (.getfield 9, 3) := by decide +kernel
theorem dX6_stack_89 : decode cX6_stack 89 = .ok (.invokevirtual 73, 3) := by decide +kernel
theorem dX6_stack_92 : decode cX6_stack 92 = .ok (.aload_n 0, 1) := by decide +kernel
theorem dX6_stack_93 : decode cX6_stack 93 = .ok (.getfield 19, 3) := by decide +kernel
theorem dX6_stack_96 : decode cX6_stack 96 = .ok (.invokevirtual 77, 3) := by decide +kernel
theorem dX6_stack_99 : decode cX6_stack 99 = .ok (.pop, 1) := by decide +kernel
theorem dX6_stack_100 : decode cX6_stack 100 = .ok (.iinc 5 1, 3) := by decide +kernel
theorem dX6_stack_103 : decode cX6_stack 103 = .ok (.goto (-90), 3) := by decide +kernel
theorem dX6_stack_106 : decode cX6_stack 106 = .ok (.iload 4, 2) := by decide +kernel
theorem dX6_stack_108 : decode cX6_stack 108 = .ok (.ifCond .eq 6, 3) := by decide +kernel
theorem dX6_stack_111 : decode cX6_stack 111 = .ok (.bipush 8, 2) := by decide +kernel
theorem dX6_stack_113 : decode cX6_stack 113 = .ok (.ireturn, 1) := by decide +kernel
theorem dX6_stack_114 : decode cX6_stack 114 = .ok (.aload_n 1, 1) := by decide +kernel
theorem dX6_stack_115 : decode cX6_stack 115 = .ok (.aload_n 0, 1) := by decide +kernel
theorem dX6_stack_116 : decode cX6_stack 116 = .ok (.getfield 15, 3) := by decide +kernel
theorem dX6_stack_119 : decode cX6_stack 119 = .ok (.invokestatic 50, 3) := by decide +kernel
theorem dX6_stack_122 : decode cX6_stack 122 = .ok (.aload_n 0, 1) := by decide +kernel
theorem dX6_stack_123 : decode cX6_stack 123 = .ok (.invokevirtual 81, 3) := by decide +kernel
theorem dX6_stack_126 : decode cX6_stack 126 = .ok (.iconst 0, 1) := by decide +kernel
theorem dX6_stack_127 : decode cX6_stack 127 = .ok (.ireturn, 1) := by decide +kernel
theorem dX6_turn_0 : decode cX6_turn 0 = .ok (.iconst 0, 1) := by decide +kernel
theorem dX6_turn_1 : decode cX6_turn 1 = .ok (.istore_n 2, 1) := by decide +kernel
theorem dX6_turn_2 : decode cX6_turn 2 = .ok (.iload_n 2, 1) := by decide +kernel
theorem dX6_turn_3 : decode cX6_turn 3 = .ok (.aload_n 0, 1) := by decide +kernel
theorem dX6_turn_4 : decode cX6_turn 4 = .ok (.getfield 39, 3) := by decide +kernel
theorem dX6_turn_7 : decode cX6_turn 7 = .ok (.getfield 46, 3) := by decide +kernel
theorem dX6_turn_10 : decode cX6_turn 10 = .ok (.if_icmp .ge 43, 3) := by decide +kernel
theorem dX6_turn_13 : decode cX6_turn 13 = .ok (.aload_n 0, 1) := by decide +kernel
theorem dX6_turn_14 : decode cX6_turn 14 = .ok (.iload_n 1, 1) := by decide +kernel
theorem dX6_turn_15 : decode cX6_turn 15 = .ok (.iload_n 2, 1) := by decide +kernel
theorem dX6_turn_16 : decode cX6_turn 16 = .ok (.aload_n 0, 1) := by decide +kernel
theorem dX6_turn_17 : decode cX6_turn 17 = .ok (.getfield 43, 3) := by decide +kernel
theorem dX6_turn_20 : decode cX6_turn 20 = .ok (.getfield 84, 3) := by decide +kernel
theorem dX6_turn_23 : decode cX6_turn 23 = .ok (.iload_n 2, 1) := by decide +kernel
theorem dX6_turn_24 : decode cX6_turn 24 = .ok (.aaload, 1) := by decide +kernel
theorem dX6_turn_25 : decode cX6_turn 25 = .ok (.invokevirtual 87, 3) := by decide +kernel
theorem dX6_turn_28 : decode cX6_turn 28 = .ok (.aload_n 0, 1) := by decide +kernel
theorem dX6_turn_29 : decode cX6_turn 29 = .ok (.getfield 43, 3) := by decide +kernel
theorem dX6_turn_32 : decode cX6_turn 32 = .ok (.getfield 84, 3) := by decide +kernel
theorem dX6_turn_35 : decode cX6_turn 35 = .ok (.iload_n 2, 1) := by decide +kernel
theorem dX6_turn_36 : decode cX6_turn 36 = .ok (.aaload, 1) := by decide +kernel
theorem dX6_turn_37 : decode cX6_turn 37 = .ok (.bipush 24, 2) := by decide +kernel
theorem dX6_turn_39 : decode cX6_turn 39 = .ok (.invokestatic 91, 3) := by decide +kernel
theorem dX6_turn_42 : decode cX6_turn 42 = .ok (.ifCond .ne 5, 3) := by decide +kernel
theorem dX6_turn_45 : decode cX6_turn 45 = .ok (.iconst 0, 1) := by decide +kernel
theorem dX6_turn_46 : decode cX6_turn 46 = .ok (.ireturn, 1) := by decide +kernel
theorem dX6_turn_47 : decode cX6_turn 47 = .ok (.iinc 2 1, 3) := by decide +kernel
theorem dX6_turn_50 : decode cX6_turn 50 = .ok (.goto (-48), 3) := by decide +kernel
theorem dX6_turn_53 : decode cX6_turn 53 = .ok (.aload_n 0, 1) := by decide +kernel
theorem dX6_turn_54 : decode cX6_turn 54 = .ok (.getfield 43, 3) := by decide +kernel
theorem dX6_turn_57 : decode cX6_turn 57 = .ok (.aload_n 0, 1) := by decide +kernel
theorem dX6_turn_58 : decode cX6_turn 58 = .ok (.getfield 39, 3) := by decide +kernel
theorem dX6_turn_61 : decode cX6_turn 61 = .ok (.getfield 46, 3) := by decide +kernel
theorem dX6_turn_64 : decode cX6_turn 64 = .ok (.putfield 46, 3) := by decide +kernel
theorem dX6_turn_67 : decode cX6_turn 67 = .ok (.aload_n 0, 1) := by decide +kernel
theorem dX6_turn_68 : decode cX6_turn 68 = .ok (.invokevirtual 81, 3) := by decide +kernel
theorem dX6_turn_71 : decode cX6_turn 71 = .ok (.iconst 1, 1) := by decide +kernel
theorem dX6_turn_72 : decode cX6_turn 72 = .ok (.ireturn, 1) := by decide +kernel
theorem dX6_takeComing_0 : decode cX6_takeComing 0 = .ok (.aload_n 0, 1) := by decide +kernel
theorem dX6_takeComing_1 : decode cX6_takeComing 1 = .ok (.getfield 39, 3) := by decide +kernel
theorem dX6_takeComing_4 : decode cX6_takeComing 4 = .ok (.astore_n 1, 1) := by decide +kernel
theorem dX6_takeComing_5 : decode cX6_takeComing 5 = .ok (.aload_n 0, 1) := by decide +kernel
theorem dX6_takeComing_6 : decode cX6_takeComing 6 = .ok (.aload_n 0, 1) := by decide +kernel
theorem dX6_takeComing_7 : decode cX6_takeComing 7 = .ok (.getfield 43, 3) := by decide +kernel
theorem dX6_takeComing_10 : decode cX6_takeComing 10 = .ok (.putfield 39, 3) := by decide +kernel
theorem dX6_takeComing_13 : decode cX6_takeComing 13 = .ok (.aload_n 0, 1) := by decide +kernel
theorem dX6_takeComing_14 : decode cX6_takeComing 14 = .ok (.aload_n 1, 1) := by decide +kernel
theorem dX6_takeComing_15 : decode cX6_takeComing 15 = .ok (.putfield 43, 3) := by decide +kernel
theorem dX6_takeComing_18 : decode cX6_takeComing 18 = .ok (.return_, 1) := by decide +kernel
theorem dX6_readNote_0 : decode cX6_readNote 0 = .ok (.aload_n 0, 1) := by decide +kernel
theorem dX6_readNote_1 : decode cX6_readNote 1 = .ok (.getfield 39, 3) := by decide +kernel
theorem dX6_readNote_4 : decode cX6_readNote 4 = .ok (.getfield 46, 3) := by decide +kernel
theorem dX6_readNote_7 : decode cX6_readNote 7 = .ok (.istore_n 3, 1) := by decide +kernel
theorem dX6_readNote_8 : decode cX6_readNote 8 = .ok (.iload_n 3, 1) := by decide +kernel
theorem dX6_readNote_9 : decode cX6_readNote 9 = .ok (.iconst 1, 1) := by decide +kernel
theorem dX6_readNote_10 : decode cX6_readNote 10 = .ok (.if_icmp .lt 7, 3) := by decide +kernel
theorem dX6_readNote_13 : decode cX6_readNote 13 = .ok (.iload_n 1, 1) := by decide +kernel
theorem dX6_readNote_14 : decode cX6_readNote 14 = .ok (.ifCond .ge 4, 3) := by decide +kernel
theorem dX6_readNote_17 : decode cX6_readNote 17 = .ok (.return_, 1) := by decide +kernel
theorem dX6_readNote_18 : decode cX6_readNote 18 = .ok (.aload_n 0, 1) := by decide +kernel
theorem dX6_readNote_19 : decode cX6_readNote 19 = .ok (.getfield 39, 3) := by decide +kernel
theorem dX6_readNote_22 : decode cX6_readNote 22 = .ok (.getfield 84, 3) := by decide +kernel
theorem dX6_readNote_25 : decode cX6_readNote 25 = .ok (.iload_n 1, 1) := by decide +kernel
theorem dX6_readNote_26 : decode cX6_readNote 26 = .ok (.iload_n 3, 1) := by decide +kernel
theorem dX6_readNote_27 : decode cX6_readNote 27 = .ok (.irem, 1) := by decide +kernel
theorem dX6_readNote_28 : decode cX6_readNote 28 = .ok (.aaload, 1) := by decide +kernel
theorem dX6_readNote_29 : decode cX6_readNote 29 = .ok (.aload_n 0, 1) := by decide +kernel
theorem dX6_readNote_30 : decode cX6_readNote 30 = .ok (.getfield 15, 3) := by decide +kernel
theorem dX6_readNote_33 : decode cX6_readNote 33 = .ok (.iload_n 1, 1) := by decide +kernel
theorem dX6_readNote_34 : decode cX6_readNote 34 = .ok (.iload_n 3, 1) := by decide +kernel
theorem dX6_readNote_35 : decode cX6_readNote 35 = .ok (.idiv, 1) := by decide +kernel
theorem dX6_readNote_36 : decode cX6_readNote 36 = .ok (.aload_n 2, 1) := by decide +kernel
theorem dX6_readNote_37 : decode cX6_readNote 37 = .ok (.invokestatic 59, 3) := by decide +kernel
theorem dX6_readNote_40 : decode cX6_readNote 40 = .ok (.return_, 1) := by decide +kernel
theorem dX6_readStep_0 : decode cX6_readStep 0 = .ok (.iload_n 1, 1) := by decide +kernel
theorem dX6_readStep_1 : decode cX6_readStep 1 = .ok (.ifCond .lt 14, 3) := by decide +kernel
theorem dX6_readStep_4 : decode cX6_readStep 4 = .ok (.iload_n 1, 1) := by decide +kernel
theorem dX6_readStep_5 : decode cX6_readStep 5 = .ok (.aload_n 0, 1) := by decide +kernel
theorem dX6_readStep_6 : decode cX6_readStep 6 = .ok (.getfield 39, 3) := by decide +kernel
theorem dX6_readStep_9 : decode cX6_readStep 9 = .ok (.getfield 46, 3) := by decide +kernel
theorem dX6_readStep_12 : decode cX6_readStep 12 = .ok (.if_icmp .lt 4, 3) := by decide +kernel
theorem dX6_readStep_15 : decode cX6_readStep 15 = .ok (.return_, 1) := by decide +kernel
theorem dX6_readStep_16 : decode cX6_readStep 16 = .ok (.aload_n 0, 1) := by decide +kernel
theorem dX6_readStep_17 : decode cX6_readStep 17 = .ok (.iload_n 1, 1) := by decide +kernel
theorem dX6_readStep_18 : decode cX6_readStep 18 = .ok (.iload_n 2, 1) := by decide +kernel
theorem dX6_readStep_19 : decode cX6_readStep 19 = .ok (.iadd, 1) := by decide +kernel
theorem dX6_readStep_20 : decode cX6_readStep 20 = .ok (.aload_n 3, 1) := by decide +kernel
theorem dX6_readStep_21 : decode cX6_readStep 21 = .ok (.invokevirtual 95, 3) := by decide +kernel
theorem dX6_readStep_24 : decode cX6_readStep 24 = .ok (.aload_n 3, 1) := by decide +kernel
theorem dX6_readStep_25 : decode cX6_readStep 25 = .ok (.aload_n 0, 1) := by decide +kernel
theorem dX6_readStep_26 : decode cX6_readStep 26 = .ok (.getfield 39, 3) := by decide +kernel
theorem dX6_readStep_29 : decode cX6_readStep 29 = .ok (.getfield 84, 3) := by decide +kernel
theorem dX6_readStep_32 : decode cX6_readStep 32 = .ok (.iload_n 1, 1) := by decide +kernel
theorem dX6_readStep_33 : decode cX6_readStep 33 = .ok (.aaload, 1) := by decide +kernel
theorem dX6_readStep_34 : decode cX6_readStep 34 = .ok (.iconst (-1), 1) := by decide +kernel
theorem dX6_readStep_35 : decode cX6_readStep 35 = .ok (.aload_n 3, 1) := by decide +kernel
theorem dX6_readStep_36 : decode cX6_readStep 36 = .ok (.invokestatic 59, 3) := by decide +kernel
theorem dX6_readStep_39 : decode cX6_readStep 39 = .ok (.return_, 1) := by decide +kernel
theorem dX6_gatherKinds_0 : decode cX6_gatherKinds 0 = .ok (.iconst 0, 1) := by decide +kernel
theorem dX6_gatherKinds_1 : decode cX6_gatherKinds 1 = .ok (.istore_n 2, 1) := by decide +kernel
theorem dX6_gatherKinds_2 : decode cX6_gatherKinds 2 = .ok (.iconst 0, 1) := by decide +kernel
theorem dX6_gatherKinds_3 : decode cX6_gatherKinds 3 = .ok (.istore_n 3, 1) := by decide +kernel
theorem dX6_gatherKinds_4 : decode cX6_gatherKinds 4 = .ok (.iload_n 3, 1) := by decide +kernel
theorem dX6_gatherKinds_5 : decode cX6_gatherKinds 5 = .ok (.aload_n 0, 1) := by decide +kernel
theorem dX6_gatherKinds_6 : decode cX6_gatherKinds 6 = .ok (.getfield 39, 3) := by decide +kernel
theorem dX6_gatherKinds_9 : decode cX6_gatherKinds 9 = .ok (.getfield 46, 3) := by decide +kernel
theorem dX6_gatherKinds_12 : decode cX6_gatherKinds 12 = .ok (.if_icmp .ge 103, 3) := by decide +kernel
theorem dX6_gatherKinds_15 : decode cX6_gatherKinds 15 = .ok (.aload_n 0, 1) := by decide +kernel
theorem dX6_gatherKinds_16 : decode cX6_gatherKinds 16 = .ok (.iload_n 3, 1) := by decide +kernel
theorem dX6_gatherKinds_17 : decode cX6_gatherKinds 17 = .ok (.iload_n 1, 1) := by decide +kernel
theorem dX6_gatherKinds_18 : decode cX6_gatherKinds 18 = .ok (.aload_n 0, 1) := by decide +kernel
theorem dX6_gatherKinds_19 : decode cX6_gatherKinds 19 = .ok (.getfield 19, 3) := by decide +kernel
theorem dX6_gatherKinds_22 : decode cX6_gatherKinds 22 = .ok (.invokevirtual 87, 3) := by decide +kernel
theorem dX6_gatherKinds_25 : decode cX6_gatherKinds 25 = .ok (.iconst 0, 1) := by decide +kernel
theorem dX6_gatherKinds_26 : decode cX6_gatherKinds 26 = .ok (.istore 4, 2) := by decide +kernel
theorem dX6_gatherKinds_28 : decode cX6_gatherKinds 28 = .ok (.iload 4, 2) := by decide +kernel
theorem dX6_gatherKinds_30 : decode cX6_gatherKinds 30 = .ok (.iload_n 2, 1) := by decide +kernel
theorem dX6_gatherKinds_31 : decode cX6_gatherKinds 31 = .ok (.if_icmp .ge 26, 3) := by decide +kernel
theorem dX6_gatherKinds_34 : decode cX6_gatherKinds 34 = .ok (.aload_n 0, 1) := by decide +kernel
theorem dX6_gatherKinds_35 : decode cX6_gatherKinds 35 = .ok (.getfield 32, 3) := by decide +kernel
theorem dX6_gatherKinds_38 : decode cX6_gatherKinds 38 = .ok (.iload 4, 2) := by decide +kernel
theorem dX6_gatherKinds_40 : decode cX6_gatherKinds 40 = .ok (.aaload, 1) := by decide +kernel
theorem dX6_gatherKinds_41 : decode cX6_gatherKinds 41 = .ok (.aload_n 0, 1) := by decide +kernel
theorem dX6_gatherKinds_42 : decode cX6_gatherKinds 42 = .ok (.getfield 19, 3) := by decide +kernel
theorem dX6_gatherKinds_45 : decode cX6_gatherKinds 45 = .ok (.invokestatic 99, 3) := by decide +kernel
theorem dX6_gatherKinds_48 : decode cX6_gatherKinds 48 = .ok (.ifCond .ne 9, 3) := by decide +kernel
theorem dX6_gatherKinds_51 : decode cX6_gatherKinds 51 = .ok (.iinc 4 1, 3) := by decide +kernel
theorem dX6_gatherKinds_54 : decode cX6_gatherKinds 54 = .ok (.goto (-26), 3) := by decide +kernel
theorem dX6_gatherKinds_57 : decode cX6_gatherKinds 57 = .ok (.iload 4, 2) := by decide +kernel
theorem dX6_gatherKinds_59 : decode cX6_gatherKinds 59 = .ok (.iload_n 2, 1) := by decide +kernel
theorem dX6_gatherKinds_60 : decode cX6_gatherKinds 60 = .ok (.if_icmp .ne 32, 3) := by decide +kernel
theorem dX6_gatherKinds_63 : decode cX6_gatherKinds 63 = .ok (.iload_n 2, 1) := by decide +kernel
theorem dX6_gatherKinds_64 : decode cX6_gatherKinds 64 = .ok (.bipush 24, 2) := by decide +kernel
theorem dX6_gatherKinds_66 : decode cX6_gatherKinds 66 = .ok (.if_icmp .ge 26, 3) := by decide +kernel
theorem dX6_gatherKinds_69 : decode cX6_gatherKinds 69 = .ok (.aload_n 0, 1) := by decide +kernel
theorem dX6_gatherKinds_70 : decode cX6_gatherKinds 70 = .ok (.getfield 19, 3) := by decide +kernel
theorem dX6_gatherKinds_73 : decode cX6_gatherKinds 73 = .ok (.aload_n 0, 1) := by decide +kernel
theorem dX6_gatherKinds_74 : decode cX6_gatherKinds 74 = .ok (.getfield 32, 3) := by decide +kernel
theorem dX6_gatherKinds_77 : decode cX6_gatherKinds 77 = .ok (.iload_n 2, 1) := by decide +kernel
theorem dX6_gatherKinds_78 : decode cX6_gatherKinds 78 = .ok (.aaload, 1) := by decide +kernel
theorem dX6_gatherKinds_79 : decode cX6_gatherKinds 79 = .ok (.invokestatic 50, 3) := by decide +kernel
theorem dX6_gatherKinds_82 : decode cX6_gatherKinds 82 = .ok (.aload_n 0, 1) := by decide +kernel
theorem dX6_gatherKinds_83 : decode cX6_gatherKinds 83 = .ok (.getfield 35, 3) := by decide +kernel
theorem dX6_gatherKinds_86 : decode cX6_gatherKinds 86 = .ok (.iload_n 2, 1) := by decide +kernel
theorem dX6_gatherKinds_87 : decode cX6_gatherKinds 87 = .ok (.iconst 0, 1) := by decide +kernel
theorem dX6_gatherKinds_88 : decode cX6_gatherKinds 88 = .ok (.iastore, 1) := by decide +kernel
theorem dX6_gatherKinds_89 : decode cX6_gatherKinds 89 = .ok (.iinc 2 1, 3) := by decide +kernel
theorem dX6_gatherKinds_92 : decode cX6_gatherKinds 92 = .ok (.iload 4, 2) := by decide +kernel
theorem dX6_gatherKinds_94 : decode cX6_gatherKinds 94 = .ok (.iload_n 2, 1) := by decide +kernel
theorem dX6_gatherKinds_95 : decode cX6_gatherKinds 95 = .ok (.if_icmp .ge 14, 3) := by decide +kernel
theorem dX6_gatherKinds_98 : decode cX6_gatherKinds 98 = .ok (.aload_n 0, 1) := by decide +kernel
theorem dX6_gatherKinds_99 : decode cX6_gatherKinds 99 = .ok (.getfield 35, 3) := by decide +kernel
theorem dX6_gatherKinds_102 : decode cX6_gatherKinds 102 = .ok (.iload 4, 2) := by decide +kernel
theorem dX6_gatherKinds_104 : decode cX6_gatherKinds 104 = .ok (.dup2, 1) := by decide +kernel
theorem dX6_gatherKinds_105 : decode cX6_gatherKinds 105 = .ok (.iaload, 1) := by decide +kernel
theorem dX6_gatherKinds_106 : decode cX6_gatherKinds 106 = .ok (.iconst 1, 1) := by decide +kernel
theorem dX6_gatherKinds_107 : decode cX6_gatherKinds 107 = .ok (.iadd, 1) := by decide +kernel
theorem dX6_gatherKinds_108 : decode cX6_gatherKinds 108 = .ok (.iastore, 1) := by decide +kernel
theorem dX6_gatherKinds_109 : decode cX6_gatherKinds 109 = .ok (.iinc 3 1, 3) := by decide +kernel
theorem dX6_gatherKinds_112 : decode cX6_gatherKinds 112 = .ok (.goto (-108), 3) := by decide +kernel
theorem dX6_gatherKinds_115 : decode cX6_gatherKinds 115 = .ok (.iload_n 2, 1) := by decide +kernel
theorem dX6_gatherKinds_116 : decode cX6_gatherKinds 116 = .ok (.ireturn, 1) := by decide +kernel
theorem dX6_readKind_0 : decode cX6_readKind 0 = .ok (.iconst 0, 1) := by decide +kernel
theorem dX6_readKind_1 : decode cX6_readKind 1 = .ok (.istore 4, 2) := by decide +kernel
theorem dX6_readKind_3 : decode cX6_readKind 3 = .ok (.iload 4, 2) := by decide +kernel
theorem dX6_readKind_5 : decode cX6_readKind 5 = .ok (.iload_n 1, 1) := by decide +kernel
theorem dX6_readKind_6 : decode cX6_readKind 6 = .ok (.if_icmp .gt 73, 3) := by decide +kernel
theorem dX6_readKind_9 : decode cX6_readKind 9 = .ok (.iload 4, 2) := by decide +kernel
theorem dX6_readKind_11 : decode cX6_readKind 11 = .ok (.iload_n 2, 1) := by decide +kernel
theorem dX6_readKind_12 : decode cX6_readKind 12 = .ok (.if_icmp .ge 67, 3) := by decide +kernel
theorem dX6_readKind_15 : decode cX6_readKind 15 = .ok (.iload 4, 2) := by decide +kernel
theorem dX6_readKind_17 : decode cX6_readKind 17 = .ok (.istore 5, 2) := by decide +kernel
theorem dX6_readKind_19 : decode cX6_readKind 19 = .ok (.iload 4, 2) := by decide +kernel
theorem dX6_readKind_21 : decode cX6_readKind 21 = .ok (.iconst 1, 1) := by decide +kernel
theorem dX6_readKind_22 : decode cX6_readKind 22 = .ok (.iadd, 1) := by decide +kernel
theorem dX6_readKind_23 : decode cX6_readKind 23 = .ok (.istore 6, 2) := by decide +kernel
theorem dX6_readKind_25 : decode cX6_readKind 25 = .ok (.iload 6, 2) := by decide +kernel
theorem dX6_readKind_27 : decode cX6_readKind 27 = .ok (.iload_n 2, 1) := by decide +kernel
theorem dX6_readKind_28 : decode cX6_readKind 28 = .ok (.if_icmp .ge 37, 3) := by decide +kernel
theorem dX6_readKind_31 : decode cX6_readKind 31 = .ok (.aload_n 0, 1) := by decide +kernel
theorem dX6_readKind_32 : decode cX6_readKind 32 = .ok (.getfield 9, 3) := by decide +kernel
theorem dX6_readKind_35 : decode cX6_readKind 35 = .ok (.aload_n 0, 1) := by decide +kernel
theorem dX6_readKind_36 : decode cX6_readKind 36 = .ok (.getfield 32, 3) := by decide +kernel
theorem dX6_readKind_39 : decode cX6_readKind 39 = .ok (.iload 6, 2) := by decide +kernel
theorem dX6_readKind_41 : decode cX6_readKind 41 = .ok (.aaload, 1) := by decide +kernel
theorem dX6_readKind_42 : decode cX6_readKind 42 = .ok (.aload_n 0, 1) := by decide +kernel
theorem dX6_readKind_43 : decode cX6_readKind 43 = .ok (.getfield 32, 3) := by decide +kernel
theorem dX6_readKind_46 : decode cX6_readKind 46 = .ok (.iload 5, 2) := by decide +kernel
theorem dX6_readKind_48 : decode cX6_readKind 48 = .ok (.aaload, 1) := by decide +kernel
theorem dX6_readKind_49 : decode cX6_readKind 49 = .ok (.invokevirtual 103, 3) := by decide +kernel
theorem dX6_readKind_52 : decode cX6_readKind 52 = .ok (.ifCond .ge 7, 3) := by decide +kernel
theorem dX6_readKind_55 : decode cX6_readKind 55 = .ok (.iload 6, 2) := by decide +kernel
theorem dX6_readKind_57 : decode cX6_readKind 57 = .ok (.istore 5, 2) := by decide +kernel
theorem dX6_readKind_59 : decode cX6_readKind 59 = .ok (.iinc 6 1, 3) := by decide +kernel
theorem dX6_readKind_62 : decode cX6_readKind 62 = .ok (.goto (-37), 3) := by decide +kernel
theorem dX6_readKind_65 : decode cX6_readKind 65 = .ok (.aload_n 0, 1) := by decide +kernel
theorem dX6_readKind_66 : decode cX6_readKind 66 = .ok (.iload 4, 2) := by decide +kernel
theorem dX6_readKind_68 : decode cX6_readKind 68 = .ok (.iload 5, 2) := by decide +kernel
theorem dX6_readKind_70 : decode cX6_readKind 70 = .ok (.invokevirtual 107, 3) := by decide +kernel
theorem dX6_readKind_73 : decode cX6_readKind 73 = .ok (.iinc 4 1, 3) := by decide +kernel
theorem dX6_readKind_76 : decode cX6_readKind 76 = .ok (.goto (-73), 3) := by decide +kernel
theorem dX6_readKind_79 : decode cX6_readKind 79 = .ok (.iload_n 1, 1) := by decide +kernel
theorem dX6_readKind_80 : decode cX6_readKind 80 = .ok (.ifCond .lt 8, 3) := by decide +kernel
theorem dX6_readKind_83 : decode cX6_readKind 83 = .ok (.iload_n 1, 1) := by decide +kernel
theorem dX6_readKind_84 : decode cX6_readKind 84 = .ok (.iload_n 2, 1) := by decide +kernel
theorem dX6_readKind_85 : decode cX6_readKind 85 = .ok (.if_icmp .lt 5, 3) := by decide +kernel
theorem dX6_readKind_88 : decode cX6_readKind 88 = .ok (.iconst (-1), 1) := by decide +kernel
theorem dX6_readKind_89 : decode cX6_readKind 89 = .ok (.ireturn, 1) := by decide +kernel
theorem dX6_readKind_90 : decode cX6_readKind 90 = .ok (.aload_n 0, 1) := by decide +kernel
theorem dX6_readKind_91 : decode cX6_readKind 91 = .ok (.getfield 32, 3) := by decide +kernel
theorem dX6_readKind_94 : decode cX6_readKind 94 = .ok (.iload_n 1, 1) := by decide +kernel
theorem dX6_readKind_95 : decode cX6_readKind 95 = .ok (.aaload, 1) := by decide +kernel
theorem dX6_readKind_96 : decode cX6_readKind 96 = .ok (.aload_n 3, 1) := by decide +kernel
theorem dX6_readKind_97 : decode cX6_readKind 97 = .ok (.invokestatic 50, 3) := by decide +kernel
theorem dX6_readKind_100 : decode cX6_readKind 100 = .ok (.aload_n 0, 1) := by decide +kernel
theorem dX6_readKind_101 : decode cX6_readKind 101 = .ok (.getfield 35, 3) := by decide +kernel
theorem dX6_readKind_104 : decode cX6_readKind 104 = .ok (.iload_n 1, 1) := by decide +kernel
theorem dX6_readKind_105 : decode cX6_readKind 105 = .ok (.iaload, 1) := by decide +kernel
theorem dX6_readKind_106 : decode cX6_readKind 106 = .ok (.ireturn, 1) := by decide +kernel
theorem dX6_swapKinds_0 : decode cX6_swapKinds 0 = .ok (.aload_n 0, 1) := by decide +kernel
theorem dX6_swapKinds_1 : decode cX6_swapKinds 1 = .ok (.getfield 32, 3) := by decide +kernel
theorem dX6_swapKinds_4 : decode cX6_swapKinds 4 = .ok (.iload_n 1, 1) := by decide +kernel
theorem dX6_swapKinds_5 : decode cX6_swapKinds 5 = .ok (.aaload, 1) := by decide +kernel
theorem dX6_swapKinds_6 : decode cX6_swapKinds 6 = .ok (.astore_n 3, 1) := by decide +kernel
theorem dX6_swapKinds_7 : decode cX6_swapKinds 7 = .ok (.aload_n 0, 1) := by decide +kernel
theorem dX6_swapKinds_8 : decode cX6_swapKinds 8 = .ok (.getfield 32, 3) := by decide +kernel
theorem dX6_swapKinds_11 : decode cX6_swapKinds 11 = .ok (.iload_n 1, 1) := by decide +kernel
theorem dX6_swapKinds_12 : decode cX6_swapKinds 12 = .ok (.aload_n 0, 1) := by decide +kernel
theorem dX6_swapKinds_13 : decode cX6_swapKinds 13 = .ok (.getfield 32, 3) := by decide +kernel
theorem dX6_swapKinds_16 : decode cX6_swapKinds 16 = .ok (.iload_n 2, 1) := by decide +kernel
theorem dX6_swapKinds_17 : decode cX6_swapKinds 17 = .ok (.aaload, 1) := by decide +kernel
theorem dX6_swapKinds_18 : decode cX6_swapKinds 18 = .ok (.aastore, 1) := by decide +kernel
theorem dX6_swapKinds_19 : decode cX6_swapKinds 19 = .ok (.aload_n 0, 1) := by decide +kernel
theorem dX6_swapKinds_20 : decode cX6_swapKinds 20 = .ok (.getfield 32, 3) := by decide +kernel
theorem dX6_swapKinds_23 : decode cX6_swapKinds 23 = .ok (.iload_n 2, 1) := by decide +kernel
theorem dX6_swapKinds_24 : decode cX6_swapKinds 24 = .ok (.aload_n 3, 1) := by decide +kernel
theorem dX6_swapKinds_25 : decode cX6_swapKinds 25 = .ok (.aastore, 1) := by decide +kernel
theorem dX6_swapKinds_26 : decode cX6_swapKinds 26 = .ok (.aload_n 0, 1) := by decide +kernel
theorem dX6_swapKinds_27 : decode cX6_swapKinds 27 = .ok (.getfield 35, 3) := by decide +kernel
theorem dX6_swapKinds_30 : decode cX6_swapKinds 30 = .ok (.iload_n 1, 1) := by decide +kernel
theorem dX6_swapKinds_31 : decode cX6_swapKinds 31 = .ok (.iaload, 1) := by decide +kernel
theorem dX6_swapKinds_32 : decode cX6_swapKinds 32 = .ok (.istore 4, 2) := by decide +kernel
theorem dX6_swapKinds_34 : decode cX6_swapKinds 34 = .ok (.aload_n 0, 1) := by decide +kernel
theorem dX6_swapKinds_35 : decode cX6_swapKinds 35 = .ok (.getfield 35, 3) := by decide +kernel
theorem dX6_swapKinds_38 : decode cX6_swapKinds 38 = .ok (.iload_n 1, 1) := by decide +kernel
theorem dX6_swapKinds_39 : decode cX6_swapKinds 39 = .ok (.aload_n 0, 1) := by decide +kernel
theorem dX6_swapKinds_40 : decode cX6_swapKinds 40 = .ok (.getfield 35, 3) := by decide +kernel
theorem dX6_swapKinds_43 : decode cX6_swapKinds 43 = .ok (.iload_n 2, 1) := by decide +kernel
theorem dX6_swapKinds_44 : decode cX6_swapKinds 44 = .ok (.iaload, 1) := by decide +kernel
theorem dX6_swapKinds_45 : decode cX6_swapKinds 45 = .ok (.iastore, 1) := by decide +kernel
theorem dX6_swapKinds_46 : decode cX6_swapKinds 46 = .ok (.aload_n 0, 1) := by decide +kernel
theorem dX6_swapKinds_47 : decode cX6_swapKinds 47 = .ok (.getfield 35, 3) := by decide +kernel
theorem dX6_swapKinds_50 : decode cX6_swapKinds 50 = .ok (.iload_n 2, 1) := by decide +kernel
theorem dX6_swapKinds_51 : decode cX6_swapKinds 51 = .ok (.iload 4, 2) := by decide +kernel
theorem dX6_swapKinds_53 : decode cX6_swapKinds 53 = .ok (.iastore, 1) := by decide +kernel
theorem dX6_swapKinds_54 : decode cX6_swapKinds 54 = .ok (.return_, 1) := by decide +kernel
theorem dX6_isMoment_0 : decode cX6_isMoment 0 = .ok (.aload_n 0, 1) := by decide +kernel
theorem dX6_isMoment_1 : decode cX6_isMoment 1 = .ok (.iconst 1, 1) := by decide +kernel
theorem dX6_isMoment_2 : decode cX6_isMoment 2 = .ok (.invokevirtual 111, 3) := by decide +kernel
theorem dX6_isMoment_5 : decode cX6_isMoment 5 = .ok (.iconst 2, 1) := by decide +kernel
theorem dX6_isMoment_6 : decode cX6_isMoment 6 = .ok (.if_icmp .gt 7, 3) := by decide +kernel
theorem dX6_isMoment_9 : decode cX6_isMoment 9 = .ok (.iconst 1, 1) := by decide +kernel
theorem dX6_isMoment_10 : decode cX6_isMoment 10 = .ok (.goto 4, 3) := by decide +kernel
theorem dX6_isMoment_13 : decode cX6_isMoment 13 = .ok (.iconst 0, 1) := by decide +kernel
theorem dX6_isMoment_14 : decode cX6_isMoment 14 = .ok (.ireturn, 1) := by decide +kernel
theorem dX6_isMyth_0 : decode cX6_isMyth 0 = .ok (.iconst 1, 1) := by decide +kernel
theorem dX6_isMyth_1 : decode cX6_isMyth 1 = .ok (.istore_n 1, 1) := by decide +kernel
theorem dX6_isMyth_2 : decode cX6_isMyth 2 = .ok (.iload_n 1, 1) := by decide +kernel
theorem dX6_isMyth_3 : decode cX6_isMyth 3 = .ok (.aload_n 0, 1) := by decide +kernel
theorem dX6_isMyth_4 : decode cX6_isMyth 4 = .ok (.getfield 39, 3) := by decide +kernel
theorem dX6_isMyth_7 : decode cX6_isMyth 7 = .ok (.getfield 46, 3) := by decide +kernel
theorem dX6_isMyth_10 : decode cX6_isMyth 10 = .ok (.if_icmp .ge 20, 3) := by decide +kernel
theorem dX6_isMyth_13 : decode cX6_isMyth 13 = .ok (.aload_n 0, 1) := by decide +kernel
theorem dX6_isMyth_14 : decode cX6_isMyth 14 = .ok (.iload_n 1, 1) := by decide +kernel
theorem dX6_isMyth_15 : decode cX6_isMyth 15 = .ok (.invokevirtual 111, 3) := by decide +kernel
theorem dX6_isMyth_18 : decode cX6_isMyth 18 = .ok (.iconst 2, 1) := by decide +kernel
theorem dX6_isMyth_19 : decode cX6_isMyth 19 = .ok (.if_icmp .eq 5, 3) := by decide +kernel
theorem dX6_isMyth_22 : decode cX6_isMyth 22 = .ok (.iconst 0, 1) := by decide +kernel
theorem dX6_isMyth_23 : decode cX6_isMyth 23 = .ok (.ireturn, 1) := by decide +kernel
theorem dX6_isMyth_24 : decode cX6_isMyth 24 = .ok (.iinc 1 1, 3) := by decide +kernel
theorem dX6_isMyth_27 : decode cX6_isMyth 27 = .ok (.goto (-25), 3) := by decide +kernel
theorem dX6_isMyth_30 : decode cX6_isMyth 30 = .ok (.aload_n 0, 1) := by decide +kernel
theorem dX6_isMyth_31 : decode cX6_isMyth 31 = .ok (.getfield 39, 3) := by decide +kernel
theorem dX6_isMyth_34 : decode cX6_isMyth 34 = .ok (.getfield 46, 3) := by decide +kernel
theorem dX6_isMyth_37 : decode cX6_isMyth 37 = .ok (.iconst 2, 1) := by decide +kernel
theorem dX6_isMyth_38 : decode cX6_isMyth 38 = .ok (.if_icmp .lt 7, 3) := by decide +kernel
theorem dX6_isMyth_41 : decode cX6_isMyth 41 = .ok (.iconst 1, 1) := by decide +kernel
theorem dX6_isMyth_42 : decode cX6_isMyth 42 = .ok (.goto 4, 3) := by decide +kernel
theorem dX6_isMyth_45 : decode cX6_isMyth 45 = .ok (.iconst 0, 1) := by decide +kernel
theorem dX6_isMyth_46 : decode cX6_isMyth 46 = .ok (.ireturn, 1) := by decide +kernel
theorem dX6_isOrderly_0 : decode cX6_isOrderly 0 = .ok (.iconst 1, 1) := by decide +kernel
theorem dX6_isOrderly_1 : decode cX6_isOrderly 1 = .ok (.istore_n 2, 1) := by decide +kernel
theorem dX6_isOrderly_2 : decode cX6_isOrderly 2 = .ok (.iload_n 2, 1) := by decide +kernel
theorem dX6_isOrderly_3 : decode cX6_isOrderly 3 = .ok (.aload_n 0, 1) := by decide +kernel
theorem dX6_isOrderly_4 : decode cX6_isOrderly 4 = .ok (.getfield 39, 3) := by decide +kernel
theorem dX6_isOrderly_7 : decode cX6_isOrderly 7 = .ok (.getfield 46, 3) := by decide +kernel
theorem dX6_isOrderly_10 : decode cX6_isOrderly 10 = .ok (.if_icmp .gt 48, 3) := by decide +kernel
theorem dX6_isOrderly_13 : decode cX6_isOrderly 13 = .ok (.aload_n 0, 1) := by decide +kernel
theorem dX6_isOrderly_14 : decode cX6_isOrderly 14 = .ok (.iload_n 2, 1) := by decide +kernel
theorem dX6_isOrderly_15 : decode cX6_isOrderly 15 = .ok (.invokevirtual 111, 3) := by decide +kernel
theorem dX6_isOrderly_18 : decode cX6_isOrderly 18 = .ok (.istore_n 3, 1) := by decide +kernel
theorem dX6_isOrderly_19 : decode cX6_isOrderly 19 = .ok (.iload_n 1, 1) := by decide +kernel
theorem dX6_isOrderly_20 : decode cX6_isOrderly 20 = .ok (.ifCond .eq 7, 3) := by decide +kernel
theorem dX6_isOrderly_23 : decode cX6_isOrderly 23 = .ok (.iconst 1, 1) := by decide +kernel
theorem dX6_isOrderly_24 : decode cX6_isOrderly 24 = .ok (.goto 4, 3) := by decide +kernel
theorem dX6_isOrderly_27 : decode cX6_isOrderly 27 = .ok (.iconst 0, 1) := by decide +kernel
theorem dX6_isOrderly_28 : decode cX6_isOrderly 28 = .ok (.istore 4, 2) := by decide +kernel
theorem dX6_isOrderly_30 : decode cX6_isOrderly 30 = .ok (.iload_n 2, 1) := by decide +kernel
theorem dX6_isOrderly_31 : decode cX6_isOrderly 31 = .ok (.iconst 1, 1) := by decide +kernel
theorem dX6_isOrderly_32 : decode cX6_isOrderly 32 = .ok (.if_icmp .le 15, 3) := by decide +kernel
theorem dX6_isOrderly_35 : decode cX6_isOrderly 35 = .ok (.aload_n 0, 1) := by decide +kernel
theorem dX6_isOrderly_36 : decode cX6_isOrderly 36 = .ok (.iload_n 3, 1) := by decide +kernel
theorem dX6_isOrderly_37 : decode cX6_isOrderly 37 = .ok (.iload 4, 2) := by decide +kernel
theorem dX6_isOrderly_39 : decode cX6_isOrderly 39 = .ok (.invokevirtual 115, 3) := by decide +kernel
theorem dX6_isOrderly_42 : decode cX6_isOrderly 42 = .ok (.ifCond .ne 5, 3) := by decide +kernel
theorem dX6_isOrderly_45 : decode cX6_isOrderly 45 = .ok (.iconst 0, 1) := by decide +kernel
theorem dX6_isOrderly_46 : decode cX6_isOrderly 46 = .ok (.ireturn, 1) := by decide +kernel
theorem dX6_isOrderly_47 : decode cX6_isOrderly 47 = .ok (.aload_n 0, 1) := by decide +kernel
theorem dX6_isOrderly_48 : decode cX6_isOrderly 48 = .ok (.iload_n 3, 1) := by decide +kernel
theorem dX6_isOrderly_49 : decode cX6_isOrderly 49 = .ok (.invokevirtual 119, 3) := by decide +kernel
theorem dX6_isOrderly_52 : decode cX6_isOrderly 52 = .ok (.iinc 2 1, 3) := by decide +kernel
theorem dX6_isOrderly_55 : decode cX6_isOrderly 55 = .ok (.goto (-53), 3) := by decide +kernel
theorem dX6_isOrderly_58 : decode cX6_isOrderly 58 = .ok (.iconst 1, 1) := by decide +kernel
theorem dX6_isOrderly_59 : decode cX6_isOrderly 59 = .ok (.ireturn, 1) := by decide +kernel
theorem dX6_allReach_0 : decode cX6_allReach 0 = .ok (.iconst 0, 1) := by decide +kernel
theorem dX6_allReach_1 : decode cX6_allReach 1 = .ok (.istore_n 3, 1) := by decide +kernel
theorem dX6_allReach_2 : decode cX6_allReach 2 = .ok (.iload_n 3, 1) := by decide +kernel
theorem dX6_allReach_3 : decode cX6_allReach 3 = .ok (.iload_n 1, 1) := by decide +kernel
theorem dX6_allReach_4 : decode cX6_allReach 4 = .ok (.if_icmp .ge 32, 3) := by decide +kernel
theorem dX6_allReach_7 : decode cX6_allReach 7 = .ok (.aload_n 0, 1) := by decide +kernel
theorem dX6_allReach_8 : decode cX6_allReach 8 = .ok (.getfield 9, 3) := by decide +kernel
theorem dX6_allReach_11 : decode cX6_allReach 11 = .ok (.aload_n 0, 1) := by decide +kernel
theorem dX6_allReach_12 : decode cX6_allReach 12 = .ok (.getfield 32, 3) := by decide +kernel
theorem dX6_allReach_15 : decode cX6_allReach 15 = .ok (.iload_n 3, 1) := by decide +kernel
theorem dX6_allReach_16 : decode cX6_allReach 16 = .ok (.aaload, 1) := by decide +kernel
theorem dX6_allReach_17 : decode cX6_allReach 17 = .ok (.aload_n 0, 1) := by decide +kernel
theorem dX6_allReach_18 : decode cX6_allReach 18 = .ok (.getfield 25, 3) := by decide +kernel
theorem dX6_allReach_21 : decode cX6_allReach 21 = .ok (.invokevirtual 103, 3) := by decide +kernel
theorem dX6_allReach_24 : decode cX6_allReach 24 = .ok (.iload_n 2, 1) := by decide +kernel
theorem dX6_allReach_25 : decode cX6_allReach 25 = .ok (.if_icmp .ge 5, 3) := by decide +kernel
theorem dX6_allReach_28 : decode cX6_allReach 28 = .ok (.iconst 0, 1) := by decide +kernel
theorem dX6_allReach_29 : decode cX6_allReach 29 = .ok (.ireturn, 1) := by decide +kernel
theorem dX6_allReach_30 : decode cX6_allReach 30 = .ok (.iinc 3 1, 3) := by decide +kernel
theorem dX6_allReach_33 : decode cX6_allReach 33 = .ok (.goto (-31), 3) := by decide +kernel
theorem dX6_allReach_36 : decode cX6_allReach 36 = .ok (.iconst 1, 1) := by decide +kernel
theorem dX6_allReach_37 : decode cX6_allReach 37 = .ok (.ireturn, 1) := by decide +kernel
theorem dX6_findHighest_0 : decode cX6_findHighest 0 = .ok (.iconst 0, 1) := by decide +kernel
theorem dX6_findHighest_1 : decode cX6_findHighest 1 = .ok (.istore_n 2, 1) := by decide +kernel
theorem dX6_findHighest_2 : decode cX6_findHighest 2 = .ok (.iload_n 2, 1) := by decide +kernel
theorem dX6_findHighest_3 : decode cX6_findHighest 3 = .ok (.iload_n 1, 1) := by decide +kernel
theorem dX6_findHighest_4 : decode cX6_findHighest 4 = .ok (.if_icmp .ge 46, 3) := by decide +kernel
theorem dX6_findHighest_7 : decode cX6_findHighest 7 = .ok (.iload_n 2, 1) := by decide +kernel
theorem dX6_findHighest_8 : decode cX6_findHighest 8 = .ok (.ifCond .eq 23, 3) := by decide +kernel
theorem dX6_findHighest_11 : decode cX6_findHighest 11 = .ok (.aload_n 0, 1) := by decide +kernel
theorem dX6_findHighest_12 : decode cX6_findHighest 12 = .ok (.getfield 9, 3) := by decide +kernel
theorem dX6_findHighest_15 : decode cX6_findHighest 15 = .ok (.aload_n 0, 1) := by decide +kernel
theorem dX6_findHighest_16 : decode cX6_findHighest 16 = .ok (.getfield 32, 3) := by decide +kernel
theorem dX6_findHighest_19 : decode cX6_findHighest 19 = .ok (.iload_n 2, 1) := by decide +kernel
theorem dX6_findHighest_20 : decode cX6_findHighest 20 = .ok (.aaload, 1) := by decide +kernel
theorem dX6_findHighest_21 : decode cX6_findHighest 21 = .ok (.aload_n 0, 1) := by decide +kernel
theorem dX6_findHighest_22 : decode cX6_findHighest 22 = .ok (.getfield 25, 3) := by decide +kernel
theorem dX6_findHighest_25 : decode cX6_findHighest 25 = .ok (.invokevirtual 103, 3) := by decide +kernel
theorem dX6_findHighest_28 : decode cX6_findHighest 28 = .ok (.ifCond .le 16, 3) := by decide +kernel
theorem dX6_findHighest_31 : decode cX6_findHighest 31 = .ok (.aload_n 0, 1) := by decide +kernel
theorem dX6_findHighest_32 : decode cX6_findHighest 32 = .ok (.getfield 32, 3) := by decide +kernel
theorem dX6_findHighest_35 : decode cX6_findHighest 35 = .ok (.iload_n 2, 1) := by decide +kernel
theorem dX6_findHighest_36 : decode cX6_findHighest 36 = .ok (.aaload, 1) := by decide +kernel
theorem dX6_findHighest_37 : decode cX6_findHighest 37 = .ok (.aload_n 0, 1) := by decide +kernel
theorem dX6_findHighest_38 : decode cX6_findHighest 38 = .ok (.getfield 25, 3) := by decide +kernel
theorem dX6_findHighest_41 : decode cX6_findHighest 41 = .ok (.invokestatic 50, 3) := by decide +kernel
theorem dX6_findHighest_44 : decode cX6_findHighest 44 = .ok (.iinc 2 1, 3) := by decide +kernel
theorem dX6_findHighest_47 : decode cX6_findHighest 47 = .ok (.goto (-45), 3) := by decide +kernel
theorem dX6_findHighest_50 : decode cX6_findHighest 50 = .ok (.return_, 1) := by decide +kernel
theorem dX6_agreesWith_0 : decode cX6_agreesWith 0 = .ok (.iconst 0, 1) := by decide +kernel
theorem dX6_agreesWith_1 : decode cX6_agreesWith 1 = .ok (.istore_n 2, 1) := by decide +kernel
theorem dX6_agreesWith_2 : decode cX6_agreesWith 2 = .ok (.iload_n 2, 1) := by decide +kernel
theorem dX6_agreesWith_3 : decode cX6_agreesWith 3 = .ok (.aload_n 0, 1) := by decide +kernel
theorem dX6_agreesWith_4 : decode cX6_agreesWith 4 = .ok (.getfield 39, 3) := by decide +kernel
theorem dX6_agreesWith_7 : decode cX6_agreesWith 7 = .ok (.getfield 46, 3) := by decide +kernel
theorem dX6_agreesWith_10 : decode cX6_agreesWith 10 = .ok (.if_icmp .gt 32, 3) := by decide +kernel
theorem dX6_agreesWith_13 : decode cX6_agreesWith 13 = .ok (.aload_n 0, 1) := by decide +kernel
theorem dX6_agreesWith_14 : decode cX6_agreesWith 14 = .ok (.iload_n 2, 1) := by decide +kernel
theorem dX6_agreesWith_15 : decode cX6_agreesWith 15 = .ok (.aload_n 0, 1) := by decide +kernel
theorem dX6_agreesWith_16 : decode cX6_agreesWith 16 = .ok (.getfield 19, 3) := by decide +kernel
theorem dX6_agreesWith_19 : decode cX6_agreesWith 19 = .ok (.invokevirtual 95, 3) := by decide +kernel
theorem dX6_agreesWith_22 : decode cX6_agreesWith 22 = .ok (.aload_n 0, 1) := by decide +kernel
theorem dX6_agreesWith_23 : decode cX6_agreesWith 23 = .ok (.getfield 19, 3) := by decide +kernel
theorem dX6_agreesWith_26 : decode cX6_agreesWith 26 = .ok (.iload_n 1, 1) := by decide +kernel
theorem dX6_agreesWith_27 : decode cX6_agreesWith 27 = .ok (.invokestatic 123, 3) := by decide +kernel
theorem dX6_agreesWith_30 : decode cX6_agreesWith 30 = .ok (.iload_n 2, 1) := by decide +kernel
theorem dX6_agreesWith_31 : decode cX6_agreesWith 31 = .ok (.if_icmp .eq 5, 3) := by decide +kernel
theorem dX6_agreesWith_34 : decode cX6_agreesWith 34 = .ok (.iconst 0, 1) := by decide +kernel
theorem dX6_agreesWith_35 : decode cX6_agreesWith 35 = .ok (.ireturn, 1) := by decide +kernel
theorem dX6_agreesWith_36 : decode cX6_agreesWith 36 = .ok (.iinc 2 1, 3) := by decide +kernel
theorem dX6_agreesWith_39 : decode cX6_agreesWith 39 = .ok (.goto (-37), 3) := by decide +kernel
theorem dX6_agreesWith_42 : decode cX6_agreesWith 42 = .ok (.iconst 1, 1) := by decide +kernel
theorem dX6_agreesWith_43 : decode cX6_agreesWith 43 = .ok (.ireturn, 1) := by decide +kernel
theorem dX7_init_0 : decode cX7_init 0 = .ok (.aload_n 0, 1) := by decide +kernel
theorem dX7_init_1 : decode cX7_init 1 = .ok (.invokespecial 3, 3) := by decide +kernel
theorem dX7_init_4 : decode cX7_init 4 = .ok (.aload_n 0, 1) := by decide +kernel
theorem dX7_init_5 : decode cX7_init 5 = .ok (.new 9, 3) := by decide +kernel
theorem dX7_init_8 : decode cX7_init 8 = .ok (.dup, 1) := by decide +kernel
theorem dX7_init_9 : decode cX7_init 9 = .ok (.invokespecial 11, 3) := by decide +kernel
theorem dX7_init_12 : decode cX7_init 12 = .ok (.putfield 12, 3) := by decide +kernel
theorem dX7_init_15 : decode cX7_init 15 = .ok (.aload_n 0, 1) := by decide +kernel
theorem dX7_init_16 : decode cX7_init 16 = .ok (.new 9, 3) := by decide +kernel
theorem dX7_init_19 : decode cX7_init 19 = .ok (.dup, 1) := by decide +kernel
theorem dX7_init_20 : decode cX7_init 20 = .ok (.invokespecial 11, 3) := by decide +kernel
theorem dX7_init_23 : decode cX7_init 23 = .ok (.putfield 18, 3) := by decide +kernel
theorem dX7_init_26 : decode cX7_init 26 = .ok (.aload_n 0, 1) := by decide +kernel
theorem dX7_init_27 : decode cX7_init 27 = .ok (.bipush 6, 2) := by decide +kernel
theorem dX7_init_29 : decode cX7_init 29 = .ok (.newarray .int, 2) := by decide +kernel
theorem dX7_init_31 : decode cX7_init 31 = .ok (.putfield 21, 3) := by decide +kernel
theorem dX7_init_34 : decode cX7_init 34 = .ok (.return_, 1) := by decide +kernel
theorem dX7_sign_0 : decode cX7_sign 0 = .ok (.iconst 0, 1) := by decide +kernel
theorem dX7_sign_1 : decode cX7_sign 1 = .ok (.istore_n 2, 1) := by decide +kernel
theorem dX7_sign_2 : decode cX7_sign 2 = .ok (.iconst 0, 1) := by decide +kernel
theorem dX7_sign_3 : decode cX7_sign 3 = .ok (.istore_n 3, 1) := by decide +kernel
theorem dX7_sign_4 : decode cX7_sign 4 = .ok (.iconst 0, 1) := by decide +kernel
theorem dX7_sign_5 : decode cX7_sign 5 = .ok (.istore 4, 2) := by decide +kernel
theorem dX7_sign_7 : decode cX7_sign 7 = .ok (.iload 4, 2) := by decide +kernel
theorem dX7_sign_9 : decode cX7_sign 9 = .ok (.bipush 6, 2) := by decide +kernel
theorem dX7_sign_11 : decode cX7_sign 11 = .ok (.if_icmp .ge 43, 3) := by decide +kernel
theorem dX7_sign_14 : decode cX7_sign 14 = .ok (.iload_n 2, 1) := by decide +kernel
theorem dX7_sign_15 : decode cX7_sign 15 = .ok (.ifCond .ne 10, 3) := by decide +kernel
theorem dX7_sign_18 : decode cX7_sign 18 = .ok (.aload_n 1, 1) := by decide +kernel
theorem dX7_sign_19 : decode cX7_sign 19 = .ok (.iload 4, 2) := by decide +kernel
theorem dX7_sign_21 : decode cX7_sign 21 = .ok (.iaload, 1) := by decide +kernel
theorem dX7_sign_22 : decode cX7_sign 22 = .ok (.ifCond .le 7, 3) := by decide +kernel
theorem dX7_sign_25 : decode cX7_sign 25 = .ok (.iconst 1, 1) := by decide +kernel
theorem dX7_sign_26 : decode cX7_sign 26 = .ok (.goto 4, 3) := by decide +kernel
theorem dX7_sign_29 : decode cX7_sign 29 = .ok (.iconst 0, 1) := by decide +kernel
theorem dX7_sign_30 : decode cX7_sign 30 = .ok (.istore_n 2, 1) := by decide +kernel
theorem dX7_sign_31 : decode cX7_sign 31 = .ok (.iload_n 3, 1) := by decide +kernel
theorem dX7_sign_32 : decode cX7_sign 32 = .ok (.ifCond .ne 10, 3) := by decide +kernel
theorem dX7_sign_35 : decode cX7_sign 35 = .ok (.aload_n 1, 1) := by decide +kernel
theorem dX7_sign_36 : decode cX7_sign 36 = .ok (.iload 4, 2) := by decide +kernel
theorem dX7_sign_38 : decode cX7_sign 38 = .ok (.iaload, 1) := by decide +kernel
theorem dX7_sign_39 : decode cX7_sign 39 = .ok (.ifCond .ge 7, 3) := by decide +kernel
theorem dX7_sign_42 : decode cX7_sign 42 = .ok (.iconst 1, 1) := by decide +kernel
theorem dX7_sign_43 : decode cX7_sign 43 = .ok (.goto 4, 3) := by decide +kernel
theorem dX7_sign_46 : decode cX7_sign 46 = .ok (.iconst 0, 1) := by decide +kernel
theorem dX7_sign_47 : decode cX7_sign 47 = .ok (.istore_n 3, 1) := by decide +kernel
theorem dX7_sign_48 : decode cX7_sign 48 = .ok (.iinc 4 1, 3) := by decide +kernel
theorem dX7_sign_51 : decode cX7_sign 51 = .ok (.goto (-44), 3) := by decide +kernel
theorem dX7_sign_54 : decode cX7_sign 54 = .ok (.iload_n 2, 1) := by decide +kernel
theorem dX7_sign_55 : decode cX7_sign 55 = .ok (.ifCond .eq 7, 3) := by decide +kernel
theorem dX7_sign_58 : decode cX7_sign 58 = .ok (.iload_n 3, 1) := by decide +kernel
theorem dX7_sign_59 : decode cX7_sign 59 = .ok (.ifCond .ne 21, 3) := by decide +kernel
theorem dX7_sign_62 : decode cX7_sign 62 = .ok (.iload_n 2, 1) := by decide +kernel
theorem dX7_sign_63 : decode cX7_sign 63 = .ok (.ifCond .eq 7, 3) := by decide +kernel
theorem dX7_sign_66 : decode cX7_sign 66 = .ok (.iconst 1, 1) := by decide +kernel
theorem dX7_sign_67 : decode cX7_sign 67 = .ok (.goto 12, 3) := by decide +kernel
theorem dX7_sign_70 : decode cX7_sign 70 = .ok (.iload_n 3, 1) := by decide +kernel
theorem dX7_sign_71 : decode cX7_sign 71 = .ok (.ifCond .eq 7, 3) := by decide +kernel
theorem dX7_sign_74 : decode cX7_sign 74 = .ok (.iconst (-1), 1) := by decide +kernel
theorem dX7_sign_75 : decode cX7_sign 75 = .ok (.goto 4, 3) := by decide +kernel
theorem dX7_sign_78 : decode cX7_sign 78 = .ok (.iconst 0, 1) := by decide +kernel
theorem dX7_sign_79 : decode cX7_sign 79 = .ok (.ireturn, 1) := by decide +kernel
theorem dX7_sign_80 : decode cX7_sign 80 = .ok (.aload_n 0, 1) := by decide +kernel
theorem dX7_sign_81 : decode cX7_sign 81 = .ok (.getfield 12, 3) := by decide +kernel
theorem dX7_sign_84 : decode cX7_sign 84 = .ok (.aload_n 1, 1) := by decide +kernel
theorem dX7_sign_85 : decode cX7_sign 85 = .ok (.iconst 1, 1) := by decide +kernel
theorem dX7_sign_86 : decode cX7_sign 86 = .ok (.invokevirtual 25, 3) := by decide +kernel
theorem dX7_sign_89 : decode cX7_sign 89 = .ok (.aload_n 0, 1) := by decide +kernel
theorem dX7_sign_90 : decode cX7_sign 90 = .ok (.getfield 18, 3) := by decide +kernel
theorem dX7_sign_93 : decode cX7_sign 93 = .ok (.aload_n 1, 1) := by decide +kernel
theorem dX7_sign_94 : decode cX7_sign 94 = .ok (.iconst (-1), 1) := by decide +kernel
theorem dX7_sign_95 : decode cX7_sign 95 = .ok (.invokevirtual 25, 3) := by decide +kernel
theorem dX7_sign_98 : decode cX7_sign 98 = .ok (.aload_n 0, 1) := by decide +kernel
theorem dX7_sign_99 : decode cX7_sign 99 = .ok (.getfield 12, 3) := by decide +kernel
theorem dX7_sign_102 : decode cX7_sign 102 = .ok (.aload_n 0, 1) := by decide +kernel
theorem dX7_sign_103 : decode cX7_sign 103 = .ok (.getfield 18, 3) := by decide +kernel
theorem dX7_sign_106 : decode cX7_sign 106 = .ok (.invokevirtual 29, 3) := by decide +kernel
theorem dX7_sign_109 : decode cX7_sign 109 = .ok (.ireturn, 1) := by decide +kernel
theorem dX7_compareSizes_0 : decode cX7_compareSizes 0 = .ok (.aload_n 1, 1) := by decide +kernel
theorem dX7_compareSizes_1 : decode cX7_compareSizes 1 = .ok (.aload_n 2, 1) := by decide +kernel
theorem dX7_compareSizes_2 : decode cX7_compareSizes 2 = .ok (.iconst (-1), 1) := by decide +kernel
theorem dX7_compareSizes_3 : decode cX7_compareSizes 3 = .ok (.aload_n 0, 1) := by decide +kernel
theorem dX7_compareSizes_4 : decode cX7_compareSizes 4 = .ok (.getfield 21, 3) := by decide +kernel
theorem dX7_compareSizes_7 : decode cX7_compareSizes 7 = .ok (.invokestatic 33, 3) := by decide +kernel
theorem dX7_compareSizes_10 : decode cX7_compareSizes 10 = .ok (.aload_n 0, 1) := by decide +kernel
theorem dX7_compareSizes_11 : decode cX7_compareSizes 11 = .ok (.aload_n 0, 1) := by decide +kernel
theorem dX7_compareSizes_12 : decode cX7_compareSizes 12 = .ok (.getfield 21, 3) := by decide +kernel
theorem dX7_compareSizes_15 : decode cX7_compareSizes 15 = .ok (.invokevirtual 39, 3) := by decide +kernel
theorem dX7_compareSizes_18 : decode cX7_compareSizes 18 = .ok (.ireturn, 1) := by decide +kernel
theorem dX7_writeRatio_0 : decode cX7_writeRatio 0 = .ok (.aload_n 0, 1) := by decide +kernel
theorem dX7_writeRatio_1 : decode cX7_writeRatio 1 = .ok (.getfield 12, 3) := by decide +kernel
theorem dX7_writeRatio_4 : decode cX7_writeRatio 4 = .ok (.aload_n 1, 1) := by decide +kernel
theorem dX7_writeRatio_5 : decode cX7_writeRatio 5 = .ok (.iconst 1, 1) := by decide +kernel
theorem dX7_writeRatio_6 : decode cX7_writeRatio 6 = .ok (.invokevirtual 25, 3) := by decide +kernel
theorem dX7_writeRatio_9 : decode cX7_writeRatio 9 = .ok (.aload_n 0, 1) := by decide +kernel
theorem dX7_writeRatio_10 : decode cX7_writeRatio 10 = .ok (.getfield 18, 3) := by decide +kernel
theorem dX7_writeRatio_13 : decode cX7_writeRatio 13 = .ok (.aload_n 1, 1) := by decide +kernel
theorem dX7_writeRatio_14 : decode cX7_writeRatio 14 = .ok (.iconst (-1), 1) := by decide +kernel
theorem dX7_writeRatio_15 : decode cX7_writeRatio 15 = .ok (.invokevirtual 25, 3) := by decide +kernel
theorem dX7_writeRatio_18 : decode cX7_writeRatio 18 = .ok (.aload_n 0, 1) := by decide +kernel
theorem dX7_writeRatio_19 : decode cX7_writeRatio 19 = .ok (.getfield 12, 3) := by decide +kernel
theorem dX7_writeRatio_22 : decode cX7_writeRatio 22 = .ok (.aload_n 2, 1) := by decide +kernel
theorem dX7_writeRatio_23 : decode cX7_writeRatio 23 = .ok (.iconst 0, 1) := by decide +kernel
theorem dX7_writeRatio_24 : decode cX7_writeRatio 24 = .ok (.invokevirtual 43, 3) := by decide +kernel
theorem dX7_writeRatio_27 : decode cX7_writeRatio 27 = .ok (.istore_n 3, 1) := by decide +kernel
theorem dX7_writeRatio_28 : decode cX7_writeRatio 28 = .ok (.iload_n 3, 1) := by decide +kernel
theorem dX7_writeRatio_29 : decode cX7_writeRatio 29 = .ok (.aload_n 2, 1) := by decide +kernel
theorem dX7_writeRatio_30 : decode cX7_writeRatio 30 = .ok (.arraylength, 1) := by decide +kernel
theorem dX7_writeRatio_31 : decode cX7_writeRatio 31 = .ok (.if_icmp .ge 11, 3) := by decide +kernel
theorem dX7_writeRatio_34 : decode cX7_writeRatio 34 = .ok (.aload_n 2, 1) := by decide +kernel
theorem dX7_writeRatio_35 : decode cX7_writeRatio 35 = .ok (.iload_n 3, 1) := by decide +kernel
theorem dX7_writeRatio_36 : decode cX7_writeRatio 36 = .ok (.bipush 47, 2) := by decide +kernel
theorem dX7_writeRatio_38 : decode cX7_writeRatio 38 = .ok (.bastore, 1) := by decide +kernel
theorem dX7_writeRatio_39 : decode cX7_writeRatio 39 = .ok (.iinc 3 1, 3) := by decide +kernel
theorem dX7_writeRatio_42 : decode cX7_writeRatio 42 = .ok (.aload_n 0, 1) := by decide +kernel
theorem dX7_writeRatio_43 : decode cX7_writeRatio 43 = .ok (.getfield 18, 3) := by decide +kernel
theorem dX7_writeRatio_46 : decode cX7_writeRatio 46 = .ok (.aload_n 2, 1) := by decide +kernel
theorem dX7_writeRatio_47 : decode cX7_writeRatio 47 = .ok (.iload_n 3, 1) := by decide +kernel
theorem dX7_writeRatio_48 : decode cX7_writeRatio 48 = .ok (.invokevirtual 43, 3) := by decide +kernel
theorem dX7_writeRatio_51 : decode cX7_writeRatio 51 = .ok (.ireturn, 1) := by decide +kernel
theorem dX7_foldInto_0 : decode cX7_foldInto 0 = .ok (.sipush (-1000), 3) := by decide +kernel
theorem dX7_foldInto_3 : decode cX7_foldInto 3 = .ok (.istore 4, 2) := by decide +kernel
theorem dX7_foldInto_5 : decode cX7_foldInto 5 = .ok (.sipush 1000, 3) := by decide +kernel
theorem dX7_foldInto_8 : decode cX7_foldInto 8 = .ok (.istore 5, 2) := by decide +kernel
theorem dX7_foldInto_10 : decode cX7_foldInto 10 = .ok (.iconst 0, 1) := by decide +kernel
theorem dX7_foldInto_11 : decode cX7_foldInto 11 = .ok (.istore 6, 2) := by decide +kernel
theorem dX7_foldInto_13 : decode cX7_foldInto 13 = .ok (.iload 6, 2) := by decide +kernel
theorem dX7_foldInto_15 : decode cX7_foldInto 15 = .ok (.bipush 6, 2) := by decide +kernel
theorem dX7_foldInto_17 : decode cX7_foldInto 17 = .ok (.if_icmp .ge 125, 3) := by decide +kernel
theorem dX7_foldInto_20 : decode cX7_foldInto 20 = .ok (.aload_n 1, 1) := by decide +kernel
theorem dX7_foldInto_21 : decode cX7_foldInto 21 = .ok (.iload 6, 2) := by decide +kernel
theorem dX7_foldInto_23 : decode cX7_foldInto 23 = .ok (.iaload, 1) := by decide +kernel
theorem dX7_foldInto_24 : decode cX7_foldInto 24 = .ok (.istore 7, 2) := by decide +kernel
theorem dX7_foldInto_26 : decode cX7_foldInto 26 = .ok (.aload_n 2, 1) := by decide +kernel
theorem dX7_foldInto_27 : decode cX7_foldInto 27 = .ok (.iload 6, 2) := by decide +kernel
theorem dX7_foldInto_29 : decode cX7_foldInto 29 = .ok (.iaload, 1) := by decide +kernel
theorem dX7_foldInto_30 : decode cX7_foldInto 30 = .ok (.istore 8, 2) := by decide +kernel
theorem dX7_foldInto_32 : decode cX7_foldInto 32 = .ok (.iload 8, 2) := by decide +kernel
theorem dX7_foldInto_34 : decode cX7_foldInto 34 = .ok (.ifCond .le 41, 3) := by decide +kernel
theorem dX7_foldInto_37 : decode cX7_foldInto 37 = .ok (.iload 4, 2) := by decide +kernel
theorem dX7_foldInto_39 : decode cX7_foldInto 39 = .ok (.iload 7, 2) := by decide +kernel
theorem dX7_foldInto_41 : decode cX7_foldInto 41 = .ok (.bipush 24, 2) := by decide +kernel
theorem dX7_foldInto_43 : decode cX7_foldInto 43 = .ok (.iadd, 1) := by decide +kernel
theorem dX7_foldInto_44 : decode cX7_foldInto 44 = .ok (.iload 8, 2) := by decide +kernel
theorem dX7_foldInto_46 : decode cX7_foldInto 46 = .ok (.invokestatic 47, 3) := by decide +kernel
theorem dX7_foldInto_49 : decode cX7_foldInto 49 = .ok (.ineg, 1) := by decide +kernel
theorem dX7_foldInto_50 : decode cX7_foldInto 50 = .ok (.invokestatic 53, 3) := by decide +kernel
theorem dX7_foldInto_53 : decode cX7_foldInto 53 = .ok (.istore 4, 2) := by decide +kernel
theorem dX7_foldInto_55 : decode cX7_foldInto 55 = .ok (.iload 5, 2) := by decide +kernel
theorem dX7_foldInto_57 : decode cX7_foldInto 57 = .ok (.bipush 24, 2) := by decide +kernel
theorem dX7_foldInto_59 : decode cX7_foldInto 59 = .ok (.iload 7, 2) := by decide +kernel
theorem dX7_foldInto_61 : decode cX7_foldInto 61 = .ok (.isub, 1) := by decide +kernel
theorem dX7_foldInto_62 : decode cX7_foldInto 62 = .ok (.iload 8, 2) := by decide +kernel
theorem dX7_foldInto_64 : decode cX7_foldInto 64 = .ok (.invokestatic 47, 3) := by decide +kernel
theorem dX7_foldInto_67 : decode cX7_foldInto 67 = .ok (.invokestatic 56, 3) := by decide +kernel
theorem dX7_foldInto_70 : decode cX7_foldInto 70 = .ok (.istore 5, 2) := by decide +kernel
theorem dX7_foldInto_72 : decode cX7_foldInto 72 = .ok (.goto 64, 3) := by decide +kernel
theorem dX7_foldInto_75 : decode cX7_foldInto 75 = .ok (.iload 8, 2) := by decide +kernel
theorem dX7_foldInto_77 : decode cX7_foldInto 77 = .ok (.ifCond .ge 43, 3) := by decide +kernel
theorem dX7_foldInto_80 : decode cX7_foldInto 80 = .ok (.iload 4, 2) := by decide +kernel
theorem dX7_foldInto_82 : decode cX7_foldInto 82 = .ok (.bipush 24, 2) := by decide +kernel
theorem dX7_foldInto_84 : decode cX7_foldInto 84 = .ok (.iload 7, 2) := by decide +kernel
theorem dX7_foldInto_86 : decode cX7_foldInto 86 = .ok (.isub, 1) := by decide +kernel
theorem dX7_foldInto_87 : decode cX7_foldInto 87 = .ok (.iload 8, 2) := by decide +kernel
theorem dX7_foldInto_89 : decode cX7_foldInto 89 = .ok (.ineg, 1) := by decide +kernel
theorem dX7_foldInto_90 : decode cX7_foldInto 90 = .ok (.invokestatic 47, 3) := by decide +kernel
theorem dX7_foldInto_93 : decode cX7_foldInto 93 = .ok (.ineg, 1) := by decide +kernel
theorem dX7_foldInto_94 : decode cX7_foldInto 94 = .ok (.invokestatic 53, 3) := by decide +kernel
theorem dX7_foldInto_97 : decode cX7_foldInto 97 = .ok (.istore 4, 2) := by decide +kernel
theorem dX7_foldInto_99 : decode cX7_foldInto 99 = .ok (.iload 5, 2) := by decide +kernel
theorem dX7_foldInto_101 : decode cX7_foldInto 101 = .ok (.iload 7, 2) := by decide +kernel
theorem dX7_foldInto_103 : decode cX7_foldInto 103 = .ok (.bipush 24, 2) := by decide +kernel
theorem dX7_foldInto_105 : decode cX7_foldInto 105 = .ok (.iadd, 1) := by decide +kernel
theorem dX7_foldInto_106 : decode cX7_foldInto 106 = .ok (.iload 8, 2) := by decide +kernel
theorem dX7_foldInto_108 : decode cX7_foldInto 108 = .ok (.ineg, 1) := by decide +kernel
theorem dX7_foldInto_109 : decode cX7_foldInto 109 = .ok (.invokestatic 47, 3) := by decide +kernel
theorem dX7_foldInto_112 : decode cX7_foldInto 112 = .ok (.invokestatic 56, 3) := by decide +kernel
theorem dX7_foldInto_115 : decode cX7_foldInto 115 = .ok (.istore 5, 2) := by decide +kernel
theorem dX7_foldInto_117 : decode cX7_foldInto 117 = .ok (.goto 19, 3) := by decide +kernel
theorem dX7_foldInto_120 : decode cX7_foldInto 120 = .ok (.iload 7, 2) := by decide +kernel
theorem dX7_foldInto_122 : decode cX7_foldInto 122 = .ok (.bipush (-24), 2) := by decide +kernel
theorem dX7_foldInto_124 : decode cX7_foldInto 124 = .ok (.if_icmp .lt 10, 3) := by decide +kernel
theorem dX7_foldInto_127 : decode cX7_foldInto 127 = .ok (.iload 7, 2) := by decide +kernel
theorem dX7_foldInto_129 : decode cX7_foldInto 129 = .ok (.bipush 24, 2) := by decide +kernel
theorem dX7_foldInto_131 : decode cX7_foldInto 131 = .ok (.if_icmp .le 5, 3) := by decide +kernel
theorem dX7_foldInto_134 : decode cX7_foldInto 134 = .ok (.iconst 0, 1) := by decide +kernel
theorem dX7_foldInto_135 : decode cX7_foldInto 135 = .ok (.ireturn, 1) := by decide +kernel
theorem dX7_foldInto_136 : decode cX7_foldInto 136 = .ok (.iinc 6 1, 3) := by decide +kernel
theorem dX7_foldInto_139 : decode cX7_foldInto 139 = .ok (.goto (-126), 3) := by decide +kernel
theorem dX7_foldInto_142 : decode cX7_foldInto 142 = .ok (.iload 4, 2) := by decide +kernel
theorem dX7_foldInto_144 : decode cX7_foldInto 144 = .ok (.iload 5, 2) := by decide +kernel
theorem dX7_foldInto_146 : decode cX7_foldInto 146 = .ok (.if_icmp .gt 21, 3) := by decide +kernel
theorem dX7_foldInto_149 : decode cX7_foldInto 149 = .ok (.aload_n 0, 1) := by decide +kernel
theorem dX7_foldInto_150 : decode cX7_foldInto 150 = .ok (.aload_n 1, 1) := by decide +kernel
theorem dX7_foldInto_151 : decode cX7_foldInto 151 = .ok (.aload_n 2, 1) := by decide +kernel
theorem dX7_foldInto_152 : decode cX7_foldInto 152 = .ok (.iload 4, 2) := by decide +kernel
theorem dX7_foldInto_154 : decode cX7_foldInto 154 = .ok (.iload 5, 2) := by decide +kernel
theorem dX7_foldInto_156 : decode cX7_foldInto 156 = .ok (.aload_n 3, 1) := by decide +kernel
theorem dX7_foldInto_157 : decode cX7_foldInto 157 = .ok (.invokevirtual 59, 3) := by decide +kernel
theorem dX7_foldInto_160 : decode cX7_foldInto 160 = .ok (.ifCond .eq 7, 3) := by decide +kernel
theorem dX7_foldInto_163 : decode cX7_foldInto 163 = .ok (.iconst 1, 1) := by decide +kernel
theorem dX7_foldInto_164 : decode cX7_foldInto 164 = .ok (.goto 4, 3) := by decide +kernel
theorem dX7_foldInto_167 : decode cX7_foldInto 167 = .ok (.iconst 0, 1) := by decide +kernel
theorem dX7_foldInto_168 : decode cX7_foldInto 168 = .ok (.ireturn, 1) := by decide +kernel
theorem dX7_foldBetween_0 : decode cX7_foldBetween 0 = .ok (.iload_n 3, 1) := by decide +kernel
theorem dX7_foldBetween_1 : decode cX7_foldBetween 1 = .ok (.istore 6, 2) := by decide +kernel
theorem dX7_foldBetween_3 : decode cX7_foldBetween 3 = .ok (.iload 4, 2) := by decide +kernel
theorem dX7_foldBetween_5 : decode cX7_foldBetween 5 = .ok (.istore 7, 2) := by decide +kernel
theorem dX7_foldBetween_7 : decode cX7_foldBetween 7 = .ok (.iconst 0, 1) := by decide +kernel
theorem dX7_foldBetween_8 : decode cX7_foldBetween 8 = .ok (.istore 8, 2) := by decide +kernel
theorem dX7_foldBetween_10 : decode cX7_foldBetween 10 = .ok (.iload 8, 2) := by decide +kernel
theorem dX7_foldBetween_12 : decode cX7_foldBetween 12 = .ok (.bipush 32, 2) := by decide +kernel
theorem dX7_foldBetween_14 : decode cX7_foldBetween 14 = .ok (.if_icmp .ge 58, 3) := by decide +kernel
theorem dX7_foldBetween_17 : decode cX7_foldBetween 17 = .ok (.iload 6, 2) := by decide +kernel
theorem dX7_foldBetween_19 : decode cX7_foldBetween 19 = .ok (.iload 7, 2) := by decide +kernel
theorem dX7_foldBetween_21 : decode cX7_foldBetween 21 = .ok (.if_icmp .ge 51, 3) := by decide +kernel
theorem dX7_foldBetween_24 : decode cX7_foldBetween 24 = .ok (.iload 6, 2) := by decide +kernel
theorem dX7_foldBetween_26 : decode cX7_foldBetween 26 = .ok (.iload 7, 2) := by decide +kernel
theorem dX7_foldBetween_28 : decode cX7_foldBetween 28 = .ok (.iadd, 1) := by decide +kernel
theorem dX7_foldBetween_29 : decode cX7_foldBetween 29 = .ok (.iconst 2, 1) := by decide +kernel
theorem dX7_foldBetween_30 : decode cX7_foldBetween 30 = .ok (.invokestatic 47, 3) := by decide +kernel
theorem dX7_foldBetween_33 : decode cX7_foldBetween 33 = .ok (.istore 9, 2) := by decide +kernel
theorem dX7_foldBetween_35 : decode cX7_foldBetween 35 = .ok (.aload_n 1, 1) := by decide +kernel
theorem dX7_foldBetween_36 : decode cX7_foldBetween 36 = .ok (.aload_n 2, 1) := by decide +kernel
theorem dX7_foldBetween_37 : decode cX7_foldBetween 37 = .ok (.iload 9, 2) := by decide +kernel
theorem dX7_foldBetween_39 : decode cX7_foldBetween 39 = .ok (.aload 5, 2) := by decide +kernel
theorem dX7_foldBetween_41 : decode cX7_foldBetween 41 = .ok (.invokestatic 33, 3) := by decide +kernel
theorem dX7_foldBetween_44 : decode cX7_foldBetween 44 = .ok (.aload_n 0, 1) := by decide +kernel
theorem dX7_foldBetween_45 : decode cX7_foldBetween 45 = .ok (.aload 5, 2) := by decide +kernel
theorem dX7_foldBetween_47 : decode cX7_foldBetween 47 = .ok (.invokevirtual 39, 3) := by decide +kernel
theorem dX7_foldBetween_50 : decode cX7_foldBetween 50 = .ok (.ifCond .lt 10, 3) := by decide +kernel
theorem dX7_foldBetween_53 : decode cX7_foldBetween 53 = .ok (.iload 9, 2) := by decide +kernel
theorem dX7_foldBetween_55 : decode cX7_foldBetween 55 = .ok (.istore 7, 2) := by decide +kernel
theorem dX7_foldBetween_57 : decode cX7_foldBetween 57 = .ok (.goto 9, 3) := by decide +kernel
theorem dX7_foldBetween_60 : decode cX7_foldBetween 60 = .ok (.iload 9, 2) := by decide +kernel
theorem dX7_foldBetween_62 : decode cX7_foldBetween 62 = .ok (.iconst 1, 1) := by decide +kernel
theorem dX7_foldBetween_63 : decode cX7_foldBetween 63 = .ok (.iadd, 1) := by decide +kernel
theorem dX7_foldBetween_64 : decode cX7_foldBetween 64 = .ok (.istore 6, 2) := by decide +kernel
theorem dX7_foldBetween_66 : decode cX7_foldBetween 66 = .ok (.iinc 8 1, 3) := by decide +kernel
theorem dX7_foldBetween_69 : decode cX7_foldBetween 69 = .ok (.goto (-59), 3) := by decide +kernel
theorem dX7_foldBetween_72 : decode cX7_foldBetween 72 = .ok (.aload_n 1, 1) := by decide +kernel
theorem dX7_foldBetween_73 : decode cX7_foldBetween 73 = .ok (.aload_n 2, 1) := by decide +kernel
theorem dX7_foldBetween_74 : decode cX7_foldBetween 74 = .ok (.iload 6, 2) := by decide +kernel
theorem dX7_foldBetween_76 : decode cX7_foldBetween 76 = .ok (.aload 5, 2) := by decide +kernel
theorem dX7_foldBetween_78 : decode cX7_foldBetween 78 = .ok (.invokestatic 33, 3) := by decide +kernel
theorem dX7_foldBetween_81 : decode cX7_foldBetween 81 = .ok (.aload 5, 2) := by decide +kernel
theorem dX7_foldBetween_83 : decode cX7_foldBetween 83 = .ok (.aload_n 2, 1) := by decide +kernel
theorem dX7_foldBetween_84 : decode cX7_foldBetween 84 = .ok (.iconst (-1), 1) := by decide +kernel
theorem dX7_foldBetween_85 : decode cX7_foldBetween 85 = .ok (.aload_n 0, 1) := by decide +kernel
theorem dX7_foldBetween_86 : decode cX7_foldBetween 86 = .ok (.getfield 21, 3) := by decide +kernel
theorem dX7_foldBetween_89 : decode cX7_foldBetween 89 = .ok (.invokestatic 33, 3) := by decide +kernel
theorem dX7_foldBetween_92 : decode cX7_foldBetween 92 = .ok (.aload_n 0, 1) := by decide +kernel
theorem dX7_foldBetween_93 : decode cX7_foldBetween 93 = .ok (.aload 5, 2) := by decide +kernel
theorem dX7_foldBetween_95 : decode cX7_foldBetween 95 = .ok (.invokevirtual 39, 3) := by decide +kernel
theorem dX7_foldBetween_98 : decode cX7_foldBetween 98 = .ok (.ifCond .lt 18, 3) := by decide +kernel
theorem dX7_foldBetween_101 : decode cX7_foldBetween 101 = .ok (.aload_n 0, 1) := by decide +kernel
theorem dX7_foldBetween_102 : decode cX7_foldBetween 102 = .ok (.aload_n 0, 1) := by decide +kernel
theorem dX7_foldBetween_103 : decode cX7_foldBetween 103 = .ok (.getfield 21, 3) := by decide +kernel
theorem dX7_foldBetween_106 : decode cX7_foldBetween 106 = .ok (.invokevirtual 39, 3) := by decide +kernel
theorem dX7_foldBetween_109 : decode cX7_foldBetween 109 = .ok (.ifCond .ge 7, 3) := by decide +kernel
theorem dX7_foldBetween_112 : decode cX7_foldBetween 112 = .ok (.iconst 1, 1) := by decide +kernel
theorem dX7_foldBetween_113 : decode cX7_foldBetween 113 = .ok (.goto 4, 3) := by decide +kernel
theorem dX7_foldBetween_116 : decode cX7_foldBetween 116 = .ok (.iconst 0, 1) := by decide +kernel
theorem dX7_foldBetween_117 : decode cX7_foldBetween 117 = .ok (.ireturn, 1) := by decide +kernel
theorem dX8_init_0 : decode cX8_init 0 = .ok (.aload_n 0, 1) := by decide +kernel
theorem dX8_init_1 : decode cX8_init 1 = .ok (.invokespecial 1, 3) := by decide +kernel
theorem dX8_init_4 : decode cX8_init 4 = .ok (.aload_n 0, 1) := by decide +kernel
theorem dX8_init_5 : decode cX8_init 5 = .ok (.bipush 16, 2) := by decide +kernel
theorem dX8_init_7 : decode cX8_init 7 = .ok (.bipush 6, 2) := by decide +kernel
theorem dX8_init_9 : decode cX8_init 9 = .ok (.multianewarray 9 2, 4) := by decide +kernel
theorem dX8_init_13 : decode cX8_init 13 = .ok (.putfield 11, 3) := by decide +kernel
theorem dX8_init_16 : decode cX8_init 16 = .ok (.aload_n 0, 1) := by decide +kernel
theorem dX8_init_17 : decode cX8_init 17 = .ok (.bipush 16, 2) := by decide +kernel
theorem dX8_init_19 : decode cX8_init 19 = .ok (.newarray .boolean, 2) := by decide +kernel
theorem dX8_init_21 : decode cX8_init 21 = .ok (.putfield 14, 3) := by decide +kernel
theorem dX8_init_24 : decode cX8_init 24 = .ok (.aload_n 0, 1) := by decide +kernel
theorem dX8_init_25 : decode cX8_init 25 = .ok (.bipush 6, 2) := by decide +kernel
theorem dX8_init_27 : decode cX8_init 27 = .ok (.newarray .int, 2) := by decide +kernel
theorem dX8_init_29 : decode cX8_init 29 = .ok (.putfield 18, 3) := by decide +kernel
theorem dX8_init_32 : decode cX8_init 32 = .ok (.aload_n 0, 1) := by decide +kernel
theorem dX8_init_33 : decode cX8_init 33 = .ok (.sipush 256, 3) := by decide +kernel
theorem dX8_init_36 : decode cX8_init 36 = .ok (.newarray .byte, 2) := by decide +kernel
theorem dX8_init_38 : decode cX8_init 38 = .ok (.putfield 22, 3) := by decide +kernel
theorem dX8_init_41 : decode cX8_init 41 = .ok (.new 26, 3) := by decide +kernel
theorem dX8_init_44 : decode cX8_init 44 = .ok (.dup, 1) := by decide +kernel
theorem dX8_init_45 : decode cX8_init 45 = .ok (.invokespecial 28, 3) := by decide +kernel
theorem dX8_init_48 : decode cX8_init 48 = .ok (.astore_n 1, 1) := by decide +kernel
theorem dX8_init_49 : decode cX8_init 49 = .ok (.aload_n 0, 1) := by decide +kernel
theorem dX8_init_50 : decode cX8_init 50 = .ok (.aload_n 1, 1) := by decide +kernel
theorem dX8_init_51 : decode cX8_init 51 = .ok (.putfield 29, 3) := by decide +kernel
theorem dX8_init_54 : decode cX8_init 54 = .ok (.aload_n 0, 1) := by decide +kernel
theorem dX8_init_55 : decode cX8_init 55 = .ok (.new 33, 3) := by decide +kernel
theorem dX8_init_58 : decode cX8_init 58 = .ok (.dup, 1) := by decide +kernel
theorem dX8_init_59 : decode cX8_init 59 = .ok (.invokespecial 35, 3) := by decide +kernel
theorem dX8_init_62 : decode cX8_init 62 = .ok (.putfield 36, 3) := by decide +kernel
theorem dX8_init_65 : decode cX8_init 65 = .ok (.aload_n 0, 1) := by decide +kernel
theorem dX8_init_66 : decode cX8_init 66 = .ok (.new 40, 3) := by decide +kernel
theorem dX8_init_69 : decode cX8_init 69 = .ok (.dup, 1) := by decide +kernel
theorem dX8_init_70 : decode cX8_init 70 = .ok (.aload_n 1, 1) := by decide +kernel
theorem dX8_init_71 : decode cX8_init 71 = .ok (.invokespecial 42, 3) := by decide +kernel
theorem dX8_init_74 : decode cX8_init 74 = .ok (.putfield 45, 3) := by decide +kernel
theorem dX8_init_77 : decode cX8_init 77 = .ok (.aload_n 0, 1) := by decide +kernel
theorem dX8_init_78 : decode cX8_init 78 = .ok (.new 49, 3) := by decide +kernel
theorem dX8_init_81 : decode cX8_init 81 = .ok (.dup, 1) := by decide +kernel
theorem dX8_init_82 : decode cX8_init 82 = .ok (.aload_n 1, 1) := by decide +kernel
theorem dX8_init_83 : decode cX8_init 83 = .ok (.invokespecial 51, 3) := by decide +kernel
theorem dX8_init_86 : decode cX8_init 86 = .ok (.putfield 52, 3) := by decide +kernel
theorem dX8_init_89 : decode cX8_init 89 = .ok (.aload_n 0, 1) := by decide +kernel
theorem dX8_init_90 : decode cX8_init 90 = .ok (.iconst 0, 1) := by decide +kernel
theorem dX8_init_91 : decode cX8_init 91 = .ok (.putfield 56, 3) := by decide +kernel
theorem dX8_init_94 : decode cX8_init 94 = .ok (.aload_n 0, 1) := by decide +kernel
theorem dX8_init_95 : decode cX8_init 95 = .ok (.iconst 0, 1) := by decide +kernel
theorem dX8_init_96 : decode cX8_init 96 = .ok (.putfield 60, 3) := by decide +kernel
theorem dX8_init_99 : decode cX8_init 99 = .ok (.return_, 1) := by decide +kernel
theorem dX8_status_0 : decode cX8_status 0 = .ok (.aload_n 0, 1) := by decide +kernel
theorem dX8_status_1 : decode cX8_status 1 = .ok (.getfield 60, 3) := by decide +kernel
theorem dX8_status_4 : decode cX8_status 4 = .ok (.ireturn, 1) := by decide +kernel
theorem dX8_set_0 : decode cX8_set 0 = .ok (.iload_n 1, 1) := by decide +kernel
theorem dX8_set_1 : decode cX8_set 1 = .ok (.invokestatic 63, 3) := by decide +kernel
theorem dX8_set_4 : decode cX8_set 4 = .ok (.ifCond .ne 9, 3) := by decide +kernel
theorem dX8_set_7 : decode cX8_set 7 = .ok (.aload_n 0, 1) := by decide +kernel
theorem dX8_set_8 : decode cX8_set 8 = .ok (.iconst 1, 1) := by decide +kernel
theorem dX8_set_9 : decode cX8_set 9 = .ok (.invokevirtual 67, 3) := by decide +kernel
theorem dX8_set_12 : decode cX8_set 12 = .ok (.ireturn, 1) := by decide +kernel
theorem dX8_set_13 : decode cX8_set 13 = .ok (.aload_n 0, 1) := by decide +kernel
theorem dX8_set_14 : decode cX8_set 14 = .ok (.getfield 18, 3) := by decide +kernel
theorem dX8_set_17 : decode cX8_set 17 = .ok (.iconst 0, 1) := by decide +kernel
theorem dX8_set_18 : decode cX8_set 18 = .ok (.iload_n 2, 1) := by decide +kernel
theorem dX8_set_19 : decode cX8_set 19 = .ok (.iastore, 1) := by decide +kernel
theorem dX8_set_20 : decode cX8_set 20 = .ok (.aload_n 0, 1) := by decide +kernel
theorem dX8_set_21 : decode cX8_set 21 = .ok (.getfield 18, 3) := by decide +kernel
theorem dX8_set_24 : decode cX8_set 24 = .ok (.iconst 1, 1) := by decide +kernel
theorem dX8_set_25 : decode cX8_set 25 = .ok (.iload_n 3, 1) := by decide +kernel
theorem dX8_set_26 : decode cX8_set 26 = .ok (.iastore, 1) := by decide +kernel
theorem dX8_set_27 : decode cX8_set 27 = .ok (.aload_n 0, 1) := by decide +kernel
theorem dX8_set_28 : decode cX8_set 28 = .ok (.getfield 18, 3) := by decide +kernel
theorem dX8_set_31 : decode cX8_set 31 = .ok (.iconst 2, 1) := by decide +kernel
theorem dX8_set_32 : decode cX8_set 32 = .ok (.iload 4, 2) := by decide +kernel
theorem dX8_set_34 : decode cX8_set 34 = .ok (.iastore, 1) := by decide +kernel
theorem dX8_set_35 : decode cX8_set 35 = .ok (.aload_n 0, 1) := by decide +kernel
theorem dX8_set_36 : decode cX8_set 36 = .ok (.getfield 18, 3) := by decide +kernel
theorem dX8_set_39 : decode cX8_set 39 = .ok (.iconst 3, 1) := by decide +kernel
theorem dX8_set_40 : decode cX8_set 40 = .ok (.iload 5, 2) := by decide +kernel
theorem dX8_set_42 : decode cX8_set 42 = .ok (.iastore, 1) := by decide +kernel
theorem dX8_set_43 : decode cX8_set 43 = .ok (.aload_n 0, 1) := by decide +kernel
theorem dX8_set_44 : decode cX8_set 44 = .ok (.getfield 18, 3) := by decide +kernel
theorem dX8_set_47 : decode cX8_set 47 = .ok (.iconst 4, 1) := by decide +kernel
theorem dX8_set_48 : decode cX8_set 48 = .ok (.iload 6, 2) := by decide +kernel
theorem dX8_set_50 : decode cX8_set 50 = .ok (.iastore, 1) := by decide +kernel
theorem dX8_set_51 : decode cX8_set 51 = .ok (.aload_n 0, 1) := by decide +kernel
theorem dX8_set_52 : decode cX8_set 52 = .ok (.getfield 18, 3) := by decide +kernel
theorem dX8_set_55 : decode cX8_set 55 = .ok (.iconst 5, 1) := by decide +kernel
theorem dX8_set_56 : decode cX8_set 56 = .ok (.iload 7, 2) := by decide +kernel
theorem dX8_set_58 : decode cX8_set 58 = .ok (.iastore, 1) := by decide +kernel
theorem dX8_set_59 : decode cX8_set 59 = .ok (.aload_n 0, 1) := by decide +kernel
theorem dX8_set_60 : decode cX8_set 60 = .ok (.iload_n 1, 1) := by decide +kernel
theorem dX8_set_61 : decode cX8_set 61 = .ok (.invokevirtual 70, 3) := by decide +kernel
theorem dX8_set_64 : decode cX8_set 64 = .ok (.ireturn, 1) := by decide +kernel
theorem dX8_ratio_0 : decode cX8_ratio 0 = .ok (.iload_n 1, 1) := by decide +kernel
theorem dX8_ratio_1 : decode cX8_ratio 1 = .ok (.invokestatic 63, 3) := by decide +kernel
theorem dX8_ratio_4 : decode cX8_ratio 4 = .ok (.ifCond .ne 9, 3) := by decide +kernel
theorem dX8_ratio_7 : decode cX8_ratio 7 = .ok (.aload_n 0, 1) := by decide +kernel
theorem dX8_ratio_8 : decode cX8_ratio 8 = .ok (.iconst 1, 1) := by decide +kernel
theorem dX8_ratio_9 : decode cX8_ratio 9 = .ok (.invokevirtual 67, 3) := by decide +kernel
theorem dX8_ratio_12 : decode cX8_ratio 12 = .ok (.ireturn, 1) := by decide +kernel
theorem dX8_ratio_13 : decode cX8_ratio 13 = .ok (.iload_n 2, 1) := by decide +kernel
theorem dX8_ratio_14 : decode cX8_ratio 14 = .ok (.iconst 1, 1) := by decide +kernel
theorem dX8_ratio_15 : decode cX8_ratio 15 = .ok (.if_icmp .lt 20, 3) := by decide +kernel
theorem dX8_ratio_18 : decode cX8_ratio 18 = .ok (.iload_n 2, 1) := by decide +kernel
theorem dX8_ratio_19 : decode cX8_ratio 19 = .ok (.ldc 73, 2) := by decide +kernel
theorem dX8_ratio_21 : decode cX8_ratio 21 = .ok (.if_icmp .gt 14, 3) := by decide +kernel
theorem dX8_ratio_24 : decode cX8_ratio 24 = .ok (.iload_n 3, 1) := by decide +kernel
theorem dX8_ratio_25 : decode cX8_ratio 25 = .ok (.iconst 1, 1) := by decide +kernel
theorem dX8_ratio_26 : decode cX8_ratio 26 = .ok (.if_icmp .lt 9, 3) := by decide +kernel
theorem dX8_ratio_29 : decode cX8_ratio 29 = .ok (.iload_n 3, 1) := by decide +kernel
theorem dX8_ratio_30 : decode cX8_ratio 30 = .ok (.ldc 73, 2) := by decide +kernel
theorem dX8_ratio_32 : decode cX8_ratio 32 = .ok (.if_icmp .le 9, 3) := by decide +kernel
theorem dX8_ratio_35 : decode cX8_ratio 35 = .ok (.aload_n 0, 1) := by decide +kernel
theorem dX8_ratio_36 : decode cX8_ratio 36 = .ok (.iconst 3, 1) := by decide +kernel
theorem dX8_ratio_37 : decode cX8_ratio 37 = .ok (.invokevirtual 67, 3) := by decide +kernel
theorem dX8_ratio_40 : decode cX8_ratio 40 = .ok (.ireturn, 1) := by decide +kernel
theorem dX8_ratio_41 : decode cX8_ratio 41 = .ok (.iload_n 2, 1) := by decide +kernel
theorem dX8_ratio_42 : decode cX8_ratio 42 = .ok (.iload_n 3, 1) := by decide +kernel
theorem dX8_ratio_43 : decode cX8_ratio 43 = .ok (.aload_n 0, 1) := by decide +kernel
theorem dX8_ratio_44 : decode cX8_ratio 44 = .ok (.getfield 18, 3) := by decide +kernel
theorem dX8_ratio_47 : decode cX8_ratio 47 = .ok (.invokestatic 74, 3) := by decide +kernel
theorem dX8_ratio_50 : decode cX8_ratio 50 = .ok (.ifCond .ne 9, 3) := by decide +kernel
theorem dX8_ratio_53 : decode cX8_ratio 53 = .ok (.aload_n 0, 1) := by decide +kernel
theorem dX8_ratio_54 : decode cX8_ratio 54 = .ok (.iconst 4, 1) := by decide +kernel
theorem dX8_ratio_55 : decode cX8_ratio 55 = .ok (.invokevirtual 67, 3) := by decide +kernel
theorem dX8_ratio_58 : decode cX8_ratio 58 = .ok (.ireturn, 1) := by decide +kernel
theorem dX8_ratio_59 : decode cX8_ratio 59 = .ok (.aload_n 0, 1) := by decide +kernel
theorem dX8_ratio_60 : decode cX8_ratio 60 = .ok (.iload_n 1, 1) := by decide +kernel
theorem dX8_ratio_61 : decode cX8_ratio 61 = .ok (.invokevirtual 70, 3) := by decide +kernel
theorem dX8_ratio_64 : decode cX8_ratio 64 = .ok (.ireturn, 1) := by decide +kernel
theorem dX8_times_0 : decode cX8_times 0 = .ok (.iload_n 1, 1) := by decide +kernel
theorem dX8_times_1 : decode cX8_times 1 = .ok (.invokestatic 63, 3) := by decide +kernel
theorem dX8_times_4 : decode cX8_times 4 = .ok (.ifCond .eq 18, 3) := by decide +kernel
theorem dX8_times_7 : decode cX8_times 7 = .ok (.iload_n 2, 1) := by decide +kernel
theorem dX8_times_8 : decode cX8_times 8 = .ok (.invokestatic 63, 3) := by decide +kernel
theorem dX8_times_11 : decode cX8_times 11 = .ok (.ifCond .eq 11, 3) := by decide +kernel
theorem dX8_times_14 : decode cX8_times 14 = .ok (.iload 4, 2) := by decide +kernel
theorem dX8_times_16 : decode cX8_times 16 = .ok (.invokestatic 63, 3) := by decide +kernel
theorem dX8_times_19 : decode cX8_times 19 = .ok (.ifCond .ne 9, 3) := by decide +kernel
theorem dX8_times_22 : decode cX8_times 22 = .ok (.aload_n 0, 1) := by decide +kernel
theorem dX8_times_23 : decode cX8_times 23 = .ok (.iconst 1, 1) := by decide +kernel
theorem dX8_times_24 : decode cX8_times 24 = .ok (.invokevirtual 67, 3) := by decide +kernel
theorem dX8_times_27 : decode cX8_times 27 = .ok (.ireturn, 1) := by decide +kernel
theorem dX8_times_28 : decode cX8_times 28 = .ok (.aload_n 0, 1) := by decide +kernel
theorem dX8_times_29 : decode cX8_times 29 = .ok (.getfield 14, 3) := by decide +kernel
theorem dX8_times_32 : decode cX8_times 32 = .ok (.iload_n 1, 1) := by decide +kernel
theorem dX8_times_33 : decode cX8_times 33 = .ok (.baload, 1) := by decide +kernel
theorem dX8_times_34 : decode cX8_times 34 = .ok (.ifCond .eq 12, 3) := by decide +kernel
theorem dX8_times_37 : decode cX8_times 37 = .ok (.aload_n 0, 1) := by decide +kernel
theorem dX8_times_38 : decode cX8_times 38 = .ok (.getfield 14, 3) := by decide +kernel
theorem dX8_times_41 : decode cX8_times 41 = .ok (.iload_n 2, 1) := by decide +kernel
theorem dX8_times_42 : decode cX8_times 42 = .ok (.baload, 1) := by decide +kernel
theorem dX8_times_43 : decode cX8_times 43 = .ok (.ifCond .ne 9, 3) := by decide +kernel
theorem dX8_times_46 : decode cX8_times 46 = .ok (.aload_n 0, 1) := by decide +kernel
theorem dX8_times_47 : decode cX8_times 47 = .ok (.iconst 2, 1) := by decide +kernel
theorem dX8_times_48 : decode cX8_times 48 = .ok (.invokevirtual 67, 3) := by decide +kernel
theorem dX8_times_51 : decode cX8_times 51 = .ok (.ireturn, 1) := by decide +kernel
theorem dX8_times_52 : decode cX8_times 52 = .ok (.iload_n 3, 1) := by decide +kernel
theorem dX8_times_53 : decode cX8_times 53 = .ok (.bipush (-24), 2) := by decide +kernel
theorem dX8_times_55 : decode cX8_times 55 = .ok (.if_icmp .lt 9, 3) := by decide +kernel
theorem dX8_times_58 : decode cX8_times 58 = .ok (.iload_n 3, 1) := by decide +kernel
theorem dX8_times_59 : decode cX8_times 59 = .ok (.bipush 24, 2) := by decide +kernel
theorem dX8_times_61 : decode cX8_times 61 = .ok (.if_icmp .le 9, 3) := by decide +kernel
theorem dX8_times_64 : decode cX8_times 64 = .ok (.aload_n 0, 1) := by decide +kernel
theorem dX8_times_65 : decode cX8_times 65 = .ok (.iconst 3, 1) := by decide +kernel
theorem dX8_times_66 : decode cX8_times 66 = .ok (.invokevirtual 67, 3) := by decide +kernel
theorem dX8_times_69 : decode cX8_times 69 = .ok (.ireturn, 1) := by decide +kernel
theorem dX8_times_70 : decode cX8_times 70 = .ok (.aload_n 0, 1) := by decide +kernel
theorem dX8_times_71 : decode cX8_times 71 = .ok (.getfield 11, 3) := by decide +kernel
theorem dX8_times_74 : decode cX8_times 74 = .ok (.iload_n 1, 1) := by decide +kernel
theorem dX8_times_75 : decode cX8_times 75 = .ok (.aaload, 1) := by decide +kernel
theorem dX8_times_76 : decode cX8_times 76 = .ok (.aload_n 0, 1) := by decide +kernel
theorem dX8_times_77 : decode cX8_times 77 = .ok (.getfield 11, 3) := by decide +kernel
theorem dX8_times_80 : decode cX8_times 80 = .ok (.iload_n 2, 1) := by decide +kernel
theorem dX8_times_81 : decode cX8_times 81 = .ok (.aaload, 1) := by decide +kernel
theorem dX8_times_82 : decode cX8_times 82 = .ok (.iload_n 3, 1) := by decide +kernel
theorem dX8_times_83 : decode cX8_times 83 = .ok (.aload_n 0, 1) := by decide +kernel
theorem dX8_times_84 : decode cX8_times 84 = .ok (.getfield 18, 3) := by decide +kernel
theorem dX8_times_87 : decode cX8_times 87 = .ok (.invokestatic 80, 3) := by decide +kernel
theorem dX8_times_90 : decode cX8_times 90 = .ok (.aload_n 0, 1) := by decide +kernel
theorem dX8_times_91 : decode cX8_times 91 = .ok (.iload 4, 2) := by decide +kernel
theorem dX8_times_93 : decode cX8_times 93 = .ok (.invokevirtual 70, 3) := by decide +kernel
theorem dX8_times_96 : decode cX8_times 96 = .ok (.ireturn, 1) := by decide +kernel
theorem dX8_fold_0 : decode cX8_fold 0 = .ok (.iload_n 1, 1) := by decide +kernel
theorem dX8_fold_1 : decode cX8_fold 1 = .ok (.invokestatic 63, 3) := by decide +kernel
theorem dX8_fold_4 : decode cX8_fold 4 = .ok (.ifCond .eq 17, 3) := by decide +kernel
theorem dX8_fold_7 : decode cX8_fold 7 = .ok (.iload_n 2, 1) := by decide +kernel
theorem dX8_fold_8 : decode cX8_fold 8 = .ok (.invokestatic 63, 3) := by decide +kernel
theorem dX8_fold_11 : decode cX8_fold 11 = .ok (.ifCond .eq 10, 3) := by decide +kernel
theorem dX8_fold_14 : decode cX8_fold 14 = .ok (.iload_n 3, 1) := by decide +kernel
theorem dX8_fold_15 : decode cX8_fold 15 = .ok (.invokestatic 63, 3) := by decide +kernel
theorem dX8_fold_18 : decode cX8_fold 18 = .ok (.ifCond .ne 9, 3) := by decide +kernel
theorem dX8_fold_21 : decode cX8_fold 21 = .ok (.aload_n 0, 1) := by decide +kernel
theorem dX8_fold_22 : decode cX8_fold 22 = .ok (.iconst 1, 1) := by decide +kernel
theorem dX8_fold_23 : decode cX8_fold 23 = .ok (.invokevirtual 67, 3) := by decide +kernel
theorem dX8_fold_26 : decode cX8_fold 26 = .ok (.ireturn, 1) := by decide +kernel
theorem dX8_fold_27 : decode cX8_fold 27 = .ok (.aload_n 0, 1) := by decide +kernel
theorem dX8_fold_28 : decode cX8_fold 28 = .ok (.getfield 14, 3) := by decide +kernel
theorem dX8_fold_31 : decode cX8_fold 31 = .ok (.iload_n 1, 1) := by decide +kernel
theorem dX8_fold_32 : decode cX8_fold 32 = .ok (.baload, 1) := by decide +kernel
theorem dX8_fold_33 : decode cX8_fold 33 = .ok (.ifCond .eq 12, 3) := by decide +kernel
theorem dX8_fold_36 : decode cX8_fold 36 = .ok (.aload_n 0, 1) := by decide +kernel
theorem dX8_fold_37 : decode cX8_fold 37 = .ok (.getfield 14, 3) := by decide +kernel
theorem dX8_fold_40 : decode cX8_fold 40 = .ok (.iload_n 2, 1) := by decide +kernel
theorem dX8_fold_41 : decode cX8_fold 41 = .ok (.baload, 1) := by decide +kernel
theorem dX8_fold_42 : decode cX8_fold 42 = .ok (.ifCond .ne 9, 3) := by decide +kernel
theorem dX8_fold_45 : decode cX8_fold 45 = .ok (.aload_n 0, 1) := by decide +kernel
theorem dX8_fold_46 : decode cX8_fold 46 = .ok (.iconst 2, 1) := by decide +kernel
theorem dX8_fold_47 : decode cX8_fold 47 = .ok (.invokevirtual 67, 3) := by decide +kernel
theorem dX8_fold_50 : decode cX8_fold 50 = .ok (.ireturn, 1) := by decide +kernel
theorem dX8_fold_51 : decode cX8_fold 51 = .ok (.aload_n 0, 1) := by decide +kernel
theorem dX8_fold_52 : decode cX8_fold 52 = .ok (.getfield 29, 3) := by decide +kernel
theorem dX8_fold_55 : decode cX8_fold 55 = .ok (.aload_n 0, 1) := by decide +kernel
theorem dX8_fold_56 : decode cX8_fold 56 = .ok (.getfield 11, 3) := by decide +kernel
theorem dX8_fold_59 : decode cX8_fold 59 = .ok (.iload_n 2, 1) := by decide +kernel
theorem dX8_fold_60 : decode cX8_fold 60 = .ok (.aaload, 1) := by decide +kernel
theorem dX8_fold_61 : decode cX8_fold 61 = .ok (.invokevirtual 84, 3) := by decide +kernel
theorem dX8_fold_64 : decode cX8_fold 64 = .ok (.ifCond .gt 9, 3) := by decide +kernel
theorem dX8_fold_67 : decode cX8_fold 67 = .ok (.aload_n 0, 1) := by decide +kernel
theorem dX8_fold_68 : decode cX8_fold 68 = .ok (.iconst 5, 1) := by decide +kernel
theorem dX8_fold_69 : decode cX8_fold 69 = .ok (.invokevirtual 67, 3) := by decide +kernel
theorem dX8_fold_72 : decode cX8_fold 72 = .ok (.ireturn, 1) := by decide +kernel
theorem dX8_fold_73 : decode cX8_fold 73 = .ok (.aload_n 0, 1) := by decide +kernel
theorem dX8_fold_74 : decode cX8_fold 74 = .ok (.getfield 29, 3) := by decide +kernel
theorem dX8_fold_77 : decode cX8_fold 77 = .ok (.aload_n 0, 1) := by decide +kernel
theorem dX8_fold_78 : decode cX8_fold 78 = .ok (.getfield 11, 3) := by decide +kernel
theorem dX8_fold_81 : decode cX8_fold 81 = .ok (.iload_n 1, 1) := by decide +kernel
theorem dX8_fold_82 : decode cX8_fold 82 = .ok (.aaload, 1) := by decide +kernel
theorem dX8_fold_83 : decode cX8_fold 83 = .ok (.aload_n 0, 1) := by decide +kernel
theorem dX8_fold_84 : decode cX8_fold 84 = .ok (.getfield 11, 3) := by decide +kernel
theorem dX8_fold_87 : decode cX8_fold 87 = .ok (.iload_n 2, 1) := by decide +kernel
theorem dX8_fold_88 : decode cX8_fold 88 = .ok (.aaload, 1) := by decide +kernel
theorem dX8_fold_89 : decode cX8_fold 89 = .ok (.aload_n 0, 1) := by decide +kernel
theorem dX8_fold_90 : decode cX8_fold 90 = .ok (.getfield 18, 3) := by decide +kernel
theorem dX8_fold_93 : decode cX8_fold 93 = .ok (.invokevirtual 88, 3) := by decide +kernel
theorem dX8_fold_96 : decode cX8_fold 96 = .ok (.ifCond .ne 9, 3) := by decide +kernel
theorem dX8_fold_99 : decode cX8_fold 99 = .ok (.aload_n 0, 1) := by decide +kernel
theorem dX8_fold_100 : decode cX8_fold 100 = .ok (.iconst 4, 1) := by decide +kernel
theorem dX8_fold_101 : decode cX8_fold 101 = .ok (.invokevirtual 67, 3) := by decide +kernel
theorem dX8_fold_104 : decode cX8_fold 104 = .ok (.ireturn, 1) := by decide +kernel
theorem dX8_fold_105 : decode cX8_fold 105 = .ok (.aload_n 0, 1) := by decide +kernel
theorem dX8_fold_106 : decode cX8_fold 106 = .ok (.iload_n 3, 1) := by decide +kernel
theorem dX8_fold_107 : decode cX8_fold 107 = .ok (.invokevirtual 70, 3) := by decide +kernel
theorem dX8_fold_110 : decode cX8_fold 110 = .ok (.ireturn, 1) := by decide +kernel
theorem dX8_drop_0 : decode cX8_drop 0 = .ok (.aload_n 0, 1) := by decide +kernel
theorem dX8_drop_1 : decode cX8_drop 1 = .ok (.iload_n 1, 1) := by decide +kernel
theorem dX8_drop_2 : decode cX8_drop 2 = .ok (.invokevirtual 92, 3) := by decide +kernel
theorem dX8_drop_5 : decode cX8_drop 5 = .ok (.istore_n 2, 1) := by decide +kernel
theorem dX8_drop_6 : decode cX8_drop 6 = .ok (.iload_n 2, 1) := by decide +kernel
theorem dX8_drop_7 : decode cX8_drop 7 = .ok (.ifCond .eq 9, 3) := by decide +kernel
theorem dX8_drop_10 : decode cX8_drop 10 = .ok (.aload_n 0, 1) := by decide +kernel
theorem dX8_drop_11 : decode cX8_drop 11 = .ok (.iload_n 2, 1) := by decide +kernel
theorem dX8_drop_12 : decode cX8_drop 12 = .ok (.invokevirtual 67, 3) := by decide +kernel
theorem dX8_drop_15 : decode cX8_drop 15 = .ok (.ireturn, 1) := by decide +kernel
theorem dX8_drop_16 : decode cX8_drop 16 = .ok (.aload_n 0, 1) := by decide +kernel
theorem dX8_drop_17 : decode cX8_drop 17 = .ok (.getfield 14, 3) := by decide +kernel
theorem dX8_drop_20 : decode cX8_drop 20 = .ok (.iload_n 1, 1) := by decide +kernel
theorem dX8_drop_21 : decode cX8_drop 21 = .ok (.iconst 0, 1) := by decide +kernel
theorem dX8_drop_22 : decode cX8_drop 22 = .ok (.bastore, 1) := by decide +kernel
theorem dX8_drop_23 : decode cX8_drop 23 = .ok (.aload_n 0, 1) := by decide +kernel
theorem dX8_drop_24 : decode cX8_drop 24 = .ok (.invokevirtual 96, 3) := by decide +kernel
theorem dX8_drop_27 : decode cX8_drop 27 = .ok (.ireturn, 1) := by decide +kernel
theorem dX8_exponent_0 : decode cX8_exponent 0 = .ok (.aload_n 0, 1) := by decide +kernel
theorem dX8_exponent_1 : decode cX8_exponent 1 = .ok (.iload_n 1, 1) := by decide +kernel
theorem dX8_exponent_2 : decode cX8_exponent 2 = .ok (.invokevirtual 92, 3) := by decide +kernel
theorem dX8_exponent_5 : decode cX8_exponent 5 = .ok (.istore_n 3, 1) := by decide +kernel
theorem dX8_exponent_6 : decode cX8_exponent 6 = .ok (.iload_n 3, 1) := by decide +kernel
theorem dX8_exponent_7 : decode cX8_exponent 7 = .ok (.ifCond .eq 9, 3) := by decide +kernel
theorem dX8_exponent_10 : decode cX8_exponent 10 = .ok (.aload_n 0, 1) := by decide +kernel
theorem dX8_exponent_11 : decode cX8_exponent 11 = .ok (.iload_n 3, 1) := by decide +kernel
theorem dX8_exponent_12 : decode cX8_exponent 12 = .ok (.invokevirtual 100, 3) := by decide +kernel
theorem dX8_exponent_15 : decode cX8_exponent 15 = .ok (.ireturn, 1) := by decide +kernel
theorem dX8_exponent_16 : decode cX8_exponent 16 = .ok (.iload_n 2, 1) := by decide +kernel
theorem dX8_exponent_17 : decode cX8_exponent 17 = .ok (.invokestatic 103, 3) := by decide +kernel
theorem dX8_exponent_20 : decode cX8_exponent 20 = .ok (.ifCond .ne 9, 3) := by decide +kernel
theorem dX8_exponent_23 : decode cX8_exponent 23 = .ok (.aload_n 0, 1) := by decide +kernel
theorem dX8_exponent_24 : decode cX8_exponent 24 = .ok (.iconst 3, 1) := by decide +kernel
theorem dX8_exponent_25 : decode cX8_exponent 25 = .ok (.invokevirtual 100, 3) := by decide +kernel
theorem dX8_exponent_28 : decode cX8_exponent 28 = .ok (.ireturn, 1) := by decide +kernel
theorem dX8_exponent_29 : decode cX8_exponent 29 = .ok (.aload_n 0, 1) := by decide +kernel
theorem dX8_exponent_30 : decode cX8_exponent 30 = .ok (.aload_n 0, 1) := by decide +kernel
theorem dX8_exponent_31 : decode cX8_exponent 31 = .ok (.getfield 11, 3) := by decide +kernel
theorem dX8_exponent_34 : decode cX8_exponent 34 = .ok (.iload_n 1, 1) := by decide +kernel
theorem dX8_exponent_35 : decode cX8_exponent 35 = .ok (.aaload, 1) := by decide +kernel
theorem dX8_exponent_36 : decode cX8_exponent 36 = .ok (.iload_n 2, 1) := by decide +kernel
theorem dX8_exponent_37 : decode cX8_exponent 37 = .ok (.iaload, 1) := by decide +kernel
theorem dX8_exponent_38 : decode cX8_exponent 38 = .ok (.invokevirtual 106, 3) := by decide +kernel
theorem dX8_exponent_41 : decode cX8_exponent 41 = .ok (.ireturn, 1) := by decide +kernel
theorem dX8_order_0 : decode cX8_order 0 = .ok (.iload_n 1, 1) := by decide +kernel
theorem dX8_order_1 : decode cX8_order 1 = .ok (.invokestatic 63, 3) := by decide +kernel
theorem dX8_order_4 : decode cX8_order 4 = .ok (.ifCond .eq 10, 3) := by decide +kernel
theorem dX8_order_7 : decode cX8_order 7 = .ok (.iload_n 2, 1) := by decide +kernel
theorem dX8_order_8 : decode cX8_order 8 = .ok (.invokestatic 63, 3) := by decide +kernel
theorem dX8_order_11 : decode cX8_order 11 = .ok (.ifCond .ne 9, 3) := by decide +kernel
theorem dX8_order_14 : decode cX8_order 14 = .ok (.aload_n 0, 1) := by decide +kernel
theorem dX8_order_15 : decode cX8_order 15 = .ok (.iconst 1, 1) := by decide +kernel
theorem dX8_order_16 : decode cX8_order 16 = .ok (.invokevirtual 100, 3) := by decide +kernel
theorem dX8_order_19 : decode cX8_order 19 = .ok (.ireturn, 1) := by decide +kernel
theorem dX8_order_20 : decode cX8_order 20 = .ok (.aload_n 0, 1) := by decide +kernel
theorem dX8_order_21 : decode cX8_order 21 = .ok (.getfield 14, 3) := by decide +kernel
theorem dX8_order_24 : decode cX8_order 24 = .ok (.iload_n 1, 1) := by decide +kernel
theorem dX8_order_25 : decode cX8_order 25 = .ok (.baload, 1) := by decide +kernel
theorem dX8_order_26 : decode cX8_order 26 = .ok (.ifCond .eq 12, 3) := by decide +kernel
theorem dX8_order_29 : decode cX8_order 29 = .ok (.aload_n 0, 1) := by decide +kernel
theorem dX8_order_30 : decode cX8_order 30 = .ok (.getfield 14, 3) := by decide +kernel
theorem dX8_order_33 : decode cX8_order 33 = .ok (.iload_n 2, 1) := by decide +kernel
theorem dX8_order_34 : decode cX8_order 34 = .ok (.baload, 1) := by decide +kernel
theorem dX8_order_35 : decode cX8_order 35 = .ok (.ifCond .ne 9, 3) := by decide +kernel
theorem dX8_order_38 : decode cX8_order 38 = .ok (.aload_n 0, 1) := by decide +kernel
theorem dX8_order_39 : decode cX8_order 39 = .ok (.iconst 2, 1) := by decide +kernel
theorem dX8_order_40 : decode cX8_order 40 = .ok (.invokevirtual 100, 3) := by decide +kernel
theorem dX8_order_43 : decode cX8_order 43 = .ok (.ireturn, 1) := by decide +kernel
theorem dX8_order_44 : decode cX8_order 44 = .ok (.aload_n 0, 1) := by decide +kernel
theorem dX8_order_45 : decode cX8_order 45 = .ok (.getfield 29, 3) := by decide +kernel
theorem dX8_order_48 : decode cX8_order 48 = .ok (.aload_n 0, 1) := by decide +kernel
theorem dX8_order_49 : decode cX8_order 49 = .ok (.getfield 11, 3) := by decide +kernel
theorem dX8_order_52 : decode cX8_order 52 = .ok (.iload_n 1, 1) := by decide +kernel
theorem dX8_order_53 : decode cX8_order 53 = .ok (.aaload, 1) := by decide +kernel
theorem dX8_order_54 : decode cX8_order 54 = .ok (.aload_n 0, 1) := by decide +kernel
theorem dX8_order_55 : decode cX8_order 55 = .ok (.getfield 11, 3) := by decide +kernel
theorem dX8_order_58 : decode cX8_order 58 = .ok (.iload_n 2, 1) := by decide +kernel
theorem dX8_order_59 : decode cX8_order 59 = .ok (.aaload, 1) := by decide +kernel
theorem dX8_order_60 : decode cX8_order 60 = .ok (.invokevirtual 109, 3) := by decide +kernel
theorem dX8_order_63 : decode cX8_order 63 = .ok (.istore_n 3, 1) := by decide +kernel
theorem dX8_order_64 : decode cX8_order 64 = .ok (.aload_n 0, 1) := by decide +kernel
theorem dX8_order_65 : decode cX8_order 65 = .ok (.iload_n 3, 1) := by decide +kernel
theorem dX8_order_66 : decode cX8_order 66 = .ok (.ifCond .ge 8, 3) := by decide +kernel
theorem dX8_order_69 : decode cX8_order 69 = .ok (.bipush (-2), 2) := by decide +kernel
theorem dX8_order_71 : decode cX8_order 71 = .ok (.goto 4, 3) := by decide +kernel
theorem dX8_order_74 : decode cX8_order 74 = .ok (.iload_n 3, 1) := by decide +kernel
theorem dX8_order_75 : decode cX8_order 75 = .ok (.invokevirtual 106, 3) := by decide +kernel
theorem dX8_order_78 : decode cX8_order 78 = .ok (.ireturn, 1) := by decide +kernel
theorem dX8_show_0 : decode cX8_show 0 = .ok (.aload_n 0, 1) := by decide +kernel
theorem dX8_show_1 : decode cX8_show 1 = .ok (.iload_n 1, 1) := by decide +kernel
theorem dX8_show_2 : decode cX8_show 2 = .ok (.invokevirtual 92, 3) := by decide +kernel
theorem dX8_show_5 : decode cX8_show 5 = .ok (.istore_n 2, 1) := by decide +kernel
theorem dX8_show_6 : decode cX8_show 6 = .ok (.iload_n 2, 1) := by decide +kernel
theorem dX8_show_7 : decode cX8_show 7 = .ok (.ifCond .eq 9, 3) := by decide +kernel
theorem dX8_show_10 : decode cX8_show 10 = .ok (.aload_n 0, 1) := by decide +kernel
theorem dX8_show_11 : decode cX8_show 11 = .ok (.iload_n 2, 1) := by decide +kernel
theorem dX8_show_12 : decode cX8_show 12 = .ok (.invokevirtual 100, 3) := by decide +kernel
theorem dX8_show_15 : decode cX8_show 15 = .ok (.ireturn, 1) := by decide +kernel
theorem dX8_show_16 : decode cX8_show 16 = .ok (.aload_n 0, 1) := by decide +kernel
theorem dX8_show_17 : decode cX8_show 17 = .ok (.aload_n 0, 1) := by decide +kernel
theorem dX8_show_18 : decode cX8_show 18 = .ok (.getfield 29, 3) := by decide +kernel
theorem dX8_show_21 : decode cX8_show 21 = .ok (.aload_n 0, 1) := by decide +kernel
theorem dX8_show_22 : decode cX8_show 22 = .ok (.getfield 11, 3) := by decide +kernel
theorem dX8_show_25 : decode cX8_show 25 = .ok (.iload_n 1, 1) := by decide +kernel
theorem dX8_show_26 : decode cX8_show 26 = .ok (.aaload, 1) := by decide +kernel
theorem dX8_show_27 : decode cX8_show 27 = .ok (.aload_n 0, 1) := by decide +kernel
theorem dX8_show_28 : decode cX8_show 28 = .ok (.getfield 22, 3) := by decide +kernel
theorem dX8_show_31 : decode cX8_show 31 = .ok (.invokevirtual 113, 3) := by decide +kernel
theorem dX8_show_34 : decode cX8_show 34 = .ok (.putfield 56, 3) := by decide +kernel
theorem dX8_show_37 : decode cX8_show 37 = .ok (.aload_n 0, 1) := by decide +kernel
theorem dX8_show_38 : decode cX8_show 38 = .ok (.aload_n 0, 1) := by decide +kernel
theorem dX8_show_39 : decode cX8_show 39 = .ok (.getfield 56, 3) := by decide +kernel
theorem dX8_show_42 : decode cX8_show 42 = .ok (.invokevirtual 106, 3) := by decide +kernel
theorem dX8_show_45 : decode cX8_show 45 = .ok (.ireturn, 1) := by decide +kernel
theorem dX8_out_0 : decode cX8_out 0 = .ok (.iload_n 1, 1) := by decide +kernel
theorem dX8_out_1 : decode cX8_out 1 = .ok (.ifCond .lt 20, 3) := by decide +kernel
theorem dX8_out_4 : decode cX8_out 4 = .ok (.iload_n 1, 1) := by decide +kernel
theorem dX8_out_5 : decode cX8_out 5 = .ok (.aload_n 0, 1) := by decide +kernel
theorem dX8_out_6 : decode cX8_out 6 = .ok (.getfield 56, 3) := by decide +kernel
theorem dX8_out_9 : decode cX8_out 9 = .ok (.if_icmp .ge 12, 3) := by decide +kernel
theorem dX8_out_12 : decode cX8_out 12 = .ok (.iload_n 1, 1) := by decide +kernel
theorem dX8_out_13 : decode cX8_out 13 = .ok (.aload_n 0, 1) := by decide +kernel
theorem dX8_out_14 : decode cX8_out 14 = .ok (.getfield 22, 3) := by decide +kernel
theorem dX8_out_17 : decode cX8_out 17 = .ok (.arraylength, 1) := by decide +kernel
theorem dX8_out_18 : decode cX8_out 18 = .ok (.if_icmp .lt 5, 3) := by decide +kernel
theorem dX8_out_21 : decode cX8_out 21 = .ok (.iconst (-1), 1) := by decide +kernel
theorem dX8_out_22 : decode cX8_out 22 = .ok (.ireturn, 1) := by decide +kernel
theorem dX8_out_23 : decode cX8_out 23 = .ok (.aload_n 0, 1) := by decide +kernel
theorem dX8_out_24 : decode cX8_out 24 = .ok (.getfield 22, 3) := by decide +kernel
theorem dX8_out_27 : decode cX8_out 27 = .ok (.iload_n 1, 1) := by decide +kernel
theorem dX8_out_28 : decode cX8_out 28 = .ok (.baload, 1) := by decide +kernel
theorem dX8_out_29 : decode cX8_out 29 = .ok (.ireturn, 1) := by decide +kernel
theorem dX8_map_0 : decode cX8_map 0 = .ok (.iload_n 1, 1) := by decide +kernel
theorem dX8_map_1 : decode cX8_map 1 = .ok (.invokestatic 117, 3) := by decide +kernel
theorem dX8_map_4 : decode cX8_map 4 = .ok (.ifCond .eq 10, 3) := by decide +kernel
theorem dX8_map_7 : decode cX8_map 7 = .ok (.iload_n 2, 1) := by decide +kernel
theorem dX8_map_8 : decode cX8_map 8 = .ok (.invokestatic 103, 3) := by decide +kernel
theorem dX8_map_11 : decode cX8_map 11 = .ok (.ifCond .ne 9, 3) := by decide +kernel
theorem dX8_map_14 : decode cX8_map 14 = .ok (.aload_n 0, 1) := by decide +kernel
theorem dX8_map_15 : decode cX8_map 15 = .ok (.iconst 3, 1) := by decide +kernel
theorem dX8_map_16 : decode cX8_map 16 = .ok (.invokevirtual 100, 3) := by decide +kernel
theorem dX8_map_19 : decode cX8_map 19 = .ok (.ireturn, 1) := by decide +kernel
theorem dX8_map_20 : decode cX8_map 20 = .ok (.aload_n 0, 1) := by decide +kernel
theorem dX8_map_21 : decode cX8_map 21 = .ok (.iload_n 1, 1) := by decide +kernel
theorem dX8_map_22 : decode cX8_map 22 = .ok (.iload_n 2, 1) := by decide +kernel
theorem dX8_map_23 : decode cX8_map 23 = .ok (.invokestatic 122, 3) := by decide +kernel
theorem dX8_map_26 : decode cX8_map 26 = .ok (.invokevirtual 106, 3) := by decide +kernel
theorem dX8_map_29 : decode cX8_map 29 = .ok (.ireturn, 1) := by decide +kernel
theorem dX8_steps_0 : decode cX8_steps 0 = .ok (.aload_n 0, 1) := by decide +kernel
theorem dX8_steps_1 : decode cX8_steps 1 = .ok (.iload_n 1, 1) := by decide +kernel
theorem dX8_steps_2 : decode cX8_steps 2 = .ok (.invokevirtual 92, 3) := by decide +kernel
theorem dX8_steps_5 : decode cX8_steps 5 = .ok (.istore_n 3, 1) := by decide +kernel
theorem dX8_steps_6 : decode cX8_steps 6 = .ok (.iload_n 3, 1) := by decide +kernel
theorem dX8_steps_7 : decode cX8_steps 7 = .ok (.ifCond .eq 9, 3) := by decide +kernel
theorem dX8_steps_10 : decode cX8_steps 10 = .ok (.aload_n 0, 1) := by decide +kernel
theorem dX8_steps_11 : decode cX8_steps 11 = .ok (.iload_n 3, 1) := by decide +kernel
theorem dX8_steps_12 : decode cX8_steps 12 = .ok (.invokevirtual 100, 3) := by decide +kernel
theorem dX8_steps_15 : decode cX8_steps 15 = .ok (.ireturn, 1) := by decide +kernel
theorem dX8_steps_16 : decode cX8_steps 16 = .ok (.iload_n 2, 1) := by decide +kernel
theorem dX8_steps_17 : decode cX8_steps 17 = .ok (.invokestatic 117, 3) := by decide +kernel
theorem dX8_steps_20 : decode cX8_steps 20 = .ok (.ifCond .ne 9, 3) := by decide +kernel
theorem dX8_steps_23 : decode cX8_steps 23 = .ok (.aload_n 0, 1) := by decide +kernel
theorem dX8_steps_24 : decode cX8_steps 24 = .ok (.iconst 3, 1) := by decide +kernel
theorem dX8_steps_25 : decode cX8_steps 25 = .ok (.invokevirtual 100, 3) := by decide +kernel
theorem dX8_steps_28 : decode cX8_steps 28 = .ok (.ireturn, 1) := by decide +kernel
theorem dX8_steps_29 : decode cX8_steps 29 = .ok (.aload_n 0, 1) := by decide +kernel
theorem dX8_steps_30 : decode cX8_steps 30 = .ok (.aload_n 0, 1) := by decide +kernel
theorem dX8_steps_31 : decode cX8_steps 31 = .ok (.getfield 11, 3) := by decide +kernel
theorem dX8_steps_34 : decode cX8_steps 34 = .ok (.iload_n 1, 1) := by decide +kernel
theorem dX8_steps_35 : decode cX8_steps 35 = .ok (.aaload, 1) := by decide +kernel
theorem dX8_steps_36 : decode cX8_steps 36 = .ok (.iload_n 2, 1) := by decide +kernel
theorem dX8_steps_37 : decode cX8_steps 37 = .ok (.invokestatic 126, 3) := by decide +kernel
theorem dX8_steps_40 : decode cX8_steps 40 = .ok (.invokevirtual 106, 3) := by decide +kernel
theorem dX8_steps_43 : decode cX8_steps 43 = .ok (.ireturn, 1) := by decide +kernel
theorem dX8_comma_0 : decode cX8_comma 0 = .ok (.aload_n 0, 1) := by decide +kernel
theorem dX8_comma_1 : decode cX8_comma 1 = .ok (.iload_n 1, 1) := by decide +kernel
theorem dX8_comma_2 : decode cX8_comma 2 = .ok (.invokevirtual 92, 3) := by decide +kernel
theorem dX8_comma_5 : decode cX8_comma 5 = .ok (.istore_n 2, 1) := by decide +kernel
theorem dX8_comma_6 : decode cX8_comma 6 = .ok (.iload_n 2, 1) := by decide +kernel
theorem dX8_comma_7 : decode cX8_comma 7 = .ok (.ifCond .eq 9, 3) := by decide +kernel
theorem dX8_comma_10 : decode cX8_comma 10 = .ok (.aload_n 0, 1) := by decide +kernel
theorem dX8_comma_11 : decode cX8_comma 11 = .ok (.iload_n 2, 1) := by decide +kernel
theorem dX8_comma_12 : decode cX8_comma 12 = .ok (.invokevirtual 100, 3) := by decide +kernel
theorem dX8_comma_15 : decode cX8_comma 15 = .ok (.ireturn, 1) := by decide +kernel
theorem dX8_comma_16 : decode cX8_comma 16 = .ok (.aload_n 0, 1) := by decide +kernel
theorem dX8_comma_17 : decode cX8_comma 17 = .ok (.getfield 11, 3) := by decide +kernel
theorem dX8_comma_20 : decode cX8_comma 20 = .ok (.iload_n 1, 1) := by decide +kernel
theorem dX8_comma_21 : decode cX8_comma 21 = .ok (.aaload, 1) := by decide +kernel
theorem dX8_comma_22 : decode cX8_comma 22 = .ok (.invokestatic 130, 3) := by decide +kernel
theorem dX8_comma_25 : decode cX8_comma 25 = .ok (.ifCond .eq 9, 3) := by decide +kernel
theorem dX8_comma_28 : decode cX8_comma 28 = .ok (.aload_n 0, 1) := by decide +kernel
theorem dX8_comma_29 : decode cX8_comma 29 = .ok (.iconst 5, 1) := by decide +kernel
theorem dX8_comma_30 : decode cX8_comma 30 = .ok (.invokevirtual 100, 3) := by decide +kernel
theorem dX8_comma_33 : decode cX8_comma 33 = .ok (.ireturn, 1) := by decide +kernel
theorem dX8_comma_34 : decode cX8_comma 34 = .ok (.aload_n 0, 1) := by decide +kernel
theorem dX8_comma_35 : decode cX8_comma 35 = .ok (.getfield 36, 3) := by decide +kernel
theorem dX8_comma_38 : decode cX8_comma 38 = .ok (.aload_n 0, 1) := by decide +kernel
theorem dX8_comma_39 : decode cX8_comma 39 = .ok (.getfield 11, 3) := by decide +kernel
theorem dX8_comma_42 : decode cX8_comma 42 = .ok (.iload_n 1, 1) := by decide +kernel
theorem dX8_comma_43 : decode cX8_comma 43 = .ok (.aaload, 1) := by decide +kernel
theorem dX8_comma_44 : decode cX8_comma 44 = .ok (.invokevirtual 134, 3) := by decide +kernel
theorem dX8_comma_47 : decode cX8_comma 47 = .ok (.ifCond .ne 10, 3) := by decide +kernel
theorem dX8_comma_50 : decode cX8_comma 50 = .ok (.aload_n 0, 1) := by decide +kernel
theorem dX8_comma_51 : decode cX8_comma 51 = .ok (.bipush 6, 2) := by decide +kernel
theorem dX8_comma_53 : decode cX8_comma 53 = .ok (.invokevirtual 100, 3) := by decide +kernel
theorem dX8_comma_56 : decode cX8_comma 56 = .ok (.ireturn, 1) := by decide +kernel
theorem dX8_comma_57 : decode cX8_comma 57 = .ok (.aload_n 0, 1) := by decide +kernel
theorem dX8_comma_58 : decode cX8_comma 58 = .ok (.aload_n 0, 1) := by decide +kernel
theorem dX8_comma_59 : decode cX8_comma 59 = .ok (.getfield 36, 3) := by decide +kernel
theorem dX8_comma_62 : decode cX8_comma 62 = .ok (.getfield 137, 3) := by decide +kernel
theorem dX8_comma_65 : decode cX8_comma 65 = .ok (.invokevirtual 106, 3) := by decide +kernel
theorem dX8_comma_68 : decode cX8_comma 68 = .ok (.ireturn, 1) := by decide +kernel
theorem dX8_clear_0 : decode cX8_clear 0 = .ok (.aload_n 0, 1) := by decide +kernel
theorem dX8_clear_1 : decode cX8_clear 1 = .ok (.getfield 36, 3) := by decide +kernel
theorem dX8_clear_4 : decode cX8_clear 4 = .ok (.getfield 137, 3) := by decide +kernel
theorem dX8_clear_7 : decode cX8_clear 7 = .ok (.istore_n 1, 1) := by decide +kernel
theorem dX8_clear_8 : decode cX8_clear 8 = .ok (.aload_n 0, 1) := by decide +kernel
theorem dX8_clear_9 : decode cX8_clear 9 = .ok (.getfield 36, 3) := by decide +kernel
theorem dX8_clear_12 : decode cX8_clear 12 = .ok (.iconst 0, 1) := by decide +kernel
theorem dX8_clear_13 : decode cX8_clear 13 = .ok (.putfield 137, 3) := by decide +kernel
theorem dX8_clear_16 : decode cX8_clear 16 = .ok (.aload_n 0, 1) := by decide +kernel
theorem dX8_clear_17 : decode cX8_clear 17 = .ok (.iload_n 1, 1) := by decide +kernel
theorem dX8_clear_18 : decode cX8_clear 18 = .ok (.invokevirtual 106, 3) := by decide +kernel
theorem dX8_clear_21 : decode cX8_clear 21 = .ok (.ireturn, 1) := by decide +kernel
theorem dX8_rank_0 : decode cX8_rank 0 = .ok (.aload_n 0, 1) := by decide +kernel
theorem dX8_rank_1 : decode cX8_rank 1 = .ok (.aload_n 0, 1) := by decide +kernel
theorem dX8_rank_2 : decode cX8_rank 2 = .ok (.getfield 36, 3) := by decide +kernel
theorem dX8_rank_5 : decode cX8_rank 5 = .ok (.invokevirtual 140, 3) := by decide +kernel
theorem dX8_rank_8 : decode cX8_rank 8 = .ok (.invokevirtual 106, 3) := by decide +kernel
theorem dX8_rank_11 : decode cX8_rank 11 = .ok (.ireturn, 1) := by decide +kernel
theorem dX8_twist_0 : decode cX8_twist 0 = .ok (.aload_n 0, 1) := by decide +kernel
theorem dX8_twist_1 : decode cX8_twist 1 = .ok (.iconst 0, 1) := by decide +kernel
theorem dX8_twist_2 : decode cX8_twist 2 = .ok (.putfield 60, 3) := by decide +kernel
theorem dX8_twist_5 : decode cX8_twist 5 = .ok (.aload_n 0, 1) := by decide +kernel
theorem dX8_twist_6 : decode cX8_twist 6 = .ok (.getfield 36, 3) := by decide +kernel
theorem dX8_twist_9 : decode cX8_twist 9 = .ok (.invokevirtual 144, 3) := by decide +kernel
theorem dX8_twist_12 : decode cX8_twist 12 = .ok (.lreturn, 1) := by decide +kernel
theorem dX8_vanishes_0 : decode cX8_vanishes 0 = .ok (.aload_n 0, 1) := by decide +kernel
theorem dX8_vanishes_1 : decode cX8_vanishes 1 = .ok (.iload_n 1, 1) := by decide +kernel
theorem dX8_vanishes_2 : decode cX8_vanishes 2 = .ok (.invokevirtual 92, 3) := by decide +kernel
theorem dX8_vanishes_5 : decode cX8_vanishes 5 = .ok (.istore_n 2, 1) := by decide +kernel
theorem dX8_vanishes_6 : decode cX8_vanishes 6 = .ok (.iload_n 2, 1) := by decide +kernel
theorem dX8_vanishes_7 : decode cX8_vanishes 7 = .ok (.ifCond .eq 9, 3) := by decide +kernel
theorem dX8_vanishes_10 : decode cX8_vanishes 10 = .ok (.aload_n 0, 1) := by decide +kernel
theorem dX8_vanishes_11 : decode cX8_vanishes 11 = .ok (.iload_n 2, 1) := by decide +kernel
theorem dX8_vanishes_12 : decode cX8_vanishes 12 = .ok (.invokevirtual 100, 3) := by decide +kernel
theorem dX8_vanishes_15 : decode cX8_vanishes 15 = .ok (.ireturn, 1) := by decide +kernel
theorem dX8_vanishes_16 : decode cX8_vanishes 16 = .ok (.aload_n 0, 1) := by decide +kernel
theorem dX8_vanishes_17 : decode cX8_vanishes 17 = .ok (.aload_n 0, 1) := by decide +kernel
theorem dX8_vanishes_18 : decode cX8_vanishes 18 = .ok (.getfield 36, 3) := by decide +kernel
theorem dX8_vanishes_21 : decode cX8_vanishes 21 = .ok (.aload_n 0, 1) := by decide +kernel
theorem dX8_vanishes_22 : decode cX8_vanishes 22 = .ok (.getfield 11, 3) := by decide +kernel
theorem dX8_vanishes_25 : decode cX8_vanishes 25 = .ok (.iload_n 1, 1) := by decide +kernel
theorem dX8_vanishes_26 : decode cX8_vanishes 26 = .ok (.aaload, 1) := by decide +kernel
theorem dX8_vanishes_27 : decode cX8_vanishes 27 = .ok (.invokevirtual 148, 3) := by decide +kernel
theorem dX8_vanishes_30 : decode cX8_vanishes 30 = .ok (.ifCond .eq 7, 3) := by decide +kernel
theorem dX8_vanishes_33 : decode cX8_vanishes 33 = .ok (.iconst 1, 1) := by decide +kernel
theorem dX8_vanishes_34 : decode cX8_vanishes 34 = .ok (.goto 4, 3) := by decide +kernel
theorem dX8_vanishes_37 : decode cX8_vanishes 37 = .ok (.iconst 0, 1) := by decide +kernel
theorem dX8_vanishes_38 : decode cX8_vanishes 38 = .ok (.invokevirtual 106, 3) := by decide +kernel
theorem dX8_vanishes_41 : decode cX8_vanishes 41 = .ok (.ireturn, 1) := by decide +kernel
theorem dX8_supports_0 : decode cX8_supports 0 = .ok (.iload_n 1, 1) := by decide +kernel
theorem dX8_supports_1 : decode cX8_supports 1 = .ok (.invokestatic 117, 3) := by decide +kernel
theorem dX8_supports_4 : decode cX8_supports 4 = .ok (.ifCond .ne 9, 3) := by decide +kernel
theorem dX8_supports_7 : decode cX8_supports 7 = .ok (.aload_n 0, 1) := by decide +kernel
theorem dX8_supports_8 : decode cX8_supports 8 = .ok (.iconst 3, 1) := by decide +kernel
theorem dX8_supports_9 : decode cX8_supports 9 = .ok (.invokevirtual 100, 3) := by decide +kernel
theorem dX8_supports_12 : decode cX8_supports 12 = .ok (.ireturn, 1) := by decide +kernel
theorem dX8_supports_13 : decode cX8_supports 13 = .ok (.aload_n 0, 1) := by decide +kernel
theorem dX8_supports_14 : decode cX8_supports 14 = .ok (.aload_n 0, 1) := by decide +kernel
theorem dX8_supports_15 : decode cX8_supports 15 = .ok (.getfield 36, 3) := by decide +kernel
theorem dX8_supports_18 : decode cX8_supports 18 = .ok (.iload_n 1, 1) := by decide +kernel
theorem dX8_supports_19 : decode cX8_supports 19 = .ok (.invokevirtual 151, 3) := by decide +kernel
theorem dX8_supports_22 : decode cX8_supports 22 = .ok (.invokevirtual 106, 3) := by decide +kernel
theorem dX8_supports_25 : decode cX8_supports 25 = .ok (.ireturn, 1) := by decide +kernel
theorem dX8_begin_0 : decode cX8_begin 0 = .ok (.aload_n 0, 1) := by decide +kernel
theorem dX8_begin_1 : decode cX8_begin 1 = .ok (.iload_n 1, 1) := by decide +kernel
theorem dX8_begin_2 : decode cX8_begin 2 = .ok (.invokevirtual 92, 3) := by decide +kernel
theorem dX8_begin_5 : decode cX8_begin 5 = .ok (.istore_n 2, 1) := by decide +kernel
theorem dX8_begin_6 : decode cX8_begin 6 = .ok (.iload_n 2, 1) := by decide +kernel
theorem dX8_begin_7 : decode cX8_begin 7 = .ok (.ifCond .eq 9, 3) := by decide +kernel
theorem dX8_begin_10 : decode cX8_begin 10 = .ok (.aload_n 0, 1) := by decide +kernel
theorem dX8_begin_11 : decode cX8_begin 11 = .ok (.iload_n 2, 1) := by decide +kernel
theorem dX8_begin_12 : decode cX8_begin 12 = .ok (.invokevirtual 67, 3) := by decide +kernel
theorem dX8_begin_15 : decode cX8_begin 15 = .ok (.ireturn, 1) := by decide +kernel
theorem dX8_begin_16 : decode cX8_begin 16 = .ok (.aload_n 0, 1) := by decide +kernel
theorem dX8_begin_17 : decode cX8_begin 17 = .ok (.getfield 29, 3) := by decide +kernel
theorem dX8_begin_20 : decode cX8_begin 20 = .ok (.aload_n 0, 1) := by decide +kernel
theorem dX8_begin_21 : decode cX8_begin 21 = .ok (.getfield 11, 3) := by decide +kernel
theorem dX8_begin_24 : decode cX8_begin 24 = .ok (.iload_n 1, 1) := by decide +kernel
theorem dX8_begin_25 : decode cX8_begin 25 = .ok (.aaload, 1) := by decide +kernel
theorem dX8_begin_26 : decode cX8_begin 26 = .ok (.invokevirtual 84, 3) := by decide +kernel
theorem dX8_begin_29 : decode cX8_begin 29 = .ok (.ifCond .gt 9, 3) := by decide +kernel
theorem dX8_begin_32 : decode cX8_begin 32 = .ok (.aload_n 0, 1) := by decide +kernel
theorem dX8_begin_33 : decode cX8_begin 33 = .ok (.iconst 5, 1) := by decide +kernel
theorem dX8_begin_34 : decode cX8_begin 34 = .ok (.invokevirtual 67, 3) := by decide +kernel
theorem dX8_begin_37 : decode cX8_begin 37 = .ok (.ireturn, 1) := by decide +kernel
theorem dX8_begin_38 : decode cX8_begin 38 = .ok (.aload_n 0, 1) := by decide +kernel
theorem dX8_begin_39 : decode cX8_begin 39 = .ok (.getfield 45, 3) := by decide +kernel
theorem dX8_begin_42 : decode cX8_begin 42 = .ok (.aload_n 0, 1) := by decide +kernel
theorem dX8_begin_43 : decode cX8_begin 43 = .ok (.getfield 11, 3) := by decide +kernel
theorem dX8_begin_46 : decode cX8_begin 46 = .ok (.iload_n 1, 1) := by decide +kernel
theorem dX8_begin_47 : decode cX8_begin 47 = .ok (.aaload, 1) := by decide +kernel
theorem dX8_begin_48 : decode cX8_begin 48 = .ok (.invokevirtual 154, 3) := by decide +kernel
theorem dX8_begin_51 : decode cX8_begin 51 = .ok (.aload_n 0, 1) := by decide +kernel
theorem dX8_begin_52 : decode cX8_begin 52 = .ok (.invokevirtual 96, 3) := by decide +kernel
theorem dX8_begin_55 : decode cX8_begin 55 = .ok (.ireturn, 1) := by decide +kernel
theorem dX8_note_0 : decode cX8_note 0 = .ok (.aload_n 0, 1) := by decide +kernel
theorem dX8_note_1 : decode cX8_note 1 = .ok (.iload_n 1, 1) := by decide +kernel
theorem dX8_note_2 : decode cX8_note 2 = .ok (.invokevirtual 92, 3) := by decide +kernel
theorem dX8_note_5 : decode cX8_note 5 = .ok (.istore_n 2, 1) := by decide +kernel
theorem dX8_note_6 : decode cX8_note 6 = .ok (.iload_n 2, 1) := by decide +kernel
theorem dX8_note_7 : decode cX8_note 7 = .ok (.ifCond .eq 9, 3) := by decide +kernel
theorem dX8_note_10 : decode cX8_note 10 = .ok (.aload_n 0, 1) := by decide +kernel
theorem dX8_note_11 : decode cX8_note 11 = .ok (.iload_n 2, 1) := by decide +kernel
theorem dX8_note_12 : decode cX8_note 12 = .ok (.invokevirtual 100, 3) := by decide +kernel
theorem dX8_note_15 : decode cX8_note 15 = .ok (.ireturn, 1) := by decide +kernel
theorem dX8_note_16 : decode cX8_note 16 = .ok (.aload_n 0, 1) := by decide +kernel
theorem dX8_note_17 : decode cX8_note 17 = .ok (.getfield 45, 3) := by decide +kernel
theorem dX8_note_20 : decode cX8_note 20 = .ok (.invokevirtual 158, 3) := by decide +kernel
theorem dX8_note_23 : decode cX8_note 23 = .ok (.ifCond .ne 10, 3) := by decide +kernel
theorem dX8_note_26 : decode cX8_note 26 = .ok (.aload_n 0, 1) := by decide +kernel
theorem dX8_note_27 : decode cX8_note 27 = .ok (.bipush 7, 2) := by decide +kernel
theorem dX8_note_29 : decode cX8_note 29 = .ok (.invokevirtual 100, 3) := by decide +kernel
theorem dX8_note_32 : decode cX8_note 32 = .ok (.ireturn, 1) := by decide +kernel
theorem dX8_note_33 : decode cX8_note 33 = .ok (.aload_n 0, 1) := by decide +kernel
theorem dX8_note_34 : decode cX8_note 34 = .ok (.getfield 29, 3) := by decide +kernel
theorem dX8_note_37 : decode cX8_note 37 = .ok (.aload_n 0, 1) := by decide +kernel
theorem dX8_note_38 : decode cX8_note 38 = .ok (.getfield 11, 3) := by decide +kernel
theorem dX8_note_41 : decode cX8_note 41 = .ok (.iload_n 1, 1) := by decide +kernel
theorem dX8_note_42 : decode cX8_note 42 = .ok (.aaload, 1) := by decide +kernel
theorem dX8_note_43 : decode cX8_note 43 = .ok (.aload_n 0, 1) := by decide +kernel
theorem dX8_note_44 : decode cX8_note 44 = .ok (.getfield 45, 3) := by decide +kernel
theorem dX8_note_47 : decode cX8_note 47 = .ok (.getfield 161, 3) := by decide +kernel
theorem dX8_note_50 : decode cX8_note 50 = .ok (.aload_n 0, 1) := by decide +kernel
theorem dX8_note_51 : decode cX8_note 51 = .ok (.getfield 18, 3) := by decide +kernel
theorem dX8_note_54 : decode cX8_note 54 = .ok (.invokevirtual 88, 3) := by decide +kernel
theorem dX8_note_57 : decode cX8_note 57 = .ok (.ifCond .ne 9, 3) := by decide +kernel
theorem dX8_note_60 : decode cX8_note 60 = .ok (.aload_n 0, 1) := by decide +kernel
theorem dX8_note_61 : decode cX8_note 61 = .ok (.iconst 4, 1) := by decide +kernel
theorem dX8_note_62 : decode cX8_note 62 = .ok (.invokevirtual 100, 3) := by decide +kernel
theorem dX8_note_65 : decode cX8_note 65 = .ok (.ireturn, 1) := by decide +kernel
theorem dX8_note_66 : decode cX8_note 66 = .ok (.aload_n 0, 1) := by decide +kernel
theorem dX8_note_67 : decode cX8_note 67 = .ok (.getfield 45, 3) := by decide +kernel
theorem dX8_note_70 : decode cX8_note 70 = .ok (.getfield 164, 3) := by decide +kernel
theorem dX8_note_73 : decode cX8_note 73 = .ok (.aload_n 0, 1) := by decide +kernel
theorem dX8_note_74 : decode cX8_note 74 = .ok (.getfield 18, 3) := by decide +kernel
theorem dX8_note_77 : decode cX8_note 77 = .ok (.invokevirtual 168, 3) := by decide +kernel
theorem dX8_note_80 : decode cX8_note 80 = .ok (.ifCond .eq 10, 3) := by decide +kernel
theorem dX8_note_83 : decode cX8_note 83 = .ok (.aload_n 0, 1) := by decide +kernel
theorem dX8_note_84 : decode cX8_note 84 = .ok (.bipush 8, 2) := by decide +kernel
theorem dX8_note_86 : decode cX8_note 86 = .ok (.invokevirtual 100, 3) := by decide +kernel
theorem dX8_note_89 : decode cX8_note 89 = .ok (.ireturn, 1) := by decide +kernel
theorem dX8_note_90 : decode cX8_note 90 = .ok (.aload_n 0, 1) := by decide +kernel
theorem dX8_note_91 : decode cX8_note 91 = .ok (.getfield 45, 3) := by decide +kernel
theorem dX8_note_94 : decode cX8_note 94 = .ok (.getfield 164, 3) := by decide +kernel
theorem dX8_note_97 : decode cX8_note 97 = .ok (.invokevirtual 173, 3) := by decide +kernel
theorem dX8_note_100 : decode cX8_note 100 = .ok (.ifCond .eq 10, 3) := by decide +kernel
theorem dX8_note_103 : decode cX8_note 103 = .ok (.aload_n 0, 1) := by decide +kernel
theorem dX8_note_104 : decode cX8_note 104 = .ok (.bipush 6, 2) := by decide +kernel
theorem dX8_note_106 : decode cX8_note 106 = .ok (.invokevirtual 100, 3) := by decide +kernel
theorem dX8_note_109 : decode cX8_note 109 = .ok (.ireturn, 1) := by decide +kernel
theorem dX8_note_110 : decode cX8_note 110 = .ok (.aload_n 0, 1) := by decide +kernel
theorem dX8_note_111 : decode cX8_note 111 = .ok (.aload_n 0, 1) := by decide +kernel
theorem dX8_note_112 : decode cX8_note 112 = .ok (.getfield 45, 3) := by decide +kernel
theorem dX8_note_115 : decode cX8_note 115 = .ok (.getfield 164, 3) := by decide +kernel
theorem dX8_note_118 : decode cX8_note 118 = .ok (.aload_n 0, 1) := by decide +kernel
theorem dX8_note_119 : decode cX8_note 119 = .ok (.getfield 45, 3) := by decide +kernel
theorem dX8_note_122 : decode cX8_note 122 = .ok (.getfield 164, 3) := by decide +kernel
theorem dX8_note_125 : decode cX8_note 125 = .ok (.aload_n 0, 1) := by decide +kernel
theorem dX8_note_126 : decode cX8_note 126 = .ok (.getfield 18, 3) := by decide +kernel
theorem dX8_note_129 : decode cX8_note 129 = .ok (.aload_n 0, 1) := by decide +kernel
theorem dX8_note_130 : decode cX8_note 130 = .ok (.getfield 29, 3) := by decide +kernel
theorem dX8_note_133 : decode cX8_note 133 = .ok (.invokevirtual 176, 3) := by decide +kernel
theorem dX8_note_136 : decode cX8_note 136 = .ok (.aload_n 0, 1) := by decide +kernel
theorem dX8_note_137 : decode cX8_note 137 = .ok (.getfield 18, 3) := by decide +kernel
theorem dX8_note_140 : decode cX8_note 140 = .ok (.invokevirtual 180, 3) := by decide +kernel
theorem dX8_note_143 : decode cX8_note 143 = .ok (.invokevirtual 106, 3) := by decide +kernel
theorem dX8_note_146 : decode cX8_note 146 = .ok (.ireturn, 1) := by decide +kernel
theorem dX8_lay_0 : decode cX8_lay 0 = .ok (.iload_n 1, 1) := by decide +kernel
theorem dX8_lay_1 : decode cX8_lay 1 = .ok (.invokestatic 63, 3) := by decide +kernel
theorem dX8_lay_4 : decode cX8_lay 4 = .ok (.ifCond .eq 10, 3) := by decide +kernel
theorem dX8_lay_7 : decode cX8_lay 7 = .ok (.iload_n 2, 1) := by decide +kernel
theorem dX8_lay_8 : decode cX8_lay 8 = .ok (.invokestatic 63, 3) := by decide +kernel
theorem dX8_lay_11 : decode cX8_lay 11 = .ok (.ifCond .ne 9, 3) := by decide +kernel
theorem dX8_lay_14 : decode cX8_lay 14 = .ok (.aload_n 0, 1) := by decide +kernel
theorem dX8_lay_15 : decode cX8_lay 15 = .ok (.iconst 1, 1) := by decide +kernel
theorem dX8_lay_16 : decode cX8_lay 16 = .ok (.invokevirtual 67, 3) := by decide +kernel
theorem dX8_lay_19 : decode cX8_lay 19 = .ok (.ireturn, 1) := by decide +kernel
theorem dX8_lay_20 : decode cX8_lay 20 = .ok (.aload_n 0, 1) := by decide +kernel
theorem dX8_lay_21 : decode cX8_lay 21 = .ok (.getfield 14, 3) := by decide +kernel
theorem dX8_lay_24 : decode cX8_lay 24 = .ok (.iload_n 1, 1) := by decide +kernel
theorem dX8_lay_25 : decode cX8_lay 25 = .ok (.baload, 1) := by decide +kernel
theorem dX8_lay_26 : decode cX8_lay 26 = .ok (.ifCond .eq 12, 3) := by decide +kernel
theorem dX8_lay_29 : decode cX8_lay 29 = .ok (.aload_n 0, 1) := by decide +kernel
theorem dX8_lay_30 : decode cX8_lay 30 = .ok (.getfield 14, 3) := by decide +kernel
theorem dX8_lay_33 : decode cX8_lay 33 = .ok (.iload_n 2, 1) := by decide +kernel
theorem dX8_lay_34 : decode cX8_lay 34 = .ok (.baload, 1) := by decide +kernel
theorem dX8_lay_35 : decode cX8_lay 35 = .ok (.ifCond .ne 9, 3) := by decide +kernel
theorem dX8_lay_38 : decode cX8_lay 38 = .ok (.aload_n 0, 1) := by decide +kernel
theorem dX8_lay_39 : decode cX8_lay 39 = .ok (.iconst 2, 1) := by decide +kernel
theorem dX8_lay_40 : decode cX8_lay 40 = .ok (.invokevirtual 67, 3) := by decide +kernel
theorem dX8_lay_43 : decode cX8_lay 43 = .ok (.ireturn, 1) := by decide +kernel
theorem dX8_lay_44 : decode cX8_lay 44 = .ok (.iload_n 3, 1) := by decide +kernel
theorem dX8_lay_45 : decode cX8_lay 45 = .ok (.iconst 1, 1) := by decide +kernel
theorem dX8_lay_46 : decode cX8_lay 46 = .ok (.if_icmp .lt 9, 3) := by decide +kernel
theorem dX8_lay_49 : decode cX8_lay 49 = .ok (.iload_n 3, 1) := by decide +kernel
theorem dX8_lay_50 : decode cX8_lay 50 = .ok (.bipush 24, 2) := by decide +kernel
theorem dX8_lay_52 : decode cX8_lay 52 = .ok (.if_icmp .le 9, 3) := by decide +kernel
theorem dX8_lay_55 : decode cX8_lay 55 = .ok (.aload_n 0, 1) := by decide +kernel
theorem dX8_lay_56 : decode cX8_lay 56 = .ok (.iconst 3, 1) := by decide +kernel
theorem dX8_lay_57 : decode cX8_lay 57 = .ok (.invokevirtual 67, 3) := by decide +kernel
theorem dX8_lay_60 : decode cX8_lay 60 = .ok (.ireturn, 1) := by decide +kernel
theorem dX8_lay_61 : decode cX8_lay 61 = .ok (.aload_n 0, 1) := by decide +kernel
theorem dX8_lay_62 : decode cX8_lay 62 = .ok (.getfield 29, 3) := by decide +kernel
theorem dX8_lay_65 : decode cX8_lay 65 = .ok (.aload_n 0, 1) := by decide +kernel
theorem dX8_lay_66 : decode cX8_lay 66 = .ok (.getfield 11, 3) := by decide +kernel
theorem dX8_lay_69 : decode cX8_lay 69 = .ok (.iload_n 1, 1) := by decide +kernel
theorem dX8_lay_70 : decode cX8_lay 70 = .ok (.aaload, 1) := by decide +kernel
theorem dX8_lay_71 : decode cX8_lay 71 = .ok (.invokevirtual 84, 3) := by decide +kernel
theorem dX8_lay_74 : decode cX8_lay 74 = .ok (.ifCond .gt 9, 3) := by decide +kernel
theorem dX8_lay_77 : decode cX8_lay 77 = .ok (.aload_n 0, 1) := by decide +kernel
theorem dX8_lay_78 : decode cX8_lay 78 = .ok (.iconst 5, 1) := by decide +kernel
theorem dX8_lay_79 : decode cX8_lay 79 = .ok (.invokevirtual 67, 3) := by decide +kernel
theorem dX8_lay_82 : decode cX8_lay 82 = .ok (.ireturn, 1) := by decide +kernel
theorem dX8_lay_83 : decode cX8_lay 83 = .ok (.aload_n 0, 1) := by decide +kernel
theorem dX8_lay_84 : decode cX8_lay 84 = .ok (.getfield 45, 3) := by decide +kernel
theorem dX8_lay_87 : decode cX8_lay 87 = .ok (.aload_n 0, 1) := by decide +kernel
theorem dX8_lay_88 : decode cX8_lay 88 = .ok (.getfield 11, 3) := by decide +kernel
theorem dX8_lay_91 : decode cX8_lay 91 = .ok (.iload_n 1, 1) := by decide +kernel
theorem dX8_lay_92 : decode cX8_lay 92 = .ok (.aaload, 1) := by decide +kernel
theorem dX8_lay_93 : decode cX8_lay 93 = .ok (.aload_n 0, 1) := by decide +kernel
theorem dX8_lay_94 : decode cX8_lay 94 = .ok (.getfield 11, 3) := by decide +kernel
theorem dX8_lay_97 : decode cX8_lay 97 = .ok (.iload_n 2, 1) := by decide +kernel
theorem dX8_lay_98 : decode cX8_lay 98 = .ok (.aaload, 1) := by decide +kernel
theorem dX8_lay_99 : decode cX8_lay 99 = .ok (.iload_n 3, 1) := by decide +kernel
theorem dX8_lay_100 : decode cX8_lay 100 = .ok (.invokevirtual 184, 3) := by decide +kernel
theorem dX8_lay_103 : decode cX8_lay 103 = .ok (.istore 4, 2) := by decide +kernel
theorem dX8_lay_105 : decode cX8_lay 105 = .ok (.iload 4, 2) := by decide +kernel
theorem dX8_lay_107 : decode cX8_lay 107 = .ok (.ifCond .ne 10, 3) := by decide +kernel
theorem dX8_lay_110 : decode cX8_lay 110 = .ok (.aload_n 0, 1) := by decide +kernel
theorem dX8_lay_111 : decode cX8_lay 111 = .ok (.invokevirtual 96, 3) := by decide +kernel
theorem dX8_lay_114 : decode cX8_lay 114 = .ok (.goto 9, 3) := by decide +kernel
theorem dX8_lay_117 : decode cX8_lay 117 = .ok (.aload_n 0, 1) := by decide +kernel
theorem dX8_lay_118 : decode cX8_lay 118 = .ok (.iload 4, 2) := by decide +kernel
theorem dX8_lay_120 : decode cX8_lay 120 = .ok (.invokevirtual 67, 3) := by decide +kernel
theorem dX8_lay_123 : decode cX8_lay 123 = .ok (.ireturn, 1) := by decide +kernel
theorem dX8_take_0 : decode cX8_take 0 = .ok (.iload_n 2, 1) := by decide +kernel
theorem dX8_take_1 : decode cX8_take 1 = .ok (.invokestatic 63, 3) := by decide +kernel
theorem dX8_take_4 : decode cX8_take 4 = .ok (.ifCond .ne 9, 3) := by decide +kernel
theorem dX8_take_7 : decode cX8_take 7 = .ok (.aload_n 0, 1) := by decide +kernel
theorem dX8_take_8 : decode cX8_take 8 = .ok (.iconst 1, 1) := by decide +kernel
theorem dX8_take_9 : decode cX8_take 9 = .ok (.invokevirtual 67, 3) := by decide +kernel
theorem dX8_take_12 : decode cX8_take 12 = .ok (.ireturn, 1) := by decide +kernel
theorem dX8_take_13 : decode cX8_take 13 = .ok (.aload_n 0, 1) := by decide +kernel
theorem dX8_take_14 : decode cX8_take 14 = .ok (.getfield 45, 3) := by decide +kernel
theorem dX8_take_17 : decode cX8_take 17 = .ok (.invokevirtual 158, 3) := by decide +kernel
theorem dX8_take_20 : decode cX8_take 20 = .ok (.ifCond .ne 10, 3) := by decide +kernel
theorem dX8_take_23 : decode cX8_take 23 = .ok (.aload_n 0, 1) := by decide +kernel
theorem dX8_take_24 : decode cX8_take 24 = .ok (.bipush 7, 2) := by decide +kernel
theorem dX8_take_26 : decode cX8_take 26 = .ok (.invokevirtual 67, 3) := by decide +kernel
theorem dX8_take_29 : decode cX8_take 29 = .ok (.ireturn, 1) := by decide +kernel
theorem dX8_take_30 : decode cX8_take 30 = .ok (.iload_n 1, 1) := by decide +kernel
theorem dX8_take_31 : decode cX8_take 31 = .ok (.ifCond .lt 17, 3) := by decide +kernel
theorem dX8_take_34 : decode cX8_take 34 = .ok (.iload_n 1, 1) := by decide +kernel
theorem dX8_take_35 : decode cX8_take 35 = .ok (.aload_n 0, 1) := by decide +kernel
theorem dX8_take_36 : decode cX8_take 36 = .ok (.getfield 45, 3) := by decide +kernel
theorem dX8_take_39 : decode cX8_take 39 = .ok (.getfield 164, 3) := by decide +kernel
theorem dX8_take_42 : decode cX8_take 42 = .ok (.getfield 188, 3) := by decide +kernel
theorem dX8_take_45 : decode cX8_take 45 = .ok (.if_icmp .le 9, 3) := by decide +kernel
theorem dX8_take_48 : decode cX8_take 48 = .ok (.aload_n 0, 1) := by decide +kernel
theorem dX8_take_49 : decode cX8_take 49 = .ok (.iconst 3, 1) := by decide +kernel
theorem dX8_take_50 : decode cX8_take 50 = .ok (.invokevirtual 67, 3) := by decide +kernel
theorem dX8_take_53 : decode cX8_take 53 = .ok (.ireturn, 1) := by decide +kernel
theorem dX8_take_54 : decode cX8_take 54 = .ok (.aload_n 0, 1) := by decide +kernel
theorem dX8_take_55 : decode cX8_take 55 = .ok (.getfield 45, 3) := by decide +kernel
theorem dX8_take_58 : decode cX8_take 58 = .ok (.iload_n 1, 1) := by decide +kernel
theorem dX8_take_59 : decode cX8_take 59 = .ok (.aload_n 0, 1) := by decide +kernel
theorem dX8_take_60 : decode cX8_take 60 = .ok (.getfield 18, 3) := by decide +kernel
theorem dX8_take_63 : decode cX8_take 63 = .ok (.invokevirtual 189, 3) := by decide +kernel
theorem dX8_take_66 : decode cX8_take 66 = .ok (.aload_n 0, 1) := by decide +kernel
theorem dX8_take_67 : decode cX8_take 67 = .ok (.iload_n 2, 1) := by decide +kernel
theorem dX8_take_68 : decode cX8_take 68 = .ok (.invokevirtual 70, 3) := by decide +kernel
theorem dX8_take_71 : decode cX8_take 71 = .ok (.ireturn, 1) := by decide +kernel
theorem dX8_scale_0 : decode cX8_scale 0 = .ok (.aload_n 0, 1) := by decide +kernel
theorem dX8_scale_1 : decode cX8_scale 1 = .ok (.getfield 45, 3) := by decide +kernel
theorem dX8_scale_4 : decode cX8_scale 4 = .ok (.invokevirtual 158, 3) := by decide +kernel
theorem dX8_scale_7 : decode cX8_scale 7 = .ok (.ifCond .ne 10, 3) := by decide +kernel
theorem dX8_scale_10 : decode cX8_scale 10 = .ok (.aload_n 0, 1) := by decide +kernel
theorem dX8_scale_11 : decode cX8_scale 11 = .ok (.bipush 7, 2) := by decide +kernel
theorem dX8_scale_13 : decode cX8_scale 13 = .ok (.invokevirtual 100, 3) := by decide +kernel
theorem dX8_scale_16 : decode cX8_scale 16 = .ok (.ireturn, 1) := by decide +kernel
theorem dX8_scale_17 : decode cX8_scale 17 = .ok (.iload_n 1, 1) := by decide +kernel
theorem dX8_scale_18 : decode cX8_scale 18 = .ok (.tableswitch 131 0 4 #[34, 49, 69, 89, 110], 34) := by decide +kernel
theorem dX8_scale_52 : decode cX8_scale 52 = .ok (.aload_n 0, 1) := by decide +kernel
theorem dX8_scale_53 : decode cX8_scale 53 = .ok (.aload_n 0, 1) := by decide +kernel
theorem dX8_scale_54 : decode cX8_scale 54 = .ok (.getfield 45, 3) := by decide +kernel
theorem dX8_scale_57 : decode cX8_scale 57 = .ok (.getfield 164, 3) := by decide +kernel
theorem dX8_scale_60 : decode cX8_scale 60 = .ok (.getfield 188, 3) := by decide +kernel
theorem dX8_scale_63 : decode cX8_scale 63 = .ok (.invokevirtual 106, 3) := by decide +kernel
theorem dX8_scale_66 : decode cX8_scale 66 = .ok (.ireturn, 1) := by decide +kernel
theorem dX8_scale_67 : decode cX8_scale 67 = .ok (.aload_n 0, 1) := by decide +kernel
theorem dX8_scale_68 : decode cX8_scale 68 = .ok (.aload_n 0, 1) := by decide +kernel
theorem dX8_scale_69 : decode cX8_scale 69 = .ok (.getfield 45, 3) := by decide +kernel
theorem dX8_scale_72 : decode cX8_scale 72 = .ok (.invokevirtual 193, 3) := by decide +kernel
theorem dX8_scale_75 : decode cX8_scale 75 = .ok (.ifCond .eq 7, 3) := by decide +kernel
theorem dX8_scale_78 : decode cX8_scale 78 = .ok (.iconst 1, 1) := by decide +kernel
theorem dX8_scale_79 : decode cX8_scale 79 = .ok (.goto 4, 3) := by decide +kernel
theorem dX8_scale_82 : decode cX8_scale 82 = .ok (.iconst 0, 1) := by decide +kernel
theorem dX8_scale_83 : decode cX8_scale 83 = .ok (.invokevirtual 106, 3) := by decide +kernel
theorem dX8_scale_86 : decode cX8_scale 86 = .ok (.ireturn, 1) := by decide +kernel
theorem dX8_scale_87 : decode cX8_scale 87 = .ok (.aload_n 0, 1) := by decide +kernel
theorem dX8_scale_88 : decode cX8_scale 88 = .ok (.aload_n 0, 1) := by decide +kernel
theorem dX8_scale_89 : decode cX8_scale 89 = .ok (.getfield 45, 3) := by decide +kernel
theorem dX8_scale_92 : decode cX8_scale 92 = .ok (.invokevirtual 196, 3) := by decide +kernel
theorem dX8_scale_95 : decode cX8_scale 95 = .ok (.ifCond .eq 7, 3) := by decide +kernel
theorem dX8_scale_98 : decode cX8_scale 98 = .ok (.iconst 1, 1) := by decide +kernel
theorem dX8_scale_99 : decode cX8_scale 99 = .ok (.goto 4, 3) := by decide +kernel
theorem dX8_scale_102 : decode cX8_scale 102 = .ok (.iconst 0, 1) := by decide +kernel
theorem dX8_scale_103 : decode cX8_scale 103 = .ok (.invokevirtual 106, 3) := by decide +kernel
theorem dX8_scale_106 : decode cX8_scale 106 = .ok (.ireturn, 1) := by decide +kernel
theorem dX8_scale_107 : decode cX8_scale 107 = .ok (.aload_n 0, 1) := by decide +kernel
theorem dX8_scale_108 : decode cX8_scale 108 = .ok (.aload_n 0, 1) := by decide +kernel
theorem dX8_scale_109 : decode cX8_scale 109 = .ok (.getfield 45, 3) := by decide +kernel
theorem dX8_scale_112 : decode cX8_scale 112 = .ok (.iconst 0, 1) := by decide +kernel
theorem dX8_scale_113 : decode cX8_scale 113 = .ok (.invokevirtual 199, 3) := by decide +kernel
theorem dX8_scale_116 : decode cX8_scale 116 = .ok (.ifCond .eq 7, 3) := by decide +kernel
theorem dX8_scale_119 : decode cX8_scale 119 = .ok (.iconst 1, 1) := by decide +kernel
theorem dX8_scale_120 : decode cX8_scale 120 = .ok (.goto 4, 3) := by decide +kernel
theorem dX8_scale_123 : decode cX8_scale 123 = .ok (.iconst 0, 1) := by decide +kernel
theorem dX8_scale_124 : decode cX8_scale 124 = .ok (.invokevirtual 106, 3) := by decide +kernel
theorem dX8_scale_127 : decode cX8_scale 127 = .ok (.ireturn, 1) := by decide +kernel
theorem dX8_scale_128 : decode cX8_scale 128 = .ok (.aload_n 0, 1) := by decide +kernel
theorem dX8_scale_129 : decode cX8_scale 129 = .ok (.aload_n 0, 1) := by decide +kernel
theorem dX8_scale_130 : decode cX8_scale 130 = .ok (.getfield 45, 3) := by decide +kernel
theorem dX8_scale_133 : decode cX8_scale 133 = .ok (.iconst 1, 1) := by decide +kernel
theorem dX8_scale_134 : decode cX8_scale 134 = .ok (.invokevirtual 199, 3) := by decide +kernel
theorem dX8_scale_137 : decode cX8_scale 137 = .ok (.ifCond .eq 7, 3) := by decide +kernel
theorem dX8_scale_140 : decode cX8_scale 140 = .ok (.iconst 1, 1) := by decide +kernel
theorem dX8_scale_141 : decode cX8_scale 141 = .ok (.goto 4, 3) := by decide +kernel
theorem dX8_scale_144 : decode cX8_scale 144 = .ok (.iconst 0, 1) := by decide +kernel
theorem dX8_scale_145 : decode cX8_scale 145 = .ok (.invokevirtual 106, 3) := by decide +kernel
theorem dX8_scale_148 : decode cX8_scale 148 = .ok (.ireturn, 1) := by decide +kernel
theorem dX8_scale_149 : decode cX8_scale 149 = .ok (.aload_n 0, 1) := by decide +kernel
theorem dX8_scale_150 : decode cX8_scale 150 = .ok (.iconst 3, 1) := by decide +kernel
theorem dX8_scale_151 : decode cX8_scale 151 = .ok (.invokevirtual 100, 3) := by decide +kernel
theorem dX8_scale_154 : decode cX8_scale 154 = .ok (.ireturn, 1) := by decide +kernel
theorem dX8_kinds_0 : decode cX8_kinds 0 = .ok (.aload_n 0, 1) := by decide +kernel
theorem dX8_kinds_1 : decode cX8_kinds 1 = .ok (.getfield 45, 3) := by decide +kernel
theorem dX8_kinds_4 : decode cX8_kinds 4 = .ok (.invokevirtual 158, 3) := by decide +kernel
theorem dX8_kinds_7 : decode cX8_kinds 7 = .ok (.ifCond .ne 10, 3) := by decide +kernel
theorem dX8_kinds_10 : decode cX8_kinds 10 = .ok (.aload_n 0, 1) := by decide +kernel
theorem dX8_kinds_11 : decode cX8_kinds 11 = .ok (.bipush 7, 2) := by decide +kernel
theorem dX8_kinds_13 : decode cX8_kinds 13 = .ok (.invokevirtual 100, 3) := by decide +kernel
theorem dX8_kinds_16 : decode cX8_kinds 16 = .ok (.ireturn, 1) := by decide +kernel
theorem dX8_kinds_17 : decode cX8_kinds 17 = .ok (.iload_n 1, 1) := by decide +kernel
theorem dX8_kinds_18 : decode cX8_kinds 18 = .ok (.iconst 1, 1) := by decide +kernel
theorem dX8_kinds_19 : decode cX8_kinds 19 = .ok (.if_icmp .lt 17, 3) := by decide +kernel
theorem dX8_kinds_22 : decode cX8_kinds 22 = .ok (.iload_n 1, 1) := by decide +kernel
theorem dX8_kinds_23 : decode cX8_kinds 23 = .ok (.aload_n 0, 1) := by decide +kernel
theorem dX8_kinds_24 : decode cX8_kinds 24 = .ok (.getfield 45, 3) := by decide +kernel
theorem dX8_kinds_27 : decode cX8_kinds 27 = .ok (.getfield 164, 3) := by decide +kernel
theorem dX8_kinds_30 : decode cX8_kinds 30 = .ok (.getfield 188, 3) := by decide +kernel
theorem dX8_kinds_33 : decode cX8_kinds 33 = .ok (.if_icmp .le 9, 3) := by decide +kernel
theorem dX8_kinds_36 : decode cX8_kinds 36 = .ok (.aload_n 0, 1) := by decide +kernel
theorem dX8_kinds_37 : decode cX8_kinds 37 = .ok (.iconst 3, 1) := by decide +kernel
theorem dX8_kinds_38 : decode cX8_kinds 38 = .ok (.invokevirtual 100, 3) := by decide +kernel
theorem dX8_kinds_41 : decode cX8_kinds 41 = .ok (.ireturn, 1) := by decide +kernel
theorem dX8_kinds_42 : decode cX8_kinds 42 = .ok (.aload_n 0, 1) := by decide +kernel
theorem dX8_kinds_43 : decode cX8_kinds 43 = .ok (.aload_n 0, 1) := by decide +kernel
theorem dX8_kinds_44 : decode cX8_kinds 44 = .ok (.getfield 45, 3) := by decide +kernel
theorem dX8_kinds_47 : decode cX8_kinds 47 = .ok (.iload_n 1, 1) := by decide +kernel
theorem dX8_kinds_48 : decode cX8_kinds 48 = .ok (.invokevirtual 203, 3) := by decide +kernel
theorem dX8_kinds_51 : decode cX8_kinds 51 = .ok (.invokevirtual 106, 3) := by decide +kernel
theorem dX8_kinds_54 : decode cX8_kinds 54 = .ok (.ireturn, 1) := by decide +kernel
theorem dX8_step_0 : decode cX8_step 0 = .ok (.iload_n 3, 1) := by decide +kernel
theorem dX8_step_1 : decode cX8_step 1 = .ok (.invokestatic 63, 3) := by decide +kernel
theorem dX8_step_4 : decode cX8_step 4 = .ok (.ifCond .ne 9, 3) := by decide +kernel
theorem dX8_step_7 : decode cX8_step 7 = .ok (.aload_n 0, 1) := by decide +kernel
theorem dX8_step_8 : decode cX8_step 8 = .ok (.iconst 1, 1) := by decide +kernel
theorem dX8_step_9 : decode cX8_step 9 = .ok (.invokevirtual 100, 3) := by decide +kernel
theorem dX8_step_12 : decode cX8_step 12 = .ok (.ireturn, 1) := by decide +kernel
theorem dX8_step_13 : decode cX8_step 13 = .ok (.aload_n 0, 1) := by decide +kernel
theorem dX8_step_14 : decode cX8_step 14 = .ok (.getfield 45, 3) := by decide +kernel
theorem dX8_step_17 : decode cX8_step 17 = .ok (.invokevirtual 158, 3) := by decide +kernel
theorem dX8_step_20 : decode cX8_step 20 = .ok (.ifCond .ne 10, 3) := by decide +kernel
theorem dX8_step_23 : decode cX8_step 23 = .ok (.aload_n 0, 1) := by decide +kernel
theorem dX8_step_24 : decode cX8_step 24 = .ok (.bipush 7, 2) := by decide +kernel
theorem dX8_step_26 : decode cX8_step 26 = .ok (.invokevirtual 100, 3) := by decide +kernel
theorem dX8_step_29 : decode cX8_step 29 = .ok (.ireturn, 1) := by decide +kernel
theorem dX8_step_30 : decode cX8_step 30 = .ok (.iload_n 1, 1) := by decide +kernel
theorem dX8_step_31 : decode cX8_step 31 = .ok (.iconst 1, 1) := by decide +kernel
theorem dX8_step_32 : decode cX8_step 32 = .ok (.if_icmp .lt 17, 3) := by decide +kernel
theorem dX8_step_35 : decode cX8_step 35 = .ok (.iload_n 1, 1) := by decide +kernel
theorem dX8_step_36 : decode cX8_step 36 = .ok (.aload_n 0, 1) := by decide +kernel
theorem dX8_step_37 : decode cX8_step 37 = .ok (.getfield 45, 3) := by decide +kernel
theorem dX8_step_40 : decode cX8_step 40 = .ok (.getfield 164, 3) := by decide +kernel
theorem dX8_step_43 : decode cX8_step 43 = .ok (.getfield 188, 3) := by decide +kernel
theorem dX8_step_46 : decode cX8_step 46 = .ok (.if_icmp .le 9, 3) := by decide +kernel
theorem dX8_step_49 : decode cX8_step 49 = .ok (.aload_n 0, 1) := by decide +kernel
theorem dX8_step_50 : decode cX8_step 50 = .ok (.iconst 3, 1) := by decide +kernel
theorem dX8_step_51 : decode cX8_step 51 = .ok (.invokevirtual 100, 3) := by decide +kernel
theorem dX8_step_54 : decode cX8_step 54 = .ok (.ireturn, 1) := by decide +kernel
theorem dX8_step_55 : decode cX8_step 55 = .ok (.aload_n 0, 1) := by decide +kernel
theorem dX8_step_56 : decode cX8_step 56 = .ok (.getfield 45, 3) := by decide +kernel
theorem dX8_step_59 : decode cX8_step 59 = .ok (.iload_n 1, 1) := by decide +kernel
theorem dX8_step_60 : decode cX8_step 60 = .ok (.invokevirtual 203, 3) := by decide +kernel
theorem dX8_step_63 : decode cX8_step 63 = .ok (.istore 4, 2) := by decide +kernel
theorem dX8_step_65 : decode cX8_step 65 = .ok (.iload_n 2, 1) := by decide +kernel
theorem dX8_step_66 : decode cX8_step 66 = .ok (.ifCond .lt 9, 3) := by decide +kernel
theorem dX8_step_69 : decode cX8_step 69 = .ok (.iload_n 2, 1) := by decide +kernel
theorem dX8_step_70 : decode cX8_step 70 = .ok (.iload 4, 2) := by decide +kernel
theorem dX8_step_72 : decode cX8_step 72 = .ok (.if_icmp .lt 9, 3) := by decide +kernel
theorem dX8_step_75 : decode cX8_step 75 = .ok (.aload_n 0, 1) := by decide +kernel
theorem dX8_step_76 : decode cX8_step 76 = .ok (.iconst 3, 1) := by decide +kernel
theorem dX8_step_77 : decode cX8_step 77 = .ok (.invokevirtual 100, 3) := by decide +kernel
theorem dX8_step_80 : decode cX8_step 80 = .ok (.ireturn, 1) := by decide +kernel
theorem dX8_step_81 : decode cX8_step 81 = .ok (.aload_n 0, 1) := by decide +kernel
theorem dX8_step_82 : decode cX8_step 82 = .ok (.getfield 45, 3) := by decide +kernel
theorem dX8_step_85 : decode cX8_step 85 = .ok (.iload_n 2, 1) := by decide +kernel
theorem dX8_step_86 : decode cX8_step 86 = .ok (.iload 4, 2) := by decide +kernel
theorem dX8_step_88 : decode cX8_step 88 = .ok (.aload_n 0, 1) := by decide +kernel
theorem dX8_step_89 : decode cX8_step 89 = .ok (.getfield 18, 3) := by decide +kernel
theorem dX8_step_92 : decode cX8_step 92 = .ok (.invokevirtual 206, 3) := by decide +kernel
theorem dX8_step_95 : decode cX8_step 95 = .ok (.istore 5, 2) := by decide +kernel
theorem dX8_step_97 : decode cX8_step 97 = .ok (.aload_n 0, 1) := by decide +kernel
theorem dX8_step_98 : decode cX8_step 98 = .ok (.iload_n 3, 1) := by decide +kernel
theorem dX8_step_99 : decode cX8_step 99 = .ok (.invokevirtual 70, 3) := by decide +kernel
theorem dX8_step_102 : decode cX8_step 102 = .ok (.ifCond .eq 8, 3) := by decide +kernel
theorem dX8_step_105 : decode cX8_step 105 = .ok (.iload 5, 2) := by decide +kernel
theorem dX8_step_107 : decode cX8_step 107 = .ok (.goto 4, 3) := by decide +kernel
theorem dX8_step_110 : decode cX8_step 110 = .ok (.iconst (-1), 1) := by decide +kernel
theorem dX8_step_111 : decode cX8_step 111 = .ok (.ireturn, 1) := by decide +kernel
theorem dX8_mode_0 : decode cX8_mode 0 = .ok (.aload_n 0, 1) := by decide +kernel
theorem dX8_mode_1 : decode cX8_mode 1 = .ok (.getfield 45, 3) := by decide +kernel
theorem dX8_mode_4 : decode cX8_mode 4 = .ok (.invokevirtual 158, 3) := by decide +kernel
theorem dX8_mode_7 : decode cX8_mode 7 = .ok (.ifCond .ne 10, 3) := by decide +kernel
theorem dX8_mode_10 : decode cX8_mode 10 = .ok (.aload_n 0, 1) := by decide +kernel
theorem dX8_mode_11 : decode cX8_mode 11 = .ok (.bipush 7, 2) := by decide +kernel
theorem dX8_mode_13 : decode cX8_mode 13 = .ok (.invokevirtual 67, 3) := by decide +kernel
theorem dX8_mode_16 : decode cX8_mode 16 = .ok (.ireturn, 1) := by decide +kernel
theorem dX8_mode_17 : decode cX8_mode 17 = .ok (.iload_n 1, 1) := by decide +kernel
theorem dX8_mode_18 : decode cX8_mode 18 = .ok (.ifCond .lt 17, 3) := by decide +kernel
theorem dX8_mode_21 : decode cX8_mode 21 = .ok (.iload_n 1, 1) := by decide +kernel
theorem dX8_mode_22 : decode cX8_mode 22 = .ok (.aload_n 0, 1) := by decide +kernel
theorem dX8_mode_23 : decode cX8_mode 23 = .ok (.getfield 45, 3) := by decide +kernel
theorem dX8_mode_26 : decode cX8_mode 26 = .ok (.getfield 164, 3) := by decide +kernel
theorem dX8_mode_29 : decode cX8_mode 29 = .ok (.getfield 188, 3) := by decide +kernel
theorem dX8_mode_32 : decode cX8_mode 32 = .ok (.if_icmp .lt 9, 3) := by decide +kernel
theorem dX8_mode_35 : decode cX8_mode 35 = .ok (.aload_n 0, 1) := by decide +kernel
theorem dX8_mode_36 : decode cX8_mode 36 = .ok (.iconst 3, 1) := by decide +kernel
theorem dX8_mode_37 : decode cX8_mode 37 = .ok (.invokevirtual 67, 3) := by decide +kernel
theorem dX8_mode_40 : decode cX8_mode 40 = .ok (.ireturn, 1) := by decide +kernel
theorem dX8_mode_41 : decode cX8_mode 41 = .ok (.aload_n 0, 1) := by decide +kernel
theorem dX8_mode_42 : decode cX8_mode 42 = .ok (.getfield 45, 3) := by decide +kernel
theorem dX8_mode_45 : decode cX8_mode 45 = .ok (.iload_n 1, 1) := by decide +kernel
theorem dX8_mode_46 : decode cX8_mode 46 = .ok (.invokevirtual 210, 3) := by decide +kernel
theorem dX8_mode_49 : decode cX8_mode 49 = .ok (.ifCond .eq 10, 3) := by decide +kernel
theorem dX8_mode_52 : decode cX8_mode 52 = .ok (.aload_n 0, 1) := by decide +kernel
theorem dX8_mode_53 : decode cX8_mode 53 = .ok (.invokevirtual 96, 3) := by decide +kernel
theorem dX8_mode_56 : decode cX8_mode 56 = .ok (.goto 8, 3) := by decide +kernel
theorem dX8_mode_59 : decode cX8_mode 59 = .ok (.aload_n 0, 1) := by decide +kernel
theorem dX8_mode_60 : decode cX8_mode 60 = .ok (.iconst 4, 1) := by decide +kernel
theorem dX8_mode_61 : decode cX8_mode 61 = .ok (.invokevirtual 67, 3) := by decide +kernel
theorem dX8_mode_64 : decode cX8_mode 64 = .ok (.ireturn, 1) := by decide +kernel
theorem dX8_follows_0 : decode cX8_follows 0 = .ok (.aload_n 0, 1) := by decide +kernel
theorem dX8_follows_1 : decode cX8_follows 1 = .ok (.getfield 45, 3) := by decide +kernel
theorem dX8_follows_4 : decode cX8_follows 4 = .ok (.invokevirtual 158, 3) := by decide +kernel
theorem dX8_follows_7 : decode cX8_follows 7 = .ok (.ifCond .ne 10, 3) := by decide +kernel
theorem dX8_follows_10 : decode cX8_follows 10 = .ok (.aload_n 0, 1) := by decide +kernel
theorem dX8_follows_11 : decode cX8_follows 11 = .ok (.bipush 7, 2) := by decide +kernel
theorem dX8_follows_13 : decode cX8_follows 13 = .ok (.invokevirtual 100, 3) := by decide +kernel
theorem dX8_follows_16 : decode cX8_follows 16 = .ok (.ireturn, 1) := by decide +kernel
theorem dX8_follows_17 : decode cX8_follows 17 = .ok (.iload_n 1, 1) := by decide +kernel
theorem dX8_follows_18 : decode cX8_follows 18 = .ok (.invokestatic 117, 3) := by decide +kernel
theorem dX8_follows_21 : decode cX8_follows 21 = .ok (.ifCond .ne 9, 3) := by decide +kernel
theorem dX8_follows_24 : decode cX8_follows 24 = .ok (.aload_n 0, 1) := by decide +kernel
theorem dX8_follows_25 : decode cX8_follows 25 = .ok (.iconst 3, 1) := by decide +kernel
theorem dX8_follows_26 : decode cX8_follows 26 = .ok (.invokevirtual 100, 3) := by decide +kernel
theorem dX8_follows_29 : decode cX8_follows 29 = .ok (.ireturn, 1) := by decide +kernel
theorem dX8_follows_30 : decode cX8_follows 30 = .ok (.aload_n 0, 1) := by decide +kernel
theorem dX8_follows_31 : decode cX8_follows 31 = .ok (.aload_n 0, 1) := by decide +kernel
theorem dX8_follows_32 : decode cX8_follows 32 = .ok (.getfield 45, 3) := by decide +kernel
theorem dX8_follows_35 : decode cX8_follows 35 = .ok (.iload_n 1, 1) := by decide +kernel
theorem dX8_follows_36 : decode cX8_follows 36 = .ok (.invokevirtual 213, 3) := by decide +kernel
theorem dX8_follows_39 : decode cX8_follows 39 = .ok (.ifCond .eq 7, 3) := by decide +kernel
theorem dX8_follows_42 : decode cX8_follows 42 = .ok (.iconst 1, 1) := by decide +kernel
theorem dX8_follows_43 : decode cX8_follows 43 = .ok (.goto 4, 3) := by decide +kernel
theorem dX8_follows_46 : decode cX8_follows 46 = .ok (.iconst 0, 1) := by decide +kernel
theorem dX8_follows_47 : decode cX8_follows 47 = .ok (.invokevirtual 106, 3) := by decide +kernel
theorem dX8_follows_50 : decode cX8_follows 50 = .ok (.ireturn, 1) := by decide +kernel
theorem dX8_quotient_0 : decode cX8_quotient 0 = .ok (.iload_n 1, 1) := by decide +kernel
theorem dX8_quotient_1 : decode cX8_quotient 1 = .ok (.invokestatic 63, 3) := by decide +kernel
theorem dX8_quotient_4 : decode cX8_quotient 4 = .ok (.ifCond .eq 10, 3) := by decide +kernel
theorem dX8_quotient_7 : decode cX8_quotient 7 = .ok (.iload_n 2, 1) := by decide +kernel
theorem dX8_quotient_8 : decode cX8_quotient 8 = .ok (.invokestatic 63, 3) := by decide +kernel
theorem dX8_quotient_11 : decode cX8_quotient 11 = .ok (.ifCond .ne 9, 3) := by decide +kernel
theorem dX8_quotient_14 : decode cX8_quotient 14 = .ok (.aload_n 0, 1) := by decide +kernel
theorem dX8_quotient_15 : decode cX8_quotient 15 = .ok (.iconst 1, 1) := by decide +kernel
theorem dX8_quotient_16 : decode cX8_quotient 16 = .ok (.invokevirtual 100, 3) := by decide +kernel
theorem dX8_quotient_19 : decode cX8_quotient 19 = .ok (.ireturn, 1) := by decide +kernel
theorem dX8_quotient_20 : decode cX8_quotient 20 = .ok (.aload_n 0, 1) := by decide +kernel
theorem dX8_quotient_21 : decode cX8_quotient 21 = .ok (.getfield 14, 3) := by decide +kernel
theorem dX8_quotient_24 : decode cX8_quotient 24 = .ok (.iload_n 1, 1) := by decide +kernel
theorem dX8_quotient_25 : decode cX8_quotient 25 = .ok (.baload, 1) := by decide +kernel
theorem dX8_quotient_26 : decode cX8_quotient 26 = .ok (.ifCond .eq 12, 3) := by decide +kernel
theorem dX8_quotient_29 : decode cX8_quotient 29 = .ok (.aload_n 0, 1) := by decide +kernel
theorem dX8_quotient_30 : decode cX8_quotient 30 = .ok (.getfield 14, 3) := by decide +kernel
theorem dX8_quotient_33 : decode cX8_quotient 33 = .ok (.iload_n 2, 1) := by decide +kernel
theorem dX8_quotient_34 : decode cX8_quotient 34 = .ok (.baload, 1) := by decide +kernel
theorem dX8_quotient_35 : decode cX8_quotient 35 = .ok (.ifCond .ne 9, 3) := by decide +kernel
theorem dX8_quotient_38 : decode cX8_quotient 38 = .ok (.aload_n 0, 1) := by decide +kernel
theorem dX8_quotient_39 : decode cX8_quotient 39 = .ok (.iconst 2, 1) := by decide +kernel
theorem dX8_quotient_40 : decode cX8_quotient 40 = .ok (.invokevirtual 100, 3) := by decide +kernel
theorem dX8_quotient_43 : decode cX8_quotient 43 = .ok (.ireturn, 1) := by decide +kernel
theorem dX8_quotient_44 : decode cX8_quotient 44 = .ok (.iload_n 3, 1) := by decide +kernel
theorem dX8_quotient_45 : decode cX8_quotient 45 = .ok (.ifCond .lt 9, 3) := by decide +kernel
theorem dX8_quotient_48 : decode cX8_quotient 48 = .ok (.iload_n 3, 1) := by decide +kernel
theorem dX8_quotient_49 : decode cX8_quotient 49 = .ok (.bipush 19, 2) := by decide +kernel
theorem dX8_quotient_51 : decode cX8_quotient 51 = .ok (.if_icmp .le 9, 3) := by decide +kernel
theorem dX8_quotient_54 : decode cX8_quotient 54 = .ok (.aload_n 0, 1) := by decide +kernel
theorem dX8_quotient_55 : decode cX8_quotient 55 = .ok (.iconst 3, 1) := by decide +kernel
theorem dX8_quotient_56 : decode cX8_quotient 56 = .ok (.invokevirtual 100, 3) := by decide +kernel
theorem dX8_quotient_59 : decode cX8_quotient 59 = .ok (.ireturn, 1) := by decide +kernel
theorem dX8_quotient_60 : decode cX8_quotient 60 = .ok (.aload_n 0, 1) := by decide +kernel
theorem dX8_quotient_61 : decode cX8_quotient 61 = .ok (.getfield 29, 3) := by decide +kernel
theorem dX8_quotient_64 : decode cX8_quotient 64 = .ok (.aload_n 0, 1) := by decide +kernel
theorem dX8_quotient_65 : decode cX8_quotient 65 = .ok (.getfield 11, 3) := by decide +kernel
theorem dX8_quotient_68 : decode cX8_quotient 68 = .ok (.iload_n 1, 1) := by decide +kernel
theorem dX8_quotient_69 : decode cX8_quotient 69 = .ok (.aaload, 1) := by decide +kernel
theorem dX8_quotient_70 : decode cX8_quotient 70 = .ok (.invokevirtual 84, 3) := by decide +kernel
theorem dX8_quotient_73 : decode cX8_quotient 73 = .ok (.ifCond .le 19, 3) := by decide +kernel
theorem dX8_quotient_76 : decode cX8_quotient 76 = .ok (.aload_n 0, 1) := by decide +kernel
theorem dX8_quotient_77 : decode cX8_quotient 77 = .ok (.getfield 29, 3) := by decide +kernel
theorem dX8_quotient_80 : decode cX8_quotient 80 = .ok (.aload_n 0, 1) := by decide +kernel
theorem dX8_quotient_81 : decode cX8_quotient 81 = .ok (.getfield 11, 3) := by decide +kernel
theorem dX8_quotient_84 : decode cX8_quotient 84 = .ok (.iload_n 2, 1) := by decide +kernel
theorem dX8_quotient_85 : decode cX8_quotient 85 = .ok (.aaload, 1) := by decide +kernel
theorem dX8_quotient_86 : decode cX8_quotient 86 = .ok (.invokevirtual 84, 3) := by decide +kernel
theorem dX8_quotient_89 : decode cX8_quotient 89 = .ok (.ifCond .gt 9, 3) := by decide +kernel
theorem dX8_quotient_92 : decode cX8_quotient 92 = .ok (.aload_n 0, 1) := by decide +kernel
theorem dX8_quotient_93 : decode cX8_quotient 93 = .ok (.iconst 5, 1) := by decide +kernel
theorem dX8_quotient_94 : decode cX8_quotient 94 = .ok (.invokevirtual 100, 3) := by decide +kernel
theorem dX8_quotient_97 : decode cX8_quotient 97 = .ok (.ireturn, 1) := by decide +kernel
theorem dX8_quotient_98 : decode cX8_quotient 98 = .ok (.aload_n 0, 1) := by decide +kernel
theorem dX8_quotient_99 : decode cX8_quotient 99 = .ok (.getfield 52, 3) := by decide +kernel
theorem dX8_quotient_102 : decode cX8_quotient 102 = .ok (.aload_n 0, 1) := by decide +kernel
theorem dX8_quotient_103 : decode cX8_quotient 103 = .ok (.getfield 11, 3) := by decide +kernel
theorem dX8_quotient_106 : decode cX8_quotient 106 = .ok (.iload_n 1, 1) := by decide +kernel
theorem dX8_quotient_107 : decode cX8_quotient 107 = .ok (.aaload, 1) := by decide +kernel
theorem dX8_quotient_108 : decode cX8_quotient 108 = .ok (.aload_n 0, 1) := by decide +kernel
theorem dX8_quotient_109 : decode cX8_quotient 109 = .ok (.getfield 11, 3) := by decide +kernel
theorem dX8_quotient_112 : decode cX8_quotient 112 = .ok (.iload_n 2, 1) := by decide +kernel
theorem dX8_quotient_113 : decode cX8_quotient 113 = .ok (.aaload, 1) := by decide +kernel
theorem dX8_quotient_114 : decode cX8_quotient 114 = .ok (.iload_n 3, 1) := by decide +kernel
theorem dX8_quotient_115 : decode cX8_quotient 115 = .ok (.invokevirtual 216, 3) := by decide +kernel
theorem dX8_quotient_118 : decode cX8_quotient 118 = .ok (.istore 4, 2) := by decide +kernel
theorem dX8_quotient_120 : decode cX8_quotient 120 = .ok (.iload 4, 2) := by decide +kernel
theorem dX8_quotient_122 : decode cX8_quotient 122 = .ok (.iconst (-1), 1) := by decide +kernel
theorem dX8_quotient_123 : decode cX8_quotient 123 = .ok (.if_icmp .ne 12, 3) := by decide +kernel
theorem dX8_quotient_126 : decode cX8_quotient 126 = .ok (.aload_n 0, 1) := by decide +kernel
theorem dX8_quotient_127 : decode cX8_quotient 127 = .ok (.bipush 9, 2) := by decide +kernel
theorem dX8_quotient_129 : decode cX8_quotient 129 = .ok (.invokevirtual 100, 3) := by decide +kernel
theorem dX8_quotient_132 : decode cX8_quotient 132 = .ok (.goto 9, 3) := by decide +kernel
theorem dX8_quotient_135 : decode cX8_quotient 135 = .ok (.aload_n 0, 1) := by decide +kernel
theorem dX8_quotient_136 : decode cX8_quotient 136 = .ok (.iload 4, 2) := by decide +kernel
theorem dX8_quotient_138 : decode cX8_quotient 138 = .ok (.invokevirtual 106, 3) := by decide +kernel
theorem dX8_quotient_141 : decode cX8_quotient 141 = .ok (.ireturn, 1) := by decide +kernel
theorem dX8_isShelf_0 : decode cX8_isShelf 0 = .ok (.iload_n 0, 1) := by decide +kernel
theorem dX8_isShelf_1 : decode cX8_isShelf 1 = .ok (.ifCond .lt 13, 3) := by decide +kernel
theorem dX8_isShelf_4 : decode cX8_isShelf 4 = .ok (.iload_n 0, 1) := by decide +kernel
theorem dX8_isShelf_5 : decode cX8_isShelf 5 = .ok (.bipush 16, 2) := by decide +kernel
theorem dX8_isShelf_7 : decode cX8_isShelf 7 = .ok (.if_icmp .ge 7, 3) := by decide +kernel
theorem dX8_isShelf_10 : decode cX8_isShelf 10 = .ok (.iconst 1, 1) := by decide +kernel
theorem dX8_isShelf_11 : decode cX8_isShelf 11 = .ok (.goto 4, 3) := by decide +kernel
theorem dX8_isShelf_14 : decode cX8_isShelf 14 = .ok (.iconst 0, 1) := by decide +kernel
theorem dX8_isShelf_15 : decode cX8_isShelf 15 = .ok (.ireturn, 1) := by decide +kernel
theorem dX8_isPrimeNumber_0 : decode cX8_isPrimeNumber 0 = .ok (.iload_n 0, 1) := by decide +kernel
theorem dX8_isPrimeNumber_1 : decode cX8_isPrimeNumber 1 = .ok (.ifCond .lt 13, 3) := by decide +kernel
theorem dX8_isPrimeNumber_4 : decode cX8_isPrimeNumber 4 = .ok (.iload_n 0, 1) := by decide +kernel
theorem dX8_isPrimeNumber_5 : decode cX8_isPrimeNumber 5 = .ok (.bipush 6, 2) := by decide +kernel
theorem dX8_isPrimeNumber_7 : decode cX8_isPrimeNumber 7 = .ok (.if_icmp .ge 7, 3) := by decide +kernel
theorem dX8_isPrimeNumber_10 : decode cX8_isPrimeNumber 10 = .ok (.iconst 1, 1) := by decide +kernel
theorem dX8_isPrimeNumber_11 : decode cX8_isPrimeNumber 11 = .ok (.goto 4, 3) := by decide +kernel
theorem dX8_isPrimeNumber_14 : decode cX8_isPrimeNumber 14 = .ok (.iconst 0, 1) := by decide +kernel
theorem dX8_isPrimeNumber_15 : decode cX8_isPrimeNumber 15 = .ok (.ireturn, 1) := by decide +kernel
theorem dX8_faultOf_0 : decode cX8_faultOf 0 = .ok (.iload_n 1, 1) := by decide +kernel
theorem dX8_faultOf_1 : decode cX8_faultOf 1 = .ok (.invokestatic 63, 3) := by decide +kernel
theorem dX8_faultOf_4 : decode cX8_faultOf 4 = .ok (.ifCond .ne 5, 3) := by decide +kernel
theorem dX8_faultOf_7 : decode cX8_faultOf 7 = .ok (.iconst 1, 1) := by decide +kernel
theorem dX8_faultOf_8 : decode cX8_faultOf 8 = .ok (.ireturn, 1) := by decide +kernel
theorem dX8_faultOf_9 : decode cX8_faultOf 9 = .ok (.aload_n 0, 1) := by decide +kernel
theorem dX8_faultOf_10 : decode cX8_faultOf 10 = .ok (.getfield 14, 3) := by decide +kernel
theorem dX8_faultOf_13 : decode cX8_faultOf 13 = .ok (.iload_n 1, 1) := by decide +kernel
theorem dX8_faultOf_14 : decode cX8_faultOf 14 = .ok (.baload, 1) := by decide +kernel
theorem dX8_faultOf_15 : decode cX8_faultOf 15 = .ok (.ifCond .eq 7, 3) := by decide +kernel
theorem dX8_faultOf_18 : decode cX8_faultOf 18 = .ok (.iconst 0, 1) := by decide +kernel
theorem dX8_faultOf_19 : decode cX8_faultOf 19 = .ok (.goto 4, 3) := by decide +kernel
theorem dX8_faultOf_22 : decode cX8_faultOf 22 = .ok (.iconst 2, 1) := by decide +kernel
theorem dX8_faultOf_23 : decode cX8_faultOf 23 = .ok (.ireturn, 1) := by decide +kernel
theorem dX8_putMade_0 : decode cX8_putMade 0 = .ok (.iload_n 1, 1) := by decide +kernel
theorem dX8_putMade_1 : decode cX8_putMade 1 = .ok (.invokestatic 63, 3) := by decide +kernel
theorem dX8_putMade_4 : decode cX8_putMade 4 = .ok (.ifCond .ne 9, 3) := by decide +kernel
theorem dX8_putMade_7 : decode cX8_putMade 7 = .ok (.aload_n 0, 1) := by decide +kernel
theorem dX8_putMade_8 : decode cX8_putMade 8 = .ok (.iconst 1, 1) := by decide +kernel
theorem dX8_putMade_9 : decode cX8_putMade 9 = .ok (.invokevirtual 67, 3) := by decide +kernel
theorem dX8_putMade_12 : decode cX8_putMade 12 = .ok (.ireturn, 1) := by decide +kernel
theorem dX8_putMade_13 : decode cX8_putMade 13 = .ok (.aload_n 0, 1) := by decide +kernel
theorem dX8_putMade_14 : decode cX8_putMade 14 = .ok (.getfield 18, 3) := by decide +kernel
theorem dX8_putMade_17 : decode cX8_putMade 17 = .ok (.bipush 24, 2) := by decide +kernel
theorem dX8_putMade_19 : decode cX8_putMade 19 = .ok (.invokestatic 219, 3) := by decide +kernel
theorem dX8_putMade_22 : decode cX8_putMade 22 = .ok (.ifCond .ne 9, 3) := by decide +kernel
theorem dX8_putMade_25 : decode cX8_putMade 25 = .ok (.aload_n 0, 1) := by decide +kernel
theorem dX8_putMade_26 : decode cX8_putMade 26 = .ok (.iconst 4, 1) := by decide +kernel
theorem dX8_putMade_27 : decode cX8_putMade 27 = .ok (.invokevirtual 67, 3) := by decide +kernel
theorem dX8_putMade_30 : decode cX8_putMade 30 = .ok (.ireturn, 1) := by decide +kernel
theorem dX8_putMade_31 : decode cX8_putMade 31 = .ok (.aload_n 0, 1) := by decide +kernel
theorem dX8_putMade_32 : decode cX8_putMade 32 = .ok (.getfield 18, 3) := by decide +kernel
theorem dX8_putMade_35 : decode cX8_putMade 35 = .ok (.aload_n 0, 1) := by decide +kernel
theorem dX8_putMade_36 : decode cX8_putMade 36 = .ok (.getfield 11, 3) := by decide +kernel
theorem dX8_putMade_39 : decode cX8_putMade 39 = .ok (.iload_n 1, 1) := by decide +kernel
theorem dX8_putMade_40 : decode cX8_putMade 40 = .ok (.aaload, 1) := by decide +kernel
theorem dX8_putMade_41 : decode cX8_putMade 41 = .ok (.invokestatic 223, 3) := by decide +kernel
theorem dX8_putMade_44 : decode cX8_putMade 44 = .ok (.aload_n 0, 1) := by decide +kernel
theorem dX8_putMade_45 : decode cX8_putMade 45 = .ok (.getfield 14, 3) := by decide +kernel
theorem dX8_putMade_48 : decode cX8_putMade 48 = .ok (.iload_n 1, 1) := by decide +kernel
theorem dX8_putMade_49 : decode cX8_putMade 49 = .ok (.iconst 1, 1) := by decide +kernel
theorem dX8_putMade_50 : decode cX8_putMade 50 = .ok (.bastore, 1) := by decide +kernel
theorem dX8_putMade_51 : decode cX8_putMade 51 = .ok (.aload_n 0, 1) := by decide +kernel
theorem dX8_putMade_52 : decode cX8_putMade 52 = .ok (.invokevirtual 96, 3) := by decide +kernel
theorem dX8_putMade_55 : decode cX8_putMade 55 = .ok (.ireturn, 1) := by decide +kernel
theorem dX8_accept_0 : decode cX8_accept 0 = .ok (.aload_n 0, 1) := by decide +kernel
theorem dX8_accept_1 : decode cX8_accept 1 = .ok (.iconst 0, 1) := by decide +kernel
theorem dX8_accept_2 : decode cX8_accept 2 = .ok (.putfield 60, 3) := by decide +kernel
theorem dX8_accept_5 : decode cX8_accept 5 = .ok (.iconst 1, 1) := by decide +kernel
theorem dX8_accept_6 : decode cX8_accept 6 = .ok (.ireturn, 1) := by decide +kernel
theorem dX8_refuse_0 : decode cX8_refuse 0 = .ok (.aload_n 0, 1) := by decide +kernel
theorem dX8_refuse_1 : decode cX8_refuse 1 = .ok (.iload_n 1, 1) := by decide +kernel
theorem dX8_refuse_2 : decode cX8_refuse 2 = .ok (.putfield 60, 3) := by decide +kernel
theorem dX8_refuse_5 : decode cX8_refuse 5 = .ok (.iconst 0, 1) := by decide +kernel
theorem dX8_refuse_6 : decode cX8_refuse 6 = .ok (.ireturn, 1) := by decide +kernel
theorem dX8_answer_0 : decode cX8_answer 0 = .ok (.aload_n 0, 1) := by decide +kernel
theorem dX8_answer_1 : decode cX8_answer 1 = .ok (.iconst 0, 1) := by decide +kernel
theorem dX8_answer_2 : decode cX8_answer 2 = .ok (.putfield 60, 3) := by decide +kernel
theorem dX8_answer_5 : decode cX8_answer 5 = .ok (.iload_n 1, 1) := by decide +kernel
theorem dX8_answer_6 : decode cX8_answer 6 = .ok (.ireturn, 1) := by decide +kernel
theorem dX8_none_0 : decode cX8_none 0 = .ok (.aload_n 0, 1) := by decide +kernel
theorem dX8_none_1 : decode cX8_none 1 = .ok (.iload_n 1, 1) := by decide +kernel
theorem dX8_none_2 : decode cX8_none 2 = .ok (.putfield 60, 3) := by decide +kernel
theorem dX8_none_5 : decode cX8_none 5 = .ok (.iconst (-1), 1) := by decide +kernel
theorem dX8_none_6 : decode cX8_none 6 = .ok (.ireturn, 1) := by decide +kernel
theorem dJ6_bitCount_0f7a4_0 : decode cJ6_bitCount_0f7a4 0 = .ok (.iload_n 0, 1) := by decide +kernel
theorem dJ6_bitCount_0f7a4_1 : decode cJ6_bitCount_0f7a4 1 = .ok (.iload_n 0, 1) := by decide +kernel
theorem dJ6_bitCount_0f7a4_2 : decode cJ6_bitCount_0f7a4 2 = .ok (.iconst 1, 1) := by decide +kernel
theorem dJ6_bitCount_0f7a4_3 : decode cJ6_bitCount_0f7a4 3 = .ok (.iushr, 1) := by decide +kernel
theorem dJ6_bitCount_0f7a4_4 : decode cJ6_bitCount_0f7a4 4 = .ok (.ldc_w 265, 3) := by decide +kernel
theorem dJ6_bitCount_0f7a4_7 : decode cJ6_bitCount_0f7a4 7 = .ok (.iand, 1) := by decide +kernel
theorem dJ6_bitCount_0f7a4_8 : decode cJ6_bitCount_0f7a4 8 = .ok (.isub, 1) := by decide +kernel
theorem dJ6_bitCount_0f7a4_9 : decode cJ6_bitCount_0f7a4 9 = .ok (.istore_n 0, 1) := by decide +kernel
theorem dJ6_bitCount_0f7a4_10 : decode cJ6_bitCount_0f7a4 10 = .ok (.iload_n 0, 1) := by decide +kernel
theorem dJ6_bitCount_0f7a4_11 : decode cJ6_bitCount_0f7a4 11 = .ok (.ldc_w 266, 3) := by decide +kernel
theorem dJ6_bitCount_0f7a4_14 : decode cJ6_bitCount_0f7a4 14 = .ok (.iand, 1) := by decide +kernel
theorem dJ6_bitCount_0f7a4_15 : decode cJ6_bitCount_0f7a4 15 = .ok (.iload_n 0, 1) := by decide +kernel
theorem dJ6_bitCount_0f7a4_16 : decode cJ6_bitCount_0f7a4 16 = .ok (.iconst 2, 1) := by decide +kernel
theorem dJ6_bitCount_0f7a4_17 : decode cJ6_bitCount_0f7a4 17 = .ok (.iushr, 1) := by decide +kernel
theorem dJ6_bitCount_0f7a4_18 : decode cJ6_bitCount_0f7a4 18 = .ok (.ldc_w 266, 3) := by decide +kernel
theorem dJ6_bitCount_0f7a4_21 : decode cJ6_bitCount_0f7a4 21 = .ok (.iand, 1) := by decide +kernel
theorem dJ6_bitCount_0f7a4_22 : decode cJ6_bitCount_0f7a4 22 = .ok (.iadd, 1) := by decide +kernel
theorem dJ6_bitCount_0f7a4_23 : decode cJ6_bitCount_0f7a4 23 = .ok (.istore_n 0, 1) := by decide +kernel
theorem dJ6_bitCount_0f7a4_24 : decode cJ6_bitCount_0f7a4 24 = .ok (.iload_n 0, 1) := by decide +kernel
theorem dJ6_bitCount_0f7a4_25 : decode cJ6_bitCount_0f7a4 25 = .ok (.iload_n 0, 1) := by decide +kernel
theorem dJ6_bitCount_0f7a4_26 : decode cJ6_bitCount_0f7a4 26 = .ok (.iconst 4, 1) := by decide +kernel
theorem dJ6_bitCount_0f7a4_27 : decode cJ6_bitCount_0f7a4 27 = .ok (.iushr, 1) := by decide +kernel
theorem dJ6_bitCount_0f7a4_28 : decode cJ6_bitCount_0f7a4 28 = .ok (.iadd, 1) := by decide +kernel
theorem dJ6_bitCount_0f7a4_29 : decode cJ6_bitCount_0f7a4 29 = .ok (.ldc_w 267, 3) := by decide +kernel
theorem dJ6_bitCount_0f7a4_32 : decode cJ6_bitCount_0f7a4 32 = .ok (.iand, 1) := by decide +kernel
theorem dJ6_bitCount_0f7a4_33 : decode cJ6_bitCount_0f7a4 33 = .ok (.istore_n 0, 1) := by decide +kernel
theorem dJ6_bitCount_0f7a4_34 : decode cJ6_bitCount_0f7a4 34 = .ok (.iload_n 0, 1) := by decide +kernel
theorem dJ6_bitCount_0f7a4_35 : decode cJ6_bitCount_0f7a4 35 = .ok (.iload_n 0, 1) := by decide +kernel
theorem dJ6_bitCount_0f7a4_36 : decode cJ6_bitCount_0f7a4 36 = .ok (.bipush 8, 2) := by decide +kernel
theorem dJ6_bitCount_0f7a4_38 : decode cJ6_bitCount_0f7a4 38 = .ok (.iushr, 1) := by decide +kernel
theorem dJ6_bitCount_0f7a4_39 : decode cJ6_bitCount_0f7a4 39 = .ok (.iadd, 1) := by decide +kernel
theorem dJ6_bitCount_0f7a4_40 : decode cJ6_bitCount_0f7a4 40 = .ok (.istore_n 0, 1) := by decide +kernel
theorem dJ6_bitCount_0f7a4_41 : decode cJ6_bitCount_0f7a4 41 = .ok (.iload_n 0, 1) := by decide +kernel
theorem dJ6_bitCount_0f7a4_42 : decode cJ6_bitCount_0f7a4 42 = .ok (.iload_n 0, 1) := by decide +kernel
theorem dJ6_bitCount_0f7a4_43 : decode cJ6_bitCount_0f7a4 43 = .ok (.bipush 16, 2) := by decide +kernel
theorem dJ6_bitCount_0f7a4_45 : decode cJ6_bitCount_0f7a4 45 = .ok (.iushr, 1) := by decide +kernel
theorem dJ6_bitCount_0f7a4_46 : decode cJ6_bitCount_0f7a4 46 = .ok (.iadd, 1) := by decide +kernel
theorem dJ6_bitCount_0f7a4_47 : decode cJ6_bitCount_0f7a4 47 = .ok (.istore_n 0, 1) := by decide +kernel
theorem dJ6_bitCount_0f7a4_48 : decode cJ6_bitCount_0f7a4 48 = .ok (.iload_n 0, 1) := by decide +kernel
theorem dJ6_bitCount_0f7a4_49 : decode cJ6_bitCount_0f7a4 49 = .ok (.bipush 63, 2) := by decide +kernel
theorem dJ6_bitCount_0f7a4_51 : decode cJ6_bitCount_0f7a4 51 = .ok (.iand, 1) := by decide +kernel
theorem dJ6_bitCount_0f7a4_52 : decode cJ6_bitCount_0f7a4 52 = .ok (.ireturn, 1) := by decide +kernel
theorem dJ9_floorDiv_7cf53_0 : decode cJ9_floorDiv_7cf53 0 = .ok (.iload_n 0, 1) := by decide +kernel
theorem dJ9_floorDiv_7cf53_1 : decode cJ9_floorDiv_7cf53 1 = .ok (.iload_n 1, 1) := by decide +kernel
theorem dJ9_floorDiv_7cf53_2 : decode cJ9_floorDiv_7cf53 2 = .ok (.idiv, 1) := by decide +kernel
theorem dJ9_floorDiv_7cf53_3 : decode cJ9_floorDiv_7cf53 3 = .ok (.istore_n 2, 1) := by decide +kernel
theorem dJ9_floorDiv_7cf53_4 : decode cJ9_floorDiv_7cf53 4 = .ok (.iload_n 0, 1) := by decide +kernel
theorem dJ9_floorDiv_7cf53_5 : decode cJ9_floorDiv_7cf53 5 = .ok (.iload_n 1, 1) := by decide +kernel
theorem dJ9_floorDiv_7cf53_6 : decode cJ9_floorDiv_7cf53 6 = .ok (.ixor, 1) := by decide +kernel
theorem dJ9_floorDiv_7cf53_7 : decode cJ9_floorDiv_7cf53 7 = .ok (.ifCond .ge 14, 3) := by decide +kernel
theorem dJ9_floorDiv_7cf53_10 : decode cJ9_floorDiv_7cf53 10 = .ok (.iload_n 2, 1) := by decide +kernel
theorem dJ9_floorDiv_7cf53_11 : decode cJ9_floorDiv_7cf53 11 = .ok (.iload_n 1, 1) := by decide +kernel
theorem dJ9_floorDiv_7cf53_12 : decode cJ9_floorDiv_7cf53 12 = .ok (.imul, 1) := by decide +kernel
theorem dJ9_floorDiv_7cf53_13 : decode cJ9_floorDiv_7cf53 13 = .ok (.iload_n 0, 1) := by decide +kernel
theorem dJ9_floorDiv_7cf53_14 : decode cJ9_floorDiv_7cf53 14 = .ok (.if_icmp .eq 7, 3) := by decide +kernel
theorem dJ9_floorDiv_7cf53_17 : decode cJ9_floorDiv_7cf53 17 = .ok (.iload_n 2, 1) := by decide +kernel
theorem dJ9_floorDiv_7cf53_18 : decode cJ9_floorDiv_7cf53 18 = .ok (.iconst 1, 1) := by decide +kernel
theorem dJ9_floorDiv_7cf53_19 : decode cJ9_floorDiv_7cf53 19 = .ok (.isub, 1) := by decide +kernel
theorem dJ9_floorDiv_7cf53_20 : decode cJ9_floorDiv_7cf53 20 = .ok (.ireturn, 1) := by decide +kernel
theorem dJ9_floorDiv_7cf53_21 : decode cJ9_floorDiv_7cf53 21 = .ok (.iload_n 2, 1) := by decide +kernel
theorem dJ9_floorDiv_7cf53_22 : decode cJ9_floorDiv_7cf53 22 = .ok (.ireturn, 1) := by decide +kernel
theorem dJ9_abs_067f4_0 : decode cJ9_abs_067f4 0 = .ok (.lload_n 0, 1) := by decide +kernel
theorem dJ9_abs_067f4_1 : decode cJ9_abs_067f4 1 = .ok (.lconst 0, 1) := by decide +kernel
theorem dJ9_abs_067f4_2 : decode cJ9_abs_067f4 2 = .ok (.lcmp, 1) := by decide +kernel
theorem dJ9_abs_067f4_3 : decode cJ9_abs_067f4 3 = .ok (.ifCond .ge 8, 3) := by decide +kernel
theorem dJ9_abs_067f4_6 : decode cJ9_abs_067f4 6 = .ok (.lload_n 0, 1) := by decide +kernel
theorem dJ9_abs_067f4_7 : decode cJ9_abs_067f4 7 = .ok (.lneg, 1) := by decide +kernel
theorem dJ9_abs_067f4_8 : decode cJ9_abs_067f4 8 = .ok (.goto 4, 3) := by decide +kernel
theorem dJ9_abs_067f4_11 : decode cJ9_abs_067f4 11 = .ok (.lload_n 0, 1) := by decide +kernel
theorem dJ9_abs_067f4_12 : decode cJ9_abs_067f4 12 = .ok (.lreturn, 1) := by decide +kernel
theorem dJ9_max_7cf53_0 : decode cJ9_max_7cf53 0 = .ok (.iload_n 0, 1) := by decide +kernel
theorem dJ9_max_7cf53_1 : decode cJ9_max_7cf53 1 = .ok (.iload_n 1, 1) := by decide +kernel
theorem dJ9_max_7cf53_2 : decode cJ9_max_7cf53 2 = .ok (.if_icmp .lt 7, 3) := by decide +kernel
theorem dJ9_max_7cf53_5 : decode cJ9_max_7cf53 5 = .ok (.iload_n 0, 1) := by decide +kernel
theorem dJ9_max_7cf53_6 : decode cJ9_max_7cf53 6 = .ok (.goto 4, 3) := by decide +kernel
theorem dJ9_max_7cf53_9 : decode cJ9_max_7cf53 9 = .ok (.iload_n 1, 1) := by decide +kernel
theorem dJ9_max_7cf53_10 : decode cJ9_max_7cf53 10 = .ok (.ireturn, 1) := by decide +kernel
theorem dJ9_min_7cf53_0 : decode cJ9_min_7cf53 0 = .ok (.iload_n 0, 1) := by decide +kernel
theorem dJ9_min_7cf53_1 : decode cJ9_min_7cf53 1 = .ok (.iload_n 1, 1) := by decide +kernel
theorem dJ9_min_7cf53_2 : decode cJ9_min_7cf53 2 = .ok (.if_icmp .gt 7, 3) := by decide +kernel
theorem dJ9_min_7cf53_5 : decode cJ9_min_7cf53 5 = .ok (.iload_n 0, 1) := by decide +kernel
theorem dJ9_min_7cf53_6 : decode cJ9_min_7cf53 6 = .ok (.goto 4, 3) := by decide +kernel
theorem dJ9_min_7cf53_9 : decode cJ9_min_7cf53 9 = .ok (.iload_n 1, 1) := by decide +kernel
theorem dJ9_min_7cf53_10 : decode cJ9_min_7cf53 10 = .ok (.ireturn, 1) := by decide +kernel
end
section
theorem dX9_init_0 : decode cX9_init 0 = .ok (.aload_n 0, 1) := by decide +kernel
theorem dX9_init_1 : decode cX9_init 1 = .ok (.invokespecial 1, 3) := by decide +kernel
theorem dX9_init_4 : decode cX9_init 4 = .ok (.aload_n 0, 1) := by decide +kernel
theorem dX9_init_5 : decode cX9_init 5 = .ok (.bipush 96, 2) := by decide +kernel
theorem dX9_init_7 : decode cX9_init 7 = .ok (.newarray .int, 2) := by decide +kernel
theorem dX9_init_9 : decode cX9_init 9 = .ok (.putfield 7, 3) := by decide +kernel
theorem dX9_init_12 : decode cX9_init 12 = .ok (.aload_n 0, 1) := by decide +kernel
theorem dX9_init_13 : decode cX9_init 13 = .ok (.bipush 16, 2) := by decide +kernel
theorem dX9_init_15 : decode cX9_init 15 = .ok (.newarray .boolean, 2) := by decide +kernel
theorem dX9_init_17 : decode cX9_init 17 = .ok (.putfield 13, 3) := by decide +kernel
theorem dX9_init_20 : decode cX9_init 20 = .ok (.aload_n 0, 1) := by decide +kernel
theorem dX9_init_21 : decode cX9_init 21 = .ok (.sipush 130, 3) := by decide +kernel
theorem dX9_init_24 : decode cX9_init 24 = .ok (.newarray .int, 2) := by decide +kernel
theorem dX9_init_26 : decode cX9_init 26 = .ok (.putfield 17, 3) := by decide +kernel
theorem dX9_init_29 : decode cX9_init 29 = .ok (.aload_n 0, 1) := by decide +kernel
theorem dX9_init_30 : decode cX9_init 30 = .ok (.sipush 130, 3) := by decide +kernel
theorem dX9_init_33 : decode cX9_init 33 = .ok (.newarray .int, 2) := by decide +kernel
theorem dX9_init_35 : decode cX9_init 35 = .ok (.putfield 20, 3) := by decide +kernel
theorem dX9_init_38 : decode cX9_init 38 = .ok (.aload_n 0, 1) := by decide +kernel
theorem dX9_init_39 : decode cX9_init 39 = .ok (.bipush 6, 2) := by decide +kernel
theorem dX9_init_41 : decode cX9_init 41 = .ok (.newarray .int, 2) := by decide +kernel
theorem dX9_init_43 : decode cX9_init 43 = .ok (.putfield 23, 3) := by decide +kernel
theorem dX9_init_46 : decode cX9_init 46 = .ok (.aload_n 0, 1) := by decide +kernel
theorem dX9_init_47 : decode cX9_init 47 = .ok (.bipush 6, 2) := by decide +kernel
theorem dX9_init_49 : decode cX9_init 49 = .ok (.newarray .int, 2) := by decide +kernel
theorem dX9_init_51 : decode cX9_init 51 = .ok (.putfield 26, 3) := by decide +kernel
theorem dX9_init_54 : decode cX9_init 54 = .ok (.aload_n 0, 1) := by decide +kernel
theorem dX9_init_55 : decode cX9_init 55 = .ok (.bipush 6, 2) := by decide +kernel
theorem dX9_init_57 : decode cX9_init 57 = .ok (.newarray .int, 2) := by decide +kernel
theorem dX9_init_59 : decode cX9_init 59 = .ok (.putfield 29, 3) := by decide +kernel
theorem dX9_init_62 : decode cX9_init 62 = .ok (.aload_n 0, 1) := by decide +kernel
theorem dX9_init_63 : decode cX9_init 63 = .ok (.sipush 400, 3) := by decide +kernel
theorem dX9_init_66 : decode cX9_init 66 = .ok (.newarray .int, 2) := by decide +kernel
theorem dX9_init_68 : decode cX9_init 68 = .ok (.putfield 32, 3) := by decide +kernel
theorem dX9_init_71 : decode cX9_init 71 = .ok (.aload_n 0, 1) := by decide +kernel
theorem dX9_init_72 : decode cX9_init 72 = .ok (.sipush 600, 3) := by decide +kernel
theorem dX9_init_75 : decode cX9_init 75 = .ok (.newarray .int, 2) := by decide +kernel
theorem dX9_init_77 : decode cX9_init 77 = .ok (.putfield 35, 3) := by decide +kernel
theorem dX9_init_80 : decode cX9_init 80 = .ok (.aload_n 0, 1) := by decide +kernel
theorem dX9_init_81 : decode cX9_init 81 = .ok (.bipush 36, 2) := by decide +kernel
theorem dX9_init_83 : decode cX9_init 83 = .ok (.newarray .int, 2) := by decide +kernel
theorem dX9_init_85 : decode cX9_init 85 = .ok (.putfield 38, 3) := by decide +kernel
theorem dX9_init_88 : decode cX9_init 88 = .ok (.aload_n 0, 1) := by decide +kernel
theorem dX9_init_89 : decode cX9_init 89 = .ok (.bipush 36, 2) := by decide +kernel
theorem dX9_init_91 : decode cX9_init 91 = .ok (.newarray .long, 2) := by decide +kernel
theorem dX9_init_93 : decode cX9_init 93 = .ok (.putfield 41, 3) := by decide +kernel
theorem dX9_init_96 : decode cX9_init 96 = .ok (.aload_n 0, 1) := by decide +kernel
theorem dX9_init_97 : decode cX9_init 97 = .ok (.sipush 150, 3) := by decide +kernel
theorem dX9_init_100 : decode cX9_init 100 = .ok (.newarray .int, 2) := by decide +kernel
theorem dX9_init_102 : decode cX9_init 102 = .ok (.putfield 45, 3) := by decide +kernel
theorem dX9_init_105 : decode cX9_init 105 = .ok (.aload_n 0, 1) := by decide +kernel
theorem dX9_init_106 : decode cX9_init 106 = .ok (.sipush 150, 3) := by decide +kernel
theorem dX9_init_109 : decode cX9_init 109 = .ok (.newarray .int, 2) := by decide +kernel
theorem dX9_init_111 : decode cX9_init 111 = .ok (.putfield 48, 3) := by decide +kernel
theorem dX9_init_114 : decode cX9_init 114 = .ok (.aload_n 0, 1) := by decide +kernel
theorem dX9_init_115 : decode cX9_init 115 = .ok (.sipush 150, 3) := by decide +kernel
theorem dX9_init_118 : decode cX9_init 118 = .ok (.newarray .int, 2) := by decide +kernel
theorem dX9_init_120 : decode cX9_init 120 = .ok (.putfield 51, 3) := by decide +kernel
theorem dX9_init_123 : decode cX9_init 123 = .ok (.aload_n 0, 1) := by decide +kernel
theorem dX9_init_124 : decode cX9_init 124 = .ok (.bipush 25, 2) := by decide +kernel
theorem dX9_init_126 : decode cX9_init 126 = .ok (.newarray .int, 2) := by decide +kernel
theorem dX9_init_128 : decode cX9_init 128 = .ok (.putfield 54, 3) := by decide +kernel
theorem dX9_init_131 : decode cX9_init 131 = .ok (.aload_n 0, 1) := by decide +kernel
theorem dX9_init_132 : decode cX9_init 132 = .ok (.sipush 150, 3) := by decide +kernel
theorem dX9_init_135 : decode cX9_init 135 = .ok (.newarray .int, 2) := by decide +kernel
theorem dX9_init_137 : decode cX9_init 137 = .ok (.putfield 57, 3) := by decide +kernel
theorem dX9_init_140 : decode cX9_init 140 = .ok (.aload_n 0, 1) := by decide +kernel
theorem dX9_init_141 : decode cX9_init 141 = .ok (.bipush 6, 2) := by decide +kernel
theorem dX9_init_143 : decode cX9_init 143 = .ok (.newarray .int, 2) := by decide +kernel
theorem dX9_init_145 : decode cX9_init 145 = .ok (.putfield 60, 3) := by decide +kernel
theorem dX9_init_148 : decode cX9_init 148 = .ok (.aload_n 0, 1) := by decide +kernel
theorem dX9_init_149 : decode cX9_init 149 = .ok (.bipush 6, 2) := by decide +kernel
theorem dX9_init_151 : decode cX9_init 151 = .ok (.newarray .int, 2) := by decide +kernel
theorem dX9_init_153 : decode cX9_init 153 = .ok (.putfield 63, 3) := by decide +kernel
theorem dX9_init_156 : decode cX9_init 156 = .ok (.return_, 1) := by decide +kernel
theorem dX9_status_0 : decode cX9_status 0 = .ok (.aload_n 0, 1) := by decide +kernel
theorem dX9_status_1 : decode cX9_status 1 = .ok (.getfield 66, 3) := by decide +kernel
theorem dX9_status_4 : decode cX9_status 4 = .ok (.ireturn, 1) := by decide +kernel
theorem dX9_refuse_0 : decode cX9_refuse 0 = .ok (.aload_n 0, 1) := by decide +kernel
theorem dX9_refuse_1 : decode cX9_refuse 1 = .ok (.iload_n 1, 1) := by decide +kernel
theorem dX9_refuse_2 : decode cX9_refuse 2 = .ok (.putfield 66, 3) := by decide +kernel
theorem dX9_refuse_5 : decode cX9_refuse 5 = .ok (.iload_n 1, 1) := by decide +kernel
theorem dX9_refuse_6 : decode cX9_refuse 6 = .ok (.ifCond .ne 7, 3) := by decide +kernel
theorem dX9_refuse_9 : decode cX9_refuse 9 = .ok (.iconst 1, 1) := by decide +kernel
theorem dX9_refuse_10 : decode cX9_refuse 10 = .ok (.goto 4, 3) := by decide +kernel
theorem dX9_refuse_13 : decode cX9_refuse 13 = .ok (.iconst 0, 1) := by decide +kernel
theorem dX9_refuse_14 : decode cX9_refuse 14 = .ok (.ireturn, 1) := by decide +kernel
theorem dX9_none_0 : decode cX9_none 0 = .ok (.aload_n 0, 1) := by decide +kernel
theorem dX9_none_1 : decode cX9_none 1 = .ok (.iload_n 1, 1) := by decide +kernel
theorem dX9_none_2 : decode cX9_none 2 = .ok (.putfield 66, 3) := by decide +kernel
theorem dX9_none_5 : decode cX9_none 5 = .ok (.iconst (-1), 1) := by decide +kernel
theorem dX9_none_6 : decode cX9_none 6 = .ok (.ireturn, 1) := by decide +kernel
theorem dX9_prime_0 : decode cX9_prime 0 = .ok (.iload_n 0, 1) := by decide +kernel
theorem dX9_prime_1 : decode cX9_prime 1 = .ok (.ifCond .ne 7, 3) := by decide +kernel
theorem dX9_prime_4 : decode cX9_prime 4 = .ok (.iconst 2, 1) := by decide +kernel
theorem dX9_prime_5 : decode cX9_prime 5 = .ok (.goto 43, 3) := by decide +kernel
theorem dX9_prime_8 : decode cX9_prime 8 = .ok (.iload_n 0, 1) := by decide +kernel
theorem dX9_prime_9 : decode cX9_prime 9 = .ok (.iconst 1, 1) := by decide +kernel
theorem dX9_prime_10 : decode cX9_prime 10 = .ok (.if_icmp .ne 7, 3) := by decide +kernel
theorem dX9_prime_13 : decode cX9_prime 13 = .ok (.iconst 3, 1) := by decide +kernel
theorem dX9_prime_14 : decode cX9_prime 14 = .ok (.goto 34, 3) := by decide +kernel
theorem dX9_prime_17 : decode cX9_prime 17 = .ok (.iload_n 0, 1) := by decide +kernel
theorem dX9_prime_18 : decode cX9_prime 18 = .ok (.iconst 2, 1) := by decide +kernel
theorem dX9_prime_19 : decode cX9_prime 19 = .ok (.if_icmp .ne 7, 3) := by decide +kernel
theorem dX9_prime_22 : decode cX9_prime 22 = .ok (.iconst 5, 1) := by decide +kernel
theorem dX9_prime_23 : decode cX9_prime 23 = .ok (.goto 25, 3) := by decide +kernel
theorem dX9_prime_26 : decode cX9_prime 26 = .ok (.iload_n 0, 1) := by decide +kernel
theorem dX9_prime_27 : decode cX9_prime 27 = .ok (.iconst 3, 1) := by decide +kernel
theorem dX9_prime_28 : decode cX9_prime 28 = .ok (.if_icmp .ne 8, 3) := by decide +kernel
theorem dX9_prime_31 : decode cX9_prime 31 = .ok (.bipush 7, 2) := by decide +kernel
theorem dX9_prime_33 : decode cX9_prime 33 = .ok (.goto 15, 3) := by decide +kernel
theorem dX9_prime_36 : decode cX9_prime 36 = .ok (.iload_n 0, 1) := by decide +kernel
theorem dX9_prime_37 : decode cX9_prime 37 = .ok (.iconst 4, 1) := by decide +kernel
theorem dX9_prime_38 : decode cX9_prime 38 = .ok (.if_icmp .ne 8, 3) := by decide +kernel
theorem dX9_prime_41 : decode cX9_prime 41 = .ok (.bipush 11, 2) := by decide +kernel
theorem dX9_prime_43 : decode cX9_prime 43 = .ok (.goto 5, 3) := by decide +kernel
theorem dX9_prime_46 : decode cX9_prime 46 = .ok (.bipush 13, 2) := by decide +kernel
theorem dX9_prime_48 : decode cX9_prime 48 = .ok (.ireturn, 1) := by decide +kernel
theorem dX9_isShelf_0 : decode cX9_isShelf 0 = .ok (.iload_n 0, 1) := by decide +kernel
theorem dX9_isShelf_1 : decode cX9_isShelf 1 = .ok (.ifCond .lt 13, 3) := by decide +kernel
theorem dX9_isShelf_4 : decode cX9_isShelf 4 = .ok (.iload_n 0, 1) := by decide +kernel
theorem dX9_isShelf_5 : decode cX9_isShelf 5 = .ok (.bipush 16, 2) := by decide +kernel
theorem dX9_isShelf_7 : decode cX9_isShelf 7 = .ok (.if_icmp .ge 7, 3) := by decide +kernel
theorem dX9_isShelf_10 : decode cX9_isShelf 10 = .ok (.iconst 1, 1) := by decide +kernel
theorem dX9_isShelf_11 : decode cX9_isShelf 11 = .ok (.goto 4, 3) := by decide +kernel
theorem dX9_isShelf_14 : decode cX9_isShelf 14 = .ok (.iconst 0, 1) := by decide +kernel
theorem dX9_isShelf_15 : decode cX9_isShelf 15 = .ok (.ireturn, 1) := by decide +kernel
theorem dX9_multiply_0 : decode cX9_multiply 0 = .ok (.lconst 0, 1) := by decide +kernel
theorem dX9_multiply_1 : decode cX9_multiply 1 = .ok (.lstore_n 3, 1) := by decide +kernel
theorem dX9_multiply_2 : decode cX9_multiply 2 = .ok (.iconst 0, 1) := by decide +kernel
theorem dX9_multiply_3 : decode cX9_multiply 3 = .ok (.istore 5, 2) := by decide +kernel
theorem dX9_multiply_5 : decode cX9_multiply 5 = .ok (.iload 5, 2) := by decide +kernel
theorem dX9_multiply_7 : decode cX9_multiply 7 = .ok (.iload_n 1, 1) := by decide +kernel
theorem dX9_multiply_8 : decode cX9_multiply 8 = .ok (.if_icmp .ge 39, 3) := by decide +kernel
theorem dX9_multiply_11 : decode cX9_multiply 11 = .ok (.aload_n 0, 1) := by decide +kernel
theorem dX9_multiply_12 : decode cX9_multiply 12 = .ok (.iload 5, 2) := by decide +kernel
theorem dX9_multiply_14 : decode cX9_multiply 14 = .ok (.iaload, 1) := by decide +kernel
theorem dX9_multiply_15 : decode cX9_multiply 15 = .ok (.i2l, 1) := by decide +kernel
theorem dX9_multiply_16 : decode cX9_multiply 16 = .ok (.iload_n 2, 1) := by decide +kernel
theorem dX9_multiply_17 : decode cX9_multiply 17 = .ok (.i2l, 1) := by decide +kernel
theorem dX9_multiply_18 : decode cX9_multiply 18 = .ok (.lmul, 1) := by decide +kernel
theorem dX9_multiply_19 : decode cX9_multiply 19 = .ok (.lload_n 3, 1) := by decide +kernel
theorem dX9_multiply_20 : decode cX9_multiply 20 = .ok (.ladd, 1) := by decide +kernel
theorem dX9_multiply_21 : decode cX9_multiply 21 = .ok (.lstore 6, 2) := by decide +kernel
theorem dX9_multiply_23 : decode cX9_multiply 23 = .ok (.aload_n 0, 1) := by decide +kernel
theorem dX9_multiply_24 : decode cX9_multiply 24 = .ok (.iload 5, 2) := by decide +kernel
theorem dX9_multiply_26 : decode cX9_multiply 26 = .ok (.lload 6, 2) := by decide +kernel
theorem dX9_multiply_28 : decode cX9_multiply 28 = .ok (.ldc2_w 70, 3) := by decide +kernel
theorem dX9_multiply_31 : decode cX9_multiply 31 = .ok (.lrem, 1) := by decide +kernel
theorem dX9_multiply_32 : decode cX9_multiply 32 = .ok (.l2i, 1) := by decide +kernel
theorem dX9_multiply_33 : decode cX9_multiply 33 = .ok (.iastore, 1) := by decide +kernel
theorem dX9_multiply_34 : decode cX9_multiply 34 = .ok (.lload 6, 2) := by decide +kernel
theorem dX9_multiply_36 : decode cX9_multiply 36 = .ok (.ldc2_w 70, 3) := by decide +kernel
theorem dX9_multiply_39 : decode cX9_multiply 39 = .ok (.ldiv, 1) := by decide +kernel
theorem dX9_multiply_40 : decode cX9_multiply 40 = .ok (.lstore_n 3, 1) := by decide +kernel
theorem dX9_multiply_41 : decode cX9_multiply 41 = .ok (.iinc 5 1, 3) := by decide +kernel
theorem dX9_multiply_44 : decode cX9_multiply 44 = .ok (.goto (-39), 3) := by decide +kernel
theorem dX9_multiply_47 : decode cX9_multiply 47 = .ok (.lload_n 3, 1) := by decide +kernel
theorem dX9_multiply_48 : decode cX9_multiply 48 = .ok (.lconst 0, 1) := by decide +kernel
theorem dX9_multiply_49 : decode cX9_multiply 49 = .ok (.lcmp, 1) := by decide +kernel
theorem dX9_multiply_50 : decode cX9_multiply 50 = .ok (.ifCond .ne 5, 3) := by decide +kernel
theorem dX9_multiply_53 : decode cX9_multiply 53 = .ok (.iload_n 1, 1) := by decide +kernel
theorem dX9_multiply_54 : decode cX9_multiply 54 = .ok (.ireturn, 1) := by decide +kernel
theorem dX9_multiply_55 : decode cX9_multiply 55 = .ok (.aload_n 0, 1) := by decide +kernel
theorem dX9_multiply_56 : decode cX9_multiply 56 = .ok (.iload_n 1, 1) := by decide +kernel
theorem dX9_multiply_57 : decode cX9_multiply 57 = .ok (.lload_n 3, 1) := by decide +kernel
theorem dX9_multiply_58 : decode cX9_multiply 58 = .ok (.l2i, 1) := by decide +kernel
theorem dX9_multiply_59 : decode cX9_multiply 59 = .ok (.iastore, 1) := by decide +kernel
theorem dX9_multiply_60 : decode cX9_multiply 60 = .ok (.iload_n 1, 1) := by decide +kernel
theorem dX9_multiply_61 : decode cX9_multiply 61 = .ok (.iconst 1, 1) := by decide +kernel
theorem dX9_multiply_62 : decode cX9_multiply 62 = .ok (.iadd, 1) := by decide +kernel
theorem dX9_multiply_63 : decode cX9_multiply 63 = .ok (.ireturn, 1) := by decide +kernel
theorem dX9_products_0 : decode cX9_products 0 = .ok (.aload_n 0, 1) := by decide +kernel
theorem dX9_products_1 : decode cX9_products 1 = .ok (.getfield 17, 3) := by decide +kernel
theorem dX9_products_4 : decode cX9_products 4 = .ok (.iconst 0, 1) := by decide +kernel
theorem dX9_products_5 : decode cX9_products 5 = .ok (.iconst 1, 1) := by decide +kernel
theorem dX9_products_6 : decode cX9_products 6 = .ok (.iastore, 1) := by decide +kernel
theorem dX9_products_7 : decode cX9_products 7 = .ok (.aload_n 0, 1) := by decide +kernel
theorem dX9_products_8 : decode cX9_products 8 = .ok (.getfield 20, 3) := by decide +kernel
theorem dX9_products_11 : decode cX9_products 11 = .ok (.iconst 0, 1) := by decide +kernel
theorem dX9_products_12 : decode cX9_products 12 = .ok (.iconst 1, 1) := by decide +kernel
theorem dX9_products_13 : decode cX9_products 13 = .ok (.iastore, 1) := by decide +kernel
theorem dX9_products_14 : decode cX9_products 14 = .ok (.aload_n 0, 1) := by decide +kernel
theorem dX9_products_15 : decode cX9_products 15 = .ok (.iconst 1, 1) := by decide +kernel
theorem dX9_products_16 : decode cX9_products 16 = .ok (.putfield 72, 3) := by decide +kernel
theorem dX9_products_19 : decode cX9_products 19 = .ok (.aload_n 0, 1) := by decide +kernel
theorem dX9_products_20 : decode cX9_products 20 = .ok (.iconst 1, 1) := by decide +kernel
theorem dX9_products_21 : decode cX9_products 21 = .ok (.putfield 75, 3) := by decide +kernel
theorem dX9_products_24 : decode cX9_products 24 = .ok (.iconst 0, 1) := by decide +kernel
theorem dX9_products_25 : decode cX9_products 25 = .ok (.istore_n 1, 1) := by decide +kernel
theorem dX9_products_26 : decode cX9_products 26 = .ok (.iload_n 1, 1) := by decide +kernel
theorem dX9_products_27 : decode cX9_products 27 = .ok (.bipush 6, 2) := by decide +kernel
theorem dX9_products_29 : decode cX9_products 29 = .ok (.if_icmp .ge 83, 3) := by decide +kernel
theorem dX9_products_32 : decode cX9_products 32 = .ok (.iconst 0, 1) := by decide +kernel
theorem dX9_products_33 : decode cX9_products 33 = .ok (.istore_n 2, 1) := by decide +kernel
theorem dX9_products_34 : decode cX9_products 34 = .ok (.iload_n 2, 1) := by decide +kernel
theorem dX9_products_35 : decode cX9_products 35 = .ok (.aload_n 0, 1) := by decide +kernel
theorem dX9_products_36 : decode cX9_products 36 = .ok (.getfield 23, 3) := by decide +kernel
theorem dX9_products_39 : decode cX9_products 39 = .ok (.iload_n 1, 1) := by decide +kernel
theorem dX9_products_40 : decode cX9_products 40 = .ok (.iaload, 1) := by decide +kernel
theorem dX9_products_41 : decode cX9_products 41 = .ok (.if_icmp .ge 28, 3) := by decide +kernel
theorem dX9_products_44 : decode cX9_products 44 = .ok (.aload_n 0, 1) := by decide +kernel
theorem dX9_products_45 : decode cX9_products 45 = .ok (.aload_n 0, 1) := by decide +kernel
theorem dX9_products_46 : decode cX9_products 46 = .ok (.getfield 17, 3) := by decide +kernel
theorem dX9_products_49 : decode cX9_products 49 = .ok (.aload_n 0, 1) := by decide +kernel
theorem dX9_products_50 : decode cX9_products 50 = .ok (.getfield 72, 3) := by decide +kernel
theorem dX9_products_53 : decode cX9_products 53 = .ok (.iload_n 1, 1) := by decide +kernel
theorem dX9_products_54 : decode cX9_products 54 = .ok (.invokestatic 78, 3) := by decide +kernel
theorem dX9_products_57 : decode cX9_products 57 = .ok (.invokestatic 82, 3) := by decide +kernel
theorem dX9_products_60 : decode cX9_products 60 = .ok (.putfield 72, 3) := by decide +kernel
theorem dX9_products_63 : decode cX9_products 63 = .ok (.iinc 2 1, 3) := by decide +kernel
theorem dX9_products_66 : decode cX9_products 66 = .ok (.goto (-32), 3) := by decide +kernel
theorem dX9_products_69 : decode cX9_products 69 = .ok (.iconst 0, 1) := by decide +kernel
theorem dX9_products_70 : decode cX9_products 70 = .ok (.istore_n 2, 1) := by decide +kernel
theorem dX9_products_71 : decode cX9_products 71 = .ok (.iload_n 2, 1) := by decide +kernel
theorem dX9_products_72 : decode cX9_products 72 = .ok (.aload_n 0, 1) := by decide +kernel
theorem dX9_products_73 : decode cX9_products 73 = .ok (.getfield 23, 3) := by decide +kernel
theorem dX9_products_76 : decode cX9_products 76 = .ok (.iload_n 1, 1) := by decide +kernel
theorem dX9_products_77 : decode cX9_products 77 = .ok (.iaload, 1) := by decide +kernel
theorem dX9_products_78 : decode cX9_products 78 = .ok (.if_icmp .le 28, 3) := by decide +kernel
theorem dX9_products_81 : decode cX9_products 81 = .ok (.aload_n 0, 1) := by decide +kernel
theorem dX9_products_82 : decode cX9_products 82 = .ok (.aload_n 0, 1) := by decide +kernel
theorem dX9_products_83 : decode cX9_products 83 = .ok (.getfield 20, 3) := by decide +kernel
theorem dX9_products_86 : decode cX9_products 86 = .ok (.aload_n 0, 1) := by decide +kernel
theorem dX9_products_87 : decode cX9_products 87 = .ok (.getfield 75, 3) := by decide +kernel
theorem dX9_products_90 : decode cX9_products 90 = .ok (.iload_n 1, 1) := by decide +kernel
theorem dX9_products_91 : decode cX9_products 91 = .ok (.invokestatic 78, 3) := by decide +kernel
theorem dX9_products_94 : decode cX9_products 94 = .ok (.invokestatic 82, 3) := by decide +kernel
theorem dX9_products_97 : decode cX9_products 97 = .ok (.putfield 75, 3) := by decide +kernel
theorem dX9_products_100 : decode cX9_products 100 = .ok (.iinc 2 (-1), 3) := by decide +kernel
theorem dX9_products_103 : decode cX9_products 103 = .ok (.goto (-32), 3) := by decide +kernel
theorem dX9_products_106 : decode cX9_products 106 = .ok (.iinc 1 1, 3) := by decide +kernel
theorem dX9_products_109 : decode cX9_products 109 = .ok (.goto (-83), 3) := by decide +kernel
theorem dX9_products_112 : decode cX9_products 112 = .ok (.return_, 1) := by decide +kernel
theorem dX9_sign_0 : decode cX9_sign 0 = .ok (.iconst 1, 1) := by decide +kernel
theorem dX9_sign_1 : decode cX9_sign 1 = .ok (.istore_n 1, 1) := by decide +kernel
theorem dX9_sign_2 : decode cX9_sign 2 = .ok (.iconst 0, 1) := by decide +kernel
theorem dX9_sign_3 : decode cX9_sign 3 = .ok (.istore_n 2, 1) := by decide +kernel
theorem dX9_sign_4 : decode cX9_sign 4 = .ok (.iload_n 2, 1) := by decide +kernel
theorem dX9_sign_5 : decode cX9_sign 5 = .ok (.bipush 6, 2) := by decide +kernel
theorem dX9_sign_7 : decode cX9_sign 7 = .ok (.if_icmp .ge 28, 3) := by decide +kernel
theorem dX9_sign_10 : decode cX9_sign 10 = .ok (.iload_n 1, 1) := by decide +kernel
theorem dX9_sign_11 : decode cX9_sign 11 = .ok (.ifCond .eq 16, 3) := by decide +kernel
theorem dX9_sign_14 : decode cX9_sign 14 = .ok (.aload_n 0, 1) := by decide +kernel
theorem dX9_sign_15 : decode cX9_sign 15 = .ok (.getfield 23, 3) := by decide +kernel
theorem dX9_sign_18 : decode cX9_sign 18 = .ok (.iload_n 2, 1) := by decide +kernel
theorem dX9_sign_19 : decode cX9_sign 19 = .ok (.iaload, 1) := by decide +kernel
theorem dX9_sign_20 : decode cX9_sign 20 = .ok (.ifCond .ne 7, 3) := by decide +kernel
theorem dX9_sign_23 : decode cX9_sign 23 = .ok (.iconst 1, 1) := by decide +kernel
theorem dX9_sign_24 : decode cX9_sign 24 = .ok (.goto 4, 3) := by decide +kernel
theorem dX9_sign_27 : decode cX9_sign 27 = .ok (.iconst 0, 1) := by decide +kernel
theorem dX9_sign_28 : decode cX9_sign 28 = .ok (.istore_n 1, 1) := by decide +kernel
theorem dX9_sign_29 : decode cX9_sign 29 = .ok (.iinc 2 1, 3) := by decide +kernel
theorem dX9_sign_32 : decode cX9_sign 32 = .ok (.goto (-28), 3) := by decide +kernel
theorem dX9_sign_35 : decode cX9_sign 35 = .ok (.iload_n 1, 1) := by decide +kernel
theorem dX9_sign_36 : decode cX9_sign 36 = .ok (.ifCond .eq 5, 3) := by decide +kernel
theorem dX9_sign_39 : decode cX9_sign 39 = .ok (.iconst 0, 1) := by decide +kernel
theorem dX9_sign_40 : decode cX9_sign 40 = .ok (.ireturn, 1) := by decide +kernel
theorem dX9_sign_41 : decode cX9_sign 41 = .ok (.aload_n 0, 1) := by decide +kernel
theorem dX9_sign_42 : decode cX9_sign 42 = .ok (.invokevirtual 86, 3) := by decide +kernel
theorem dX9_sign_45 : decode cX9_sign 45 = .ok (.aload_n 0, 1) := by decide +kernel
theorem dX9_sign_46 : decode cX9_sign 46 = .ok (.getfield 72, 3) := by decide +kernel
theorem dX9_sign_49 : decode cX9_sign 49 = .ok (.aload_n 0, 1) := by decide +kernel
theorem dX9_sign_50 : decode cX9_sign 50 = .ok (.getfield 75, 3) := by decide +kernel
theorem dX9_sign_53 : decode cX9_sign 53 = .ok (.if_icmp .eq 20, 3) := by decide +kernel
theorem dX9_sign_56 : decode cX9_sign 56 = .ok (.aload_n 0, 1) := by decide +kernel
theorem dX9_sign_57 : decode cX9_sign 57 = .ok (.getfield 72, 3) := by decide +kernel
theorem dX9_sign_60 : decode cX9_sign 60 = .ok (.aload_n 0, 1) := by decide +kernel
theorem dX9_sign_61 : decode cX9_sign 61 = .ok (.getfield 75, 3) := by decide +kernel
theorem dX9_sign_64 : decode cX9_sign 64 = .ok (.if_icmp .le 7, 3) := by decide +kernel
theorem dX9_sign_67 : decode cX9_sign 67 = .ok (.iconst 1, 1) := by decide +kernel
theorem dX9_sign_68 : decode cX9_sign 68 = .ok (.goto 4, 3) := by decide +kernel
theorem dX9_sign_71 : decode cX9_sign 71 = .ok (.iconst (-1), 1) := by decide +kernel
theorem dX9_sign_72 : decode cX9_sign 72 = .ok (.ireturn, 1) := by decide +kernel
theorem dX9_sign_73 : decode cX9_sign 73 = .ok (.aload_n 0, 1) := by decide +kernel
theorem dX9_sign_74 : decode cX9_sign 74 = .ok (.getfield 72, 3) := by decide +kernel
theorem dX9_sign_77 : decode cX9_sign 77 = .ok (.iconst 1, 1) := by decide +kernel
theorem dX9_sign_78 : decode cX9_sign 78 = .ok (.isub, 1) := by decide +kernel
theorem dX9_sign_79 : decode cX9_sign 79 = .ok (.istore_n 2, 1) := by decide +kernel
theorem dX9_sign_80 : decode cX9_sign 80 = .ok (.iload_n 2, 1) := by decide +kernel
theorem dX9_sign_81 : decode cX9_sign 81 = .ok (.ifCond .lt 45, 3) := by decide +kernel
theorem dX9_sign_84 : decode cX9_sign 84 = .ok (.aload_n 0, 1) := by decide +kernel
theorem dX9_sign_85 : decode cX9_sign 85 = .ok (.getfield 17, 3) := by decide +kernel
theorem dX9_sign_88 : decode cX9_sign 88 = .ok (.iload_n 2, 1) := by decide +kernel
theorem dX9_sign_89 : decode cX9_sign 89 = .ok (.iaload, 1) := by decide +kernel
theorem dX9_sign_90 : decode cX9_sign 90 = .ok (.aload_n 0, 1) := by decide +kernel
theorem dX9_sign_91 : decode cX9_sign 91 = .ok (.getfield 20, 3) := by decide +kernel
theorem dX9_sign_94 : decode cX9_sign 94 = .ok (.iload_n 2, 1) := by decide +kernel
theorem dX9_sign_95 : decode cX9_sign 95 = .ok (.iaload, 1) := by decide +kernel
theorem dX9_sign_96 : decode cX9_sign 96 = .ok (.if_icmp .eq 24, 3) := by decide +kernel
theorem dX9_sign_99 : decode cX9_sign 99 = .ok (.aload_n 0, 1) := by decide +kernel
theorem dX9_sign_100 : decode cX9_sign 100 = .ok (.getfield 17, 3) := by decide +kernel
theorem dX9_sign_103 : decode cX9_sign 103 = .ok (.iload_n 2, 1) := by decide +kernel
theorem dX9_sign_104 : decode cX9_sign 104 = .ok (.iaload, 1) := by decide +kernel
theorem dX9_sign_105 : decode cX9_sign 105 = .ok (.aload_n 0, 1) := by decide +kernel
theorem dX9_sign_106 : decode cX9_sign 106 = .ok (.getfield 20, 3) := by decide +kernel
theorem dX9_sign_109 : decode cX9_sign 109 = .ok (.iload_n 2, 1) := by decide +kernel
theorem dX9_sign_110 : decode cX9_sign 110 = .ok (.iaload, 1) := by decide +kernel
theorem dX9_sign_111 : decode cX9_sign 111 = .ok (.if_icmp .le 7, 3) := by decide +kernel
theorem dX9_sign_114 : decode cX9_sign 114 = .ok (.iconst 1, 1) := by decide +kernel
theorem dX9_sign_115 : decode cX9_sign 115 = .ok (.goto 4, 3) := by decide +kernel
theorem dX9_sign_118 : decode cX9_sign 118 = .ok (.iconst (-1), 1) := by decide +kernel
theorem dX9_sign_119 : decode cX9_sign 119 = .ok (.ireturn, 1) := by decide +kernel
theorem dX9_sign_120 : decode cX9_sign 120 = .ok (.iinc 2 (-1), 3) := by decide +kernel
theorem dX9_sign_123 : decode cX9_sign 123 = .ok (.goto (-43), 3) := by decide +kernel
theorem dX9_sign_126 : decode cX9_sign 126 = .ok (.iconst 0, 1) := by decide +kernel
theorem dX9_sign_127 : decode cX9_sign 127 = .ok (.ireturn, 1) := by decide +kernel
theorem dX9_hold_0 : decode cX9_hold 0 = .ok (.iconst 0, 1) := by decide +kernel
theorem dX9_hold_1 : decode cX9_hold 1 = .ok (.istore_n 3, 1) := by decide +kernel
theorem dX9_hold_2 : decode cX9_hold 2 = .ok (.iload_n 3, 1) := by decide +kernel
theorem dX9_hold_3 : decode cX9_hold 3 = .ok (.bipush 6, 2) := by decide +kernel
theorem dX9_hold_5 : decode cX9_hold 5 = .ok (.if_icmp .ge 20, 3) := by decide +kernel
theorem dX9_hold_8 : decode cX9_hold 8 = .ok (.aload_n 0, 1) := by decide +kernel
theorem dX9_hold_9 : decode cX9_hold 9 = .ok (.getfield 23, 3) := by decide +kernel
theorem dX9_hold_12 : decode cX9_hold 12 = .ok (.iload_n 3, 1) := by decide +kernel
theorem dX9_hold_13 : decode cX9_hold 13 = .ok (.aload_n 1, 1) := by decide +kernel
theorem dX9_hold_14 : decode cX9_hold 14 = .ok (.iload_n 2, 1) := by decide +kernel
theorem dX9_hold_15 : decode cX9_hold 15 = .ok (.iload_n 3, 1) := by decide +kernel
theorem dX9_hold_16 : decode cX9_hold 16 = .ok (.iadd, 1) := by decide +kernel
theorem dX9_hold_17 : decode cX9_hold 17 = .ok (.iaload, 1) := by decide +kernel
theorem dX9_hold_18 : decode cX9_hold 18 = .ok (.iastore, 1) := by decide +kernel
theorem dX9_hold_19 : decode cX9_hold 19 = .ok (.iinc 3 1, 3) := by decide +kernel
theorem dX9_hold_22 : decode cX9_hold 22 = .ok (.goto (-20), 3) := by decide +kernel
theorem dX9_hold_25 : decode cX9_hold 25 = .ok (.return_, 1) := by decide +kernel
theorem dX9_give_0 : decode cX9_give 0 = .ok (.iconst 0, 1) := by decide +kernel
theorem dX9_give_1 : decode cX9_give 1 = .ok (.istore_n 3, 1) := by decide +kernel
theorem dX9_give_2 : decode cX9_give 2 = .ok (.iload_n 3, 1) := by decide +kernel
theorem dX9_give_3 : decode cX9_give 3 = .ok (.bipush 6, 2) := by decide +kernel
theorem dX9_give_5 : decode cX9_give 5 = .ok (.if_icmp .ge 20, 3) := by decide +kernel
theorem dX9_give_8 : decode cX9_give 8 = .ok (.aload_n 1, 1) := by decide +kernel
theorem dX9_give_9 : decode cX9_give 9 = .ok (.iload_n 2, 1) := by decide +kernel
theorem dX9_give_10 : decode cX9_give 10 = .ok (.iload_n 3, 1) := by decide +kernel
theorem dX9_give_11 : decode cX9_give 11 = .ok (.iadd, 1) := by decide +kernel
theorem dX9_give_12 : decode cX9_give 12 = .ok (.aload_n 0, 1) := by decide +kernel
theorem dX9_give_13 : decode cX9_give 13 = .ok (.getfield 23, 3) := by decide +kernel
theorem dX9_give_16 : decode cX9_give 16 = .ok (.iload_n 3, 1) := by decide +kernel
theorem dX9_give_17 : decode cX9_give 17 = .ok (.iaload, 1) := by decide +kernel
theorem dX9_give_18 : decode cX9_give 18 = .ok (.iastore, 1) := by decide +kernel
theorem dX9_give_19 : decode cX9_give 19 = .ok (.iinc 3 1, 3) := by decide +kernel
theorem dX9_give_22 : decode cX9_give 22 = .ok (.goto (-20), 3) := by decide +kernel
theorem dX9_give_25 : decode cX9_give 25 = .ok (.return_, 1) := by decide +kernel
theorem dX9_less_0 : decode cX9_less 0 = .ok (.iconst 0, 1) := by decide +kernel
theorem dX9_less_1 : decode cX9_less 1 = .ok (.istore_n 3, 1) := by decide +kernel
theorem dX9_less_2 : decode cX9_less 2 = .ok (.iload_n 3, 1) := by decide +kernel
theorem dX9_less_3 : decode cX9_less 3 = .ok (.bipush 6, 2) := by decide +kernel
theorem dX9_less_5 : decode cX9_less 5 = .ok (.if_icmp .ge 23, 3) := by decide +kernel
theorem dX9_less_8 : decode cX9_less 8 = .ok (.aload_n 0, 1) := by decide +kernel
theorem dX9_less_9 : decode cX9_less 9 = .ok (.getfield 23, 3) := by decide +kernel
theorem dX9_less_12 : decode cX9_less 12 = .ok (.iload_n 3, 1) := by decide +kernel
theorem dX9_less_13 : decode cX9_less 13 = .ok (.dup2, 1) := by decide +kernel
theorem dX9_less_14 : decode cX9_less 14 = .ok (.iaload, 1) := by decide +kernel
theorem dX9_less_15 : decode cX9_less 15 = .ok (.aload_n 1, 1) := by decide +kernel
theorem dX9_less_16 : decode cX9_less 16 = .ok (.iload_n 2, 1) := by decide +kernel
theorem dX9_less_17 : decode cX9_less 17 = .ok (.iload_n 3, 1) := by decide +kernel
theorem dX9_less_18 : decode cX9_less 18 = .ok (.iadd, 1) := by decide +kernel
theorem dX9_less_19 : decode cX9_less 19 = .ok (.iaload, 1) := by decide +kernel
theorem dX9_less_20 : decode cX9_less 20 = .ok (.isub, 1) := by decide +kernel
theorem dX9_less_21 : decode cX9_less 21 = .ok (.iastore, 1) := by decide +kernel
theorem dX9_less_22 : decode cX9_less 22 = .ok (.iinc 3 1, 3) := by decide +kernel
theorem dX9_less_25 : decode cX9_less 25 = .ok (.goto (-23), 3) := by decide +kernel
theorem dX9_less_28 : decode cX9_less 28 = .ok (.return_, 1) := by decide +kernel
theorem dX9_isFar_0 : decode cX9_isFar 0 = .ok (.iconst 0, 1) := by decide +kernel
theorem dX9_isFar_1 : decode cX9_isFar 1 = .ok (.istore_n 1, 1) := by decide +kernel
theorem dX9_isFar_2 : decode cX9_isFar 2 = .ok (.iconst 0, 1) := by decide +kernel
theorem dX9_isFar_3 : decode cX9_isFar 3 = .ok (.istore_n 2, 1) := by decide +kernel
theorem dX9_isFar_4 : decode cX9_isFar 4 = .ok (.iload_n 2, 1) := by decide +kernel
theorem dX9_isFar_5 : decode cX9_isFar 5 = .ok (.bipush 6, 2) := by decide +kernel
theorem dX9_isFar_7 : decode cX9_isFar 7 = .ok (.if_icmp .ge 41, 3) := by decide +kernel
theorem dX9_isFar_10 : decode cX9_isFar 10 = .ok (.iload_n 1, 1) := by decide +kernel
theorem dX9_isFar_11 : decode cX9_isFar 11 = .ok (.ifCond .ne 25, 3) := by decide +kernel
theorem dX9_isFar_14 : decode cX9_isFar 14 = .ok (.aload_n 0, 1) := by decide +kernel
theorem dX9_isFar_15 : decode cX9_isFar 15 = .ok (.getfield 23, 3) := by decide +kernel
theorem dX9_isFar_18 : decode cX9_isFar 18 = .ok (.iload_n 2, 1) := by decide +kernel
theorem dX9_isFar_19 : decode cX9_isFar 19 = .ok (.iaload, 1) := by decide +kernel
theorem dX9_isFar_20 : decode cX9_isFar 20 = .ok (.bipush (-24), 2) := by decide +kernel
theorem dX9_isFar_22 : decode cX9_isFar 22 = .ok (.if_icmp .lt 14, 3) := by decide +kernel
theorem dX9_isFar_25 : decode cX9_isFar 25 = .ok (.aload_n 0, 1) := by decide +kernel
theorem dX9_isFar_26 : decode cX9_isFar 26 = .ok (.getfield 23, 3) := by decide +kernel
theorem dX9_isFar_29 : decode cX9_isFar 29 = .ok (.iload_n 2, 1) := by decide +kernel
theorem dX9_isFar_30 : decode cX9_isFar 30 = .ok (.iaload, 1) := by decide +kernel
theorem dX9_isFar_31 : decode cX9_isFar 31 = .ok (.bipush 24, 2) := by decide +kernel
theorem dX9_isFar_33 : decode cX9_isFar 33 = .ok (.if_icmp .le 7, 3) := by decide +kernel
theorem dX9_isFar_36 : decode cX9_isFar 36 = .ok (.iconst 1, 1) := by decide +kernel
theorem dX9_isFar_37 : decode cX9_isFar 37 = .ok (.goto 4, 3) := by decide +kernel
theorem dX9_isFar_40 : decode cX9_isFar 40 = .ok (.iconst 0, 1) := by decide +kernel
theorem dX9_isFar_41 : decode cX9_isFar 41 = .ok (.istore_n 1, 1) := by decide +kernel
theorem dX9_isFar_42 : decode cX9_isFar 42 = .ok (.iinc 2 1, 3) := by decide +kernel
theorem dX9_isFar_45 : decode cX9_isFar 45 = .ok (.goto (-41), 3) := by decide +kernel
theorem dX9_isFar_48 : decode cX9_isFar 48 = .ok (.iload_n 1, 1) := by decide +kernel
theorem dX9_isFar_49 : decode cX9_isFar 49 = .ok (.ireturn, 1) := by decide +kernel
theorem dX9_compare_0 : decode cX9_compare 0 = .ok (.aload_n 0, 1) := by decide +kernel
theorem dX9_compare_1 : decode cX9_compare 1 = .ok (.aload_n 1, 1) := by decide +kernel
theorem dX9_compare_2 : decode cX9_compare 2 = .ok (.iload_n 2, 1) := by decide +kernel
theorem dX9_compare_3 : decode cX9_compare 3 = .ok (.invokevirtual 89, 3) := by decide +kernel
theorem dX9_compare_6 : decode cX9_compare 6 = .ok (.aload_n 0, 1) := by decide +kernel
theorem dX9_compare_7 : decode cX9_compare 7 = .ok (.aload_n 3, 1) := by decide +kernel
theorem dX9_compare_8 : decode cX9_compare 8 = .ok (.iload 4, 2) := by decide +kernel
theorem dX9_compare_10 : decode cX9_compare 10 = .ok (.invokevirtual 93, 3) := by decide +kernel
theorem dX9_compare_13 : decode cX9_compare 13 = .ok (.aload_n 0, 1) := by decide +kernel
theorem dX9_compare_14 : decode cX9_compare 14 = .ok (.invokevirtual 96, 3) := by decide +kernel
theorem dX9_compare_17 : decode cX9_compare 17 = .ok (.ireturn, 1) := by decide +kernel
theorem dX9_comes_0 : decode cX9_comes 0 = .ok (.aload_n 0, 1) := by decide +kernel
theorem dX9_comes_1 : decode cX9_comes 1 = .ok (.invokevirtual 100, 3) := by decide +kernel
theorem dX9_comes_4 : decode cX9_comes 4 = .ok (.ifCond .eq 9, 3) := by decide +kernel
theorem dX9_comes_7 : decode cX9_comes 7 = .ok (.aload_n 0, 1) := by decide +kernel
theorem dX9_comes_8 : decode cX9_comes 8 = .ok (.iconst 4, 1) := by decide +kernel
theorem dX9_comes_9 : decode cX9_comes 9 = .ok (.invokevirtual 104, 3) := by decide +kernel
theorem dX9_comes_12 : decode cX9_comes 12 = .ok (.ireturn, 1) := by decide +kernel
theorem dX9_comes_13 : decode cX9_comes 13 = .ok (.aload_n 0, 1) := by decide +kernel
theorem dX9_comes_14 : decode cX9_comes 14 = .ok (.aload_n 0, 1) := by decide +kernel
theorem dX9_comes_15 : decode cX9_comes 15 = .ok (.getfield 7, 3) := by decide +kernel
theorem dX9_comes_18 : decode cX9_comes 18 = .ok (.bipush 6, 2) := by decide +kernel
theorem dX9_comes_20 : decode cX9_comes 20 = .ok (.iload_n 1, 1) := by decide +kernel
theorem dX9_comes_21 : decode cX9_comes 21 = .ok (.imul, 1) := by decide +kernel
theorem dX9_comes_22 : decode cX9_comes 22 = .ok (.invokevirtual 108, 3) := by decide +kernel
theorem dX9_comes_25 : decode cX9_comes 25 = .ok (.aload_n 0, 1) := by decide +kernel
theorem dX9_comes_26 : decode cX9_comes 26 = .ok (.getfield 13, 3) := by decide +kernel
theorem dX9_comes_29 : decode cX9_comes 29 = .ok (.iload_n 1, 1) := by decide +kernel
theorem dX9_comes_30 : decode cX9_comes 30 = .ok (.iconst 1, 1) := by decide +kernel
theorem dX9_comes_31 : decode cX9_comes 31 = .ok (.bastore, 1) := by decide +kernel
theorem dX9_comes_32 : decode cX9_comes 32 = .ok (.aload_n 0, 1) := by decide +kernel
theorem dX9_comes_33 : decode cX9_comes 33 = .ok (.iconst 0, 1) := by decide +kernel
theorem dX9_comes_34 : decode cX9_comes 34 = .ok (.invokevirtual 104, 3) := by decide +kernel
theorem dX9_comes_37 : decode cX9_comes 37 = .ok (.ireturn, 1) := by decide +kernel
theorem dX9_set_0 : decode cX9_set 0 = .ok (.iload_n 1, 1) := by decide +kernel
theorem dX9_set_1 : decode cX9_set 1 = .ok (.invokestatic 111, 3) := by decide +kernel
theorem dX9_set_4 : decode cX9_set 4 = .ok (.ifCond .ne 9, 3) := by decide +kernel
theorem dX9_set_7 : decode cX9_set 7 = .ok (.aload_n 0, 1) := by decide +kernel
theorem dX9_set_8 : decode cX9_set 8 = .ok (.iconst 1, 1) := by decide +kernel
theorem dX9_set_9 : decode cX9_set 9 = .ok (.invokevirtual 104, 3) := by decide +kernel
theorem dX9_set_12 : decode cX9_set 12 = .ok (.ireturn, 1) := by decide +kernel
theorem dX9_set_13 : decode cX9_set 13 = .ok (.aload_n 0, 1) := by decide +kernel
theorem dX9_set_14 : decode cX9_set 14 = .ok (.getfield 23, 3) := by decide +kernel
theorem dX9_set_17 : decode cX9_set 17 = .ok (.iconst 0, 1) := by decide +kernel
theorem dX9_set_18 : decode cX9_set 18 = .ok (.iload_n 2, 1) := by decide +kernel
theorem dX9_set_19 : decode cX9_set 19 = .ok (.iastore, 1) := by decide +kernel
theorem dX9_set_20 : decode cX9_set 20 = .ok (.aload_n 0, 1) := by decide +kernel
theorem dX9_set_21 : decode cX9_set 21 = .ok (.getfield 23, 3) := by decide +kernel
theorem dX9_set_24 : decode cX9_set 24 = .ok (.iconst 1, 1) := by decide +kernel
theorem dX9_set_25 : decode cX9_set 25 = .ok (.iload_n 3, 1) := by decide +kernel
theorem dX9_set_26 : decode cX9_set 26 = .ok (.iastore, 1) := by decide +kernel
theorem dX9_set_27 : decode cX9_set 27 = .ok (.aload_n 0, 1) := by decide +kernel
theorem dX9_set_28 : decode cX9_set 28 = .ok (.getfield 23, 3) := by decide +kernel
theorem dX9_set_31 : decode cX9_set 31 = .ok (.iconst 2, 1) := by decide +kernel
theorem dX9_set_32 : decode cX9_set 32 = .ok (.iload 4, 2) := by decide +kernel
theorem dX9_set_34 : decode cX9_set 34 = .ok (.iastore, 1) := by decide +kernel
theorem dX9_set_35 : decode cX9_set 35 = .ok (.aload_n 0, 1) := by decide +kernel
theorem dX9_set_36 : decode cX9_set 36 = .ok (.getfield 23, 3) := by decide +kernel
theorem dX9_set_39 : decode cX9_set 39 = .ok (.iconst 3, 1) := by decide +kernel
theorem dX9_set_40 : decode cX9_set 40 = .ok (.iload 5, 2) := by decide +kernel
theorem dX9_set_42 : decode cX9_set 42 = .ok (.iastore, 1) := by decide +kernel
theorem dX9_set_43 : decode cX9_set 43 = .ok (.aload_n 0, 1) := by decide +kernel
theorem dX9_set_44 : decode cX9_set 44 = .ok (.getfield 23, 3) := by decide +kernel
theorem dX9_set_47 : decode cX9_set 47 = .ok (.iconst 4, 1) := by decide +kernel
theorem dX9_set_48 : decode cX9_set 48 = .ok (.iload 6, 2) := by decide +kernel
theorem dX9_set_50 : decode cX9_set 50 = .ok (.iastore, 1) := by decide +kernel
theorem dX9_set_51 : decode cX9_set 51 = .ok (.aload_n 0, 1) := by decide +kernel
theorem dX9_set_52 : decode cX9_set 52 = .ok (.getfield 23, 3) := by decide +kernel
theorem dX9_set_55 : decode cX9_set 55 = .ok (.iconst 5, 1) := by decide +kernel
theorem dX9_set_56 : decode cX9_set 56 = .ok (.iload 7, 2) := by decide +kernel
theorem dX9_set_58 : decode cX9_set 58 = .ok (.iastore, 1) := by decide +kernel
theorem dX9_set_59 : decode cX9_set 59 = .ok (.aload_n 0, 1) := by decide +kernel
theorem dX9_set_60 : decode cX9_set 60 = .ok (.iload_n 1, 1) := by decide +kernel
theorem dX9_set_61 : decode cX9_set 61 = .ok (.invokevirtual 114, 3) := by decide +kernel
theorem dX9_set_64 : decode cX9_set 64 = .ok (.ireturn, 1) := by decide +kernel
theorem dX9_ratio_0 : decode cX9_ratio 0 = .ok (.iload_n 1, 1) := by decide +kernel
theorem dX9_ratio_1 : decode cX9_ratio 1 = .ok (.invokestatic 111, 3) := by decide +kernel
theorem dX9_ratio_4 : decode cX9_ratio 4 = .ok (.ifCond .ne 9, 3) := by decide +kernel
theorem dX9_ratio_7 : decode cX9_ratio 7 = .ok (.aload_n 0, 1) := by decide +kernel
theorem dX9_ratio_8 : decode cX9_ratio 8 = .ok (.iconst 1, 1) := by decide +kernel
theorem dX9_ratio_9 : decode cX9_ratio 9 = .ok (.invokevirtual 104, 3) := by decide +kernel
theorem dX9_ratio_12 : decode cX9_ratio 12 = .ok (.ireturn, 1) := by decide +kernel
theorem dX9_ratio_13 : decode cX9_ratio 13 = .ok (.iload_n 2, 1) := by decide +kernel
theorem dX9_ratio_14 : decode cX9_ratio 14 = .ok (.iconst 1, 1) := by decide +kernel
theorem dX9_ratio_15 : decode cX9_ratio 15 = .ok (.if_icmp .lt 20, 3) := by decide +kernel
theorem dX9_ratio_18 : decode cX9_ratio 18 = .ok (.iload_n 2, 1) := by decide +kernel
theorem dX9_ratio_19 : decode cX9_ratio 19 = .ok (.ldc 117, 2) := by decide +kernel
theorem dX9_ratio_21 : decode cX9_ratio 21 = .ok (.if_icmp .gt 14, 3) := by decide +kernel
theorem dX9_ratio_24 : decode cX9_ratio 24 = .ok (.iload_n 3, 1) := by decide +kernel
theorem dX9_ratio_25 : decode cX9_ratio 25 = .ok (.iconst 1, 1) := by decide +kernel
theorem dX9_ratio_26 : decode cX9_ratio 26 = .ok (.if_icmp .lt 9, 3) := by decide +kernel
theorem dX9_ratio_29 : decode cX9_ratio 29 = .ok (.iload_n 3, 1) := by decide +kernel
theorem dX9_ratio_30 : decode cX9_ratio 30 = .ok (.ldc 117, 2) := by decide +kernel
theorem dX9_ratio_32 : decode cX9_ratio 32 = .ok (.if_icmp .le 9, 3) := by decide +kernel
theorem dX9_ratio_35 : decode cX9_ratio 35 = .ok (.aload_n 0, 1) := by decide +kernel
theorem dX9_ratio_36 : decode cX9_ratio 36 = .ok (.iconst 3, 1) := by decide +kernel
theorem dX9_ratio_37 : decode cX9_ratio 37 = .ok (.invokevirtual 104, 3) := by decide +kernel
theorem dX9_ratio_40 : decode cX9_ratio 40 = .ok (.ireturn, 1) := by decide +kernel
theorem dX9_ratio_41 : decode cX9_ratio 41 = .ok (.iload_n 2, 1) := by decide +kernel
theorem dX9_ratio_42 : decode cX9_ratio 42 = .ok (.istore 4, 2) := by decide +kernel
theorem dX9_ratio_44 : decode cX9_ratio 44 = .ok (.iload_n 3, 1) := by decide +kernel
theorem dX9_ratio_45 : decode cX9_ratio 45 = .ok (.istore 5, 2) := by decide +kernel
theorem dX9_ratio_47 : decode cX9_ratio 47 = .ok (.iload 5, 2) := by decide +kernel
theorem dX9_ratio_49 : decode cX9_ratio 49 = .ok (.ifCond .eq 21, 3) := by decide +kernel
theorem dX9_ratio_52 : decode cX9_ratio 52 = .ok (.iload 4, 2) := by decide +kernel
theorem dX9_ratio_54 : decode cX9_ratio 54 = .ok (.iload 5, 2) := by decide +kernel
theorem dX9_ratio_56 : decode cX9_ratio 56 = .ok (.irem, 1) := by decide +kernel
theorem dX9_ratio_57 : decode cX9_ratio 57 = .ok (.istore 6, 2) := by decide +kernel
theorem dX9_ratio_59 : decode cX9_ratio 59 = .ok (.iload 5, 2) := by decide +kernel
theorem dX9_ratio_61 : decode cX9_ratio 61 = .ok (.istore 4, 2) := by decide +kernel
theorem dX9_ratio_63 : decode cX9_ratio 63 = .ok (.iload 6, 2) := by decide +kernel
theorem dX9_ratio_65 : decode cX9_ratio 65 = .ok (.istore 5, 2) := by decide +kernel
theorem dX9_ratio_67 : decode cX9_ratio 67 = .ok (.goto (-20), 3) := by decide +kernel
theorem dX9_ratio_70 : decode cX9_ratio 70 = .ok (.iload_n 2, 1) := by decide +kernel
theorem dX9_ratio_71 : decode cX9_ratio 71 = .ok (.iload 4, 2) := by decide +kernel
theorem dX9_ratio_73 : decode cX9_ratio 73 = .ok (.idiv, 1) := by decide +kernel
theorem dX9_ratio_74 : decode cX9_ratio 74 = .ok (.istore 6, 2) := by decide +kernel
theorem dX9_ratio_76 : decode cX9_ratio 76 = .ok (.iload_n 3, 1) := by decide +kernel
theorem dX9_ratio_77 : decode cX9_ratio 77 = .ok (.iload 4, 2) := by decide +kernel
theorem dX9_ratio_79 : decode cX9_ratio 79 = .ok (.idiv, 1) := by decide +kernel
theorem dX9_ratio_80 : decode cX9_ratio 80 = .ok (.istore 7, 2) := by decide +kernel
theorem dX9_ratio_82 : decode cX9_ratio 82 = .ok (.iconst 0, 1) := by decide +kernel
theorem dX9_ratio_83 : decode cX9_ratio 83 = .ok (.istore 8, 2) := by decide +kernel
theorem dX9_ratio_85 : decode cX9_ratio 85 = .ok (.iload 8, 2) := by decide +kernel
theorem dX9_ratio_87 : decode cX9_ratio 87 = .ok (.bipush 6, 2) := by decide +kernel
theorem dX9_ratio_89 : decode cX9_ratio 89 = .ok (.if_icmp .ge 87, 3) := by decide +kernel
theorem dX9_ratio_92 : decode cX9_ratio 92 = .ok (.aload_n 0, 1) := by decide +kernel
theorem dX9_ratio_93 : decode cX9_ratio 93 = .ok (.getfield 23, 3) := by decide +kernel
theorem dX9_ratio_96 : decode cX9_ratio 96 = .ok (.iload 8, 2) := by decide +kernel
theorem dX9_ratio_98 : decode cX9_ratio 98 = .ok (.iconst 0, 1) := by decide +kernel
theorem dX9_ratio_99 : decode cX9_ratio 99 = .ok (.iastore, 1) := by decide +kernel
theorem dX9_ratio_100 : decode cX9_ratio 100 = .ok (.iload 6, 2) := by decide +kernel
theorem dX9_ratio_102 : decode cX9_ratio 102 = .ok (.iload 8, 2) := by decide +kernel
theorem dX9_ratio_104 : decode cX9_ratio 104 = .ok (.invokestatic 78, 3) := by decide +kernel
theorem dX9_ratio_107 : decode cX9_ratio 107 = .ok (.irem, 1) := by decide +kernel
theorem dX9_ratio_108 : decode cX9_ratio 108 = .ok (.ifCond .ne 27, 3) := by decide +kernel
theorem dX9_ratio_111 : decode cX9_ratio 111 = .ok (.iload 6, 2) := by decide +kernel
theorem dX9_ratio_113 : decode cX9_ratio 113 = .ok (.iload 8, 2) := by decide +kernel
theorem dX9_ratio_115 : decode cX9_ratio 115 = .ok (.invokestatic 78, 3) := by decide +kernel
theorem dX9_ratio_118 : decode cX9_ratio 118 = .ok (.idiv, 1) := by decide +kernel
theorem dX9_ratio_119 : decode cX9_ratio 119 = .ok (.istore 6, 2) := by decide +kernel
theorem dX9_ratio_121 : decode cX9_ratio 121 = .ok (.aload_n 0, 1) := by decide +kernel
theorem dX9_ratio_122 : decode cX9_ratio 122 = .ok (.getfield 23, 3) := by decide +kernel
theorem dX9_ratio_125 : decode cX9_ratio 125 = .ok (.iload 8, 2) := by decide +kernel
theorem dX9_ratio_127 : decode cX9_ratio 127 = .ok (.dup2, 1) := by decide +kernel
theorem dX9_ratio_128 : decode cX9_ratio 128 = .ok (.iaload, 1) := by decide +kernel
theorem dX9_ratio_129 : decode cX9_ratio 129 = .ok (.iconst 1, 1) := by decide +kernel
theorem dX9_ratio_130 : decode cX9_ratio 130 = .ok (.iadd, 1) := by decide +kernel
theorem dX9_ratio_131 : decode cX9_ratio 131 = .ok (.iastore, 1) := by decide +kernel
theorem dX9_ratio_132 : decode cX9_ratio 132 = .ok (.goto (-32), 3) := by decide +kernel
theorem dX9_ratio_135 : decode cX9_ratio 135 = .ok (.iload 7, 2) := by decide +kernel
theorem dX9_ratio_137 : decode cX9_ratio 137 = .ok (.iload 8, 2) := by decide +kernel
theorem dX9_ratio_139 : decode cX9_ratio 139 = .ok (.invokestatic 78, 3) := by decide +kernel
theorem dX9_ratio_142 : decode cX9_ratio 142 = .ok (.irem, 1) := by decide +kernel
theorem dX9_ratio_143 : decode cX9_ratio 143 = .ok (.ifCond .ne 27, 3) := by decide +kernel
theorem dX9_ratio_146 : decode cX9_ratio 146 = .ok (.iload 7, 2) := by decide +kernel
theorem dX9_ratio_148 : decode cX9_ratio 148 = .ok (.iload 8, 2) := by decide +kernel
theorem dX9_ratio_150 : decode cX9_ratio 150 = .ok (.invokestatic 78, 3) := by decide +kernel
theorem dX9_ratio_153 : decode cX9_ratio 153 = .ok (.idiv, 1) := by decide +kernel
theorem dX9_ratio_154 : decode cX9_ratio 154 = .ok (.istore 7, 2) := by decide +kernel
theorem dX9_ratio_156 : decode cX9_ratio 156 = .ok (.aload_n 0, 1) := by decide +kernel
theorem dX9_ratio_157 : decode cX9_ratio 157 = .ok (.getfield 23, 3) := by decide +kernel
theorem dX9_ratio_160 : decode cX9_ratio 160 = .ok (.iload 8, 2) := by decide +kernel
theorem dX9_ratio_162 : decode cX9_ratio 162 = .ok (.dup2, 1) := by decide +kernel
theorem dX9_ratio_163 : decode cX9_ratio 163 = .ok (.iaload, 1) := by decide +kernel
theorem dX9_ratio_164 : decode cX9_ratio 164 = .ok (.iconst 1, 1) := by decide +kernel
theorem dX9_ratio_165 : decode cX9_ratio 165 = .ok (.isub, 1) := by decide +kernel
theorem dX9_ratio_166 : decode cX9_ratio 166 = .ok (.iastore, 1) := by decide +kernel
theorem dX9_ratio_167 : decode cX9_ratio 167 = .ok (.goto (-32), 3) := by decide +kernel
theorem dX9_ratio_170 : decode cX9_ratio 170 = .ok (.iinc 8 1, 3) := by decide +kernel
theorem dX9_ratio_173 : decode cX9_ratio 173 = .ok (.goto (-88), 3) := by decide +kernel
theorem dX9_ratio_176 : decode cX9_ratio 176 = .ok (.iload 6, 2) := by decide +kernel
theorem dX9_ratio_178 : decode cX9_ratio 178 = .ok (.iconst 1, 1) := by decide +kernel
theorem dX9_ratio_179 : decode cX9_ratio 179 = .ok (.if_icmp .gt 9, 3) := by decide +kernel
theorem dX9_ratio_182 : decode cX9_ratio 182 = .ok (.iload 7, 2) := by decide +kernel
theorem dX9_ratio_184 : decode cX9_ratio 184 = .ok (.iconst 1, 1) := by decide +kernel
theorem dX9_ratio_185 : decode cX9_ratio 185 = .ok (.if_icmp .le 11, 3) := by decide +kernel
theorem dX9_ratio_188 : decode cX9_ratio 188 = .ok (.aload_n 0, 1) := by decide +kernel
theorem dX9_ratio_189 : decode cX9_ratio 189 = .ok (.iconst 4, 1) := by decide +kernel
theorem dX9_ratio_190 : decode cX9_ratio 190 = .ok (.invokevirtual 104, 3) := by decide +kernel
theorem dX9_ratio_193 : decode cX9_ratio 193 = .ok (.goto 8, 3) := by decide +kernel
theorem dX9_ratio_196 : decode cX9_ratio 196 = .ok (.aload_n 0, 1) := by decide +kernel
theorem dX9_ratio_197 : decode cX9_ratio 197 = .ok (.iload_n 1, 1) := by decide +kernel
theorem dX9_ratio_198 : decode cX9_ratio 198 = .ok (.invokevirtual 114, 3) := by decide +kernel
theorem dX9_ratio_201 : decode cX9_ratio 201 = .ok (.ireturn, 1) := by decide +kernel
theorem dX9_times_0 : decode cX9_times 0 = .ok (.iload_n 1, 1) := by decide +kernel
theorem dX9_times_1 : decode cX9_times 1 = .ok (.invokestatic 111, 3) := by decide +kernel
theorem dX9_times_4 : decode cX9_times 4 = .ok (.ifCond .eq 18, 3) := by decide +kernel
theorem dX9_times_7 : decode cX9_times 7 = .ok (.iload_n 2, 1) := by decide +kernel
theorem dX9_times_8 : decode cX9_times 8 = .ok (.invokestatic 111, 3) := by decide +kernel
theorem dX9_times_11 : decode cX9_times 11 = .ok (.ifCond .eq 11, 3) := by decide +kernel
theorem dX9_times_14 : decode cX9_times 14 = .ok (.iload 4, 2) := by decide +kernel
theorem dX9_times_16 : decode cX9_times 16 = .ok (.invokestatic 111, 3) := by decide +kernel
theorem dX9_times_19 : decode cX9_times 19 = .ok (.ifCond .ne 9, 3) := by decide +kernel
theorem dX9_times_22 : decode cX9_times 22 = .ok (.aload_n 0, 1) := by decide +kernel
theorem dX9_times_23 : decode cX9_times 23 = .ok (.iconst 1, 1) := by decide +kernel
theorem dX9_times_24 : decode cX9_times 24 = .ok (.invokevirtual 104, 3) := by decide +kernel
theorem dX9_times_27 : decode cX9_times 27 = .ok (.ireturn, 1) := by decide +kernel
theorem dX9_times_28 : decode cX9_times 28 = .ok (.aload_n 0, 1) := by decide +kernel
theorem dX9_times_29 : decode cX9_times 29 = .ok (.getfield 13, 3) := by decide +kernel
theorem dX9_times_32 : decode cX9_times 32 = .ok (.iload_n 1, 1) := by decide +kernel
theorem dX9_times_33 : decode cX9_times 33 = .ok (.baload, 1) := by decide +kernel
theorem dX9_times_34 : decode cX9_times 34 = .ok (.ifCond .eq 12, 3) := by decide +kernel
theorem dX9_times_37 : decode cX9_times 37 = .ok (.aload_n 0, 1) := by decide +kernel
theorem dX9_times_38 : decode cX9_times 38 = .ok (.getfield 13, 3) := by decide +kernel
theorem dX9_times_41 : decode cX9_times 41 = .ok (.iload_n 2, 1) := by decide +kernel
theorem dX9_times_42 : decode cX9_times 42 = .ok (.baload, 1) := by decide +kernel
theorem dX9_times_43 : decode cX9_times 43 = .ok (.ifCond .ne 9, 3) := by decide +kernel
theorem dX9_times_46 : decode cX9_times 46 = .ok (.aload_n 0, 1) := by decide +kernel
theorem dX9_times_47 : decode cX9_times 47 = .ok (.iconst 2, 1) := by decide +kernel
theorem dX9_times_48 : decode cX9_times 48 = .ok (.invokevirtual 104, 3) := by decide +kernel
theorem dX9_times_51 : decode cX9_times 51 = .ok (.ireturn, 1) := by decide +kernel
theorem dX9_times_52 : decode cX9_times 52 = .ok (.iload_n 3, 1) := by decide +kernel
theorem dX9_times_53 : decode cX9_times 53 = .ok (.bipush (-24), 2) := by decide +kernel
theorem dX9_times_55 : decode cX9_times 55 = .ok (.if_icmp .lt 9, 3) := by decide +kernel
theorem dX9_times_58 : decode cX9_times 58 = .ok (.iload_n 3, 1) := by decide +kernel
theorem dX9_times_59 : decode cX9_times 59 = .ok (.bipush 24, 2) := by decide +kernel
theorem dX9_times_61 : decode cX9_times 61 = .ok (.if_icmp .le 9, 3) := by decide +kernel
theorem dX9_times_64 : decode cX9_times 64 = .ok (.aload_n 0, 1) := by decide +kernel
theorem dX9_times_65 : decode cX9_times 65 = .ok (.iconst 3, 1) := by decide +kernel
theorem dX9_times_66 : decode cX9_times 66 = .ok (.invokevirtual 104, 3) := by decide +kernel
theorem dX9_times_69 : decode cX9_times 69 = .ok (.ireturn, 1) := by decide +kernel
theorem dX9_times_70 : decode cX9_times 70 = .ok (.aload_n 0, 1) := by decide +kernel
theorem dX9_times_71 : decode cX9_times 71 = .ok (.aload_n 0, 1) := by decide +kernel
theorem dX9_times_72 : decode cX9_times 72 = .ok (.getfield 7, 3) := by decide +kernel
theorem dX9_times_75 : decode cX9_times 75 = .ok (.bipush 6, 2) := by decide +kernel
theorem dX9_times_77 : decode cX9_times 77 = .ok (.iload_n 1, 1) := by decide +kernel
theorem dX9_times_78 : decode cX9_times 78 = .ok (.imul, 1) := by decide +kernel
theorem dX9_times_79 : decode cX9_times 79 = .ok (.invokevirtual 89, 3) := by decide +kernel
theorem dX9_times_82 : decode cX9_times 82 = .ok (.iconst 0, 1) := by decide +kernel
theorem dX9_times_83 : decode cX9_times 83 = .ok (.istore 5, 2) := by decide +kernel
theorem dX9_times_85 : decode cX9_times 85 = .ok (.iload 5, 2) := by decide +kernel
theorem dX9_times_87 : decode cX9_times 87 = .ok (.bipush 6, 2) := by decide +kernel
theorem dX9_times_89 : decode cX9_times 89 = .ok (.if_icmp .ge 33, 3) := by decide +kernel
theorem dX9_times_92 : decode cX9_times 92 = .ok (.aload_n 0, 1) := by decide +kernel
theorem dX9_times_93 : decode cX9_times 93 = .ok (.getfield 23, 3) := by decide +kernel
theorem dX9_times_96 : decode cX9_times 96 = .ok (.iload 5, 2) := by decide +kernel
theorem dX9_times_98 : decode cX9_times 98 = .ok (.dup2, 1) := by decide +kernel
theorem dX9_times_99 : decode cX9_times 99 = .ok (.iaload, 1) := by decide +kernel
theorem dX9_times_100 : decode cX9_times 100 = .ok (.iload_n 3, 1) := by decide +kernel
theorem dX9_times_101 : decode cX9_times 101 = .ok (.aload_n 0, 1) := by decide +kernel
theorem dX9_times_102 : decode cX9_times 102 = .ok (.getfield 7, 3) := by decide +kernel
theorem dX9_times_105 : decode cX9_times 105 = .ok (.bipush 6, 2) := by decide +kernel
theorem dX9_times_107 : decode cX9_times 107 = .ok (.iload_n 2, 1) := by decide +kernel
theorem dX9_times_108 : decode cX9_times 108 = .ok (.imul, 1) := by decide +kernel
theorem dX9_times_109 : decode cX9_times 109 = .ok (.iload 5, 2) := by decide +kernel
theorem dX9_times_111 : decode cX9_times 111 = .ok (.iadd, 1) := by decide +kernel
theorem dX9_times_112 : decode cX9_times 112 = .ok (.iaload, 1) := by decide +kernel
theorem dX9_times_113 : decode cX9_times 113 = .ok (.imul, 1) := by decide +kernel
theorem dX9_times_114 : decode cX9_times 114 = .ok (.iadd, 1) := by decide +kernel
theorem dX9_times_115 : decode cX9_times 115 = .ok (.iastore, 1) := by decide +kernel
theorem dX9_times_116 : decode cX9_times 116 = .ok (.iinc 5 1, 3) := by decide +kernel
theorem dX9_times_119 : decode cX9_times 119 = .ok (.goto (-34), 3) := by decide +kernel
theorem dX9_times_122 : decode cX9_times 122 = .ok (.aload_n 0, 1) := by decide +kernel
theorem dX9_times_123 : decode cX9_times 123 = .ok (.iload 4, 2) := by decide +kernel
theorem dX9_times_125 : decode cX9_times 125 = .ok (.invokevirtual 114, 3) := by decide +kernel
theorem dX9_times_128 : decode cX9_times 128 = .ok (.ireturn, 1) := by decide +kernel
theorem dX9_down_0 : decode cX9_down 0 = .ok (.iload_n 0, 1) := by decide +kernel
theorem dX9_down_1 : decode cX9_down 1 = .ok (.ifCond .lt 9, 3) := by decide +kernel
theorem dX9_down_4 : decode cX9_down 4 = .ok (.iload_n 0, 1) := by decide +kernel
theorem dX9_down_5 : decode cX9_down 5 = .ok (.iload_n 1, 1) := by decide +kernel
theorem dX9_down_6 : decode cX9_down 6 = .ok (.idiv, 1) := by decide +kernel
theorem dX9_down_7 : decode cX9_down 7 = .ok (.goto 11, 3) := by decide +kernel
theorem dX9_down_10 : decode cX9_down 10 = .ok (.iload_n 1, 1) := by decide +kernel
theorem dX9_down_11 : decode cX9_down 11 = .ok (.iconst 1, 1) := by decide +kernel
theorem dX9_down_12 : decode cX9_down 12 = .ok (.isub, 1) := by decide +kernel
theorem dX9_down_13 : decode cX9_down 13 = .ok (.iload_n 0, 1) := by decide +kernel
theorem dX9_down_14 : decode cX9_down 14 = .ok (.isub, 1) := by decide +kernel
theorem dX9_down_15 : decode cX9_down 15 = .ok (.iload_n 1, 1) := by decide +kernel
theorem dX9_down_16 : decode cX9_down 16 = .ok (.idiv, 1) := by decide +kernel
theorem dX9_down_17 : decode cX9_down 17 = .ok (.ineg, 1) := by decide +kernel
theorem dX9_down_18 : decode cX9_down 18 = .ok (.ireturn, 1) := by decide +kernel
theorem dX9_folds_0 : decode cX9_folds 0 = .ok (.iconst 0, 1) := by decide +kernel
theorem dX9_folds_1 : decode cX9_folds 1 = .ok (.istore_n 1, 1) := by decide +kernel
theorem dX9_folds_2 : decode cX9_folds 2 = .ok (.aload_n 0, 1) := by decide +kernel
theorem dX9_folds_3 : decode cX9_folds 3 = .ok (.getfield 29, 3) := by decide +kernel
theorem dX9_folds_6 : decode cX9_folds 6 = .ok (.iload_n 1, 1) := by decide +kernel
theorem dX9_folds_7 : decode cX9_folds 7 = .ok (.iaload, 1) := by decide +kernel
theorem dX9_folds_8 : decode cX9_folds 8 = .ok (.ifCond .ne 9, 3) := by decide +kernel
theorem dX9_folds_11 : decode cX9_folds 11 = .ok (.iinc 1 1, 3) := by decide +kernel
theorem dX9_folds_14 : decode cX9_folds 14 = .ok (.goto (-12), 3) := by decide +kernel
theorem dX9_folds_17 : decode cX9_folds 17 = .ok (.aload_n 0, 1) := by decide +kernel
theorem dX9_folds_18 : decode cX9_folds 18 = .ok (.getfield 29, 3) := by decide +kernel
theorem dX9_folds_21 : decode cX9_folds 21 = .ok (.iload_n 1, 1) := by decide +kernel
theorem dX9_folds_22 : decode cX9_folds 22 = .ok (.iaload, 1) := by decide +kernel
theorem dX9_folds_23 : decode cX9_folds 23 = .ok (.istore_n 2, 1) := by decide +kernel
theorem dX9_folds_24 : decode cX9_folds 24 = .ok (.iload_n 2, 1) := by decide +kernel
theorem dX9_folds_25 : decode cX9_folds 25 = .ok (.ifCond .le 20, 3) := by decide +kernel
theorem dX9_folds_28 : decode cX9_folds 28 = .ok (.bipush 24, 2) := by decide +kernel
theorem dX9_folds_30 : decode cX9_folds 30 = .ok (.aload_n 0, 1) := by decide +kernel
theorem dX9_folds_31 : decode cX9_folds 31 = .ok (.getfield 26, 3) := by decide +kernel
theorem dX9_folds_34 : decode cX9_folds 34 = .ok (.iload_n 1, 1) := by decide +kernel
theorem dX9_folds_35 : decode cX9_folds 35 = .ok (.iaload, 1) := by decide +kernel
theorem dX9_folds_36 : decode cX9_folds 36 = .ok (.iadd, 1) := by decide +kernel
theorem dX9_folds_37 : decode cX9_folds 37 = .ok (.iload_n 2, 1) := by decide +kernel
theorem dX9_folds_38 : decode cX9_folds 38 = .ok (.invokestatic 118, 3) := by decide +kernel
theorem dX9_folds_41 : decode cX9_folds 41 = .ok (.ineg, 1) := by decide +kernel
theorem dX9_folds_42 : decode cX9_folds 42 = .ok (.goto 18, 3) := by decide +kernel
theorem dX9_folds_45 : decode cX9_folds 45 = .ok (.bipush 24, 2) := by decide +kernel
theorem dX9_folds_47 : decode cX9_folds 47 = .ok (.aload_n 0, 1) := by decide +kernel
theorem dX9_folds_48 : decode cX9_folds 48 = .ok (.getfield 26, 3) := by decide +kernel
theorem dX9_folds_51 : decode cX9_folds 51 = .ok (.iload_n 1, 1) := by decide +kernel
theorem dX9_folds_52 : decode cX9_folds 52 = .ok (.iaload, 1) := by decide +kernel
theorem dX9_folds_53 : decode cX9_folds 53 = .ok (.isub, 1) := by decide +kernel
theorem dX9_folds_54 : decode cX9_folds 54 = .ok (.iload_n 2, 1) := by decide +kernel
theorem dX9_folds_55 : decode cX9_folds 55 = .ok (.ineg, 1) := by decide +kernel
theorem dX9_folds_56 : decode cX9_folds 56 = .ok (.invokestatic 118, 3) := by decide +kernel
theorem dX9_folds_59 : decode cX9_folds 59 = .ok (.ineg, 1) := by decide +kernel
theorem dX9_folds_60 : decode cX9_folds 60 = .ok (.istore_n 3, 1) := by decide +kernel
theorem dX9_folds_61 : decode cX9_folds 61 = .ok (.iload_n 2, 1) := by decide +kernel
theorem dX9_folds_62 : decode cX9_folds 62 = .ok (.ifCond .le 19, 3) := by decide +kernel
theorem dX9_folds_65 : decode cX9_folds 65 = .ok (.bipush 24, 2) := by decide +kernel
theorem dX9_folds_67 : decode cX9_folds 67 = .ok (.aload_n 0, 1) := by decide +kernel
theorem dX9_folds_68 : decode cX9_folds 68 = .ok (.getfield 26, 3) := by decide +kernel
theorem dX9_folds_71 : decode cX9_folds 71 = .ok (.iload_n 1, 1) := by decide +kernel
theorem dX9_folds_72 : decode cX9_folds 72 = .ok (.iaload, 1) := by decide +kernel
theorem dX9_folds_73 : decode cX9_folds 73 = .ok (.isub, 1) := by decide +kernel
theorem dX9_folds_74 : decode cX9_folds 74 = .ok (.iload_n 2, 1) := by decide +kernel
theorem dX9_folds_75 : decode cX9_folds 75 = .ok (.invokestatic 118, 3) := by decide +kernel
theorem dX9_folds_78 : decode cX9_folds 78 = .ok (.goto 17, 3) := by decide +kernel
theorem dX9_folds_81 : decode cX9_folds 81 = .ok (.bipush 24, 2) := by decide +kernel
theorem dX9_folds_83 : decode cX9_folds 83 = .ok (.aload_n 0, 1) := by decide +kernel
theorem dX9_folds_84 : decode cX9_folds 84 = .ok (.getfield 26, 3) := by decide +kernel
theorem dX9_folds_87 : decode cX9_folds 87 = .ok (.iload_n 1, 1) := by decide +kernel
theorem dX9_folds_88 : decode cX9_folds 88 = .ok (.iaload, 1) := by decide +kernel
theorem dX9_folds_89 : decode cX9_folds 89 = .ok (.iadd, 1) := by decide +kernel
theorem dX9_folds_90 : decode cX9_folds 90 = .ok (.iload_n 2, 1) := by decide +kernel
theorem dX9_folds_91 : decode cX9_folds 91 = .ok (.ineg, 1) := by decide +kernel
theorem dX9_folds_92 : decode cX9_folds 92 = .ok (.invokestatic 118, 3) := by decide +kernel
theorem dX9_folds_95 : decode cX9_folds 95 = .ok (.istore 4, 2) := by decide +kernel
theorem dX9_folds_97 : decode cX9_folds 97 = .ok (.iload_n 3, 1) := by decide +kernel
theorem dX9_folds_98 : decode cX9_folds 98 = .ok (.istore 5, 2) := by decide +kernel
theorem dX9_folds_100 : decode cX9_folds 100 = .ok (.iload 5, 2) := by decide +kernel
theorem dX9_folds_102 : decode cX9_folds 102 = .ok (.iload 4, 2) := by decide +kernel
theorem dX9_folds_104 : decode cX9_folds 104 = .ok (.if_icmp .gt 59, 3) := by decide +kernel
theorem dX9_folds_107 : decode cX9_folds 107 = .ok (.aload_n 0, 1) := by decide +kernel
theorem dX9_folds_108 : decode cX9_folds 108 = .ok (.iload 5, 2) := by decide +kernel
theorem dX9_folds_110 : decode cX9_folds 110 = .ok (.invokevirtual 122, 3) := by decide +kernel
theorem dX9_folds_113 : decode cX9_folds 113 = .ok (.aload_n 0, 1) := by decide +kernel
theorem dX9_folds_114 : decode cX9_folds 114 = .ok (.invokevirtual 100, 3) := by decide +kernel
theorem dX9_folds_117 : decode cX9_folds 117 = .ok (.ifCond .ne 40, 3) := by decide +kernel
theorem dX9_folds_120 : decode cX9_folds 120 = .ok (.aload_n 0, 1) := by decide +kernel
theorem dX9_folds_121 : decode cX9_folds 121 = .ok (.invokevirtual 96, 3) := by decide +kernel
theorem dX9_folds_124 : decode cX9_folds 124 = .ok (.ifCond .ge 6, 3) := by decide +kernel
theorem dX9_folds_127 : decode cX9_folds 127 = .ok (.goto 30, 3) := by decide +kernel
theorem dX9_folds_130 : decode cX9_folds 130 = .ok (.aload_n 0, 1) := by decide +kernel
theorem dX9_folds_131 : decode cX9_folds 131 = .ok (.aload_n 0, 1) := by decide +kernel
theorem dX9_folds_132 : decode cX9_folds 132 = .ok (.getfield 29, 3) := by decide +kernel
theorem dX9_folds_135 : decode cX9_folds 135 = .ok (.iconst 0, 1) := by decide +kernel
theorem dX9_folds_136 : decode cX9_folds 136 = .ok (.invokevirtual 93, 3) := by decide +kernel
theorem dX9_folds_139 : decode cX9_folds 139 = .ok (.aload_n 0, 1) := by decide +kernel
theorem dX9_folds_140 : decode cX9_folds 140 = .ok (.invokevirtual 96, 3) := by decide +kernel
theorem dX9_folds_143 : decode cX9_folds 143 = .ok (.ifCond .lt 6, 3) := by decide +kernel
theorem dX9_folds_146 : decode cX9_folds 146 = .ok (.goto 11, 3) := by decide +kernel
theorem dX9_folds_149 : decode cX9_folds 149 = .ok (.aload_n 0, 1) := by decide +kernel
theorem dX9_folds_150 : decode cX9_folds 150 = .ok (.iload 5, 2) := by decide +kernel
theorem dX9_folds_152 : decode cX9_folds 152 = .ok (.invokevirtual 122, 3) := by decide +kernel
theorem dX9_folds_155 : decode cX9_folds 155 = .ok (.iconst 1, 1) := by decide +kernel
theorem dX9_folds_156 : decode cX9_folds 156 = .ok (.ireturn, 1) := by decide +kernel
theorem dX9_folds_157 : decode cX9_folds 157 = .ok (.iinc 5 1, 3) := by decide +kernel
theorem dX9_folds_160 : decode cX9_folds 160 = .ok (.goto (-60), 3) := by decide +kernel
theorem dX9_folds_163 : decode cX9_folds 163 = .ok (.iconst 0, 1) := by decide +kernel
theorem dX9_folds_164 : decode cX9_folds 164 = .ok (.ireturn, 1) := by decide +kernel
theorem dX9_powered_0 : decode cX9_powered 0 = .ok (.iconst 0, 1) := by decide +kernel
theorem dX9_powered_1 : decode cX9_powered 1 = .ok (.istore_n 2, 1) := by decide +kernel
theorem dX9_powered_2 : decode cX9_powered 2 = .ok (.iload_n 2, 1) := by decide +kernel
theorem dX9_powered_3 : decode cX9_powered 3 = .ok (.bipush 6, 2) := by decide +kernel
theorem dX9_powered_5 : decode cX9_powered 5 = .ok (.if_icmp .ge 30, 3) := by decide +kernel
theorem dX9_powered_8 : decode cX9_powered 8 = .ok (.aload_n 0, 1) := by decide +kernel
theorem dX9_powered_9 : decode cX9_powered 9 = .ok (.getfield 23, 3) := by decide +kernel
theorem dX9_powered_12 : decode cX9_powered 12 = .ok (.iload_n 2, 1) := by decide +kernel
theorem dX9_powered_13 : decode cX9_powered 13 = .ok (.aload_n 0, 1) := by decide +kernel
theorem dX9_powered_14 : decode cX9_powered 14 = .ok (.getfield 26, 3) := by decide +kernel
theorem dX9_powered_17 : decode cX9_powered 17 = .ok (.iload_n 2, 1) := by decide +kernel
theorem dX9_powered_18 : decode cX9_powered 18 = .ok (.iaload, 1) := by decide +kernel
theorem dX9_powered_19 : decode cX9_powered 19 = .ok (.iload_n 1, 1) := by decide +kernel
theorem dX9_powered_20 : decode cX9_powered 20 = .ok (.aload_n 0, 1) := by decide +kernel
theorem dX9_powered_21 : decode cX9_powered 21 = .ok (.getfield 29, 3) := by decide +kernel
theorem dX9_powered_24 : decode cX9_powered 24 = .ok (.iload_n 2, 1) := by decide +kernel
theorem dX9_powered_25 : decode cX9_powered 25 = .ok (.iaload, 1) := by decide +kernel
theorem dX9_powered_26 : decode cX9_powered 26 = .ok (.imul, 1) := by decide +kernel
theorem dX9_powered_27 : decode cX9_powered 27 = .ok (.iadd, 1) := by decide +kernel
theorem dX9_powered_28 : decode cX9_powered 28 = .ok (.iastore, 1) := by decide +kernel
theorem dX9_powered_29 : decode cX9_powered 29 = .ok (.iinc 2 1, 3) := by decide +kernel
theorem dX9_powered_32 : decode cX9_powered 32 = .ok (.goto (-30), 3) := by decide +kernel
theorem dX9_powered_35 : decode cX9_powered 35 = .ok (.return_, 1) := by decide +kernel
theorem dX9_isPeriod_0 : decode cX9_isPeriod 0 = .ok (.aload_n 0, 1) := by decide +kernel
theorem dX9_isPeriod_1 : decode cX9_isPeriod 1 = .ok (.aload_n 0, 1) := by decide +kernel
theorem dX9_isPeriod_2 : decode cX9_isPeriod 2 = .ok (.getfield 7, 3) := by decide +kernel
theorem dX9_isPeriod_5 : decode cX9_isPeriod 5 = .ok (.bipush 6, 2) := by decide +kernel
theorem dX9_isPeriod_7 : decode cX9_isPeriod 7 = .ok (.iload_n 1, 1) := by decide +kernel
theorem dX9_isPeriod_8 : decode cX9_isPeriod 8 = .ok (.imul, 1) := by decide +kernel
theorem dX9_isPeriod_9 : decode cX9_isPeriod 9 = .ok (.invokevirtual 89, 3) := by decide +kernel
theorem dX9_isPeriod_12 : decode cX9_isPeriod 12 = .ok (.aload_n 0, 1) := by decide +kernel
theorem dX9_isPeriod_13 : decode cX9_isPeriod 13 = .ok (.invokevirtual 96, 3) := by decide +kernel
theorem dX9_isPeriod_16 : decode cX9_isPeriod 16 = .ok (.ifCond .le 7, 3) := by decide +kernel
theorem dX9_isPeriod_19 : decode cX9_isPeriod 19 = .ok (.iconst 1, 1) := by decide +kernel
theorem dX9_isPeriod_20 : decode cX9_isPeriod 20 = .ok (.goto 4, 3) := by decide +kernel
theorem dX9_isPeriod_23 : decode cX9_isPeriod 23 = .ok (.iconst 0, 1) := by decide +kernel
theorem dX9_isPeriod_24 : decode cX9_isPeriod 24 = .ok (.ireturn, 1) := by decide +kernel
theorem dX9_set6_0 : decode cX9_set6 0 = .ok (.iconst 0, 1) := by decide +kernel
theorem dX9_set6_1 : decode cX9_set6 1 = .ok (.istore 4, 2) := by decide +kernel
theorem dX9_set6_3 : decode cX9_set6 3 = .ok (.iload 4, 2) := by decide +kernel
theorem dX9_set6_5 : decode cX9_set6 5 = .ok (.bipush 6, 2) := by decide +kernel
theorem dX9_set6_7 : decode cX9_set6 7 = .ok (.if_icmp .ge 19, 3) := by decide +kernel
theorem dX9_set6_10 : decode cX9_set6 10 = .ok (.aload_n 1, 1) := by decide +kernel
theorem dX9_set6_11 : decode cX9_set6 11 = .ok (.iload 4, 2) := by decide +kernel
theorem dX9_set6_13 : decode cX9_set6 13 = .ok (.aload_n 2, 1) := by decide +kernel
theorem dX9_set6_14 : decode cX9_set6 14 = .ok (.iload_n 3, 1) := by decide +kernel
theorem dX9_set6_15 : decode cX9_set6 15 = .ok (.iload 4, 2) := by decide +kernel
theorem dX9_set6_17 : decode cX9_set6 17 = .ok (.iadd, 1) := by decide +kernel
theorem dX9_set6_18 : decode cX9_set6 18 = .ok (.iaload, 1) := by decide +kernel
theorem dX9_set6_19 : decode cX9_set6 19 = .ok (.iastore, 1) := by decide +kernel
theorem dX9_set6_20 : decode cX9_set6 20 = .ok (.iinc 4 1, 3) := by decide +kernel
theorem dX9_set6_23 : decode cX9_set6 23 = .ok (.goto (-20), 3) := by decide +kernel
theorem dX9_set6_26 : decode cX9_set6 26 = .ok (.return_, 1) := by decide +kernel
theorem dX9_fold_0 : decode cX9_fold 0 = .ok (.iload_n 1, 1) := by decide +kernel
theorem dX9_fold_1 : decode cX9_fold 1 = .ok (.invokestatic 111, 3) := by decide +kernel
theorem dX9_fold_4 : decode cX9_fold 4 = .ok (.ifCond .eq 17, 3) := by decide +kernel
theorem dX9_fold_7 : decode cX9_fold 7 = .ok (.iload_n 2, 1) := by decide +kernel
theorem dX9_fold_8 : decode cX9_fold 8 = .ok (.invokestatic 111, 3) := by decide +kernel
theorem dX9_fold_11 : decode cX9_fold 11 = .ok (.ifCond .eq 10, 3) := by decide +kernel
theorem dX9_fold_14 : decode cX9_fold 14 = .ok (.iload_n 3, 1) := by decide +kernel
theorem dX9_fold_15 : decode cX9_fold 15 = .ok (.invokestatic 111, 3) := by decide +kernel
theorem dX9_fold_18 : decode cX9_fold 18 = .ok (.ifCond .ne 9, 3) := by decide +kernel
theorem dX9_fold_21 : decode cX9_fold 21 = .ok (.aload_n 0, 1) := by decide +kernel
theorem dX9_fold_22 : decode cX9_fold 22 = .ok (.iconst 1, 1) := by decide +kernel
theorem dX9_fold_23 : decode cX9_fold 23 = .ok (.invokevirtual 104, 3) := by decide +kernel
theorem dX9_fold_26 : decode cX9_fold 26 = .ok (.ireturn, 1) := by decide +kernel
theorem dX9_fold_27 : decode cX9_fold 27 = .ok (.aload_n 0, 1) := by decide +kernel
theorem dX9_fold_28 : decode cX9_fold 28 = .ok (.getfield 13, 3) := by decide +kernel
theorem dX9_fold_31 : decode cX9_fold 31 = .ok (.iload_n 1, 1) := by decide +kernel
theorem dX9_fold_32 : decode cX9_fold 32 = .ok (.baload, 1) := by decide +kernel
theorem dX9_fold_33 : decode cX9_fold 33 = .ok (.ifCond .eq 12, 3) := by decide +kernel
theorem dX9_fold_36 : decode cX9_fold 36 = .ok (.aload_n 0, 1) := by decide +kernel
theorem dX9_fold_37 : decode cX9_fold 37 = .ok (.getfield 13, 3) := by decide +kernel
theorem dX9_fold_40 : decode cX9_fold 40 = .ok (.iload_n 2, 1) := by decide +kernel
theorem dX9_fold_41 : decode cX9_fold 41 = .ok (.baload, 1) := by decide +kernel
theorem dX9_fold_42 : decode cX9_fold 42 = .ok (.ifCond .ne 9, 3) := by decide +kernel
theorem dX9_fold_45 : decode cX9_fold 45 = .ok (.aload_n 0, 1) := by decide +kernel
theorem dX9_fold_46 : decode cX9_fold 46 = .ok (.iconst 2, 1) := by decide +kernel
theorem dX9_fold_47 : decode cX9_fold 47 = .ok (.invokevirtual 104, 3) := by decide +kernel
theorem dX9_fold_50 : decode cX9_fold 50 = .ok (.ireturn, 1) := by decide +kernel
theorem dX9_fold_51 : decode cX9_fold 51 = .ok (.aload_n 0, 1) := by decide +kernel
theorem dX9_fold_52 : decode cX9_fold 52 = .ok (.iload_n 2, 1) := by decide +kernel
theorem dX9_fold_53 : decode cX9_fold 53 = .ok (.invokevirtual 126, 3) := by decide +kernel
theorem dX9_fold_56 : decode cX9_fold 56 = .ok (.ifCond .ne 9, 3) := by decide +kernel
theorem dX9_fold_59 : decode cX9_fold 59 = .ok (.aload_n 0, 1) := by decide +kernel
theorem dX9_fold_60 : decode cX9_fold 60 = .ok (.iconst 5, 1) := by decide +kernel
theorem dX9_fold_61 : decode cX9_fold 61 = .ok (.invokevirtual 104, 3) := by decide +kernel
theorem dX9_fold_64 : decode cX9_fold 64 = .ok (.ireturn, 1) := by decide +kernel
theorem dX9_fold_65 : decode cX9_fold 65 = .ok (.aload_n 0, 1) := by decide +kernel
theorem dX9_fold_66 : decode cX9_fold 66 = .ok (.aload_n 0, 1) := by decide +kernel
theorem dX9_fold_67 : decode cX9_fold 67 = .ok (.getfield 26, 3) := by decide +kernel
theorem dX9_fold_70 : decode cX9_fold 70 = .ok (.aload_n 0, 1) := by decide +kernel
theorem dX9_fold_71 : decode cX9_fold 71 = .ok (.getfield 7, 3) := by decide +kernel
theorem dX9_fold_74 : decode cX9_fold 74 = .ok (.bipush 6, 2) := by decide +kernel
theorem dX9_fold_76 : decode cX9_fold 76 = .ok (.iload_n 1, 1) := by decide +kernel
theorem dX9_fold_77 : decode cX9_fold 77 = .ok (.imul, 1) := by decide +kernel
theorem dX9_fold_78 : decode cX9_fold 78 = .ok (.invokevirtual 129, 3) := by decide +kernel
theorem dX9_fold_81 : decode cX9_fold 81 = .ok (.aload_n 0, 1) := by decide +kernel
theorem dX9_fold_82 : decode cX9_fold 82 = .ok (.aload_n 0, 1) := by decide +kernel
theorem dX9_fold_83 : decode cX9_fold 83 = .ok (.getfield 29, 3) := by decide +kernel
theorem dX9_fold_86 : decode cX9_fold 86 = .ok (.aload_n 0, 1) := by decide +kernel
theorem dX9_fold_87 : decode cX9_fold 87 = .ok (.getfield 7, 3) := by decide +kernel
theorem dX9_fold_90 : decode cX9_fold 90 = .ok (.bipush 6, 2) := by decide +kernel
theorem dX9_fold_92 : decode cX9_fold 92 = .ok (.iload_n 2, 1) := by decide +kernel
theorem dX9_fold_93 : decode cX9_fold 93 = .ok (.imul, 1) := by decide +kernel
theorem dX9_fold_94 : decode cX9_fold 94 = .ok (.invokevirtual 129, 3) := by decide +kernel
theorem dX9_fold_97 : decode cX9_fold 97 = .ok (.aload_n 0, 1) := by decide +kernel
theorem dX9_fold_98 : decode cX9_fold 98 = .ok (.invokevirtual 133, 3) := by decide +kernel
theorem dX9_fold_101 : decode cX9_fold 101 = .ok (.ifCond .eq 11, 3) := by decide +kernel
theorem dX9_fold_104 : decode cX9_fold 104 = .ok (.aload_n 0, 1) := by decide +kernel
theorem dX9_fold_105 : decode cX9_fold 105 = .ok (.iload_n 3, 1) := by decide +kernel
theorem dX9_fold_106 : decode cX9_fold 106 = .ok (.invokevirtual 114, 3) := by decide +kernel
theorem dX9_fold_109 : decode cX9_fold 109 = .ok (.goto 8, 3) := by decide +kernel
theorem dX9_fold_112 : decode cX9_fold 112 = .ok (.aload_n 0, 1) := by decide +kernel
theorem dX9_fold_113 : decode cX9_fold 113 = .ok (.iconst 4, 1) := by decide +kernel
theorem dX9_fold_114 : decode cX9_fold 114 = .ok (.invokevirtual 104, 3) := by decide +kernel
theorem dX9_fold_117 : decode cX9_fold 117 = .ok (.ireturn, 1) := by decide +kernel
theorem dX9_drop_0 : decode cX9_drop 0 = .ok (.iload_n 1, 1) := by decide +kernel
theorem dX9_drop_1 : decode cX9_drop 1 = .ok (.invokestatic 111, 3) := by decide +kernel
theorem dX9_drop_4 : decode cX9_drop 4 = .ok (.ifCond .ne 9, 3) := by decide +kernel
theorem dX9_drop_7 : decode cX9_drop 7 = .ok (.aload_n 0, 1) := by decide +kernel
theorem dX9_drop_8 : decode cX9_drop 8 = .ok (.iconst 1, 1) := by decide +kernel
theorem dX9_drop_9 : decode cX9_drop 9 = .ok (.invokevirtual 104, 3) := by decide +kernel
theorem dX9_drop_12 : decode cX9_drop 12 = .ok (.ireturn, 1) := by decide +kernel
theorem dX9_drop_13 : decode cX9_drop 13 = .ok (.aload_n 0, 1) := by decide +kernel
theorem dX9_drop_14 : decode cX9_drop 14 = .ok (.getfield 13, 3) := by decide +kernel
theorem dX9_drop_17 : decode cX9_drop 17 = .ok (.iload_n 1, 1) := by decide +kernel
theorem dX9_drop_18 : decode cX9_drop 18 = .ok (.baload, 1) := by decide +kernel
theorem dX9_drop_19 : decode cX9_drop 19 = .ok (.ifCond .ne 9, 3) := by decide +kernel
theorem dX9_drop_22 : decode cX9_drop 22 = .ok (.aload_n 0, 1) := by decide +kernel
theorem dX9_drop_23 : decode cX9_drop 23 = .ok (.iconst 2, 1) := by decide +kernel
theorem dX9_drop_24 : decode cX9_drop 24 = .ok (.invokevirtual 104, 3) := by decide +kernel
theorem dX9_drop_27 : decode cX9_drop 27 = .ok (.ireturn, 1) := by decide +kernel
theorem dX9_drop_28 : decode cX9_drop 28 = .ok (.aload_n 0, 1) := by decide +kernel
theorem dX9_drop_29 : decode cX9_drop 29 = .ok (.getfield 13, 3) := by decide +kernel
theorem dX9_drop_32 : decode cX9_drop 32 = .ok (.iload_n 1, 1) := by decide +kernel
theorem dX9_drop_33 : decode cX9_drop 33 = .ok (.iconst 0, 1) := by decide +kernel
theorem dX9_drop_34 : decode cX9_drop 34 = .ok (.bastore, 1) := by decide +kernel
theorem dX9_drop_35 : decode cX9_drop 35 = .ok (.aload_n 0, 1) := by decide +kernel
theorem dX9_drop_36 : decode cX9_drop 36 = .ok (.iconst 0, 1) := by decide +kernel
theorem dX9_drop_37 : decode cX9_drop 37 = .ok (.invokevirtual 104, 3) := by decide +kernel
theorem dX9_drop_40 : decode cX9_drop 40 = .ok (.ireturn, 1) := by decide +kernel
theorem dX9_exponent_0 : decode cX9_exponent 0 = .ok (.iload_n 1, 1) := by decide +kernel
theorem dX9_exponent_1 : decode cX9_exponent 1 = .ok (.invokestatic 111, 3) := by decide +kernel
theorem dX9_exponent_4 : decode cX9_exponent 4 = .ok (.ifCond .ne 9, 3) := by decide +kernel
theorem dX9_exponent_7 : decode cX9_exponent 7 = .ok (.aload_n 0, 1) := by decide +kernel
theorem dX9_exponent_8 : decode cX9_exponent 8 = .ok (.iconst 1, 1) := by decide +kernel
theorem dX9_exponent_9 : decode cX9_exponent 9 = .ok (.invokevirtual 136, 3) := by decide +kernel
theorem dX9_exponent_12 : decode cX9_exponent 12 = .ok (.ireturn, 1) := by decide +kernel
theorem dX9_exponent_13 : decode cX9_exponent 13 = .ok (.aload_n 0, 1) := by decide +kernel
theorem dX9_exponent_14 : decode cX9_exponent 14 = .ok (.getfield 13, 3) := by decide +kernel
theorem dX9_exponent_17 : decode cX9_exponent 17 = .ok (.iload_n 1, 1) := by decide +kernel
theorem dX9_exponent_18 : decode cX9_exponent 18 = .ok (.baload, 1) := by decide +kernel
theorem dX9_exponent_19 : decode cX9_exponent 19 = .ok (.ifCond .ne 9, 3) := by decide +kernel
theorem dX9_exponent_22 : decode cX9_exponent 22 = .ok (.aload_n 0, 1) := by decide +kernel
theorem dX9_exponent_23 : decode cX9_exponent 23 = .ok (.iconst 2, 1) := by decide +kernel
theorem dX9_exponent_24 : decode cX9_exponent 24 = .ok (.invokevirtual 136, 3) := by decide +kernel
theorem dX9_exponent_27 : decode cX9_exponent 27 = .ok (.ireturn, 1) := by decide +kernel
theorem dX9_exponent_28 : decode cX9_exponent 28 = .ok (.iload_n 2, 1) := by decide +kernel
theorem dX9_exponent_29 : decode cX9_exponent 29 = .ok (.ifCond .lt 8, 3) := by decide +kernel
theorem dX9_exponent_32 : decode cX9_exponent 32 = .ok (.iload_n 2, 1) := by decide +kernel
theorem dX9_exponent_33 : decode cX9_exponent 33 = .ok (.iconst 5, 1) := by decide +kernel
theorem dX9_exponent_34 : decode cX9_exponent 34 = .ok (.if_icmp .le 9, 3) := by decide +kernel
theorem dX9_exponent_37 : decode cX9_exponent 37 = .ok (.aload_n 0, 1) := by decide +kernel
theorem dX9_exponent_38 : decode cX9_exponent 38 = .ok (.iconst 3, 1) := by decide +kernel
theorem dX9_exponent_39 : decode cX9_exponent 39 = .ok (.invokevirtual 136, 3) := by decide +kernel
theorem dX9_exponent_42 : decode cX9_exponent 42 = .ok (.ireturn, 1) := by decide +kernel
theorem dX9_exponent_43 : decode cX9_exponent 43 = .ok (.aload_n 0, 1) := by decide +kernel
theorem dX9_exponent_44 : decode cX9_exponent 44 = .ok (.iconst 0, 1) := by decide +kernel
theorem dX9_exponent_45 : decode cX9_exponent 45 = .ok (.putfield 66, 3) := by decide +kernel
theorem dX9_exponent_48 : decode cX9_exponent 48 = .ok (.aload_n 0, 1) := by decide +kernel
theorem dX9_exponent_49 : decode cX9_exponent 49 = .ok (.getfield 7, 3) := by decide +kernel
theorem dX9_exponent_52 : decode cX9_exponent 52 = .ok (.bipush 6, 2) := by decide +kernel
theorem dX9_exponent_54 : decode cX9_exponent 54 = .ok (.iload_n 1, 1) := by decide +kernel
theorem dX9_exponent_55 : decode cX9_exponent 55 = .ok (.imul, 1) := by decide +kernel
theorem dX9_exponent_56 : decode cX9_exponent 56 = .ok (.iload_n 2, 1) := by decide +kernel
theorem dX9_exponent_57 : decode cX9_exponent 57 = .ok (.iadd, 1) := by decide +kernel
theorem dX9_exponent_58 : decode cX9_exponent 58 = .ok (.iaload, 1) := by decide +kernel
theorem dX9_exponent_59 : decode cX9_exponent 59 = .ok (.ireturn, 1) := by decide +kernel
theorem dX9_order_0 : decode cX9_order 0 = .ok (.iload_n 1, 1) := by decide +kernel
theorem dX9_order_1 : decode cX9_order 1 = .ok (.invokestatic 111, 3) := by decide +kernel
theorem dX9_order_4 : decode cX9_order 4 = .ok (.ifCond .eq 10, 3) := by decide +kernel
theorem dX9_order_7 : decode cX9_order 7 = .ok (.iload_n 2, 1) := by decide +kernel
theorem dX9_order_8 : decode cX9_order 8 = .ok (.invokestatic 111, 3) := by decide +kernel
theorem dX9_order_11 : decode cX9_order 11 = .ok (.ifCond .ne 9, 3) := by decide +kernel
theorem dX9_order_14 : decode cX9_order 14 = .ok (.aload_n 0, 1) := by decide +kernel
theorem dX9_order_15 : decode cX9_order 15 = .ok (.iconst 1, 1) := by decide +kernel
theorem dX9_order_16 : decode cX9_order 16 = .ok (.invokevirtual 136, 3) := by decide +kernel
theorem dX9_order_19 : decode cX9_order 19 = .ok (.ireturn, 1) := by decide +kernel
theorem dX9_order_20 : decode cX9_order 20 = .ok (.aload_n 0, 1) := by decide +kernel
theorem dX9_order_21 : decode cX9_order 21 = .ok (.getfield 13, 3) := by decide +kernel
theorem dX9_order_24 : decode cX9_order 24 = .ok (.iload_n 1, 1) := by decide +kernel
theorem dX9_order_25 : decode cX9_order 25 = .ok (.baload, 1) := by decide +kernel
theorem dX9_order_26 : decode cX9_order 26 = .ok (.ifCond .eq 12, 3) := by decide +kernel
theorem dX9_order_29 : decode cX9_order 29 = .ok (.aload_n 0, 1) := by decide +kernel
theorem dX9_order_30 : decode cX9_order 30 = .ok (.getfield 13, 3) := by decide +kernel
theorem dX9_order_33 : decode cX9_order 33 = .ok (.iload_n 2, 1) := by decide +kernel
theorem dX9_order_34 : decode cX9_order 34 = .ok (.baload, 1) := by decide +kernel
theorem dX9_order_35 : decode cX9_order 35 = .ok (.ifCond .ne 9, 3) := by decide +kernel
theorem dX9_order_38 : decode cX9_order 38 = .ok (.aload_n 0, 1) := by decide +kernel
theorem dX9_order_39 : decode cX9_order 39 = .ok (.iconst 2, 1) := by decide +kernel
theorem dX9_order_40 : decode cX9_order 40 = .ok (.invokevirtual 136, 3) := by decide +kernel
theorem dX9_order_43 : decode cX9_order 43 = .ok (.ireturn, 1) := by decide +kernel
theorem dX9_order_44 : decode cX9_order 44 = .ok (.aload_n 0, 1) := by decide +kernel
theorem dX9_order_45 : decode cX9_order 45 = .ok (.iconst 0, 1) := by decide +kernel
theorem dX9_order_46 : decode cX9_order 46 = .ok (.putfield 66, 3) := by decide +kernel
theorem dX9_order_49 : decode cX9_order 49 = .ok (.aload_n 0, 1) := by decide +kernel
theorem dX9_order_50 : decode cX9_order 50 = .ok (.aload_n 0, 1) := by decide +kernel
theorem dX9_order_51 : decode cX9_order 51 = .ok (.getfield 7, 3) := by decide +kernel
theorem dX9_order_54 : decode cX9_order 54 = .ok (.bipush 6, 2) := by decide +kernel
theorem dX9_order_56 : decode cX9_order 56 = .ok (.iload_n 1, 1) := by decide +kernel
theorem dX9_order_57 : decode cX9_order 57 = .ok (.imul, 1) := by decide +kernel
theorem dX9_order_58 : decode cX9_order 58 = .ok (.aload_n 0, 1) := by decide +kernel
theorem dX9_order_59 : decode cX9_order 59 = .ok (.getfield 7, 3) := by decide +kernel
theorem dX9_order_62 : decode cX9_order 62 = .ok (.bipush 6, 2) := by decide +kernel
theorem dX9_order_64 : decode cX9_order 64 = .ok (.iload_n 2, 1) := by decide +kernel
theorem dX9_order_65 : decode cX9_order 65 = .ok (.imul, 1) := by decide +kernel
theorem dX9_order_66 : decode cX9_order 66 = .ok (.invokevirtual 139, 3) := by decide +kernel
theorem dX9_order_69 : decode cX9_order 69 = .ok (.istore_n 3, 1) := by decide +kernel
theorem dX9_order_70 : decode cX9_order 70 = .ok (.iload_n 3, 1) := by decide +kernel
theorem dX9_order_71 : decode cX9_order 71 = .ok (.ifCond .ge 8, 3) := by decide +kernel
theorem dX9_order_74 : decode cX9_order 74 = .ok (.bipush (-2), 2) := by decide +kernel
theorem dX9_order_76 : decode cX9_order 76 = .ok (.goto 4, 3) := by decide +kernel
theorem dX9_order_79 : decode cX9_order 79 = .ok (.iload_n 3, 1) := by decide +kernel
theorem dX9_order_80 : decode cX9_order 80 = .ok (.ireturn, 1) := by decide +kernel
theorem dX9_tell_0 : decode cX9_tell 0 = .ok (.aload_n 0, 1) := by decide +kernel
theorem dX9_tell_1 : decode cX9_tell 1 = .ok (.getfield 32, 3) := by decide +kernel
theorem dX9_tell_4 : decode cX9_tell 4 = .ok (.aload_n 0, 1) := by decide +kernel
theorem dX9_tell_5 : decode cX9_tell 5 = .ok (.getfield 143, 3) := by decide +kernel
theorem dX9_tell_8 : decode cX9_tell 8 = .ok (.iload_n 1, 1) := by decide +kernel
theorem dX9_tell_9 : decode cX9_tell 9 = .ok (.iastore, 1) := by decide +kernel
theorem dX9_tell_10 : decode cX9_tell 10 = .ok (.aload_n 0, 1) := by decide +kernel
theorem dX9_tell_11 : decode cX9_tell 11 = .ok (.dup, 1) := by decide +kernel
theorem dX9_tell_12 : decode cX9_tell 12 = .ok (.getfield 143, 3) := by decide +kernel
theorem dX9_tell_15 : decode cX9_tell 15 = .ok (.iconst 1, 1) := by decide +kernel
theorem dX9_tell_16 : decode cX9_tell 16 = .ok (.iadd, 1) := by decide +kernel
theorem dX9_tell_17 : decode cX9_tell 17 = .ok (.putfield 143, 3) := by decide +kernel
theorem dX9_tell_20 : decode cX9_tell 20 = .ok (.return_, 1) := by decide +kernel
theorem dX9_tellNumber_0 : decode cX9_tellNumber 0 = .ok (.iload_n 2, 1) := by decide +kernel
theorem dX9_tellNumber_1 : decode cX9_tellNumber 1 = .ok (.iconst 1, 1) := by decide +kernel
theorem dX9_tellNumber_2 : decode cX9_tellNumber 2 = .ok (.isub, 1) := by decide +kernel
theorem dX9_tellNumber_3 : decode cX9_tellNumber 3 = .ok (.istore_n 3, 1) := by decide +kernel
theorem dX9_tellNumber_4 : decode cX9_tellNumber 4 = .ok (.iload_n 3, 1) := by decide +kernel
theorem dX9_tellNumber_5 : decode cX9_tellNumber 5 = .ok (.ifCond .lt 75, 3) := by decide +kernel
theorem dX9_tellNumber_8 : decode cX9_tellNumber 8 = .ok (.ldc 146, 2) := by decide +kernel
theorem dX9_tellNumber_10 : decode cX9_tellNumber 10 = .ok (.istore 4, 2) := by decide +kernel
theorem dX9_tellNumber_12 : decode cX9_tellNumber 12 = .ok (.iload_n 3, 1) := by decide +kernel
theorem dX9_tellNumber_13 : decode cX9_tellNumber 13 = .ok (.iload_n 2, 1) := by decide +kernel
theorem dX9_tellNumber_14 : decode cX9_tellNumber 14 = .ok (.iconst 1, 1) := by decide +kernel
theorem dX9_tellNumber_15 : decode cX9_tellNumber 15 = .ok (.isub, 1) := by decide +kernel
theorem dX9_tellNumber_16 : decode cX9_tellNumber 16 = .ok (.if_icmp .ne 27, 3) := by decide +kernel
theorem dX9_tellNumber_19 : decode cX9_tellNumber 19 = .ok (.iload 4, 2) := by decide +kernel
theorem dX9_tellNumber_21 : decode cX9_tellNumber 21 = .ok (.aload_n 1, 1) := by decide +kernel
theorem dX9_tellNumber_22 : decode cX9_tellNumber 22 = .ok (.iload_n 3, 1) := by decide +kernel
theorem dX9_tellNumber_23 : decode cX9_tellNumber 23 = .ok (.iaload, 1) := by decide +kernel
theorem dX9_tellNumber_24 : decode cX9_tellNumber 24 = .ok (.if_icmp .le 19, 3) := by decide +kernel
theorem dX9_tellNumber_27 : decode cX9_tellNumber 27 = .ok (.iload 4, 2) := by decide +kernel
theorem dX9_tellNumber_29 : decode cX9_tellNumber 29 = .ok (.iconst 1, 1) := by decide +kernel
theorem dX9_tellNumber_30 : decode cX9_tellNumber 30 = .ok (.if_icmp .le 13, 3) := by decide +kernel
theorem dX9_tellNumber_33 : decode cX9_tellNumber 33 = .ok (.iload 4, 2) := by decide +kernel
theorem dX9_tellNumber_35 : decode cX9_tellNumber 35 = .ok (.bipush 10, 2) := by decide +kernel
theorem dX9_tellNumber_37 : decode cX9_tellNumber 37 = .ok (.idiv, 1) := by decide +kernel
theorem dX9_tellNumber_38 : decode cX9_tellNumber 38 = .ok (.istore 4, 2) := by decide +kernel
theorem dX9_tellNumber_40 : decode cX9_tellNumber 40 = .ok (.goto (-21), 3) := by decide +kernel
theorem dX9_tellNumber_43 : decode cX9_tellNumber 43 = .ok (.iload 4, 2) := by decide +kernel
theorem dX9_tellNumber_45 : decode cX9_tellNumber 45 = .ok (.ifCond .le 29, 3) := by decide +kernel
theorem dX9_tellNumber_48 : decode cX9_tellNumber 48 = .ok (.aload_n 0, 1) := by decide +kernel
theorem dX9_tellNumber_49 : decode cX9_tellNumber 49 = .ok (.bipush 48, 2) := by decide +kernel
theorem dX9_tellNumber_51 : decode cX9_tellNumber 51 = .ok (.aload_n 1, 1) := by decide +kernel
theorem dX9_tellNumber_52 : decode cX9_tellNumber 52 = .ok (.iload_n 3, 1) := by decide +kernel
theorem dX9_tellNumber_53 : decode cX9_tellNumber 53 = .ok (.iaload, 1) := by decide +kernel
theorem dX9_tellNumber_54 : decode cX9_tellNumber 54 = .ok (.iload 4, 2) := by decide +kernel
theorem dX9_tellNumber_56 : decode cX9_tellNumber 56 = .ok (.idiv, 1) := by decide +kernel
theorem dX9_tellNumber_57 : decode cX9_tellNumber 57 = .ok (.bipush 10, 2) := by decide +kernel
theorem dX9_tellNumber_59 : decode cX9_tellNumber 59 = .ok (.irem, 1) := by decide +kernel
theorem dX9_tellNumber_60 : decode cX9_tellNumber 60 = .ok (.iadd, 1) := by decide +kernel
theorem dX9_tellNumber_61 : decode cX9_tellNumber 61 = .ok (.invokevirtual 147, 3) := by decide +kernel
theorem dX9_tellNumber_64 : decode cX9_tellNumber 64 = .ok (.iload 4, 2) := by decide +kernel
theorem dX9_tellNumber_66 : decode cX9_tellNumber 66 = .ok (.bipush 10, 2) := by decide +kernel
theorem dX9_tellNumber_68 : decode cX9_tellNumber 68 = .ok (.idiv, 1) := by decide +kernel
theorem dX9_tellNumber_69 : decode cX9_tellNumber 69 = .ok (.istore 4, 2) := by decide +kernel
theorem dX9_tellNumber_71 : decode cX9_tellNumber 71 = .ok (.goto (-28), 3) := by decide +kernel
theorem dX9_tellNumber_74 : decode cX9_tellNumber 74 = .ok (.iinc 3 (-1), 3) := by decide +kernel
theorem dX9_tellNumber_77 : decode cX9_tellNumber 77 = .ok (.goto (-73), 3) := by decide +kernel
theorem dX9_tellNumber_80 : decode cX9_tellNumber 80 = .ok (.return_, 1) := by decide +kernel
theorem dX9_show_0 : decode cX9_show 0 = .ok (.iload_n 1, 1) := by decide +kernel
theorem dX9_show_1 : decode cX9_show 1 = .ok (.invokestatic 111, 3) := by decide +kernel
theorem dX9_show_4 : decode cX9_show 4 = .ok (.ifCond .ne 9, 3) := by decide +kernel
theorem dX9_show_7 : decode cX9_show 7 = .ok (.aload_n 0, 1) := by decide +kernel
theorem dX9_show_8 : decode cX9_show 8 = .ok (.iconst 1, 1) := by decide +kernel
theorem dX9_show_9 : decode cX9_show 9 = .ok (.invokevirtual 136, 3) := by decide +kernel
theorem dX9_show_12 : decode cX9_show 12 = .ok (.ireturn, 1) := by decide +kernel
theorem dX9_show_13 : decode cX9_show 13 = .ok (.aload_n 0, 1) := by decide +kernel
theorem dX9_show_14 : decode cX9_show 14 = .ok (.getfield 13, 3) := by decide +kernel
theorem dX9_show_17 : decode cX9_show 17 = .ok (.iload_n 1, 1) := by decide +kernel
theorem dX9_show_18 : decode cX9_show 18 = .ok (.baload, 1) := by decide +kernel
theorem dX9_show_19 : decode cX9_show 19 = .ok (.ifCond .ne 9, 3) := by decide +kernel
theorem dX9_show_22 : decode cX9_show 22 = .ok (.aload_n 0, 1) := by decide +kernel
theorem dX9_show_23 : decode cX9_show 23 = .ok (.iconst 2, 1) := by decide +kernel
theorem dX9_show_24 : decode cX9_show 24 = .ok (.invokevirtual 136, 3) := by decide +kernel
theorem dX9_show_27 : decode cX9_show 27 = .ok (.ireturn, 1) := by decide +kernel
theorem dX9_show_28 : decode cX9_show 28 = .ok (.aload_n 0, 1) := by decide +kernel
theorem dX9_show_29 : decode cX9_show 29 = .ok (.iconst 0, 1) := by decide +kernel
theorem dX9_show_30 : decode cX9_show 30 = .ok (.putfield 66, 3) := by decide +kernel
theorem dX9_show_33 : decode cX9_show 33 = .ok (.aload_n 0, 1) := by decide +kernel
theorem dX9_show_34 : decode cX9_show 34 = .ok (.aload_n 0, 1) := by decide +kernel
theorem dX9_show_35 : decode cX9_show 35 = .ok (.getfield 7, 3) := by decide +kernel
theorem dX9_show_38 : decode cX9_show 38 = .ok (.bipush 6, 2) := by decide +kernel
theorem dX9_show_40 : decode cX9_show 40 = .ok (.iload_n 1, 1) := by decide +kernel
theorem dX9_show_41 : decode cX9_show 41 = .ok (.imul, 1) := by decide +kernel
theorem dX9_show_42 : decode cX9_show 42 = .ok (.invokevirtual 89, 3) := by decide +kernel
theorem dX9_show_45 : decode cX9_show 45 = .ok (.aload_n 0, 1) := by decide +kernel
theorem dX9_show_46 : decode cX9_show 46 = .ok (.invokevirtual 86, 3) := by decide +kernel
theorem dX9_show_49 : decode cX9_show 49 = .ok (.aload_n 0, 1) := by decide +kernel
theorem dX9_show_50 : decode cX9_show 50 = .ok (.iconst 0, 1) := by decide +kernel
theorem dX9_show_51 : decode cX9_show 51 = .ok (.putfield 143, 3) := by decide +kernel
theorem dX9_show_54 : decode cX9_show 54 = .ok (.aload_n 0, 1) := by decide +kernel
theorem dX9_show_55 : decode cX9_show 55 = .ok (.aload_n 0, 1) := by decide +kernel
theorem dX9_show_56 : decode cX9_show 56 = .ok (.getfield 17, 3) := by decide +kernel
theorem dX9_show_59 : decode cX9_show 59 = .ok (.aload_n 0, 1) := by decide +kernel
theorem dX9_show_60 : decode cX9_show 60 = .ok (.getfield 72, 3) := by decide +kernel
theorem dX9_show_63 : decode cX9_show 63 = .ok (.invokevirtual 150, 3) := by decide +kernel
theorem dX9_show_66 : decode cX9_show 66 = .ok (.aload_n 0, 1) := by decide +kernel
theorem dX9_show_67 : decode cX9_show 67 = .ok (.bipush 47, 2) := by decide +kernel
theorem dX9_show_69 : decode cX9_show 69 = .ok (.invokevirtual 147, 3) := by decide +kernel
theorem dX9_show_72 : decode cX9_show 72 = .ok (.aload_n 0, 1) := by decide +kernel
theorem dX9_show_73 : decode cX9_show 73 = .ok (.aload_n 0, 1) := by decide +kernel
theorem dX9_show_74 : decode cX9_show 74 = .ok (.getfield 20, 3) := by decide +kernel
theorem dX9_show_77 : decode cX9_show 77 = .ok (.aload_n 0, 1) := by decide +kernel
theorem dX9_show_78 : decode cX9_show 78 = .ok (.getfield 75, 3) := by decide +kernel
theorem dX9_show_81 : decode cX9_show 81 = .ok (.invokevirtual 150, 3) := by decide +kernel
theorem dX9_show_84 : decode cX9_show 84 = .ok (.aload_n 0, 1) := by decide +kernel
theorem dX9_show_85 : decode cX9_show 85 = .ok (.getfield 143, 3) := by decide +kernel
theorem dX9_show_88 : decode cX9_show 88 = .ok (.ireturn, 1) := by decide +kernel
theorem dX9_out_0 : decode cX9_out 0 = .ok (.iload_n 1, 1) := by decide +kernel
theorem dX9_out_1 : decode cX9_out 1 = .ok (.ifCond .lt 20, 3) := by decide +kernel
theorem dX9_out_4 : decode cX9_out 4 = .ok (.iload_n 1, 1) := by decide +kernel
theorem dX9_out_5 : decode cX9_out 5 = .ok (.aload_n 0, 1) := by decide +kernel
theorem dX9_out_6 : decode cX9_out 6 = .ok (.getfield 143, 3) := by decide +kernel
theorem dX9_out_9 : decode cX9_out 9 = .ok (.if_icmp .ge 12, 3) := by decide +kernel
theorem dX9_out_12 : decode cX9_out 12 = .ok (.aload_n 0, 1) := by decide +kernel
theorem dX9_out_13 : decode cX9_out 13 = .ok (.getfield 32, 3) := by decide +kernel
theorem dX9_out_16 : decode cX9_out 16 = .ok (.iload_n 1, 1) := by decide +kernel
theorem dX9_out_17 : decode cX9_out 17 = .ok (.iaload, 1) := by decide +kernel
theorem dX9_out_18 : decode cX9_out 18 = .ok (.goto 4, 3) := by decide +kernel
theorem dX9_out_21 : decode cX9_out 21 = .ok (.iconst (-1), 1) := by decide +kernel
theorem dX9_out_22 : decode cX9_out 22 = .ok (.ireturn, 1) := by decide +kernel
theorem dX9_mapOf_0 : decode cX9_mapOf 0 = .ok (.iload_n 2, 1) := by decide +kernel
theorem dX9_mapOf_1 : decode cX9_mapOf 1 = .ok (.ifCond .ne 5, 3) := by decide +kernel
theorem dX9_mapOf_4 : decode cX9_mapOf 4 = .ok (.iload_n 1, 1) := by decide +kernel
theorem dX9_mapOf_5 : decode cX9_mapOf 5 = .ok (.ireturn, 1) := by decide +kernel
theorem dX9_mapOf_6 : decode cX9_mapOf 6 = .ok (.aload_n 0, 1) := by decide +kernel
theorem dX9_mapOf_7 : decode cX9_mapOf 7 = .ok (.getfield 35, 3) := by decide +kernel
theorem dX9_mapOf_10 : decode cX9_mapOf 10 = .ok (.bipush 6, 2) := by decide +kernel
theorem dX9_mapOf_12 : decode cX9_mapOf 12 = .ok (.iload_n 1, 1) := by decide +kernel
theorem dX9_mapOf_13 : decode cX9_mapOf 13 = .ok (.imul, 1) := by decide +kernel
theorem dX9_mapOf_14 : decode cX9_mapOf 14 = .ok (.iload_n 2, 1) := by decide +kernel
theorem dX9_mapOf_15 : decode cX9_mapOf 15 = .ok (.iadd, 1) := by decide +kernel
theorem dX9_mapOf_16 : decode cX9_mapOf 16 = .ok (.iaload, 1) := by decide +kernel
theorem dX9_mapOf_17 : decode cX9_mapOf 17 = .ok (.ifCond .le 15, 3) := by decide +kernel
theorem dX9_mapOf_20 : decode cX9_mapOf 20 = .ok (.aload_n 0, 1) := by decide +kernel
theorem dX9_mapOf_21 : decode cX9_mapOf 21 = .ok (.getfield 35, 3) := by decide +kernel
theorem dX9_mapOf_24 : decode cX9_mapOf 24 = .ok (.bipush 6, 2) := by decide +kernel
theorem dX9_mapOf_26 : decode cX9_mapOf 26 = .ok (.iload_n 1, 1) := by decide +kernel
theorem dX9_mapOf_27 : decode cX9_mapOf 27 = .ok (.imul, 1) := by decide +kernel
theorem dX9_mapOf_28 : decode cX9_mapOf 28 = .ok (.iload_n 2, 1) := by decide +kernel
theorem dX9_mapOf_29 : decode cX9_mapOf 29 = .ok (.iadd, 1) := by decide +kernel
theorem dX9_mapOf_30 : decode cX9_mapOf 30 = .ok (.iaload, 1) := by decide +kernel
theorem dX9_mapOf_31 : decode cX9_mapOf 31 = .ok (.ireturn, 1) := by decide +kernel
theorem dX9_mapOf_32 : decode cX9_mapOf 32 = .ok (.iload_n 1, 1) := by decide +kernel
theorem dX9_mapOf_33 : decode cX9_mapOf 33 = .ok (.istore_n 3, 1) := by decide +kernel
theorem dX9_mapOf_34 : decode cX9_mapOf 34 = .ok (.iconst 4, 1) := by decide +kernel
theorem dX9_mapOf_35 : decode cX9_mapOf 35 = .ok (.iload_n 1, 1) := by decide +kernel
theorem dX9_mapOf_36 : decode cX9_mapOf 36 = .ok (.imul, 1) := by decide +kernel
theorem dX9_mapOf_37 : decode cX9_mapOf 37 = .ok (.istore 4, 2) := by decide +kernel
theorem dX9_mapOf_39 : decode cX9_mapOf 39 = .ok (.iload_n 3, 1) := by decide +kernel
theorem dX9_mapOf_40 : decode cX9_mapOf 40 = .ok (.iload 4, 2) := by decide +kernel
theorem dX9_mapOf_42 : decode cX9_mapOf 42 = .ok (.if_icmp .ge 79, 3) := by decide +kernel
theorem dX9_mapOf_45 : decode cX9_mapOf 45 = .ok (.iload_n 3, 1) := by decide +kernel
theorem dX9_mapOf_46 : decode cX9_mapOf 46 = .ok (.iload 4, 2) := by decide +kernel
theorem dX9_mapOf_48 : decode cX9_mapOf 48 = .ok (.iadd, 1) := by decide +kernel
theorem dX9_mapOf_49 : decode cX9_mapOf 49 = .ok (.iconst 2, 1) := by decide +kernel
theorem dX9_mapOf_50 : decode cX9_mapOf 50 = .ok (.idiv, 1) := by decide +kernel
theorem dX9_mapOf_51 : decode cX9_mapOf 51 = .ok (.istore 5, 2) := by decide +kernel
theorem dX9_mapOf_53 : decode cX9_mapOf 53 = .ok (.iconst 0, 1) := by decide +kernel
theorem dX9_mapOf_54 : decode cX9_mapOf 54 = .ok (.istore 6, 2) := by decide +kernel
theorem dX9_mapOf_56 : decode cX9_mapOf 56 = .ok (.iload 6, 2) := by decide +kernel
theorem dX9_mapOf_58 : decode cX9_mapOf 58 = .ok (.bipush 6, 2) := by decide +kernel
theorem dX9_mapOf_60 : decode cX9_mapOf 60 = .ok (.if_icmp .ge 17, 3) := by decide +kernel
theorem dX9_mapOf_63 : decode cX9_mapOf 63 = .ok (.aload_n 0, 1) := by decide +kernel
theorem dX9_mapOf_64 : decode cX9_mapOf 64 = .ok (.getfield 23, 3) := by decide +kernel
theorem dX9_mapOf_67 : decode cX9_mapOf 67 = .ok (.iload 6, 2) := by decide +kernel
theorem dX9_mapOf_69 : decode cX9_mapOf 69 = .ok (.iconst 0, 1) := by decide +kernel
theorem dX9_mapOf_70 : decode cX9_mapOf 70 = .ok (.iastore, 1) := by decide +kernel
theorem dX9_mapOf_71 : decode cX9_mapOf 71 = .ok (.iinc 6 1, 3) := by decide +kernel
theorem dX9_mapOf_74 : decode cX9_mapOf 74 = .ok (.goto (-18), 3) := by decide +kernel
theorem dX9_mapOf_77 : decode cX9_mapOf 77 = .ok (.aload_n 0, 1) := by decide +kernel
theorem dX9_mapOf_78 : decode cX9_mapOf 78 = .ok (.getfield 23, 3) := by decide +kernel
theorem dX9_mapOf_81 : decode cX9_mapOf 81 = .ok (.iload_n 2, 1) := by decide +kernel
theorem dX9_mapOf_82 : decode cX9_mapOf 82 = .ok (.iconst 2, 1) := by decide +kernel
theorem dX9_mapOf_83 : decode cX9_mapOf 83 = .ok (.iload_n 1, 1) := by decide +kernel
theorem dX9_mapOf_84 : decode cX9_mapOf 84 = .ok (.imul, 1) := by decide +kernel
theorem dX9_mapOf_85 : decode cX9_mapOf 85 = .ok (.iastore, 1) := by decide +kernel
theorem dX9_mapOf_86 : decode cX9_mapOf 86 = .ok (.aload_n 0, 1) := by decide +kernel
theorem dX9_mapOf_87 : decode cX9_mapOf 87 = .ok (.getfield 23, 3) := by decide +kernel
theorem dX9_mapOf_90 : decode cX9_mapOf 90 = .ok (.iconst 0, 1) := by decide +kernel
theorem dX9_mapOf_91 : decode cX9_mapOf 91 = .ok (.bipush (-2), 2) := by decide +kernel
theorem dX9_mapOf_93 : decode cX9_mapOf 93 = .ok (.iload 5, 2) := by decide +kernel
theorem dX9_mapOf_95 : decode cX9_mapOf 95 = .ok (.imul, 1) := by decide +kernel
theorem dX9_mapOf_96 : decode cX9_mapOf 96 = .ok (.iconst 1, 1) := by decide +kernel
theorem dX9_mapOf_97 : decode cX9_mapOf 97 = .ok (.isub, 1) := by decide +kernel
theorem dX9_mapOf_98 : decode cX9_mapOf 98 = .ok (.iastore, 1) := by decide +kernel
theorem dX9_mapOf_99 : decode cX9_mapOf 99 = .ok (.aload_n 0, 1) := by decide +kernel
theorem dX9_mapOf_100 : decode cX9_mapOf 100 = .ok (.invokevirtual 96, 3) := by decide +kernel
theorem dX9_mapOf_103 : decode cX9_mapOf 103 = .ok (.ifCond .ge 10, 3) := by decide +kernel
theorem dX9_mapOf_106 : decode cX9_mapOf 106 = .ok (.iload 5, 2) := by decide +kernel
theorem dX9_mapOf_108 : decode cX9_mapOf 108 = .ok (.istore 4, 2) := by decide +kernel
theorem dX9_mapOf_110 : decode cX9_mapOf 110 = .ok (.goto 8, 3) := by decide +kernel
theorem dX9_mapOf_113 : decode cX9_mapOf 113 = .ok (.iload 5, 2) := by decide +kernel
theorem dX9_mapOf_115 : decode cX9_mapOf 115 = .ok (.iconst 1, 1) := by decide +kernel
theorem dX9_mapOf_116 : decode cX9_mapOf 116 = .ok (.iadd, 1) := by decide +kernel
theorem dX9_mapOf_117 : decode cX9_mapOf 117 = .ok (.istore_n 3, 1) := by decide +kernel
theorem dX9_mapOf_118 : decode cX9_mapOf 118 = .ok (.goto (-79), 3) := by decide +kernel
theorem dX9_mapOf_121 : decode cX9_mapOf 121 = .ok (.aload_n 0, 1) := by decide +kernel
theorem dX9_mapOf_122 : decode cX9_mapOf 122 = .ok (.getfield 35, 3) := by decide +kernel
theorem dX9_mapOf_125 : decode cX9_mapOf 125 = .ok (.bipush 6, 2) := by decide +kernel
theorem dX9_mapOf_127 : decode cX9_mapOf 127 = .ok (.iload_n 1, 1) := by decide +kernel
theorem dX9_mapOf_128 : decode cX9_mapOf 128 = .ok (.imul, 1) := by decide +kernel
theorem dX9_mapOf_129 : decode cX9_mapOf 129 = .ok (.iload_n 2, 1) := by decide +kernel
theorem dX9_mapOf_130 : decode cX9_mapOf 130 = .ok (.iadd, 1) := by decide +kernel
theorem dX9_mapOf_131 : decode cX9_mapOf 131 = .ok (.iload_n 3, 1) := by decide +kernel
theorem dX9_mapOf_132 : decode cX9_mapOf 132 = .ok (.iastore, 1) := by decide +kernel
theorem dX9_mapOf_133 : decode cX9_mapOf 133 = .ok (.iload_n 3, 1) := by decide +kernel
theorem dX9_mapOf_134 : decode cX9_mapOf 134 = .ok (.ireturn, 1) := by decide +kernel
theorem dX9_isDivision_0 : decode cX9_isDivision 0 = .ok (.iload_n 0, 1) := by decide +kernel
theorem dX9_isDivision_1 : decode cX9_isDivision 1 = .ok (.iconst 1, 1) := by decide +kernel
theorem dX9_isDivision_2 : decode cX9_isDivision 2 = .ok (.if_icmp .lt 13, 3) := by decide +kernel
theorem dX9_isDivision_5 : decode cX9_isDivision 5 = .ok (.iload_n 0, 1) := by decide +kernel
theorem dX9_isDivision_6 : decode cX9_isDivision 6 = .ok (.bipush 99, 2) := by decide +kernel
theorem dX9_isDivision_8 : decode cX9_isDivision 8 = .ok (.if_icmp .gt 7, 3) := by decide +kernel
theorem dX9_isDivision_11 : decode cX9_isDivision 11 = .ok (.iconst 1, 1) := by decide +kernel
theorem dX9_isDivision_12 : decode cX9_isDivision 12 = .ok (.goto 4, 3) := by decide +kernel
theorem dX9_isDivision_15 : decode cX9_isDivision 15 = .ok (.iconst 0, 1) := by decide +kernel
theorem dX9_isDivision_16 : decode cX9_isDivision 16 = .ok (.ireturn, 1) := by decide +kernel
theorem dX9_map_0 : decode cX9_map 0 = .ok (.iload_n 1, 1) := by decide +kernel
theorem dX9_map_1 : decode cX9_map 1 = .ok (.invokestatic 153, 3) := by decide +kernel
theorem dX9_map_4 : decode cX9_map 4 = .ok (.ifCond .eq 12, 3) := by decide +kernel
theorem dX9_map_7 : decode cX9_map 7 = .ok (.iload_n 2, 1) := by decide +kernel
theorem dX9_map_8 : decode cX9_map 8 = .ok (.ifCond .lt 8, 3) := by decide +kernel
theorem dX9_map_11 : decode cX9_map 11 = .ok (.iload_n 2, 1) := by decide +kernel
theorem dX9_map_12 : decode cX9_map 12 = .ok (.iconst 5, 1) := by decide +kernel
theorem dX9_map_13 : decode cX9_map 13 = .ok (.if_icmp .le 9, 3) := by decide +kernel
theorem dX9_map_16 : decode cX9_map 16 = .ok (.aload_n 0, 1) := by decide +kernel
theorem dX9_map_17 : decode cX9_map 17 = .ok (.iconst 3, 1) := by decide +kernel
theorem dX9_map_18 : decode cX9_map 18 = .ok (.invokevirtual 136, 3) := by decide +kernel
theorem dX9_map_21 : decode cX9_map 21 = .ok (.ireturn, 1) := by decide +kernel
theorem dX9_map_22 : decode cX9_map 22 = .ok (.aload_n 0, 1) := by decide +kernel
theorem dX9_map_23 : decode cX9_map 23 = .ok (.iconst 0, 1) := by decide +kernel
theorem dX9_map_24 : decode cX9_map 24 = .ok (.putfield 66, 3) := by decide +kernel
theorem dX9_map_27 : decode cX9_map 27 = .ok (.aload_n 0, 1) := by decide +kernel
theorem dX9_map_28 : decode cX9_map 28 = .ok (.iload_n 1, 1) := by decide +kernel
theorem dX9_map_29 : decode cX9_map 29 = .ok (.iload_n 2, 1) := by decide +kernel
theorem dX9_map_30 : decode cX9_map 30 = .ok (.invokevirtual 156, 3) := by decide +kernel
theorem dX9_map_33 : decode cX9_map 33 = .ok (.ireturn, 1) := by decide +kernel
theorem dX9_stepsOf_0 : decode cX9_stepsOf 0 = .ok (.iconst 0, 1) := by decide +kernel
theorem dX9_stepsOf_1 : decode cX9_stepsOf 1 = .ok (.istore 4, 2) := by decide +kernel
theorem dX9_stepsOf_3 : decode cX9_stepsOf 3 = .ok (.iconst 0, 1) := by decide +kernel
theorem dX9_stepsOf_4 : decode cX9_stepsOf 4 = .ok (.istore 5, 2) := by decide +kernel
theorem dX9_stepsOf_6 : decode cX9_stepsOf 6 = .ok (.iload 5, 2) := by decide +kernel
theorem dX9_stepsOf_8 : decode cX9_stepsOf 8 = .ok (.bipush 6, 2) := by decide +kernel
theorem dX9_stepsOf_10 : decode cX9_stepsOf 10 = .ok (.if_icmp .ge 28, 3) := by decide +kernel
theorem dX9_stepsOf_13 : decode cX9_stepsOf 13 = .ok (.iload 4, 2) := by decide +kernel
theorem dX9_stepsOf_15 : decode cX9_stepsOf 15 = .ok (.aload_n 1, 1) := by decide +kernel
theorem dX9_stepsOf_16 : decode cX9_stepsOf 16 = .ok (.iload_n 2, 1) := by decide +kernel
theorem dX9_stepsOf_17 : decode cX9_stepsOf 17 = .ok (.iload 5, 2) := by decide +kernel
theorem dX9_stepsOf_19 : decode cX9_stepsOf 19 = .ok (.iadd, 1) := by decide +kernel
theorem dX9_stepsOf_20 : decode cX9_stepsOf 20 = .ok (.iaload, 1) := by decide +kernel
theorem dX9_stepsOf_21 : decode cX9_stepsOf 21 = .ok (.aload_n 0, 1) := by decide +kernel
theorem dX9_stepsOf_22 : decode cX9_stepsOf 22 = .ok (.iload_n 3, 1) := by decide +kernel
theorem dX9_stepsOf_23 : decode cX9_stepsOf 23 = .ok (.iload 5, 2) := by decide +kernel
theorem dX9_stepsOf_25 : decode cX9_stepsOf 25 = .ok (.invokevirtual 156, 3) := by decide +kernel
theorem dX9_stepsOf_28 : decode cX9_stepsOf 28 = .ok (.imul, 1) := by decide +kernel
theorem dX9_stepsOf_29 : decode cX9_stepsOf 29 = .ok (.iadd, 1) := by decide +kernel
theorem dX9_stepsOf_30 : decode cX9_stepsOf 30 = .ok (.istore 4, 2) := by decide +kernel
theorem dX9_stepsOf_32 : decode cX9_stepsOf 32 = .ok (.iinc 5 1, 3) := by decide +kernel
theorem dX9_stepsOf_35 : decode cX9_stepsOf 35 = .ok (.goto (-29), 3) := by decide +kernel
theorem dX9_stepsOf_38 : decode cX9_stepsOf 38 = .ok (.iload 4, 2) := by decide +kernel
theorem dX9_stepsOf_40 : decode cX9_stepsOf 40 = .ok (.ireturn, 1) := by decide +kernel
theorem dX9_steps_0 : decode cX9_steps 0 = .ok (.iload_n 1, 1) := by decide +kernel
theorem dX9_steps_1 : decode cX9_steps 1 = .ok (.invokestatic 111, 3) := by decide +kernel
theorem dX9_steps_4 : decode cX9_steps 4 = .ok (.ifCond .ne 9, 3) := by decide +kernel
theorem dX9_steps_7 : decode cX9_steps 7 = .ok (.aload_n 0, 1) := by decide +kernel
theorem dX9_steps_8 : decode cX9_steps 8 = .ok (.iconst 1, 1) := by decide +kernel
theorem dX9_steps_9 : decode cX9_steps 9 = .ok (.invokevirtual 136, 3) := by decide +kernel
theorem dX9_steps_12 : decode cX9_steps 12 = .ok (.ireturn, 1) := by decide +kernel
theorem dX9_steps_13 : decode cX9_steps 13 = .ok (.aload_n 0, 1) := by decide +kernel
theorem dX9_steps_14 : decode cX9_steps 14 = .ok (.getfield 13, 3) := by decide +kernel
theorem dX9_steps_17 : decode cX9_steps 17 = .ok (.iload_n 1, 1) := by decide +kernel
theorem dX9_steps_18 : decode cX9_steps 18 = .ok (.baload, 1) := by decide +kernel
theorem dX9_steps_19 : decode cX9_steps 19 = .ok (.ifCond .ne 9, 3) := by decide +kernel
theorem dX9_steps_22 : decode cX9_steps 22 = .ok (.aload_n 0, 1) := by decide +kernel
theorem dX9_steps_23 : decode cX9_steps 23 = .ok (.iconst 2, 1) := by decide +kernel
theorem dX9_steps_24 : decode cX9_steps 24 = .ok (.invokevirtual 136, 3) := by decide +kernel
theorem dX9_steps_27 : decode cX9_steps 27 = .ok (.ireturn, 1) := by decide +kernel
theorem dX9_steps_28 : decode cX9_steps 28 = .ok (.iload_n 2, 1) := by decide +kernel
theorem dX9_steps_29 : decode cX9_steps 29 = .ok (.invokestatic 153, 3) := by decide +kernel
theorem dX9_steps_32 : decode cX9_steps 32 = .ok (.ifCond .ne 9, 3) := by decide +kernel
theorem dX9_steps_35 : decode cX9_steps 35 = .ok (.aload_n 0, 1) := by decide +kernel
theorem dX9_steps_36 : decode cX9_steps 36 = .ok (.iconst 3, 1) := by decide +kernel
theorem dX9_steps_37 : decode cX9_steps 37 = .ok (.invokevirtual 136, 3) := by decide +kernel
theorem dX9_steps_40 : decode cX9_steps 40 = .ok (.ireturn, 1) := by decide +kernel
theorem dX9_steps_41 : decode cX9_steps 41 = .ok (.aload_n 0, 1) := by decide +kernel
theorem dX9_steps_42 : decode cX9_steps 42 = .ok (.iconst 0, 1) := by decide +kernel
theorem dX9_steps_43 : decode cX9_steps 43 = .ok (.putfield 66, 3) := by decide +kernel
theorem dX9_steps_46 : decode cX9_steps 46 = .ok (.aload_n 0, 1) := by decide +kernel
theorem dX9_steps_47 : decode cX9_steps 47 = .ok (.aload_n 0, 1) := by decide +kernel
theorem dX9_steps_48 : decode cX9_steps 48 = .ok (.getfield 7, 3) := by decide +kernel
theorem dX9_steps_51 : decode cX9_steps 51 = .ok (.bipush 6, 2) := by decide +kernel
theorem dX9_steps_53 : decode cX9_steps 53 = .ok (.iload_n 1, 1) := by decide +kernel
theorem dX9_steps_54 : decode cX9_steps 54 = .ok (.imul, 1) := by decide +kernel
theorem dX9_steps_55 : decode cX9_steps 55 = .ok (.iload_n 2, 1) := by decide +kernel
theorem dX9_steps_56 : decode cX9_steps 56 = .ok (.invokevirtual 159, 3) := by decide +kernel
theorem dX9_steps_59 : decode cX9_steps 59 = .ok (.ireturn, 1) := by decide +kernel
theorem dX9_comma_0 : decode cX9_comma 0 = .ok (.iload_n 1, 1) := by decide +kernel
theorem dX9_comma_1 : decode cX9_comma 1 = .ok (.invokestatic 111, 3) := by decide +kernel
theorem dX9_comma_4 : decode cX9_comma 4 = .ok (.ifCond .ne 9, 3) := by decide +kernel
theorem dX9_comma_7 : decode cX9_comma 7 = .ok (.aload_n 0, 1) := by decide +kernel
theorem dX9_comma_8 : decode cX9_comma 8 = .ok (.iconst 1, 1) := by decide +kernel
theorem dX9_comma_9 : decode cX9_comma 9 = .ok (.invokevirtual 136, 3) := by decide +kernel
theorem dX9_comma_12 : decode cX9_comma 12 = .ok (.ireturn, 1) := by decide +kernel
theorem dX9_comma_13 : decode cX9_comma 13 = .ok (.aload_n 0, 1) := by decide +kernel
theorem dX9_comma_14 : decode cX9_comma 14 = .ok (.getfield 13, 3) := by decide +kernel
theorem dX9_comma_17 : decode cX9_comma 17 = .ok (.iload_n 1, 1) := by decide +kernel
theorem dX9_comma_18 : decode cX9_comma 18 = .ok (.baload, 1) := by decide +kernel
theorem dX9_comma_19 : decode cX9_comma 19 = .ok (.ifCond .ne 9, 3) := by decide +kernel
theorem dX9_comma_22 : decode cX9_comma 22 = .ok (.aload_n 0, 1) := by decide +kernel
theorem dX9_comma_23 : decode cX9_comma 23 = .ok (.iconst 2, 1) := by decide +kernel
theorem dX9_comma_24 : decode cX9_comma 24 = .ok (.invokevirtual 136, 3) := by decide +kernel
theorem dX9_comma_27 : decode cX9_comma 27 = .ok (.ireturn, 1) := by decide +kernel
theorem dX9_comma_28 : decode cX9_comma 28 = .ok (.aload_n 0, 1) := by decide +kernel
theorem dX9_comma_29 : decode cX9_comma 29 = .ok (.aload_n 0, 1) := by decide +kernel
theorem dX9_comma_30 : decode cX9_comma 30 = .ok (.getfield 7, 3) := by decide +kernel
theorem dX9_comma_33 : decode cX9_comma 33 = .ok (.bipush 6, 2) := by decide +kernel
theorem dX9_comma_35 : decode cX9_comma 35 = .ok (.iload_n 1, 1) := by decide +kernel
theorem dX9_comma_36 : decode cX9_comma 36 = .ok (.imul, 1) := by decide +kernel
theorem dX9_comma_37 : decode cX9_comma 37 = .ok (.invokevirtual 89, 3) := by decide +kernel
theorem dX9_comma_40 : decode cX9_comma 40 = .ok (.aload_n 0, 1) := by decide +kernel
theorem dX9_comma_41 : decode cX9_comma 41 = .ok (.invokevirtual 96, 3) := by decide +kernel
theorem dX9_comma_44 : decode cX9_comma 44 = .ok (.ifCond .ne 9, 3) := by decide +kernel
theorem dX9_comma_47 : decode cX9_comma 47 = .ok (.aload_n 0, 1) := by decide +kernel
theorem dX9_comma_48 : decode cX9_comma 48 = .ok (.iconst 5, 1) := by decide +kernel
theorem dX9_comma_49 : decode cX9_comma 49 = .ok (.invokevirtual 136, 3) := by decide +kernel
theorem dX9_comma_52 : decode cX9_comma 52 = .ok (.ireturn, 1) := by decide +kernel
theorem dX9_comma_53 : decode cX9_comma 53 = .ok (.aload_n 0, 1) := by decide +kernel
theorem dX9_comma_54 : decode cX9_comma 54 = .ok (.getfield 162, 3) := by decide +kernel
theorem dX9_comma_57 : decode cX9_comma 57 = .ok (.iconst 5, 1) := by decide +kernel
theorem dX9_comma_58 : decode cX9_comma 58 = .ok (.if_icmp .ne 10, 3) := by decide +kernel
theorem dX9_comma_61 : decode cX9_comma 61 = .ok (.aload_n 0, 1) := by decide +kernel
theorem dX9_comma_62 : decode cX9_comma 62 = .ok (.bipush 6, 2) := by decide +kernel
theorem dX9_comma_64 : decode cX9_comma 64 = .ok (.invokevirtual 136, 3) := by decide +kernel
theorem dX9_comma_67 : decode cX9_comma 67 = .ok (.ireturn, 1) := by decide +kernel
theorem dX9_comma_68 : decode cX9_comma 68 = .ok (.aload_n 0, 1) := by decide +kernel
theorem dX9_comma_69 : decode cX9_comma 69 = .ok (.iconst 0, 1) := by decide +kernel
theorem dX9_comma_70 : decode cX9_comma 70 = .ok (.putfield 66, 3) := by decide +kernel
theorem dX9_comma_73 : decode cX9_comma 73 = .ok (.aload_n 0, 1) := by decide +kernel
theorem dX9_comma_74 : decode cX9_comma 74 = .ok (.aload_n 0, 1) := by decide +kernel
theorem dX9_comma_75 : decode cX9_comma 75 = .ok (.getfield 7, 3) := by decide +kernel
theorem dX9_comma_78 : decode cX9_comma 78 = .ok (.bipush 6, 2) := by decide +kernel
theorem dX9_comma_80 : decode cX9_comma 80 = .ok (.iload_n 1, 1) := by decide +kernel
theorem dX9_comma_81 : decode cX9_comma 81 = .ok (.imul, 1) := by decide +kernel
theorem dX9_comma_82 : decode cX9_comma 82 = .ok (.invokevirtual 89, 3) := by decide +kernel
theorem dX9_comma_85 : decode cX9_comma 85 = .ok (.aload_n 0, 1) := by decide +kernel
theorem dX9_comma_86 : decode cX9_comma 86 = .ok (.aload_n 0, 1) := by decide +kernel
theorem dX9_comma_87 : decode cX9_comma 87 = .ok (.getfield 38, 3) := by decide +kernel
theorem dX9_comma_90 : decode cX9_comma 90 = .ok (.bipush 6, 2) := by decide +kernel
theorem dX9_comma_92 : decode cX9_comma 92 = .ok (.aload_n 0, 1) := by decide +kernel
theorem dX9_comma_93 : decode cX9_comma 93 = .ok (.getfield 162, 3) := by decide +kernel
theorem dX9_comma_96 : decode cX9_comma 96 = .ok (.imul, 1) := by decide +kernel
theorem dX9_comma_97 : decode cX9_comma 97 = .ok (.invokevirtual 108, 3) := by decide +kernel
theorem dX9_comma_100 : decode cX9_comma 100 = .ok (.aload_n 0, 1) := by decide +kernel
theorem dX9_comma_101 : decode cX9_comma 101 = .ok (.dup, 1) := by decide +kernel
theorem dX9_comma_102 : decode cX9_comma 102 = .ok (.getfield 162, 3) := by decide +kernel
theorem dX9_comma_105 : decode cX9_comma 105 = .ok (.iconst 1, 1) := by decide +kernel
theorem dX9_comma_106 : decode cX9_comma 106 = .ok (.iadd, 1) := by decide +kernel
theorem dX9_comma_107 : decode cX9_comma 107 = .ok (.putfield 162, 3) := by decide +kernel
theorem dX9_comma_110 : decode cX9_comma 110 = .ok (.aload_n 0, 1) := by decide +kernel
theorem dX9_comma_111 : decode cX9_comma 111 = .ok (.getfield 162, 3) := by decide +kernel
theorem dX9_comma_114 : decode cX9_comma 114 = .ok (.ireturn, 1) := by decide +kernel
theorem dX9_clear_0 : decode cX9_clear 0 = .ok (.aload_n 0, 1) := by decide +kernel
theorem dX9_clear_1 : decode cX9_clear 1 = .ok (.iconst 0, 1) := by decide +kernel
theorem dX9_clear_2 : decode cX9_clear 2 = .ok (.putfield 66, 3) := by decide +kernel
theorem dX9_clear_5 : decode cX9_clear 5 = .ok (.aload_n 0, 1) := by decide +kernel
theorem dX9_clear_6 : decode cX9_clear 6 = .ok (.getfield 162, 3) := by decide +kernel
theorem dX9_clear_9 : decode cX9_clear 9 = .ok (.istore_n 1, 1) := by decide +kernel
theorem dX9_clear_10 : decode cX9_clear 10 = .ok (.aload_n 0, 1) := by decide +kernel
theorem dX9_clear_11 : decode cX9_clear 11 = .ok (.iconst 0, 1) := by decide +kernel
theorem dX9_clear_12 : decode cX9_clear 12 = .ok (.putfield 162, 3) := by decide +kernel
theorem dX9_clear_15 : decode cX9_clear 15 = .ok (.iload_n 1, 1) := by decide +kernel
theorem dX9_clear_16 : decode cX9_clear 16 = .ok (.ireturn, 1) := by decide +kernel
theorem dX9_change_0 : decode cX9_change 0 = .ok (.iconst 0, 1) := by decide +kernel
theorem dX9_change_1 : decode cX9_change 1 = .ok (.istore_n 3, 1) := by decide +kernel
theorem dX9_change_2 : decode cX9_change 2 = .ok (.iload_n 3, 1) := by decide +kernel
theorem dX9_change_3 : decode cX9_change 3 = .ok (.bipush 6, 2) := by decide +kernel
theorem dX9_change_5 : decode cX9_change 5 = .ok (.if_icmp .ge 57, 3) := by decide +kernel
theorem dX9_change_8 : decode cX9_change 8 = .ok (.aload_n 0, 1) := by decide +kernel
theorem dX9_change_9 : decode cX9_change 9 = .ok (.getfield 41, 3) := by decide +kernel
theorem dX9_change_12 : decode cX9_change 12 = .ok (.bipush 6, 2) := by decide +kernel
theorem dX9_change_14 : decode cX9_change 14 = .ok (.iload_n 1, 1) := by decide +kernel
theorem dX9_change_15 : decode cX9_change 15 = .ok (.imul, 1) := by decide +kernel
theorem dX9_change_16 : decode cX9_change 16 = .ok (.iload_n 3, 1) := by decide +kernel
theorem dX9_change_17 : decode cX9_change 17 = .ok (.iadd, 1) := by decide +kernel
theorem dX9_change_18 : decode cX9_change 18 = .ok (.laload, 1) := by decide +kernel
theorem dX9_change_19 : decode cX9_change 19 = .ok (.lstore 4, 2) := by decide +kernel
theorem dX9_change_21 : decode cX9_change 21 = .ok (.aload_n 0, 1) := by decide +kernel
theorem dX9_change_22 : decode cX9_change 22 = .ok (.getfield 41, 3) := by decide +kernel
theorem dX9_change_25 : decode cX9_change 25 = .ok (.bipush 6, 2) := by decide +kernel
theorem dX9_change_27 : decode cX9_change 27 = .ok (.iload_n 1, 1) := by decide +kernel
theorem dX9_change_28 : decode cX9_change 28 = .ok (.imul, 1) := by decide +kernel
theorem dX9_change_29 : decode cX9_change 29 = .ok (.iload_n 3, 1) := by decide +kernel
theorem dX9_change_30 : decode cX9_change 30 = .ok (.iadd, 1) := by decide +kernel
theorem dX9_change_31 : decode cX9_change 31 = .ok (.aload_n 0, 1) := by decide +kernel
theorem dX9_change_32 : decode cX9_change 32 = .ok (.getfield 41, 3) := by decide +kernel
theorem dX9_change_35 : decode cX9_change 35 = .ok (.bipush 6, 2) := by decide +kernel
theorem dX9_change_37 : decode cX9_change 37 = .ok (.iload_n 2, 1) := by decide +kernel
theorem dX9_change_38 : decode cX9_change 38 = .ok (.imul, 1) := by decide +kernel
theorem dX9_change_39 : decode cX9_change 39 = .ok (.iload_n 3, 1) := by decide +kernel
theorem dX9_change_40 : decode cX9_change 40 = .ok (.iadd, 1) := by decide +kernel
theorem dX9_change_41 : decode cX9_change 41 = .ok (.laload, 1) := by decide +kernel
theorem dX9_change_42 : decode cX9_change 42 = .ok (.lastore, 1) := by decide +kernel
theorem dX9_change_43 : decode cX9_change 43 = .ok (.aload_n 0, 1) := by decide +kernel
theorem dX9_change_44 : decode cX9_change 44 = .ok (.getfield 41, 3) := by decide +kernel
theorem dX9_change_47 : decode cX9_change 47 = .ok (.bipush 6, 2) := by decide +kernel
theorem dX9_change_49 : decode cX9_change 49 = .ok (.iload_n 2, 1) := by decide +kernel
theorem dX9_change_50 : decode cX9_change 50 = .ok (.imul, 1) := by decide +kernel
theorem dX9_change_51 : decode cX9_change 51 = .ok (.iload_n 3, 1) := by decide +kernel
theorem dX9_change_52 : decode cX9_change 52 = .ok (.iadd, 1) := by decide +kernel
theorem dX9_change_53 : decode cX9_change 53 = .ok (.lload 4, 2) := by decide +kernel
theorem dX9_change_55 : decode cX9_change 55 = .ok (.lastore, 1) := by decide +kernel
theorem dX9_change_56 : decode cX9_change 56 = .ok (.iinc 3 1, 3) := by decide +kernel
theorem dX9_change_59 : decode cX9_change 59 = .ok (.goto (-57), 3) := by decide +kernel
theorem dX9_change_62 : decode cX9_change 62 = .ok (.return_, 1) := by decide +kernel
theorem dX9_rankOf_0 : decode cX9_rankOf 0 = .ok (.lconst 1, 1) := by decide +kernel
theorem dX9_rankOf_1 : decode cX9_rankOf 1 = .ok (.lstore_n 2, 1) := by decide +kernel
theorem dX9_rankOf_2 : decode cX9_rankOf 2 = .ok (.iconst 0, 1) := by decide +kernel
theorem dX9_rankOf_3 : decode cX9_rankOf 3 = .ok (.istore 4, 2) := by decide +kernel
theorem dX9_rankOf_5 : decode cX9_rankOf 5 = .ok (.iconst 0, 1) := by decide +kernel
theorem dX9_rankOf_6 : decode cX9_rankOf 6 = .ok (.istore 5, 2) := by decide +kernel
theorem dX9_rankOf_8 : decode cX9_rankOf 8 = .ok (.iload 5, 2) := by decide +kernel
theorem dX9_rankOf_10 : decode cX9_rankOf 10 = .ok (.bipush 6, 2) := by decide +kernel
theorem dX9_rankOf_12 : decode cX9_rankOf 12 = .ok (.if_icmp .ge 184, 3) := by decide +kernel
theorem dX9_rankOf_15 : decode cX9_rankOf 15 = .ok (.iload 4, 2) := by decide +kernel
theorem dX9_rankOf_17 : decode cX9_rankOf 17 = .ok (.iload_n 1, 1) := by decide +kernel
theorem dX9_rankOf_18 : decode cX9_rankOf 18 = .ok (.if_icmp .ge 178, 3) := by decide +kernel
theorem dX9_rankOf_21 : decode cX9_rankOf 21 = .ok (.iload 4, 2) := by decide +kernel
theorem dX9_rankOf_23 : decode cX9_rankOf 23 = .ok (.istore 6, 2) := by decide +kernel
theorem dX9_rankOf_25 : decode cX9_rankOf 25 = .ok (.iload 6, 2) := by decide +kernel
theorem dX9_rankOf_27 : decode cX9_rankOf 27 = .ok (.iload_n 1, 1) := by decide +kernel
theorem dX9_rankOf_28 : decode cX9_rankOf 28 = .ok (.if_icmp .ge 27, 3) := by decide +kernel
theorem dX9_rankOf_31 : decode cX9_rankOf 31 = .ok (.aload_n 0, 1) := by decide +kernel
theorem dX9_rankOf_32 : decode cX9_rankOf 32 = .ok (.getfield 41, 3) := by decide +kernel
theorem dX9_rankOf_35 : decode cX9_rankOf 35 = .ok (.bipush 6, 2) := by decide +kernel
theorem dX9_rankOf_37 : decode cX9_rankOf 37 = .ok (.iload 6, 2) := by decide +kernel
theorem dX9_rankOf_39 : decode cX9_rankOf 39 = .ok (.imul, 1) := by decide +kernel
theorem dX9_rankOf_40 : decode cX9_rankOf 40 = .ok (.iload 5, 2) := by decide +kernel
theorem dX9_rankOf_42 : decode cX9_rankOf 42 = .ok (.iadd, 1) := by decide +kernel
theorem dX9_rankOf_43 : decode cX9_rankOf 43 = .ok (.laload, 1) := by decide +kernel
theorem dX9_rankOf_44 : decode cX9_rankOf 44 = .ok (.lconst 0, 1) := by decide +kernel
theorem dX9_rankOf_45 : decode cX9_rankOf 45 = .ok (.lcmp, 1) := by decide +kernel
theorem dX9_rankOf_46 : decode cX9_rankOf 46 = .ok (.ifCond .ne 9, 3) := by decide +kernel
theorem dX9_rankOf_49 : decode cX9_rankOf 49 = .ok (.iinc 6 1, 3) := by decide +kernel
theorem dX9_rankOf_52 : decode cX9_rankOf 52 = .ok (.goto (-27), 3) := by decide +kernel
theorem dX9_rankOf_55 : decode cX9_rankOf 55 = .ok (.iload 6, 2) := by decide +kernel
theorem dX9_rankOf_57 : decode cX9_rankOf 57 = .ok (.iload_n 1, 1) := by decide +kernel
theorem dX9_rankOf_58 : decode cX9_rankOf 58 = .ok (.if_icmp .ne 6, 3) := by decide +kernel
theorem dX9_rankOf_61 : decode cX9_rankOf 61 = .ok (.goto 129, 3) := by decide +kernel
theorem dX9_rankOf_64 : decode cX9_rankOf 64 = .ok (.aload_n 0, 1) := by decide +kernel
theorem dX9_rankOf_65 : decode cX9_rankOf 65 = .ok (.iload 6, 2) := by decide +kernel
theorem dX9_rankOf_67 : decode cX9_rankOf 67 = .ok (.iload 4, 2) := by decide +kernel
theorem dX9_rankOf_69 : decode cX9_rankOf 69 = .ok (.invokevirtual 165, 3) := by decide +kernel
theorem dX9_rankOf_72 : decode cX9_rankOf 72 = .ok (.aload_n 0, 1) := by decide +kernel
theorem dX9_rankOf_73 : decode cX9_rankOf 73 = .ok (.getfield 41, 3) := by decide +kernel
theorem dX9_rankOf_76 : decode cX9_rankOf 76 = .ok (.bipush 6, 2) := by decide +kernel
theorem dX9_rankOf_78 : decode cX9_rankOf 78 = .ok (.iload 4, 2) := by decide +kernel
theorem dX9_rankOf_80 : decode cX9_rankOf 80 = .ok (.imul, 1) := by decide +kernel
theorem dX9_rankOf_81 : decode cX9_rankOf 81 = .ok (.iload 5, 2) := by decide +kernel
theorem dX9_rankOf_83 : decode cX9_rankOf 83 = .ok (.iadd, 1) := by decide +kernel
theorem dX9_rankOf_84 : decode cX9_rankOf 84 = .ok (.laload, 1) := by decide +kernel
theorem dX9_rankOf_85 : decode cX9_rankOf 85 = .ok (.lstore 7, 2) := by decide +kernel
theorem dX9_rankOf_87 : decode cX9_rankOf 87 = .ok (.iload 4, 2) := by decide +kernel
theorem dX9_rankOf_89 : decode cX9_rankOf 89 = .ok (.iconst 1, 1) := by decide +kernel
theorem dX9_rankOf_90 : decode cX9_rankOf 90 = .ok (.iadd, 1) := by decide +kernel
theorem dX9_rankOf_91 : decode cX9_rankOf 91 = .ok (.istore 9, 2) := by decide +kernel
theorem dX9_rankOf_93 : decode cX9_rankOf 93 = .ok (.iload 9, 2) := by decide +kernel
theorem dX9_rankOf_95 : decode cX9_rankOf 95 = .ok (.iload_n 1, 1) := by decide +kernel
theorem dX9_rankOf_96 : decode cX9_rankOf 96 = .ok (.if_icmp .ge 88, 3) := by decide +kernel
theorem dX9_rankOf_99 : decode cX9_rankOf 99 = .ok (.aload_n 0, 1) := by decide +kernel
theorem dX9_rankOf_100 : decode cX9_rankOf 100 = .ok (.getfield 41, 3) := by decide +kernel
theorem dX9_rankOf_103 : decode cX9_rankOf 103 = .ok (.bipush 6, 2) := by decide +kernel
theorem dX9_rankOf_105 : decode cX9_rankOf 105 = .ok (.iload 9, 2) := by decide +kernel
theorem dX9_rankOf_107 : decode cX9_rankOf 107 = .ok (.imul, 1) := by decide +kernel
theorem dX9_rankOf_108 : decode cX9_rankOf 108 = .ok (.iload 5, 2) := by decide +kernel
theorem dX9_rankOf_110 : decode cX9_rankOf 110 = .ok (.iadd, 1) := by decide +kernel
theorem dX9_rankOf_111 : decode cX9_rankOf 111 = .ok (.laload, 1) := by decide +kernel
theorem dX9_rankOf_112 : decode cX9_rankOf 112 = .ok (.lstore 10, 2) := by decide +kernel
theorem dX9_rankOf_114 : decode cX9_rankOf 114 = .ok (.iconst 0, 1) := by decide +kernel
theorem dX9_rankOf_115 : decode cX9_rankOf 115 = .ok (.istore 12, 2) := by decide +kernel
theorem dX9_rankOf_117 : decode cX9_rankOf 117 = .ok (.iload 12, 2) := by decide +kernel
theorem dX9_rankOf_119 : decode cX9_rankOf 119 = .ok (.bipush 6, 2) := by decide +kernel
theorem dX9_rankOf_121 : decode cX9_rankOf 121 = .ok (.if_icmp .ge 57, 3) := by decide +kernel
theorem dX9_rankOf_124 : decode cX9_rankOf 124 = .ok (.aload_n 0, 1) := by decide +kernel
theorem dX9_rankOf_125 : decode cX9_rankOf 125 = .ok (.getfield 41, 3) := by decide +kernel
theorem dX9_rankOf_128 : decode cX9_rankOf 128 = .ok (.bipush 6, 2) := by decide +kernel
theorem dX9_rankOf_130 : decode cX9_rankOf 130 = .ok (.iload 9, 2) := by decide +kernel
theorem dX9_rankOf_132 : decode cX9_rankOf 132 = .ok (.imul, 1) := by decide +kernel
theorem dX9_rankOf_133 : decode cX9_rankOf 133 = .ok (.iload 12, 2) := by decide +kernel
theorem dX9_rankOf_135 : decode cX9_rankOf 135 = .ok (.iadd, 1) := by decide +kernel
theorem dX9_rankOf_136 : decode cX9_rankOf 136 = .ok (.aload_n 0, 1) := by decide +kernel
theorem dX9_rankOf_137 : decode cX9_rankOf 137 = .ok (.getfield 41, 3) := by decide +kernel
theorem dX9_rankOf_140 : decode cX9_rankOf 140 = .ok (.bipush 6, 2) := by decide +kernel
theorem dX9_rankOf_142 : decode cX9_rankOf 142 = .ok (.iload 9, 2) := by decide +kernel
theorem dX9_rankOf_144 : decode cX9_rankOf 144 = .ok (.imul, 1) := by decide +kernel
theorem dX9_rankOf_145 : decode cX9_rankOf 145 = .ok (.iload 12, 2) := by decide +kernel
theorem dX9_rankOf_147 : decode cX9_rankOf 147 = .ok (.iadd, 1) := by decide +kernel
theorem dX9_rankOf_148 : decode cX9_rankOf 148 = .ok (.laload, 1) := by decide +kernel
theorem dX9_rankOf_149 : decode cX9_rankOf 149 = .ok (.lload 7, 2) := by decide +kernel
theorem dX9_rankOf_151 : decode cX9_rankOf 151 = .ok (.lmul, 1) := by decide +kernel
theorem dX9_rankOf_152 : decode cX9_rankOf 152 = .ok (.aload_n 0, 1) := by decide +kernel
theorem dX9_rankOf_153 : decode cX9_rankOf 153 = .ok (.getfield 41, 3) := by decide +kernel
theorem dX9_rankOf_156 : decode cX9_rankOf 156 = .ok (.bipush 6, 2) := by decide +kernel
theorem dX9_rankOf_158 : decode cX9_rankOf 158 = .ok (.iload 4, 2) := by decide +kernel
theorem dX9_rankOf_160 : decode cX9_rankOf 160 = .ok (.imul, 1) := by decide +kernel
theorem dX9_rankOf_161 : decode cX9_rankOf 161 = .ok (.iload 12, 2) := by decide +kernel
theorem dX9_rankOf_163 : decode cX9_rankOf 163 = .ok (.iadd, 1) := by decide +kernel
theorem dX9_rankOf_164 : decode cX9_rankOf 164 = .ok (.laload, 1) := by decide +kernel
theorem dX9_rankOf_165 : decode cX9_rankOf 165 = .ok (.lload 10, 2) := by decide +kernel
theorem dX9_rankOf_167 : decode cX9_rankOf 167 = .ok (.lmul, 1) := by decide +kernel
theorem dX9_rankOf_168 : decode cX9_rankOf 168 = .ok (.lsub, 1) := by decide +kernel
theorem dX9_rankOf_169 : decode cX9_rankOf 169 = .ok (.lload_n 2, 1) := by decide +kernel
theorem dX9_rankOf_170 : decode cX9_rankOf 170 = .ok (.ldiv, 1) := by decide +kernel
theorem dX9_rankOf_171 : decode cX9_rankOf 171 = .ok (.lastore, 1) := by decide +kernel
theorem dX9_rankOf_172 : decode cX9_rankOf 172 = .ok (.iinc 12 1, 3) := by decide +kernel
theorem dX9_rankOf_175 : decode cX9_rankOf 175 = .ok (.goto (-58), 3) := by decide +kernel
theorem dX9_rankOf_178 : decode cX9_rankOf 178 = .ok (.iinc 9 1, 3) := by decide +kernel
theorem dX9_rankOf_181 : decode cX9_rankOf 181 = .ok (.goto (-88), 3) := by decide +kernel
theorem dX9_rankOf_184 : decode cX9_rankOf 184 = .ok (.lload 7, 2) := by decide +kernel
theorem dX9_rankOf_186 : decode cX9_rankOf 186 = .ok (.lstore_n 2, 1) := by decide +kernel
theorem dX9_rankOf_187 : decode cX9_rankOf 187 = .ok (.iinc 4 1, 3) := by decide +kernel
theorem dX9_rankOf_190 : decode cX9_rankOf 190 = .ok (.iinc 5 1, 3) := by decide +kernel
theorem dX9_rankOf_193 : decode cX9_rankOf 193 = .ok (.goto (-185), 3) := by decide +kernel
theorem dX9_rankOf_196 : decode cX9_rankOf 196 = .ok (.iload 4, 2) := by decide +kernel
theorem dX9_rankOf_198 : decode cX9_rankOf 198 = .ok (.ireturn, 1) := by decide +kernel
theorem dX9_commaRank_0 : decode cX9_commaRank 0 = .ok (.iconst 0, 1) := by decide +kernel
theorem dX9_commaRank_1 : decode cX9_commaRank 1 = .ok (.istore_n 1, 1) := by decide +kernel
theorem dX9_commaRank_2 : decode cX9_commaRank 2 = .ok (.iload_n 1, 1) := by decide +kernel
theorem dX9_commaRank_3 : decode cX9_commaRank 3 = .ok (.bipush 6, 2) := by decide +kernel
theorem dX9_commaRank_5 : decode cX9_commaRank 5 = .ok (.aload_n 0, 1) := by decide +kernel
theorem dX9_commaRank_6 : decode cX9_commaRank 6 = .ok (.getfield 162, 3) := by decide +kernel
theorem dX9_commaRank_9 : decode cX9_commaRank 9 = .ok (.imul, 1) := by decide +kernel
theorem dX9_commaRank_10 : decode cX9_commaRank 10 = .ok (.if_icmp .ge 22, 3) := by decide +kernel
theorem dX9_commaRank_13 : decode cX9_commaRank 13 = .ok (.aload_n 0, 1) := by decide +kernel
theorem dX9_commaRank_14 : decode cX9_commaRank 14 = .ok (.getfield 41, 3) := by decide +kernel
theorem dX9_commaRank_17 : decode cX9_commaRank 17 = .ok (.iload_n 1, 1) := by decide +kernel
theorem dX9_commaRank_18 : decode cX9_commaRank 18 = .ok (.aload_n 0, 1) := by decide +kernel
theorem dX9_commaRank_19 : decode cX9_commaRank 19 = .ok (.getfield 38, 3) := by decide +kernel
theorem dX9_commaRank_22 : decode cX9_commaRank 22 = .ok (.iload_n 1, 1) := by decide +kernel
theorem dX9_commaRank_23 : decode cX9_commaRank 23 = .ok (.iaload, 1) := by decide +kernel
theorem dX9_commaRank_24 : decode cX9_commaRank 24 = .ok (.i2l, 1) := by decide +kernel
theorem dX9_commaRank_25 : decode cX9_commaRank 25 = .ok (.lastore, 1) := by decide +kernel
theorem dX9_commaRank_26 : decode cX9_commaRank 26 = .ok (.iinc 1 1, 3) := by decide +kernel
theorem dX9_commaRank_29 : decode cX9_commaRank 29 = .ok (.goto (-27), 3) := by decide +kernel
theorem dX9_commaRank_32 : decode cX9_commaRank 32 = .ok (.aload_n 0, 1) := by decide +kernel
theorem dX9_commaRank_33 : decode cX9_commaRank 33 = .ok (.aload_n 0, 1) := by decide +kernel
theorem dX9_commaRank_34 : decode cX9_commaRank 34 = .ok (.getfield 162, 3) := by decide +kernel
theorem dX9_commaRank_37 : decode cX9_commaRank 37 = .ok (.invokevirtual 169, 3) := by decide +kernel
theorem dX9_commaRank_40 : decode cX9_commaRank 40 = .ok (.ireturn, 1) := by decide +kernel
theorem dX9_rank_0 : decode cX9_rank 0 = .ok (.aload_n 0, 1) := by decide +kernel
theorem dX9_rank_1 : decode cX9_rank 1 = .ok (.iconst 0, 1) := by decide +kernel
theorem dX9_rank_2 : decode cX9_rank 2 = .ok (.putfield 66, 3) := by decide +kernel
theorem dX9_rank_5 : decode cX9_rank 5 = .ok (.aload_n 0, 1) := by decide +kernel
theorem dX9_rank_6 : decode cX9_rank 6 = .ok (.invokevirtual 172, 3) := by decide +kernel
theorem dX9_rank_9 : decode cX9_rank 9 = .ok (.ireturn, 1) := by decide +kernel
theorem dX9_bits_0 : decode cX9_bits 0 = .ok (.iconst 0, 1) := by decide +kernel
theorem dX9_bits_1 : decode cX9_bits 1 = .ok (.istore_n 1, 1) := by decide +kernel
theorem dX9_bits_2 : decode cX9_bits 2 = .ok (.iload_n 0, 1) := by decide +kernel
theorem dX9_bits_3 : decode cX9_bits 3 = .ok (.istore_n 2, 1) := by decide +kernel
theorem dX9_bits_4 : decode cX9_bits 4 = .ok (.iload_n 2, 1) := by decide +kernel
theorem dX9_bits_5 : decode cX9_bits 5 = .ok (.ifCond .eq 15, 3) := by decide +kernel
theorem dX9_bits_8 : decode cX9_bits 8 = .ok (.iinc 1 1, 3) := by decide +kernel
theorem dX9_bits_11 : decode cX9_bits 11 = .ok (.iload_n 2, 1) := by decide +kernel
theorem dX9_bits_12 : decode cX9_bits 12 = .ok (.iload_n 2, 1) := by decide +kernel
theorem dX9_bits_13 : decode cX9_bits 13 = .ok (.iconst 1, 1) := by decide +kernel
theorem dX9_bits_14 : decode cX9_bits 14 = .ok (.isub, 1) := by decide +kernel
theorem dX9_bits_15 : decode cX9_bits 15 = .ok (.iand, 1) := by decide +kernel
theorem dX9_bits_16 : decode cX9_bits 16 = .ok (.istore_n 2, 1) := by decide +kernel
theorem dX9_bits_17 : decode cX9_bits 17 = .ok (.goto (-13), 3) := by decide +kernel
theorem dX9_bits_20 : decode cX9_bits 20 = .ok (.iload_n 1, 1) := by decide +kernel
theorem dX9_bits_21 : decode cX9_bits 21 = .ok (.ireturn, 1) := by decide +kernel
theorem dX9_minor_0 : decode cX9_minor 0 = .ok (.iconst 0, 1) := by decide +kernel
theorem dX9_minor_1 : decode cX9_minor 1 = .ok (.istore 4, 2) := by decide +kernel
theorem dX9_minor_3 : decode cX9_minor 3 = .ok (.iconst 0, 1) := by decide +kernel
theorem dX9_minor_4 : decode cX9_minor 4 = .ok (.istore 5, 2) := by decide +kernel
theorem dX9_minor_6 : decode cX9_minor 6 = .ok (.iload 5, 2) := by decide +kernel
theorem dX9_minor_8 : decode cX9_minor 8 = .ok (.iconst 5, 1) := by decide +kernel
theorem dX9_minor_9 : decode cX9_minor 9 = .ok (.if_icmp .ge 112, 3) := by decide +kernel
theorem dX9_minor_12 : decode cX9_minor 12 = .ok (.iload_n 1, 1) := by decide +kernel
theorem dX9_minor_13 : decode cX9_minor 13 = .ok (.iload 5, 2) := by decide +kernel
theorem dX9_minor_15 : decode cX9_minor 15 = .ok (.ishr, 1) := by decide +kernel
theorem dX9_minor_16 : decode cX9_minor 16 = .ok (.iconst 1, 1) := by decide +kernel
theorem dX9_minor_17 : decode cX9_minor 17 = .ok (.iand, 1) := by decide +kernel
theorem dX9_minor_18 : decode cX9_minor 18 = .ok (.ifCond .ne 6, 3) := by decide +kernel
theorem dX9_minor_21 : decode cX9_minor 21 = .ok (.goto 94, 3) := by decide +kernel
theorem dX9_minor_24 : decode cX9_minor 24 = .ok (.iconst 0, 1) := by decide +kernel
theorem dX9_minor_25 : decode cX9_minor 25 = .ok (.istore 6, 2) := by decide +kernel
theorem dX9_minor_27 : decode cX9_minor 27 = .ok (.iconst 0, 1) := by decide +kernel
theorem dX9_minor_28 : decode cX9_minor 28 = .ok (.istore 7, 2) := by decide +kernel
theorem dX9_minor_30 : decode cX9_minor 30 = .ok (.iload 7, 2) := by decide +kernel
theorem dX9_minor_32 : decode cX9_minor 32 = .ok (.bipush 6, 2) := by decide +kernel
theorem dX9_minor_34 : decode cX9_minor 34 = .ok (.if_icmp .ge 51, 3) := by decide +kernel
theorem dX9_minor_37 : decode cX9_minor 37 = .ok (.iload_n 2, 1) := by decide +kernel
theorem dX9_minor_38 : decode cX9_minor 38 = .ok (.iload 7, 2) := by decide +kernel
theorem dX9_minor_40 : decode cX9_minor 40 = .ok (.ishr, 1) := by decide +kernel
theorem dX9_minor_41 : decode cX9_minor 41 = .ok (.iconst 1, 1) := by decide +kernel
theorem dX9_minor_42 : decode cX9_minor 42 = .ok (.iand, 1) := by decide +kernel
theorem dX9_minor_43 : decode cX9_minor 43 = .ok (.ifCond .ne 6, 3) := by decide +kernel
theorem dX9_minor_46 : decode cX9_minor 46 = .ok (.goto 33, 3) := by decide +kernel
theorem dX9_minor_49 : decode cX9_minor 49 = .ok (.aload_n 0, 1) := by decide +kernel
theorem dX9_minor_50 : decode cX9_minor 50 = .ok (.getfield 41, 3) := by decide +kernel
theorem dX9_minor_53 : decode cX9_minor 53 = .ok (.bipush 6, 2) := by decide +kernel
theorem dX9_minor_55 : decode cX9_minor 55 = .ok (.iload 4, 2) := by decide +kernel
theorem dX9_minor_57 : decode cX9_minor 57 = .ok (.imul, 1) := by decide +kernel
theorem dX9_minor_58 : decode cX9_minor 58 = .ok (.iload 6, 2) := by decide +kernel
theorem dX9_minor_60 : decode cX9_minor 60 = .ok (.iadd, 1) := by decide +kernel
theorem dX9_minor_61 : decode cX9_minor 61 = .ok (.aload_n 0, 1) := by decide +kernel
theorem dX9_minor_62 : decode cX9_minor 62 = .ok (.getfield 38, 3) := by decide +kernel
theorem dX9_minor_65 : decode cX9_minor 65 = .ok (.bipush 6, 2) := by decide +kernel
theorem dX9_minor_67 : decode cX9_minor 67 = .ok (.iload 5, 2) := by decide +kernel
theorem dX9_minor_69 : decode cX9_minor 69 = .ok (.imul, 1) := by decide +kernel
theorem dX9_minor_70 : decode cX9_minor 70 = .ok (.iload 7, 2) := by decide +kernel
theorem dX9_minor_72 : decode cX9_minor 72 = .ok (.iadd, 1) := by decide +kernel
theorem dX9_minor_73 : decode cX9_minor 73 = .ok (.iaload, 1) := by decide +kernel
theorem dX9_minor_74 : decode cX9_minor 74 = .ok (.i2l, 1) := by decide +kernel
theorem dX9_minor_75 : decode cX9_minor 75 = .ok (.lastore, 1) := by decide +kernel
theorem dX9_minor_76 : decode cX9_minor 76 = .ok (.iinc 6 1, 3) := by decide +kernel
theorem dX9_minor_79 : decode cX9_minor 79 = .ok (.iinc 7 1, 3) := by decide +kernel
theorem dX9_minor_82 : decode cX9_minor 82 = .ok (.goto (-52), 3) := by decide +kernel
theorem dX9_minor_85 : decode cX9_minor 85 = .ok (.iload 6, 2) := by decide +kernel
theorem dX9_minor_87 : decode cX9_minor 87 = .ok (.bipush 6, 2) := by decide +kernel
theorem dX9_minor_89 : decode cX9_minor 89 = .ok (.if_icmp .ge 23, 3) := by decide +kernel
theorem dX9_minor_92 : decode cX9_minor 92 = .ok (.aload_n 0, 1) := by decide +kernel
theorem dX9_minor_93 : decode cX9_minor 93 = .ok (.getfield 41, 3) := by decide +kernel
theorem dX9_minor_96 : decode cX9_minor 96 = .ok (.bipush 6, 2) := by decide +kernel
theorem dX9_minor_98 : decode cX9_minor 98 = .ok (.iload 4, 2) := by decide +kernel
theorem dX9_minor_100 : decode cX9_minor 100 = .ok (.imul, 1) := by decide +kernel
theorem dX9_minor_101 : decode cX9_minor 101 = .ok (.iload 6, 2) := by decide +kernel
theorem dX9_minor_103 : decode cX9_minor 103 = .ok (.iadd, 1) := by decide +kernel
theorem dX9_minor_104 : decode cX9_minor 104 = .ok (.lconst 0, 1) := by decide +kernel
theorem dX9_minor_105 : decode cX9_minor 105 = .ok (.lastore, 1) := by decide +kernel
theorem dX9_minor_106 : decode cX9_minor 106 = .ok (.iinc 6 1, 3) := by decide +kernel
theorem dX9_minor_109 : decode cX9_minor 109 = .ok (.goto (-24), 3) := by decide +kernel
theorem dX9_minor_112 : decode cX9_minor 112 = .ok (.iinc 4 1, 3) := by decide +kernel
theorem dX9_minor_115 : decode cX9_minor 115 = .ok (.iinc 5 1, 3) := by decide +kernel
theorem dX9_minor_118 : decode cX9_minor 118 = .ok (.goto (-112), 3) := by decide +kernel
theorem dX9_minor_121 : decode cX9_minor 121 = .ok (.aload_n 0, 1) := by decide +kernel
theorem dX9_minor_122 : decode cX9_minor 122 = .ok (.iload_n 3, 1) := by decide +kernel
theorem dX9_minor_123 : decode cX9_minor 123 = .ok (.invokevirtual 169, 3) := by decide +kernel
theorem dX9_minor_126 : decode cX9_minor 126 = .ok (.iload_n 3, 1) := by decide +kernel
theorem dX9_minor_127 : decode cX9_minor 127 = .ok (.if_icmp .ge 5, 3) := by decide +kernel
theorem dX9_minor_130 : decode cX9_minor 130 = .ok (.lconst 0, 1) := by decide +kernel
theorem dX9_minor_131 : decode cX9_minor 131 = .ok (.lreturn, 1) := by decide +kernel
theorem dX9_minor_132 : decode cX9_minor 132 = .ok (.aload_n 0, 1) := by decide +kernel
theorem dX9_minor_133 : decode cX9_minor 133 = .ok (.getfield 41, 3) := by decide +kernel
theorem dX9_minor_136 : decode cX9_minor 136 = .ok (.bipush 6, 2) := by decide +kernel
theorem dX9_minor_138 : decode cX9_minor 138 = .ok (.iload_n 3, 1) := by decide +kernel
theorem dX9_minor_139 : decode cX9_minor 139 = .ok (.iconst 1, 1) := by decide +kernel
theorem dX9_minor_140 : decode cX9_minor 140 = .ok (.isub, 1) := by decide +kernel
theorem dX9_minor_141 : decode cX9_minor 141 = .ok (.imul, 1) := by decide +kernel
theorem dX9_minor_142 : decode cX9_minor 142 = .ok (.iload_n 3, 1) := by decide +kernel
theorem dX9_minor_143 : decode cX9_minor 143 = .ok (.iadd, 1) := by decide +kernel
theorem dX9_minor_144 : decode cX9_minor 144 = .ok (.iconst 1, 1) := by decide +kernel
theorem dX9_minor_145 : decode cX9_minor 145 = .ok (.isub, 1) := by decide +kernel
theorem dX9_minor_146 : decode cX9_minor 146 = .ok (.laload, 1) := by decide +kernel
theorem dX9_minor_147 : decode cX9_minor 147 = .ok (.lstore 5, 2) := by decide +kernel
theorem dX9_minor_149 : decode cX9_minor 149 = .ok (.lload 5, 2) := by decide +kernel
theorem dX9_minor_151 : decode cX9_minor 151 = .ok (.lconst 0, 1) := by decide +kernel
theorem dX9_minor_152 : decode cX9_minor 152 = .ok (.lcmp, 1) := by decide +kernel
theorem dX9_minor_153 : decode cX9_minor 153 = .ok (.ifCond .ge 9, 3) := by decide +kernel
theorem dX9_minor_156 : decode cX9_minor 156 = .ok (.lload 5, 2) := by decide +kernel
theorem dX9_minor_158 : decode cX9_minor 158 = .ok (.lneg, 1) := by decide +kernel
theorem dX9_minor_159 : decode cX9_minor 159 = .ok (.goto 5, 3) := by decide +kernel
theorem dX9_minor_162 : decode cX9_minor 162 = .ok (.lload 5, 2) := by decide +kernel
theorem dX9_minor_164 : decode cX9_minor 164 = .ok (.lreturn, 1) := by decide +kernel
theorem dX9_twist_0 : decode cX9_twist 0 = .ok (.aload_n 0, 1) := by decide +kernel
theorem dX9_twist_1 : decode cX9_twist 1 = .ok (.iconst 0, 1) := by decide +kernel
theorem dX9_twist_2 : decode cX9_twist 2 = .ok (.putfield 66, 3) := by decide +kernel
theorem dX9_twist_5 : decode cX9_twist 5 = .ok (.aload_n 0, 1) := by decide +kernel
theorem dX9_twist_6 : decode cX9_twist 6 = .ok (.invokevirtual 172, 3) := by decide +kernel
theorem dX9_twist_9 : decode cX9_twist 9 = .ok (.istore_n 1, 1) := by decide +kernel
theorem dX9_twist_10 : decode cX9_twist 10 = .ok (.iload_n 1, 1) := by decide +kernel
theorem dX9_twist_11 : decode cX9_twist 11 = .ok (.ifCond .ne 5, 3) := by decide +kernel
theorem dX9_twist_14 : decode cX9_twist 14 = .ok (.lconst 1, 1) := by decide +kernel
theorem dX9_twist_15 : decode cX9_twist 15 = .ok (.lreturn, 1) := by decide +kernel
theorem dX9_twist_16 : decode cX9_twist 16 = .ok (.lconst 0, 1) := by decide +kernel
theorem dX9_twist_17 : decode cX9_twist 17 = .ok (.lstore_n 2, 1) := by decide +kernel
theorem dX9_twist_18 : decode cX9_twist 18 = .ok (.iconst 0, 1) := by decide +kernel
theorem dX9_twist_19 : decode cX9_twist 19 = .ok (.istore 4, 2) := by decide +kernel
theorem dX9_twist_21 : decode cX9_twist 21 = .ok (.iload 4, 2) := by decide +kernel
theorem dX9_twist_23 : decode cX9_twist 23 = .ok (.iconst 1, 1) := by decide +kernel
theorem dX9_twist_24 : decode cX9_twist 24 = .ok (.aload_n 0, 1) := by decide +kernel
theorem dX9_twist_25 : decode cX9_twist 25 = .ok (.getfield 162, 3) := by decide +kernel
theorem dX9_twist_28 : decode cX9_twist 28 = .ok (.ishl, 1) := by decide +kernel
theorem dX9_twist_29 : decode cX9_twist 29 = .ok (.if_icmp .ge 83, 3) := by decide +kernel
theorem dX9_twist_32 : decode cX9_twist 32 = .ok (.iload 4, 2) := by decide +kernel
theorem dX9_twist_34 : decode cX9_twist 34 = .ok (.invokestatic 175, 3) := by decide +kernel
theorem dX9_twist_37 : decode cX9_twist 37 = .ok (.iload_n 1, 1) := by decide +kernel
theorem dX9_twist_38 : decode cX9_twist 38 = .ok (.if_icmp .eq 6, 3) := by decide +kernel
theorem dX9_twist_41 : decode cX9_twist 41 = .ok (.goto 65, 3) := by decide +kernel
theorem dX9_twist_44 : decode cX9_twist 44 = .ok (.iconst 0, 1) := by decide +kernel
theorem dX9_twist_45 : decode cX9_twist 45 = .ok (.istore 5, 2) := by decide +kernel
theorem dX9_twist_47 : decode cX9_twist 47 = .ok (.iload 5, 2) := by decide +kernel
theorem dX9_twist_49 : decode cX9_twist 49 = .ok (.bipush 64, 2) := by decide +kernel
theorem dX9_twist_51 : decode cX9_twist 51 = .ok (.if_icmp .ge 55, 3) := by decide +kernel
theorem dX9_twist_54 : decode cX9_twist 54 = .ok (.iload 5, 2) := by decide +kernel
theorem dX9_twist_56 : decode cX9_twist 56 = .ok (.invokestatic 175, 3) := by decide +kernel
theorem dX9_twist_59 : decode cX9_twist 59 = .ok (.iload_n 1, 1) := by decide +kernel
theorem dX9_twist_60 : decode cX9_twist 60 = .ok (.if_icmp .eq 6, 3) := by decide +kernel
theorem dX9_twist_63 : decode cX9_twist 63 = .ok (.goto 37, 3) := by decide +kernel
theorem dX9_twist_66 : decode cX9_twist 66 = .ok (.aload_n 0, 1) := by decide +kernel
theorem dX9_twist_67 : decode cX9_twist 67 = .ok (.iload 4, 2) := by decide +kernel
theorem dX9_twist_69 : decode cX9_twist 69 = .ok (.iload 5, 2) := by decide +kernel
theorem dX9_twist_71 : decode cX9_twist 71 = .ok (.iload_n 1, 1) := by decide +kernel
theorem dX9_twist_72 : decode cX9_twist 72 = .ok (.invokevirtual 178, 3) := by decide +kernel
theorem dX9_twist_75 : decode cX9_twist 75 = .ok (.lstore 6, 2) := by decide +kernel
theorem dX9_twist_77 : decode cX9_twist 77 = .ok (.lload 6, 2) := by decide +kernel
theorem dX9_twist_79 : decode cX9_twist 79 = .ok (.lconst 0, 1) := by decide +kernel
theorem dX9_twist_80 : decode cX9_twist 80 = .ok (.lcmp, 1) := by decide +kernel
theorem dX9_twist_81 : decode cX9_twist 81 = .ok (.ifCond .eq 19, 3) := by decide +kernel
theorem dX9_twist_84 : decode cX9_twist 84 = .ok (.lload_n 2, 1) := by decide +kernel
theorem dX9_twist_85 : decode cX9_twist 85 = .ok (.lload 6, 2) := by decide +kernel
theorem dX9_twist_87 : decode cX9_twist 87 = .ok (.lrem, 1) := by decide +kernel
theorem dX9_twist_88 : decode cX9_twist 88 = .ok (.lstore 8, 2) := by decide +kernel
theorem dX9_twist_90 : decode cX9_twist 90 = .ok (.lload 6, 2) := by decide +kernel
theorem dX9_twist_92 : decode cX9_twist 92 = .ok (.lstore_n 2, 1) := by decide +kernel
theorem dX9_twist_93 : decode cX9_twist 93 = .ok (.lload 8, 2) := by decide +kernel
theorem dX9_twist_95 : decode cX9_twist 95 = .ok (.lstore 6, 2) := by decide +kernel
theorem dX9_twist_97 : decode cX9_twist 97 = .ok (.goto (-20), 3) := by decide +kernel
theorem dX9_twist_100 : decode cX9_twist 100 = .ok (.iinc 5 1, 3) := by decide +kernel
theorem dX9_twist_103 : decode cX9_twist 103 = .ok (.goto (-56), 3) := by decide +kernel
theorem dX9_twist_106 : decode cX9_twist 106 = .ok (.iinc 4 1, 3) := by decide +kernel
theorem dX9_twist_109 : decode cX9_twist 109 = .ok (.goto (-88), 3) := by decide +kernel
theorem dX9_twist_112 : decode cX9_twist 112 = .ok (.lload_n 2, 1) := by decide +kernel
theorem dX9_twist_113 : decode cX9_twist 113 = .ok (.lreturn, 1) := by decide +kernel
theorem dX9_vanishes_0 : decode cX9_vanishes 0 = .ok (.iload_n 1, 1) := by decide +kernel
theorem dX9_vanishes_1 : decode cX9_vanishes 1 = .ok (.invokestatic 111, 3) := by decide +kernel
theorem dX9_vanishes_4 : decode cX9_vanishes 4 = .ok (.ifCond .ne 9, 3) := by decide +kernel
theorem dX9_vanishes_7 : decode cX9_vanishes 7 = .ok (.aload_n 0, 1) := by decide +kernel
theorem dX9_vanishes_8 : decode cX9_vanishes 8 = .ok (.iconst 1, 1) := by decide +kernel
theorem dX9_vanishes_9 : decode cX9_vanishes 9 = .ok (.invokevirtual 136, 3) := by decide +kernel
theorem dX9_vanishes_12 : decode cX9_vanishes 12 = .ok (.ireturn, 1) := by decide +kernel
theorem dX9_vanishes_13 : decode cX9_vanishes 13 = .ok (.aload_n 0, 1) := by decide +kernel
theorem dX9_vanishes_14 : decode cX9_vanishes 14 = .ok (.getfield 13, 3) := by decide +kernel
theorem dX9_vanishes_17 : decode cX9_vanishes 17 = .ok (.iload_n 1, 1) := by decide +kernel
theorem dX9_vanishes_18 : decode cX9_vanishes 18 = .ok (.baload, 1) := by decide +kernel
theorem dX9_vanishes_19 : decode cX9_vanishes 19 = .ok (.ifCond .ne 9, 3) := by decide +kernel
theorem dX9_vanishes_22 : decode cX9_vanishes 22 = .ok (.aload_n 0, 1) := by decide +kernel
theorem dX9_vanishes_23 : decode cX9_vanishes 23 = .ok (.iconst 2, 1) := by decide +kernel
theorem dX9_vanishes_24 : decode cX9_vanishes 24 = .ok (.invokevirtual 136, 3) := by decide +kernel
theorem dX9_vanishes_27 : decode cX9_vanishes 27 = .ok (.ireturn, 1) := by decide +kernel
theorem dX9_vanishes_28 : decode cX9_vanishes 28 = .ok (.aload_n 0, 1) := by decide +kernel
theorem dX9_vanishes_29 : decode cX9_vanishes 29 = .ok (.iconst 0, 1) := by decide +kernel
theorem dX9_vanishes_30 : decode cX9_vanishes 30 = .ok (.putfield 66, 3) := by decide +kernel
theorem dX9_vanishes_33 : decode cX9_vanishes 33 = .ok (.aload_n 0, 1) := by decide +kernel
theorem dX9_vanishes_34 : decode cX9_vanishes 34 = .ok (.invokevirtual 172, 3) := by decide +kernel
theorem dX9_vanishes_37 : decode cX9_vanishes 37 = .ok (.istore_n 2, 1) := by decide +kernel
theorem dX9_vanishes_38 : decode cX9_vanishes 38 = .ok (.iconst 0, 1) := by decide +kernel
theorem dX9_vanishes_39 : decode cX9_vanishes 39 = .ok (.istore_n 3, 1) := by decide +kernel
theorem dX9_vanishes_40 : decode cX9_vanishes 40 = .ok (.iload_n 3, 1) := by decide +kernel
theorem dX9_vanishes_41 : decode cX9_vanishes 41 = .ok (.bipush 6, 2) := by decide +kernel
theorem dX9_vanishes_43 : decode cX9_vanishes 43 = .ok (.aload_n 0, 1) := by decide +kernel
theorem dX9_vanishes_44 : decode cX9_vanishes 44 = .ok (.getfield 162, 3) := by decide +kernel
theorem dX9_vanishes_47 : decode cX9_vanishes 47 = .ok (.imul, 1) := by decide +kernel
theorem dX9_vanishes_48 : decode cX9_vanishes 48 = .ok (.if_icmp .ge 22, 3) := by decide +kernel
theorem dX9_vanishes_51 : decode cX9_vanishes 51 = .ok (.aload_n 0, 1) := by decide +kernel
theorem dX9_vanishes_52 : decode cX9_vanishes 52 = .ok (.getfield 41, 3) := by decide +kernel
theorem dX9_vanishes_55 : decode cX9_vanishes 55 = .ok (.iload_n 3, 1) := by decide +kernel
theorem dX9_vanishes_56 : decode cX9_vanishes 56 = .ok (.aload_n 0, 1) := by decide +kernel
theorem dX9_vanishes_57 : decode cX9_vanishes 57 = .ok (.getfield 38, 3) := by decide +kernel
theorem dX9_vanishes_60 : decode cX9_vanishes 60 = .ok (.iload_n 3, 1) := by decide +kernel
theorem dX9_vanishes_61 : decode cX9_vanishes 61 = .ok (.iaload, 1) := by decide +kernel
theorem dX9_vanishes_62 : decode cX9_vanishes 62 = .ok (.i2l, 1) := by decide +kernel
theorem dX9_vanishes_63 : decode cX9_vanishes 63 = .ok (.lastore, 1) := by decide +kernel
theorem dX9_vanishes_64 : decode cX9_vanishes 64 = .ok (.iinc 3 1, 3) := by decide +kernel
theorem dX9_vanishes_67 : decode cX9_vanishes 67 = .ok (.goto (-27), 3) := by decide +kernel
theorem dX9_vanishes_70 : decode cX9_vanishes 70 = .ok (.iconst 0, 1) := by decide +kernel
theorem dX9_vanishes_71 : decode cX9_vanishes 71 = .ok (.istore_n 3, 1) := by decide +kernel
theorem dX9_vanishes_72 : decode cX9_vanishes 72 = .ok (.iload_n 3, 1) := by decide +kernel
theorem dX9_vanishes_73 : decode cX9_vanishes 73 = .ok (.bipush 6, 2) := by decide +kernel
theorem dX9_vanishes_75 : decode cX9_vanishes 75 = .ok (.if_icmp .ge 35, 3) := by decide +kernel
theorem dX9_vanishes_78 : decode cX9_vanishes 78 = .ok (.aload_n 0, 1) := by decide +kernel
theorem dX9_vanishes_79 : decode cX9_vanishes 79 = .ok (.getfield 41, 3) := by decide +kernel
theorem dX9_vanishes_82 : decode cX9_vanishes 82 = .ok (.bipush 6, 2) := by decide +kernel
theorem dX9_vanishes_84 : decode cX9_vanishes 84 = .ok (.aload_n 0, 1) := by decide +kernel
theorem dX9_vanishes_85 : decode cX9_vanishes 85 = .ok (.getfield 162, 3) := by decide +kernel
theorem dX9_vanishes_88 : decode cX9_vanishes 88 = .ok (.imul, 1) := by decide +kernel
theorem dX9_vanishes_89 : decode cX9_vanishes 89 = .ok (.iload_n 3, 1) := by decide +kernel
theorem dX9_vanishes_90 : decode cX9_vanishes 90 = .ok (.iadd, 1) := by decide +kernel
theorem dX9_vanishes_91 : decode cX9_vanishes 91 = .ok (.aload_n 0, 1) := by decide +kernel
theorem dX9_vanishes_92 : decode cX9_vanishes 92 = .ok (.getfield 7, 3) := by decide +kernel
theorem dX9_vanishes_95 : decode cX9_vanishes 95 = .ok (.bipush 6, 2) := by decide +kernel
theorem dX9_vanishes_97 : decode cX9_vanishes 97 = .ok (.iload_n 1, 1) := by decide +kernel
theorem dX9_vanishes_98 : decode cX9_vanishes 98 = .ok (.imul, 1) := by decide +kernel
theorem dX9_vanishes_99 : decode cX9_vanishes 99 = .ok (.iload_n 3, 1) := by decide +kernel
theorem dX9_vanishes_100 : decode cX9_vanishes 100 = .ok (.iadd, 1) := by decide +kernel
theorem dX9_vanishes_101 : decode cX9_vanishes 101 = .ok (.iaload, 1) := by decide +kernel
theorem dX9_vanishes_102 : decode cX9_vanishes 102 = .ok (.i2l, 1) := by decide +kernel
theorem dX9_vanishes_103 : decode cX9_vanishes 103 = .ok (.lastore, 1) := by decide +kernel
theorem dX9_vanishes_104 : decode cX9_vanishes 104 = .ok (.iinc 3 1, 3) := by decide +kernel
theorem dX9_vanishes_107 : decode cX9_vanishes 107 = .ok (.goto (-35), 3) := by decide +kernel
theorem dX9_vanishes_110 : decode cX9_vanishes 110 = .ok (.aload_n 0, 1) := by decide +kernel
theorem dX9_vanishes_111 : decode cX9_vanishes 111 = .ok (.aload_n 0, 1) := by decide +kernel
theorem dX9_vanishes_112 : decode cX9_vanishes 112 = .ok (.getfield 162, 3) := by decide +kernel
theorem dX9_vanishes_115 : decode cX9_vanishes 115 = .ok (.iconst 1, 1) := by decide +kernel
theorem dX9_vanishes_116 : decode cX9_vanishes 116 = .ok (.iadd, 1) := by decide +kernel
theorem dX9_vanishes_117 : decode cX9_vanishes 117 = .ok (.invokevirtual 169, 3) := by decide +kernel
theorem dX9_vanishes_120 : decode cX9_vanishes 120 = .ok (.iload_n 2, 1) := by decide +kernel
theorem dX9_vanishes_121 : decode cX9_vanishes 121 = .ok (.if_icmp .ne 7, 3) := by decide +kernel
theorem dX9_vanishes_124 : decode cX9_vanishes 124 = .ok (.iconst 1, 1) := by decide +kernel
theorem dX9_vanishes_125 : decode cX9_vanishes 125 = .ok (.goto 4, 3) := by decide +kernel
theorem dX9_vanishes_128 : decode cX9_vanishes 128 = .ok (.iconst 0, 1) := by decide +kernel
theorem dX9_vanishes_129 : decode cX9_vanishes 129 = .ok (.ireturn, 1) := by decide +kernel
theorem dX9_supports_0 : decode cX9_supports 0 = .ok (.iload_n 1, 1) := by decide +kernel
theorem dX9_supports_1 : decode cX9_supports 1 = .ok (.invokestatic 153, 3) := by decide +kernel
theorem dX9_supports_4 : decode cX9_supports 4 = .ok (.ifCond .ne 9, 3) := by decide +kernel
theorem dX9_supports_7 : decode cX9_supports 7 = .ok (.aload_n 0, 1) := by decide +kernel
theorem dX9_supports_8 : decode cX9_supports 8 = .ok (.iconst 3, 1) := by decide +kernel
theorem dX9_supports_9 : decode cX9_supports 9 = .ok (.invokevirtual 136, 3) := by decide +kernel
theorem dX9_supports_12 : decode cX9_supports 12 = .ok (.ireturn, 1) := by decide +kernel
theorem dX9_supports_13 : decode cX9_supports 13 = .ok (.aload_n 0, 1) := by decide +kernel
theorem dX9_supports_14 : decode cX9_supports 14 = .ok (.iconst 0, 1) := by decide +kernel
theorem dX9_supports_15 : decode cX9_supports 15 = .ok (.putfield 66, 3) := by decide +kernel
theorem dX9_supports_18 : decode cX9_supports 18 = .ok (.iload_n 1, 1) := by decide +kernel
theorem dX9_supports_19 : decode cX9_supports 19 = .ok (.istore_n 2, 1) := by decide +kernel
theorem dX9_supports_20 : decode cX9_supports 20 = .ok (.iload_n 2, 1) := by decide +kernel
theorem dX9_supports_21 : decode cX9_supports 21 = .ok (.bipush 99, 2) := by decide +kernel
theorem dX9_supports_23 : decode cX9_supports 23 = .ok (.if_icmp .gt 62, 3) := by decide +kernel
theorem dX9_supports_26 : decode cX9_supports 26 = .ok (.iconst 1, 1) := by decide +kernel
theorem dX9_supports_27 : decode cX9_supports 27 = .ok (.istore_n 3, 1) := by decide +kernel
theorem dX9_supports_28 : decode cX9_supports 28 = .ok (.iconst 0, 1) := by decide +kernel
theorem dX9_supports_29 : decode cX9_supports 29 = .ok (.istore 4, 2) := by decide +kernel
theorem dX9_supports_31 : decode cX9_supports 31 = .ok (.iload 4, 2) := by decide +kernel
theorem dX9_supports_33 : decode cX9_supports 33 = .ok (.aload_n 0, 1) := by decide +kernel
theorem dX9_supports_34 : decode cX9_supports 34 = .ok (.getfield 162, 3) := by decide +kernel
theorem dX9_supports_37 : decode cX9_supports 37 = .ok (.if_icmp .ge 36, 3) := by decide +kernel
theorem dX9_supports_40 : decode cX9_supports 40 = .ok (.iload_n 3, 1) := by decide +kernel
theorem dX9_supports_41 : decode cX9_supports 41 = .ok (.ifCond .eq 32, 3) := by decide +kernel
theorem dX9_supports_44 : decode cX9_supports 44 = .ok (.aload_n 0, 1) := by decide +kernel
theorem dX9_supports_45 : decode cX9_supports 45 = .ok (.aload_n 0, 1) := by decide +kernel
theorem dX9_supports_46 : decode cX9_supports 46 = .ok (.getfield 38, 3) := by decide +kernel
theorem dX9_supports_49 : decode cX9_supports 49 = .ok (.bipush 6, 2) := by decide +kernel
theorem dX9_supports_51 : decode cX9_supports 51 = .ok (.iload 4, 2) := by decide +kernel
theorem dX9_supports_53 : decode cX9_supports 53 = .ok (.imul, 1) := by decide +kernel
theorem dX9_supports_54 : decode cX9_supports 54 = .ok (.iload_n 2, 1) := by decide +kernel
theorem dX9_supports_55 : decode cX9_supports 55 = .ok (.invokevirtual 159, 3) := by decide +kernel
theorem dX9_supports_58 : decode cX9_supports 58 = .ok (.ifCond .ne 7, 3) := by decide +kernel
theorem dX9_supports_61 : decode cX9_supports 61 = .ok (.iconst 1, 1) := by decide +kernel
theorem dX9_supports_62 : decode cX9_supports 62 = .ok (.goto 4, 3) := by decide +kernel
theorem dX9_supports_65 : decode cX9_supports 65 = .ok (.iconst 0, 1) := by decide +kernel
theorem dX9_supports_66 : decode cX9_supports 66 = .ok (.istore_n 3, 1) := by decide +kernel
theorem dX9_supports_67 : decode cX9_supports 67 = .ok (.iinc 4 1, 3) := by decide +kernel
theorem dX9_supports_70 : decode cX9_supports 70 = .ok (.goto (-39), 3) := by decide +kernel
theorem dX9_supports_73 : decode cX9_supports 73 = .ok (.iload_n 3, 1) := by decide +kernel
theorem dX9_supports_74 : decode cX9_supports 74 = .ok (.ifCond .eq 5, 3) := by decide +kernel
theorem dX9_supports_77 : decode cX9_supports 77 = .ok (.iload_n 2, 1) := by decide +kernel
theorem dX9_supports_78 : decode cX9_supports 78 = .ok (.ireturn, 1) := by decide +kernel
theorem dX9_supports_79 : decode cX9_supports 79 = .ok (.iinc 2 1, 3) := by decide +kernel
theorem dX9_supports_82 : decode cX9_supports 82 = .ok (.goto (-62), 3) := by decide +kernel
theorem dX9_supports_85 : decode cX9_supports 85 = .ok (.iconst 0, 1) := by decide +kernel
theorem dX9_supports_86 : decode cX9_supports 86 = .ok (.ireturn, 1) := by decide +kernel
theorem dX9_begin_0 : decode cX9_begin 0 = .ok (.iload_n 1, 1) := by decide +kernel
theorem dX9_begin_1 : decode cX9_begin 1 = .ok (.invokestatic 111, 3) := by decide +kernel
theorem dX9_begin_4 : decode cX9_begin 4 = .ok (.ifCond .ne 9, 3) := by decide +kernel
theorem dX9_begin_7 : decode cX9_begin 7 = .ok (.aload_n 0, 1) := by decide +kernel
theorem dX9_begin_8 : decode cX9_begin 8 = .ok (.iconst 1, 1) := by decide +kernel
theorem dX9_begin_9 : decode cX9_begin 9 = .ok (.invokevirtual 104, 3) := by decide +kernel
theorem dX9_begin_12 : decode cX9_begin 12 = .ok (.ireturn, 1) := by decide +kernel
theorem dX9_begin_13 : decode cX9_begin 13 = .ok (.aload_n 0, 1) := by decide +kernel
theorem dX9_begin_14 : decode cX9_begin 14 = .ok (.getfield 13, 3) := by decide +kernel
theorem dX9_begin_17 : decode cX9_begin 17 = .ok (.iload_n 1, 1) := by decide +kernel
theorem dX9_begin_18 : decode cX9_begin 18 = .ok (.baload, 1) := by decide +kernel
theorem dX9_begin_19 : decode cX9_begin 19 = .ok (.ifCond .ne 9, 3) := by decide +kernel
theorem dX9_begin_22 : decode cX9_begin 22 = .ok (.aload_n 0, 1) := by decide +kernel
theorem dX9_begin_23 : decode cX9_begin 23 = .ok (.iconst 2, 1) := by decide +kernel
theorem dX9_begin_24 : decode cX9_begin 24 = .ok (.invokevirtual 104, 3) := by decide +kernel
theorem dX9_begin_27 : decode cX9_begin 27 = .ok (.ireturn, 1) := by decide +kernel
theorem dX9_begin_28 : decode cX9_begin 28 = .ok (.aload_n 0, 1) := by decide +kernel
theorem dX9_begin_29 : decode cX9_begin 29 = .ok (.iload_n 1, 1) := by decide +kernel
theorem dX9_begin_30 : decode cX9_begin 30 = .ok (.invokevirtual 126, 3) := by decide +kernel
theorem dX9_begin_33 : decode cX9_begin 33 = .ok (.ifCond .ne 9, 3) := by decide +kernel
theorem dX9_begin_36 : decode cX9_begin 36 = .ok (.aload_n 0, 1) := by decide +kernel
theorem dX9_begin_37 : decode cX9_begin 37 = .ok (.iconst 5, 1) := by decide +kernel
theorem dX9_begin_38 : decode cX9_begin 38 = .ok (.invokevirtual 104, 3) := by decide +kernel
theorem dX9_begin_41 : decode cX9_begin 41 = .ok (.ireturn, 1) := by decide +kernel
theorem dX9_begin_42 : decode cX9_begin 42 = .ok (.iconst 0, 1) := by decide +kernel
theorem dX9_begin_43 : decode cX9_begin 43 = .ok (.istore_n 2, 1) := by decide +kernel
theorem dX9_begin_44 : decode cX9_begin 44 = .ok (.iload_n 2, 1) := by decide +kernel
theorem dX9_begin_45 : decode cX9_begin 45 = .ok (.bipush 6, 2) := by decide +kernel
theorem dX9_begin_47 : decode cX9_begin 47 = .ok (.if_icmp .ge 36, 3) := by decide +kernel
theorem dX9_begin_50 : decode cX9_begin 50 = .ok (.aload_n 0, 1) := by decide +kernel
theorem dX9_begin_51 : decode cX9_begin 51 = .ok (.getfield 45, 3) := by decide +kernel
theorem dX9_begin_54 : decode cX9_begin 54 = .ok (.iload_n 2, 1) := by decide +kernel
theorem dX9_begin_55 : decode cX9_begin 55 = .ok (.iconst 0, 1) := by decide +kernel
theorem dX9_begin_56 : decode cX9_begin 56 = .ok (.iastore, 1) := by decide +kernel
theorem dX9_begin_57 : decode cX9_begin 57 = .ok (.aload_n 0, 1) := by decide +kernel
theorem dX9_begin_58 : decode cX9_begin 58 = .ok (.getfield 45, 3) := by decide +kernel
theorem dX9_begin_61 : decode cX9_begin 61 = .ok (.bipush 6, 2) := by decide +kernel
theorem dX9_begin_63 : decode cX9_begin 63 = .ok (.iload_n 2, 1) := by decide +kernel
theorem dX9_begin_64 : decode cX9_begin 64 = .ok (.iadd, 1) := by decide +kernel
theorem dX9_begin_65 : decode cX9_begin 65 = .ok (.aload_n 0, 1) := by decide +kernel
theorem dX9_begin_66 : decode cX9_begin 66 = .ok (.getfield 7, 3) := by decide +kernel
theorem dX9_begin_69 : decode cX9_begin 69 = .ok (.bipush 6, 2) := by decide +kernel
theorem dX9_begin_71 : decode cX9_begin 71 = .ok (.iload_n 1, 1) := by decide +kernel
theorem dX9_begin_72 : decode cX9_begin 72 = .ok (.imul, 1) := by decide +kernel
theorem dX9_begin_73 : decode cX9_begin 73 = .ok (.iload_n 2, 1) := by decide +kernel
theorem dX9_begin_74 : decode cX9_begin 74 = .ok (.iadd, 1) := by decide +kernel
theorem dX9_begin_75 : decode cX9_begin 75 = .ok (.iaload, 1) := by decide +kernel
theorem dX9_begin_76 : decode cX9_begin 76 = .ok (.iastore, 1) := by decide +kernel
theorem dX9_begin_77 : decode cX9_begin 77 = .ok (.iinc 2 1, 3) := by decide +kernel
theorem dX9_begin_80 : decode cX9_begin 80 = .ok (.goto (-36), 3) := by decide +kernel
theorem dX9_begin_83 : decode cX9_begin 83 = .ok (.aload_n 0, 1) := by decide +kernel
theorem dX9_begin_84 : decode cX9_begin 84 = .ok (.iconst 1, 1) := by decide +kernel
theorem dX9_begin_85 : decode cX9_begin 85 = .ok (.putfield 182, 3) := by decide +kernel
theorem dX9_begin_88 : decode cX9_begin 88 = .ok (.aload_n 0, 1) := by decide +kernel
theorem dX9_begin_89 : decode cX9_begin 89 = .ok (.iconst 0, 1) := by decide +kernel
theorem dX9_begin_90 : decode cX9_begin 90 = .ok (.invokevirtual 104, 3) := by decide +kernel
theorem dX9_begin_93 : decode cX9_begin 93 = .ok (.ireturn, 1) := by decide +kernel
theorem dX9_placeIn_0 : decode cX9_placeIn 0 = .ok (.iconst 0, 1) := by decide +kernel
theorem dX9_placeIn_1 : decode cX9_placeIn 1 = .ok (.istore_n 3, 1) := by decide +kernel
theorem dX9_placeIn_2 : decode cX9_placeIn 2 = .ok (.iload_n 3, 1) := by decide +kernel
theorem dX9_placeIn_3 : decode cX9_placeIn 3 = .ok (.bipush 6, 2) := by decide +kernel
theorem dX9_placeIn_5 : decode cX9_placeIn 5 = .ok (.if_icmp .ge 21, 3) := by decide +kernel
theorem dX9_placeIn_8 : decode cX9_placeIn 8 = .ok (.aload_n 0, 1) := by decide +kernel
theorem dX9_placeIn_9 : decode cX9_placeIn 9 = .ok (.getfield 26, 3) := by decide +kernel
theorem dX9_placeIn_12 : decode cX9_placeIn 12 = .ok (.iload_n 3, 1) := by decide +kernel
theorem dX9_placeIn_13 : decode cX9_placeIn 13 = .ok (.aload_n 0, 1) := by decide +kernel
theorem dX9_placeIn_14 : decode cX9_placeIn 14 = .ok (.getfield 23, 3) := by decide +kernel
theorem dX9_placeIn_17 : decode cX9_placeIn 17 = .ok (.iload_n 3, 1) := by decide +kernel
theorem dX9_placeIn_18 : decode cX9_placeIn 18 = .ok (.iaload, 1) := by decide +kernel
theorem dX9_placeIn_19 : decode cX9_placeIn 19 = .ok (.iastore, 1) := by decide +kernel
theorem dX9_placeIn_20 : decode cX9_placeIn 20 = .ok (.iinc 3 1, 3) := by decide +kernel
theorem dX9_placeIn_23 : decode cX9_placeIn 23 = .ok (.goto (-21), 3) := by decide +kernel
theorem dX9_placeIn_26 : decode cX9_placeIn 26 = .ok (.iconst 0, 1) := by decide +kernel
theorem dX9_placeIn_27 : decode cX9_placeIn 27 = .ok (.istore_n 3, 1) := by decide +kernel
theorem dX9_placeIn_28 : decode cX9_placeIn 28 = .ok (.iload_n 3, 1) := by decide +kernel
theorem dX9_placeIn_29 : decode cX9_placeIn 29 = .ok (.iload_n 2, 1) := by decide +kernel
theorem dX9_placeIn_30 : decode cX9_placeIn 30 = .ok (.if_icmp .ge 42, 3) := by decide +kernel
theorem dX9_placeIn_33 : decode cX9_placeIn 33 = .ok (.aload_n 0, 1) := by decide +kernel
theorem dX9_placeIn_34 : decode cX9_placeIn 34 = .ok (.aload_n 0, 1) := by decide +kernel
theorem dX9_placeIn_35 : decode cX9_placeIn 35 = .ok (.getfield 26, 3) := by decide +kernel
theorem dX9_placeIn_38 : decode cX9_placeIn 38 = .ok (.iconst 0, 1) := by decide +kernel
theorem dX9_placeIn_39 : decode cX9_placeIn 39 = .ok (.aload_n 1, 1) := by decide +kernel
theorem dX9_placeIn_40 : decode cX9_placeIn 40 = .ok (.bipush 6, 2) := by decide +kernel
theorem dX9_placeIn_42 : decode cX9_placeIn 42 = .ok (.iload_n 3, 1) := by decide +kernel
theorem dX9_placeIn_43 : decode cX9_placeIn 43 = .ok (.imul, 1) := by decide +kernel
theorem dX9_placeIn_44 : decode cX9_placeIn 44 = .ok (.invokevirtual 139, 3) := by decide +kernel
theorem dX9_placeIn_47 : decode cX9_placeIn 47 = .ok (.istore 4, 2) := by decide +kernel
theorem dX9_placeIn_49 : decode cX9_placeIn 49 = .ok (.iload 4, 2) := by decide +kernel
theorem dX9_placeIn_51 : decode cX9_placeIn 51 = .ok (.ifCond .ne 8, 3) := by decide +kernel
theorem dX9_placeIn_54 : decode cX9_placeIn 54 = .ok (.bipush (-2), 2) := by decide +kernel
theorem dX9_placeIn_56 : decode cX9_placeIn 56 = .ok (.iload_n 3, 1) := by decide +kernel
theorem dX9_placeIn_57 : decode cX9_placeIn 57 = .ok (.isub, 1) := by decide +kernel
theorem dX9_placeIn_58 : decode cX9_placeIn 58 = .ok (.ireturn, 1) := by decide +kernel
theorem dX9_placeIn_59 : decode cX9_placeIn 59 = .ok (.iload 4, 2) := by decide +kernel
theorem dX9_placeIn_61 : decode cX9_placeIn 61 = .ok (.ifCond .ge 5, 3) := by decide +kernel
theorem dX9_placeIn_64 : decode cX9_placeIn 64 = .ok (.iload_n 3, 1) := by decide +kernel
theorem dX9_placeIn_65 : decode cX9_placeIn 65 = .ok (.ireturn, 1) := by decide +kernel
theorem dX9_placeIn_66 : decode cX9_placeIn 66 = .ok (.iinc 3 1, 3) := by decide +kernel
theorem dX9_placeIn_69 : decode cX9_placeIn 69 = .ok (.goto (-41), 3) := by decide +kernel
theorem dX9_placeIn_72 : decode cX9_placeIn 72 = .ok (.iload_n 2, 1) := by decide +kernel
theorem dX9_placeIn_73 : decode cX9_placeIn 73 = .ok (.ireturn, 1) := by decide +kernel
theorem dX9_insert_0 : decode cX9_insert 0 = .ok (.bipush 6, 2) := by decide +kernel
theorem dX9_insert_2 : decode cX9_insert 2 = .ok (.iload_n 2, 1) := by decide +kernel
theorem dX9_insert_3 : decode cX9_insert 3 = .ok (.imul, 1) := by decide +kernel
theorem dX9_insert_4 : decode cX9_insert 4 = .ok (.iconst 5, 1) := by decide +kernel
theorem dX9_insert_5 : decode cX9_insert 5 = .ok (.iadd, 1) := by decide +kernel
theorem dX9_insert_6 : decode cX9_insert 6 = .ok (.istore 4, 2) := by decide +kernel
theorem dX9_insert_8 : decode cX9_insert 8 = .ok (.iload 4, 2) := by decide +kernel
theorem dX9_insert_10 : decode cX9_insert 10 = .ok (.bipush 6, 2) := by decide +kernel
theorem dX9_insert_12 : decode cX9_insert 12 = .ok (.iload_n 3, 1) := by decide +kernel
theorem dX9_insert_13 : decode cX9_insert 13 = .ok (.imul, 1) := by decide +kernel
theorem dX9_insert_14 : decode cX9_insert 14 = .ok (.bipush 6, 2) := by decide +kernel
theorem dX9_insert_16 : decode cX9_insert 16 = .ok (.iadd, 1) := by decide +kernel
theorem dX9_insert_17 : decode cX9_insert 17 = .ok (.if_icmp .lt 20, 3) := by decide +kernel
theorem dX9_insert_20 : decode cX9_insert 20 = .ok (.aload_n 1, 1) := by decide +kernel
theorem dX9_insert_21 : decode cX9_insert 21 = .ok (.iload 4, 2) := by decide +kernel
theorem dX9_insert_23 : decode cX9_insert 23 = .ok (.aload_n 1, 1) := by decide +kernel
theorem dX9_insert_24 : decode cX9_insert 24 = .ok (.iload 4, 2) := by decide +kernel
theorem dX9_insert_26 : decode cX9_insert 26 = .ok (.bipush 6, 2) := by decide +kernel
theorem dX9_insert_28 : decode cX9_insert 28 = .ok (.isub, 1) := by decide +kernel
theorem dX9_insert_29 : decode cX9_insert 29 = .ok (.iaload, 1) := by decide +kernel
theorem dX9_insert_30 : decode cX9_insert 30 = .ok (.iastore, 1) := by decide +kernel
theorem dX9_insert_31 : decode cX9_insert 31 = .ok (.iinc 4 (-1), 3) := by decide +kernel
theorem dX9_insert_34 : decode cX9_insert 34 = .ok (.goto (-26), 3) := by decide +kernel
theorem dX9_insert_37 : decode cX9_insert 37 = .ok (.iconst 0, 1) := by decide +kernel
theorem dX9_insert_38 : decode cX9_insert 38 = .ok (.istore 4, 2) := by decide +kernel
theorem dX9_insert_40 : decode cX9_insert 40 = .ok (.iload 4, 2) := by decide +kernel
theorem dX9_insert_42 : decode cX9_insert 42 = .ok (.bipush 6, 2) := by decide +kernel
theorem dX9_insert_44 : decode cX9_insert 44 = .ok (.if_icmp .ge 25, 3) := by decide +kernel
theorem dX9_insert_47 : decode cX9_insert 47 = .ok (.aload_n 1, 1) := by decide +kernel
theorem dX9_insert_48 : decode cX9_insert 48 = .ok (.bipush 6, 2) := by decide +kernel
theorem dX9_insert_50 : decode cX9_insert 50 = .ok (.iload_n 3, 1) := by decide +kernel
theorem dX9_insert_51 : decode cX9_insert 51 = .ok (.imul, 1) := by decide +kernel
theorem dX9_insert_52 : decode cX9_insert 52 = .ok (.iload 4, 2) := by decide +kernel
theorem dX9_insert_54 : decode cX9_insert 54 = .ok (.iadd, 1) := by decide +kernel
theorem dX9_insert_55 : decode cX9_insert 55 = .ok (.aload_n 0, 1) := by decide +kernel
theorem dX9_insert_56 : decode cX9_insert 56 = .ok (.getfield 26, 3) := by decide +kernel
theorem dX9_insert_59 : decode cX9_insert 59 = .ok (.iload 4, 2) := by decide +kernel
theorem dX9_insert_61 : decode cX9_insert 61 = .ok (.iaload, 1) := by decide +kernel
theorem dX9_insert_62 : decode cX9_insert 62 = .ok (.iastore, 1) := by decide +kernel
theorem dX9_insert_63 : decode cX9_insert 63 = .ok (.iinc 4 1, 3) := by decide +kernel
theorem dX9_insert_66 : decode cX9_insert 66 = .ok (.goto (-26), 3) := by decide +kernel
theorem dX9_insert_69 : decode cX9_insert 69 = .ok (.return_, 1) := by decide +kernel
theorem dX9_note_0 : decode cX9_note 0 = .ok (.iload_n 1, 1) := by decide +kernel
theorem dX9_note_1 : decode cX9_note 1 = .ok (.invokestatic 111, 3) := by decide +kernel
theorem dX9_note_4 : decode cX9_note 4 = .ok (.ifCond .ne 9, 3) := by decide +kernel
theorem dX9_note_7 : decode cX9_note 7 = .ok (.aload_n 0, 1) := by decide +kernel
theorem dX9_note_8 : decode cX9_note 8 = .ok (.iconst 1, 1) := by decide +kernel
theorem dX9_note_9 : decode cX9_note 9 = .ok (.invokevirtual 136, 3) := by decide +kernel
theorem dX9_note_12 : decode cX9_note 12 = .ok (.ireturn, 1) := by decide +kernel
theorem dX9_note_13 : decode cX9_note 13 = .ok (.aload_n 0, 1) := by decide +kernel
theorem dX9_note_14 : decode cX9_note 14 = .ok (.getfield 13, 3) := by decide +kernel
theorem dX9_note_17 : decode cX9_note 17 = .ok (.iload_n 1, 1) := by decide +kernel
theorem dX9_note_18 : decode cX9_note 18 = .ok (.baload, 1) := by decide +kernel
theorem dX9_note_19 : decode cX9_note 19 = .ok (.ifCond .ne 9, 3) := by decide +kernel
theorem dX9_note_22 : decode cX9_note 22 = .ok (.aload_n 0, 1) := by decide +kernel
theorem dX9_note_23 : decode cX9_note 23 = .ok (.iconst 2, 1) := by decide +kernel
theorem dX9_note_24 : decode cX9_note 24 = .ok (.invokevirtual 136, 3) := by decide +kernel
theorem dX9_note_27 : decode cX9_note 27 = .ok (.ireturn, 1) := by decide +kernel
theorem dX9_note_28 : decode cX9_note 28 = .ok (.aload_n 0, 1) := by decide +kernel
theorem dX9_note_29 : decode cX9_note 29 = .ok (.getfield 182, 3) := by decide +kernel
theorem dX9_note_32 : decode cX9_note 32 = .ok (.ifCond .ne 10, 3) := by decide +kernel
theorem dX9_note_35 : decode cX9_note 35 = .ok (.aload_n 0, 1) := by decide +kernel
theorem dX9_note_36 : decode cX9_note 36 = .ok (.bipush 7, 2) := by decide +kernel
theorem dX9_note_38 : decode cX9_note 38 = .ok (.invokevirtual 136, 3) := by decide +kernel
theorem dX9_note_41 : decode cX9_note 41 = .ok (.ireturn, 1) := by decide +kernel
theorem dX9_note_42 : decode cX9_note 42 = .ok (.aload_n 0, 1) := by decide +kernel
theorem dX9_note_43 : decode cX9_note 43 = .ok (.aload_n 0, 1) := by decide +kernel
theorem dX9_note_44 : decode cX9_note 44 = .ok (.getfield 26, 3) := by decide +kernel
theorem dX9_note_47 : decode cX9_note 47 = .ok (.aload_n 0, 1) := by decide +kernel
theorem dX9_note_48 : decode cX9_note 48 = .ok (.getfield 7, 3) := by decide +kernel
theorem dX9_note_51 : decode cX9_note 51 = .ok (.bipush 6, 2) := by decide +kernel
theorem dX9_note_53 : decode cX9_note 53 = .ok (.iload_n 1, 1) := by decide +kernel
theorem dX9_note_54 : decode cX9_note 54 = .ok (.imul, 1) := by decide +kernel
theorem dX9_note_55 : decode cX9_note 55 = .ok (.invokevirtual 129, 3) := by decide +kernel
theorem dX9_note_58 : decode cX9_note 58 = .ok (.aload_n 0, 1) := by decide +kernel
theorem dX9_note_59 : decode cX9_note 59 = .ok (.aload_n 0, 1) := by decide +kernel
theorem dX9_note_60 : decode cX9_note 60 = .ok (.getfield 29, 3) := by decide +kernel
theorem dX9_note_63 : decode cX9_note 63 = .ok (.aload_n 0, 1) := by decide +kernel
theorem dX9_note_64 : decode cX9_note 64 = .ok (.getfield 45, 3) := by decide +kernel
theorem dX9_note_67 : decode cX9_note 67 = .ok (.bipush 6, 2) := by decide +kernel
theorem dX9_note_69 : decode cX9_note 69 = .ok (.aload_n 0, 1) := by decide +kernel
theorem dX9_note_70 : decode cX9_note 70 = .ok (.getfield 182, 3) := by decide +kernel
theorem dX9_note_73 : decode cX9_note 73 = .ok (.imul, 1) := by decide +kernel
theorem dX9_note_74 : decode cX9_note 74 = .ok (.invokevirtual 129, 3) := by decide +kernel
theorem dX9_note_77 : decode cX9_note 77 = .ok (.aload_n 0, 1) := by decide +kernel
theorem dX9_note_78 : decode cX9_note 78 = .ok (.invokevirtual 133, 3) := by decide +kernel
theorem dX9_note_81 : decode cX9_note 81 = .ok (.ifCond .ne 9, 3) := by decide +kernel
theorem dX9_note_84 : decode cX9_note 84 = .ok (.aload_n 0, 1) := by decide +kernel
theorem dX9_note_85 : decode cX9_note 85 = .ok (.iconst 4, 1) := by decide +kernel
theorem dX9_note_86 : decode cX9_note 86 = .ok (.invokevirtual 136, 3) := by decide +kernel
theorem dX9_note_89 : decode cX9_note 89 = .ok (.ireturn, 1) := by decide +kernel
theorem dX9_note_90 : decode cX9_note 90 = .ok (.aload_n 0, 1) := by decide +kernel
theorem dX9_note_91 : decode cX9_note 91 = .ok (.aload_n 0, 1) := by decide +kernel
theorem dX9_note_92 : decode cX9_note 92 = .ok (.getfield 45, 3) := by decide +kernel
theorem dX9_note_95 : decode cX9_note 95 = .ok (.aload_n 0, 1) := by decide +kernel
theorem dX9_note_96 : decode cX9_note 96 = .ok (.getfield 182, 3) := by decide +kernel
theorem dX9_note_99 : decode cX9_note 99 = .ok (.invokevirtual 185, 3) := by decide +kernel
theorem dX9_note_102 : decode cX9_note 102 = .ok (.istore_n 2, 1) := by decide +kernel
theorem dX9_note_103 : decode cX9_note 103 = .ok (.iload_n 2, 1) := by decide +kernel
theorem dX9_note_104 : decode cX9_note 104 = .ok (.ifCond .ge 10, 3) := by decide +kernel
theorem dX9_note_107 : decode cX9_note 107 = .ok (.aload_n 0, 1) := by decide +kernel
theorem dX9_note_108 : decode cX9_note 108 = .ok (.bipush 8, 2) := by decide +kernel
theorem dX9_note_110 : decode cX9_note 110 = .ok (.invokevirtual 136, 3) := by decide +kernel
theorem dX9_note_113 : decode cX9_note 113 = .ok (.ireturn, 1) := by decide +kernel
theorem dX9_note_114 : decode cX9_note 114 = .ok (.aload_n 0, 1) := by decide +kernel
theorem dX9_note_115 : decode cX9_note 115 = .ok (.getfield 182, 3) := by decide +kernel
theorem dX9_note_118 : decode cX9_note 118 = .ok (.bipush 24, 2) := by decide +kernel
theorem dX9_note_120 : decode cX9_note 120 = .ok (.if_icmp .ne 10, 3) := by decide +kernel
theorem dX9_note_123 : decode cX9_note 123 = .ok (.aload_n 0, 1) := by decide +kernel
theorem dX9_note_124 : decode cX9_note 124 = .ok (.bipush 6, 2) := by decide +kernel
theorem dX9_note_126 : decode cX9_note 126 = .ok (.invokevirtual 136, 3) := by decide +kernel
theorem dX9_note_129 : decode cX9_note 129 = .ok (.ireturn, 1) := by decide +kernel
theorem dX9_note_130 : decode cX9_note 130 = .ok (.aload_n 0, 1) := by decide +kernel
theorem dX9_note_131 : decode cX9_note 131 = .ok (.iconst 0, 1) := by decide +kernel
theorem dX9_note_132 : decode cX9_note 132 = .ok (.putfield 66, 3) := by decide +kernel
theorem dX9_note_135 : decode cX9_note 135 = .ok (.aload_n 0, 1) := by decide +kernel
theorem dX9_note_136 : decode cX9_note 136 = .ok (.aload_n 0, 1) := by decide +kernel
theorem dX9_note_137 : decode cX9_note 137 = .ok (.getfield 45, 3) := by decide +kernel
theorem dX9_note_140 : decode cX9_note 140 = .ok (.aload_n 0, 1) := by decide +kernel
theorem dX9_note_141 : decode cX9_note 141 = .ok (.getfield 182, 3) := by decide +kernel
theorem dX9_note_144 : decode cX9_note 144 = .ok (.iconst 1, 1) := by decide +kernel
theorem dX9_note_145 : decode cX9_note 145 = .ok (.iadd, 1) := by decide +kernel
theorem dX9_note_146 : decode cX9_note 146 = .ok (.iload_n 2, 1) := by decide +kernel
theorem dX9_note_147 : decode cX9_note 147 = .ok (.invokevirtual 189, 3) := by decide +kernel
theorem dX9_note_150 : decode cX9_note 150 = .ok (.aload_n 0, 1) := by decide +kernel
theorem dX9_note_151 : decode cX9_note 151 = .ok (.dup, 1) := by decide +kernel
theorem dX9_note_152 : decode cX9_note 152 = .ok (.getfield 182, 3) := by decide +kernel
theorem dX9_note_155 : decode cX9_note 155 = .ok (.iconst 1, 1) := by decide +kernel
theorem dX9_note_156 : decode cX9_note 156 = .ok (.iadd, 1) := by decide +kernel
theorem dX9_note_157 : decode cX9_note 157 = .ok (.putfield 182, 3) := by decide +kernel
theorem dX9_note_160 : decode cX9_note 160 = .ok (.iload_n 2, 1) := by decide +kernel
theorem dX9_note_161 : decode cX9_note 161 = .ok (.ireturn, 1) := by decide +kernel
theorem dX9_lay_0 : decode cX9_lay 0 = .ok (.iload_n 1, 1) := by decide +kernel
theorem dX9_lay_1 : decode cX9_lay 1 = .ok (.invokestatic 111, 3) := by decide +kernel
theorem dX9_lay_4 : decode cX9_lay 4 = .ok (.ifCond .eq 10, 3) := by decide +kernel
theorem dX9_lay_7 : decode cX9_lay 7 = .ok (.iload_n 2, 1) := by decide +kernel
theorem dX9_lay_8 : decode cX9_lay 8 = .ok (.invokestatic 111, 3) := by decide +kernel
theorem dX9_lay_11 : decode cX9_lay 11 = .ok (.ifCond .ne 9, 3) := by decide +kernel
theorem dX9_lay_14 : decode cX9_lay 14 = .ok (.aload_n 0, 1) := by decide +kernel
theorem dX9_lay_15 : decode cX9_lay 15 = .ok (.iconst 1, 1) := by decide +kernel
theorem dX9_lay_16 : decode cX9_lay 16 = .ok (.invokevirtual 104, 3) := by decide +kernel
theorem dX9_lay_19 : decode cX9_lay 19 = .ok (.ireturn, 1) := by decide +kernel
theorem dX9_lay_20 : decode cX9_lay 20 = .ok (.aload_n 0, 1) := by decide +kernel
theorem dX9_lay_21 : decode cX9_lay 21 = .ok (.getfield 13, 3) := by decide +kernel
theorem dX9_lay_24 : decode cX9_lay 24 = .ok (.iload_n 1, 1) := by decide +kernel
theorem dX9_lay_25 : decode cX9_lay 25 = .ok (.baload, 1) := by decide +kernel
theorem dX9_lay_26 : decode cX9_lay 26 = .ok (.ifCond .eq 12, 3) := by decide +kernel
theorem dX9_lay_29 : decode cX9_lay 29 = .ok (.aload_n 0, 1) := by decide +kernel
theorem dX9_lay_30 : decode cX9_lay 30 = .ok (.getfield 13, 3) := by decide +kernel
theorem dX9_lay_33 : decode cX9_lay 33 = .ok (.iload_n 2, 1) := by decide +kernel
theorem dX9_lay_34 : decode cX9_lay 34 = .ok (.baload, 1) := by decide +kernel
theorem dX9_lay_35 : decode cX9_lay 35 = .ok (.ifCond .ne 9, 3) := by decide +kernel
theorem dX9_lay_38 : decode cX9_lay 38 = .ok (.aload_n 0, 1) := by decide +kernel
theorem dX9_lay_39 : decode cX9_lay 39 = .ok (.iconst 2, 1) := by decide +kernel
theorem dX9_lay_40 : decode cX9_lay 40 = .ok (.invokevirtual 104, 3) := by decide +kernel
theorem dX9_lay_43 : decode cX9_lay 43 = .ok (.ireturn, 1) := by decide +kernel
theorem dX9_lay_44 : decode cX9_lay 44 = .ok (.iload_n 3, 1) := by decide +kernel
theorem dX9_lay_45 : decode cX9_lay 45 = .ok (.iconst 1, 1) := by decide +kernel
theorem dX9_lay_46 : decode cX9_lay 46 = .ok (.if_icmp .lt 9, 3) := by decide +kernel
theorem dX9_lay_49 : decode cX9_lay 49 = .ok (.iload_n 3, 1) := by decide +kernel
theorem dX9_lay_50 : decode cX9_lay 50 = .ok (.bipush 24, 2) := by decide +kernel
theorem dX9_lay_52 : decode cX9_lay 52 = .ok (.if_icmp .le 9, 3) := by decide +kernel
theorem dX9_lay_55 : decode cX9_lay 55 = .ok (.aload_n 0, 1) := by decide +kernel
theorem dX9_lay_56 : decode cX9_lay 56 = .ok (.iconst 3, 1) := by decide +kernel
theorem dX9_lay_57 : decode cX9_lay 57 = .ok (.invokevirtual 104, 3) := by decide +kernel
theorem dX9_lay_60 : decode cX9_lay 60 = .ok (.ireturn, 1) := by decide +kernel
theorem dX9_lay_61 : decode cX9_lay 61 = .ok (.aload_n 0, 1) := by decide +kernel
theorem dX9_lay_62 : decode cX9_lay 62 = .ok (.iload_n 1, 1) := by decide +kernel
theorem dX9_lay_63 : decode cX9_lay 63 = .ok (.invokevirtual 126, 3) := by decide +kernel
theorem dX9_lay_66 : decode cX9_lay 66 = .ok (.ifCond .ne 9, 3) := by decide +kernel
theorem dX9_lay_69 : decode cX9_lay 69 = .ok (.aload_n 0, 1) := by decide +kernel
theorem dX9_lay_70 : decode cX9_lay 70 = .ok (.iconst 5, 1) := by decide +kernel
theorem dX9_lay_71 : decode cX9_lay 71 = .ok (.invokevirtual 104, 3) := by decide +kernel
theorem dX9_lay_74 : decode cX9_lay 74 = .ok (.ireturn, 1) := by decide +kernel
theorem dX9_lay_75 : decode cX9_lay 75 = .ok (.iconst 0, 1) := by decide +kernel
theorem dX9_lay_76 : decode cX9_lay 76 = .ok (.istore 4, 2) := by decide +kernel
theorem dX9_lay_78 : decode cX9_lay 78 = .ok (.iconst 0, 1) := by decide +kernel
theorem dX9_lay_79 : decode cX9_lay 79 = .ok (.istore 5, 2) := by decide +kernel
theorem dX9_lay_81 : decode cX9_lay 81 = .ok (.iload 5, 2) := by decide +kernel
theorem dX9_lay_83 : decode cX9_lay 83 = .ok (.bipush 6, 2) := by decide +kernel
theorem dX9_lay_85 : decode cX9_lay 85 = .ok (.if_icmp .ge 17, 3) := by decide +kernel
theorem dX9_lay_88 : decode cX9_lay 88 = .ok (.aload_n 0, 1) := by decide +kernel
theorem dX9_lay_89 : decode cX9_lay 89 = .ok (.getfield 48, 3) := by decide +kernel
theorem dX9_lay_92 : decode cX9_lay 92 = .ok (.iload 5, 2) := by decide +kernel
theorem dX9_lay_94 : decode cX9_lay 94 = .ok (.iconst 0, 1) := by decide +kernel
theorem dX9_lay_95 : decode cX9_lay 95 = .ok (.iastore, 1) := by decide +kernel
theorem dX9_lay_96 : decode cX9_lay 96 = .ok (.iinc 5 1, 3) := by decide +kernel
theorem dX9_lay_99 : decode cX9_lay 99 = .ok (.goto (-18), 3) := by decide +kernel
theorem dX9_lay_102 : decode cX9_lay 102 = .ok (.iconst 1, 1) := by decide +kernel
theorem dX9_lay_103 : decode cX9_lay 103 = .ok (.istore 5, 2) := by decide +kernel
theorem dX9_lay_105 : decode cX9_lay 105 = .ok (.iconst 1, 1) := by decide +kernel
theorem dX9_lay_106 : decode cX9_lay 106 = .ok (.istore 6, 2) := by decide +kernel
theorem dX9_lay_108 : decode cX9_lay 108 = .ok (.iload 6, 2) := by decide +kernel
theorem dX9_lay_110 : decode cX9_lay 110 = .ok (.iload_n 3, 1) := by decide +kernel
theorem dX9_lay_111 : decode cX9_lay 111 = .ok (.if_icmp .ge 114, 3) := by decide +kernel
theorem dX9_lay_114 : decode cX9_lay 114 = .ok (.aload_n 0, 1) := by decide +kernel
theorem dX9_lay_115 : decode cX9_lay 115 = .ok (.aload_n 0, 1) := by decide +kernel
theorem dX9_lay_116 : decode cX9_lay 116 = .ok (.getfield 29, 3) := by decide +kernel
theorem dX9_lay_119 : decode cX9_lay 119 = .ok (.aload_n 0, 1) := by decide +kernel
theorem dX9_lay_120 : decode cX9_lay 120 = .ok (.getfield 7, 3) := by decide +kernel
theorem dX9_lay_123 : decode cX9_lay 123 = .ok (.bipush 6, 2) := by decide +kernel
theorem dX9_lay_125 : decode cX9_lay 125 = .ok (.iload_n 1, 1) := by decide +kernel
theorem dX9_lay_126 : decode cX9_lay 126 = .ok (.imul, 1) := by decide +kernel
theorem dX9_lay_127 : decode cX9_lay 127 = .ok (.invokevirtual 129, 3) := by decide +kernel
theorem dX9_lay_130 : decode cX9_lay 130 = .ok (.iconst 0, 1) := by decide +kernel
theorem dX9_lay_131 : decode cX9_lay 131 = .ok (.istore 7, 2) := by decide +kernel
theorem dX9_lay_133 : decode cX9_lay 133 = .ok (.iload 7, 2) := by decide +kernel
theorem dX9_lay_135 : decode cX9_lay 135 = .ok (.bipush 6, 2) := by decide +kernel
theorem dX9_lay_137 : decode cX9_lay 137 = .ok (.if_icmp .ge 31, 3) := by decide +kernel
theorem dX9_lay_140 : decode cX9_lay 140 = .ok (.aload_n 0, 1) := by decide +kernel
theorem dX9_lay_141 : decode cX9_lay 141 = .ok (.getfield 26, 3) := by decide +kernel
theorem dX9_lay_144 : decode cX9_lay 144 = .ok (.iload 7, 2) := by decide +kernel
theorem dX9_lay_146 : decode cX9_lay 146 = .ok (.iload 6, 2) := by decide +kernel
theorem dX9_lay_148 : decode cX9_lay 148 = .ok (.aload_n 0, 1) := by decide +kernel
theorem dX9_lay_149 : decode cX9_lay 149 = .ok (.getfield 7, 3) := by decide +kernel
theorem dX9_lay_152 : decode cX9_lay 152 = .ok (.bipush 6, 2) := by decide +kernel
theorem dX9_lay_154 : decode cX9_lay 154 = .ok (.iload_n 2, 1) := by decide +kernel
theorem dX9_lay_155 : decode cX9_lay 155 = .ok (.imul, 1) := by decide +kernel
theorem dX9_lay_156 : decode cX9_lay 156 = .ok (.iload 7, 2) := by decide +kernel
theorem dX9_lay_158 : decode cX9_lay 158 = .ok (.iadd, 1) := by decide +kernel
theorem dX9_lay_159 : decode cX9_lay 159 = .ok (.iaload, 1) := by decide +kernel
theorem dX9_lay_160 : decode cX9_lay 160 = .ok (.imul, 1) := by decide +kernel
theorem dX9_lay_161 : decode cX9_lay 161 = .ok (.iastore, 1) := by decide +kernel
theorem dX9_lay_162 : decode cX9_lay 162 = .ok (.iinc 7 1, 3) := by decide +kernel
theorem dX9_lay_165 : decode cX9_lay 165 = .ok (.goto (-32), 3) := by decide +kernel
theorem dX9_lay_168 : decode cX9_lay 168 = .ok (.aload_n 0, 1) := by decide +kernel
theorem dX9_lay_169 : decode cX9_lay 169 = .ok (.invokevirtual 133, 3) := by decide +kernel
theorem dX9_lay_172 : decode cX9_lay 172 = .ok (.ifCond .ne 9, 3) := by decide +kernel
theorem dX9_lay_175 : decode cX9_lay 175 = .ok (.aload_n 0, 1) := by decide +kernel
theorem dX9_lay_176 : decode cX9_lay 176 = .ok (.iconst 4, 1) := by decide +kernel
theorem dX9_lay_177 : decode cX9_lay 177 = .ok (.invokevirtual 104, 3) := by decide +kernel
theorem dX9_lay_180 : decode cX9_lay 180 = .ok (.ireturn, 1) := by decide +kernel
theorem dX9_lay_181 : decode cX9_lay 181 = .ok (.aload_n 0, 1) := by decide +kernel
theorem dX9_lay_182 : decode cX9_lay 182 = .ok (.aload_n 0, 1) := by decide +kernel
theorem dX9_lay_183 : decode cX9_lay 183 = .ok (.getfield 48, 3) := by decide +kernel
theorem dX9_lay_186 : decode cX9_lay 186 = .ok (.iload 5, 2) := by decide +kernel
theorem dX9_lay_188 : decode cX9_lay 188 = .ok (.invokevirtual 185, 3) := by decide +kernel
theorem dX9_lay_191 : decode cX9_lay 191 = .ok (.istore 7, 2) := by decide +kernel
theorem dX9_lay_193 : decode cX9_lay 193 = .ok (.iload 7, 2) := by decide +kernel
theorem dX9_lay_195 : decode cX9_lay 195 = .ok (.ifCond .ge 9, 3) := by decide +kernel
theorem dX9_lay_198 : decode cX9_lay 198 = .ok (.iconst 1, 1) := by decide +kernel
theorem dX9_lay_199 : decode cX9_lay 199 = .ok (.istore 4, 2) := by decide +kernel
theorem dX9_lay_201 : decode cX9_lay 201 = .ok (.goto 18, 3) := by decide +kernel
theorem dX9_lay_204 : decode cX9_lay 204 = .ok (.aload_n 0, 1) := by decide +kernel
theorem dX9_lay_205 : decode cX9_lay 205 = .ok (.aload_n 0, 1) := by decide +kernel
theorem dX9_lay_206 : decode cX9_lay 206 = .ok (.getfield 48, 3) := by decide +kernel
theorem dX9_lay_209 : decode cX9_lay 209 = .ok (.iload 5, 2) := by decide +kernel
theorem dX9_lay_211 : decode cX9_lay 211 = .ok (.iload 7, 2) := by decide +kernel
theorem dX9_lay_213 : decode cX9_lay 213 = .ok (.invokevirtual 189, 3) := by decide +kernel
theorem dX9_lay_216 : decode cX9_lay 216 = .ok (.iinc 5 1, 3) := by decide +kernel
theorem dX9_lay_219 : decode cX9_lay 219 = .ok (.iinc 6 1, 3) := by decide +kernel
theorem dX9_lay_222 : decode cX9_lay 222 = .ok (.goto (-114), 3) := by decide +kernel
theorem dX9_lay_225 : decode cX9_lay 225 = .ok (.iload 4, 2) := by decide +kernel
theorem dX9_lay_227 : decode cX9_lay 227 = .ok (.ifCond .eq 10, 3) := by decide +kernel
theorem dX9_lay_230 : decode cX9_lay 230 = .ok (.aload_n 0, 1) := by decide +kernel
theorem dX9_lay_231 : decode cX9_lay 231 = .ok (.bipush 8, 2) := by decide +kernel
theorem dX9_lay_233 : decode cX9_lay 233 = .ok (.invokevirtual 104, 3) := by decide +kernel
theorem dX9_lay_236 : decode cX9_lay 236 = .ok (.ireturn, 1) := by decide +kernel
theorem dX9_lay_237 : decode cX9_lay 237 = .ok (.iconst 0, 1) := by decide +kernel
theorem dX9_lay_238 : decode cX9_lay 238 = .ok (.istore 6, 2) := by decide +kernel
theorem dX9_lay_240 : decode cX9_lay 240 = .ok (.iload 6, 2) := by decide +kernel
theorem dX9_lay_242 : decode cX9_lay 242 = .ok (.bipush 6, 2) := by decide +kernel
theorem dX9_lay_244 : decode cX9_lay 244 = .ok (.iload 5, 2) := by decide +kernel
theorem dX9_lay_246 : decode cX9_lay 246 = .ok (.imul, 1) := by decide +kernel
theorem dX9_lay_247 : decode cX9_lay 247 = .ok (.if_icmp .ge 23, 3) := by decide +kernel
theorem dX9_lay_250 : decode cX9_lay 250 = .ok (.aload_n 0, 1) := by decide +kernel
theorem dX9_lay_251 : decode cX9_lay 251 = .ok (.getfield 45, 3) := by decide +kernel
theorem dX9_lay_254 : decode cX9_lay 254 = .ok (.iload 6, 2) := by decide +kernel
theorem dX9_lay_256 : decode cX9_lay 256 = .ok (.aload_n 0, 1) := by decide +kernel
theorem dX9_lay_257 : decode cX9_lay 257 = .ok (.getfield 48, 3) := by decide +kernel
theorem dX9_lay_260 : decode cX9_lay 260 = .ok (.iload 6, 2) := by decide +kernel
theorem dX9_lay_262 : decode cX9_lay 262 = .ok (.iaload, 1) := by decide +kernel
theorem dX9_lay_263 : decode cX9_lay 263 = .ok (.iastore, 1) := by decide +kernel
theorem dX9_lay_264 : decode cX9_lay 264 = .ok (.iinc 6 1, 3) := by decide +kernel
theorem dX9_lay_267 : decode cX9_lay 267 = .ok (.goto (-27), 3) := by decide +kernel
theorem dX9_lay_270 : decode cX9_lay 270 = .ok (.iconst 0, 1) := by decide +kernel
theorem dX9_lay_271 : decode cX9_lay 271 = .ok (.istore 6, 2) := by decide +kernel
theorem dX9_lay_273 : decode cX9_lay 273 = .ok (.iload 6, 2) := by decide +kernel
theorem dX9_lay_275 : decode cX9_lay 275 = .ok (.bipush 6, 2) := by decide +kernel
theorem dX9_lay_277 : decode cX9_lay 277 = .ok (.if_icmp .ge 34, 3) := by decide +kernel
theorem dX9_lay_280 : decode cX9_lay 280 = .ok (.aload_n 0, 1) := by decide +kernel
theorem dX9_lay_281 : decode cX9_lay 281 = .ok (.getfield 45, 3) := by decide +kernel
theorem dX9_lay_284 : decode cX9_lay 284 = .ok (.bipush 6, 2) := by decide +kernel
theorem dX9_lay_286 : decode cX9_lay 286 = .ok (.iload 5, 2) := by decide +kernel
theorem dX9_lay_288 : decode cX9_lay 288 = .ok (.imul, 1) := by decide +kernel
theorem dX9_lay_289 : decode cX9_lay 289 = .ok (.iload 6, 2) := by decide +kernel
theorem dX9_lay_291 : decode cX9_lay 291 = .ok (.iadd, 1) := by decide +kernel
theorem dX9_lay_292 : decode cX9_lay 292 = .ok (.aload_n 0, 1) := by decide +kernel
theorem dX9_lay_293 : decode cX9_lay 293 = .ok (.getfield 7, 3) := by decide +kernel
theorem dX9_lay_296 : decode cX9_lay 296 = .ok (.bipush 6, 2) := by decide +kernel
theorem dX9_lay_298 : decode cX9_lay 298 = .ok (.iload_n 1, 1) := by decide +kernel
theorem dX9_lay_299 : decode cX9_lay 299 = .ok (.imul, 1) := by decide +kernel
theorem dX9_lay_300 : decode cX9_lay 300 = .ok (.iload 6, 2) := by decide +kernel
theorem dX9_lay_302 : decode cX9_lay 302 = .ok (.iadd, 1) := by decide +kernel
theorem dX9_lay_303 : decode cX9_lay 303 = .ok (.iaload, 1) := by decide +kernel
theorem dX9_lay_304 : decode cX9_lay 304 = .ok (.iastore, 1) := by decide +kernel
theorem dX9_lay_305 : decode cX9_lay 305 = .ok (.iinc 6 1, 3) := by decide +kernel
theorem dX9_lay_308 : decode cX9_lay 308 = .ok (.goto (-35), 3) := by decide +kernel
theorem dX9_lay_311 : decode cX9_lay 311 = .ok (.aload_n 0, 1) := by decide +kernel
theorem dX9_lay_312 : decode cX9_lay 312 = .ok (.iload 5, 2) := by decide +kernel
theorem dX9_lay_314 : decode cX9_lay 314 = .ok (.putfield 182, 3) := by decide +kernel
theorem dX9_lay_317 : decode cX9_lay 317 = .ok (.aload_n 0, 1) := by decide +kernel
theorem dX9_lay_318 : decode cX9_lay 318 = .ok (.iconst 0, 1) := by decide +kernel
theorem dX9_lay_319 : decode cX9_lay 319 = .ok (.invokevirtual 104, 3) := by decide +kernel
theorem dX9_lay_322 : decode cX9_lay 322 = .ok (.ireturn, 1) := by decide +kernel
theorem dX9_noteAt_0 : decode cX9_noteAt 0 = .ok (.aload_n 0, 1) := by decide +kernel
theorem dX9_noteAt_1 : decode cX9_noteAt 1 = .ok (.aload_n 0, 1) := by decide +kernel
theorem dX9_noteAt_2 : decode cX9_noteAt 2 = .ok (.getfield 45, 3) := by decide +kernel
theorem dX9_noteAt_5 : decode cX9_noteAt 5 = .ok (.bipush 6, 2) := by decide +kernel
theorem dX9_noteAt_7 : decode cX9_noteAt 7 = .ok (.iload_n 1, 1) := by decide +kernel
theorem dX9_noteAt_8 : decode cX9_noteAt 8 = .ok (.aload_n 0, 1) := by decide +kernel
theorem dX9_noteAt_9 : decode cX9_noteAt 9 = .ok (.getfield 182, 3) := by decide +kernel
theorem dX9_noteAt_12 : decode cX9_noteAt 12 = .ok (.irem, 1) := by decide +kernel
theorem dX9_noteAt_13 : decode cX9_noteAt 13 = .ok (.imul, 1) := by decide +kernel
theorem dX9_noteAt_14 : decode cX9_noteAt 14 = .ok (.invokevirtual 89, 3) := by decide +kernel
theorem dX9_noteAt_17 : decode cX9_noteAt 17 = .ok (.iconst 0, 1) := by decide +kernel
theorem dX9_noteAt_18 : decode cX9_noteAt 18 = .ok (.istore_n 2, 1) := by decide +kernel
theorem dX9_noteAt_19 : decode cX9_noteAt 19 = .ok (.iload_n 2, 1) := by decide +kernel
theorem dX9_noteAt_20 : decode cX9_noteAt 20 = .ok (.bipush 6, 2) := by decide +kernel
theorem dX9_noteAt_22 : decode cX9_noteAt 22 = .ok (.if_icmp .ge 39, 3) := by decide +kernel
theorem dX9_noteAt_25 : decode cX9_noteAt 25 = .ok (.aload_n 0, 1) := by decide +kernel
theorem dX9_noteAt_26 : decode cX9_noteAt 26 = .ok (.getfield 23, 3) := by decide +kernel
theorem dX9_noteAt_29 : decode cX9_noteAt 29 = .ok (.iload_n 2, 1) := by decide +kernel
theorem dX9_noteAt_30 : decode cX9_noteAt 30 = .ok (.dup2, 1) := by decide +kernel
theorem dX9_noteAt_31 : decode cX9_noteAt 31 = .ok (.iaload, 1) := by decide +kernel
theorem dX9_noteAt_32 : decode cX9_noteAt 32 = .ok (.iload_n 1, 1) := by decide +kernel
theorem dX9_noteAt_33 : decode cX9_noteAt 33 = .ok (.aload_n 0, 1) := by decide +kernel
theorem dX9_noteAt_34 : decode cX9_noteAt 34 = .ok (.getfield 182, 3) := by decide +kernel
theorem dX9_noteAt_37 : decode cX9_noteAt 37 = .ok (.idiv, 1) := by decide +kernel
theorem dX9_noteAt_38 : decode cX9_noteAt 38 = .ok (.aload_n 0, 1) := by decide +kernel
theorem dX9_noteAt_39 : decode cX9_noteAt 39 = .ok (.getfield 45, 3) := by decide +kernel
theorem dX9_noteAt_42 : decode cX9_noteAt 42 = .ok (.bipush 6, 2) := by decide +kernel
theorem dX9_noteAt_44 : decode cX9_noteAt 44 = .ok (.aload_n 0, 1) := by decide +kernel
theorem dX9_noteAt_45 : decode cX9_noteAt 45 = .ok (.getfield 182, 3) := by decide +kernel
theorem dX9_noteAt_48 : decode cX9_noteAt 48 = .ok (.imul, 1) := by decide +kernel
theorem dX9_noteAt_49 : decode cX9_noteAt 49 = .ok (.iload_n 2, 1) := by decide +kernel
theorem dX9_noteAt_50 : decode cX9_noteAt 50 = .ok (.iadd, 1) := by decide +kernel
theorem dX9_noteAt_51 : decode cX9_noteAt 51 = .ok (.iaload, 1) := by decide +kernel
theorem dX9_noteAt_52 : decode cX9_noteAt 52 = .ok (.imul, 1) := by decide +kernel
theorem dX9_noteAt_53 : decode cX9_noteAt 53 = .ok (.iadd, 1) := by decide +kernel
theorem dX9_noteAt_54 : decode cX9_noteAt 54 = .ok (.iastore, 1) := by decide +kernel
theorem dX9_noteAt_55 : decode cX9_noteAt 55 = .ok (.iinc 2 1, 3) := by decide +kernel
theorem dX9_noteAt_58 : decode cX9_noteAt 58 = .ok (.goto (-39), 3) := by decide +kernel
theorem dX9_noteAt_61 : decode cX9_noteAt 61 = .ok (.return_, 1) := by decide +kernel
theorem dX9_take_0 : decode cX9_take 0 = .ok (.iload_n 2, 1) := by decide +kernel
theorem dX9_take_1 : decode cX9_take 1 = .ok (.invokestatic 111, 3) := by decide +kernel
theorem dX9_take_4 : decode cX9_take 4 = .ok (.ifCond .ne 9, 3) := by decide +kernel
theorem dX9_take_7 : decode cX9_take 7 = .ok (.aload_n 0, 1) := by decide +kernel
theorem dX9_take_8 : decode cX9_take 8 = .ok (.iconst 1, 1) := by decide +kernel
theorem dX9_take_9 : decode cX9_take 9 = .ok (.invokevirtual 104, 3) := by decide +kernel
theorem dX9_take_12 : decode cX9_take 12 = .ok (.ireturn, 1) := by decide +kernel
theorem dX9_take_13 : decode cX9_take 13 = .ok (.aload_n 0, 1) := by decide +kernel
theorem dX9_take_14 : decode cX9_take 14 = .ok (.getfield 182, 3) := by decide +kernel
theorem dX9_take_17 : decode cX9_take 17 = .ok (.ifCond .ne 10, 3) := by decide +kernel
theorem dX9_take_20 : decode cX9_take 20 = .ok (.aload_n 0, 1) := by decide +kernel
theorem dX9_take_21 : decode cX9_take 21 = .ok (.bipush 7, 2) := by decide +kernel
theorem dX9_take_23 : decode cX9_take 23 = .ok (.invokevirtual 104, 3) := by decide +kernel
theorem dX9_take_26 : decode cX9_take 26 = .ok (.ireturn, 1) := by decide +kernel
theorem dX9_take_27 : decode cX9_take 27 = .ok (.iload_n 1, 1) := by decide +kernel
theorem dX9_take_28 : decode cX9_take 28 = .ok (.ifCond .lt 11, 3) := by decide +kernel
theorem dX9_take_31 : decode cX9_take 31 = .ok (.iload_n 1, 1) := by decide +kernel
theorem dX9_take_32 : decode cX9_take 32 = .ok (.aload_n 0, 1) := by decide +kernel
theorem dX9_take_33 : decode cX9_take 33 = .ok (.getfield 182, 3) := by decide +kernel
theorem dX9_take_36 : decode cX9_take 36 = .ok (.if_icmp .le 9, 3) := by decide +kernel
theorem dX9_take_39 : decode cX9_take 39 = .ok (.aload_n 0, 1) := by decide +kernel
theorem dX9_take_40 : decode cX9_take 40 = .ok (.iconst 3, 1) := by decide +kernel
theorem dX9_take_41 : decode cX9_take 41 = .ok (.invokevirtual 104, 3) := by decide +kernel
theorem dX9_take_44 : decode cX9_take 44 = .ok (.ireturn, 1) := by decide +kernel
theorem dX9_take_45 : decode cX9_take 45 = .ok (.aload_n 0, 1) := by decide +kernel
theorem dX9_take_46 : decode cX9_take 46 = .ok (.iload_n 1, 1) := by decide +kernel
theorem dX9_take_47 : decode cX9_take 47 = .ok (.invokevirtual 193, 3) := by decide +kernel
theorem dX9_take_50 : decode cX9_take 50 = .ok (.aload_n 0, 1) := by decide +kernel
theorem dX9_take_51 : decode cX9_take 51 = .ok (.iload_n 2, 1) := by decide +kernel
theorem dX9_take_52 : decode cX9_take 52 = .ok (.invokevirtual 114, 3) := by decide +kernel
theorem dX9_take_55 : decode cX9_take 55 = .ok (.ireturn, 1) := by decide +kernel
theorem dX9_stepsBy_0 : decode cX9_stepsBy 0 = .ok (.aload_n 0, 1) := by decide +kernel
theorem dX9_stepsBy_1 : decode cX9_stepsBy 1 = .ok (.iconst 0, 1) := by decide +kernel
theorem dX9_stepsBy_2 : decode cX9_stepsBy 2 = .ok (.putfield 196, 3) := by decide +kernel
theorem dX9_stepsBy_5 : decode cX9_stepsBy 5 = .ok (.iconst 0, 1) := by decide +kernel
theorem dX9_stepsBy_6 : decode cX9_stepsBy 6 = .ok (.istore_n 2, 1) := by decide +kernel
theorem dX9_stepsBy_7 : decode cX9_stepsBy 7 = .ok (.iload_n 2, 1) := by decide +kernel
theorem dX9_stepsBy_8 : decode cX9_stepsBy 8 = .ok (.aload_n 0, 1) := by decide +kernel
theorem dX9_stepsBy_9 : decode cX9_stepsBy 9 = .ok (.getfield 182, 3) := by decide +kernel
theorem dX9_stepsBy_12 : decode cX9_stepsBy 12 = .ok (.if_icmp .ge 125, 3) := by decide +kernel
theorem dX9_stepsBy_15 : decode cX9_stepsBy 15 = .ok (.aload_n 0, 1) := by decide +kernel
theorem dX9_stepsBy_16 : decode cX9_stepsBy 16 = .ok (.iload_n 2, 1) := by decide +kernel
theorem dX9_stepsBy_17 : decode cX9_stepsBy 17 = .ok (.iload_n 1, 1) := by decide +kernel
theorem dX9_stepsBy_18 : decode cX9_stepsBy 18 = .ok (.iadd, 1) := by decide +kernel
theorem dX9_stepsBy_19 : decode cX9_stepsBy 19 = .ok (.invokevirtual 193, 3) := by decide +kernel
theorem dX9_stepsBy_22 : decode cX9_stepsBy 22 = .ok (.aload_n 0, 1) := by decide +kernel
theorem dX9_stepsBy_23 : decode cX9_stepsBy 23 = .ok (.aload_n 0, 1) := by decide +kernel
theorem dX9_stepsBy_24 : decode cX9_stepsBy 24 = .ok (.getfield 45, 3) := by decide +kernel
theorem dX9_stepsBy_27 : decode cX9_stepsBy 27 = .ok (.bipush 6, 2) := by decide +kernel
theorem dX9_stepsBy_29 : decode cX9_stepsBy 29 = .ok (.iload_n 2, 1) := by decide +kernel
theorem dX9_stepsBy_30 : decode cX9_stepsBy 30 = .ok (.imul, 1) := by decide +kernel
theorem dX9_stepsBy_31 : decode cX9_stepsBy 31 = .ok (.invokevirtual 93, 3) := by decide +kernel
theorem dX9_stepsBy_34 : decode cX9_stepsBy 34 = .ok (.aload_n 0, 1) := by decide +kernel
theorem dX9_stepsBy_35 : decode cX9_stepsBy 35 = .ok (.aload_n 0, 1) := by decide +kernel
theorem dX9_stepsBy_36 : decode cX9_stepsBy 36 = .ok (.getfield 51, 3) := by decide +kernel
theorem dX9_stepsBy_39 : decode cX9_stepsBy 39 = .ok (.aload_n 0, 1) := by decide +kernel
theorem dX9_stepsBy_40 : decode cX9_stepsBy 40 = .ok (.getfield 196, 3) := by decide +kernel
theorem dX9_stepsBy_43 : decode cX9_stepsBy 43 = .ok (.invokevirtual 185, 3) := by decide +kernel
theorem dX9_stepsBy_46 : decode cX9_stepsBy 46 = .ok (.istore_n 3, 1) := by decide +kernel
theorem dX9_stepsBy_47 : decode cX9_stepsBy 47 = .ok (.iload_n 3, 1) := by decide +kernel
theorem dX9_stepsBy_48 : decode cX9_stepsBy 48 = .ok (.ifCond .ge 19, 3) := by decide +kernel
theorem dX9_stepsBy_51 : decode cX9_stepsBy 51 = .ok (.aload_n 0, 1) := by decide +kernel
theorem dX9_stepsBy_52 : decode cX9_stepsBy 52 = .ok (.getfield 54, 3) := by decide +kernel
theorem dX9_stepsBy_55 : decode cX9_stepsBy 55 = .ok (.bipush (-2), 2) := by decide +kernel
theorem dX9_stepsBy_57 : decode cX9_stepsBy 57 = .ok (.iload_n 3, 1) := by decide +kernel
theorem dX9_stepsBy_58 : decode cX9_stepsBy 58 = .ok (.isub, 1) := by decide +kernel
theorem dX9_stepsBy_59 : decode cX9_stepsBy 59 = .ok (.dup2, 1) := by decide +kernel
theorem dX9_stepsBy_60 : decode cX9_stepsBy 60 = .ok (.iaload, 1) := by decide +kernel
theorem dX9_stepsBy_61 : decode cX9_stepsBy 61 = .ok (.iconst 1, 1) := by decide +kernel
theorem dX9_stepsBy_62 : decode cX9_stepsBy 62 = .ok (.iadd, 1) := by decide +kernel
theorem dX9_stepsBy_63 : decode cX9_stepsBy 63 = .ok (.iastore, 1) := by decide +kernel
theorem dX9_stepsBy_64 : decode cX9_stepsBy 64 = .ok (.goto 67, 3) := by decide +kernel
theorem dX9_stepsBy_67 : decode cX9_stepsBy 67 = .ok (.aload_n 0, 1) := by decide +kernel
theorem dX9_stepsBy_68 : decode cX9_stepsBy 68 = .ok (.aload_n 0, 1) := by decide +kernel
theorem dX9_stepsBy_69 : decode cX9_stepsBy 69 = .ok (.getfield 51, 3) := by decide +kernel
theorem dX9_stepsBy_72 : decode cX9_stepsBy 72 = .ok (.aload_n 0, 1) := by decide +kernel
theorem dX9_stepsBy_73 : decode cX9_stepsBy 73 = .ok (.getfield 196, 3) := by decide +kernel
theorem dX9_stepsBy_76 : decode cX9_stepsBy 76 = .ok (.iload_n 3, 1) := by decide +kernel
theorem dX9_stepsBy_77 : decode cX9_stepsBy 77 = .ok (.invokevirtual 189, 3) := by decide +kernel
theorem dX9_stepsBy_80 : decode cX9_stepsBy 80 = .ok (.aload_n 0, 1) := by decide +kernel
theorem dX9_stepsBy_81 : decode cX9_stepsBy 81 = .ok (.getfield 196, 3) := by decide +kernel
theorem dX9_stepsBy_84 : decode cX9_stepsBy 84 = .ok (.istore 4, 2) := by decide +kernel
theorem dX9_stepsBy_86 : decode cX9_stepsBy 86 = .ok (.iload 4, 2) := by decide +kernel
theorem dX9_stepsBy_88 : decode cX9_stepsBy 88 = .ok (.iload_n 3, 1) := by decide +kernel
theorem dX9_stepsBy_89 : decode cX9_stepsBy 89 = .ok (.if_icmp .le 25, 3) := by decide +kernel
theorem dX9_stepsBy_92 : decode cX9_stepsBy 92 = .ok (.aload_n 0, 1) := by decide +kernel
theorem dX9_stepsBy_93 : decode cX9_stepsBy 93 = .ok (.getfield 54, 3) := by decide +kernel
theorem dX9_stepsBy_96 : decode cX9_stepsBy 96 = .ok (.iload 4, 2) := by decide +kernel
theorem dX9_stepsBy_98 : decode cX9_stepsBy 98 = .ok (.aload_n 0, 1) := by decide +kernel
theorem dX9_stepsBy_99 : decode cX9_stepsBy 99 = .ok (.getfield 54, 3) := by decide +kernel
theorem dX9_stepsBy_102 : decode cX9_stepsBy 102 = .ok (.iload 4, 2) := by decide +kernel
theorem dX9_stepsBy_104 : decode cX9_stepsBy 104 = .ok (.iconst 1, 1) := by decide +kernel
theorem dX9_stepsBy_105 : decode cX9_stepsBy 105 = .ok (.isub, 1) := by decide +kernel
theorem dX9_stepsBy_106 : decode cX9_stepsBy 106 = .ok (.iaload, 1) := by decide +kernel
theorem dX9_stepsBy_107 : decode cX9_stepsBy 107 = .ok (.iastore, 1) := by decide +kernel
theorem dX9_stepsBy_108 : decode cX9_stepsBy 108 = .ok (.iinc 4 (-1), 3) := by decide +kernel
theorem dX9_stepsBy_111 : decode cX9_stepsBy 111 = .ok (.goto (-25), 3) := by decide +kernel
theorem dX9_stepsBy_114 : decode cX9_stepsBy 114 = .ok (.aload_n 0, 1) := by decide +kernel
theorem dX9_stepsBy_115 : decode cX9_stepsBy 115 = .ok (.getfield 54, 3) := by decide +kernel
theorem dX9_stepsBy_118 : decode cX9_stepsBy 118 = .ok (.iload_n 3, 1) := by decide +kernel
theorem dX9_stepsBy_119 : decode cX9_stepsBy 119 = .ok (.iconst 1, 1) := by decide +kernel
theorem dX9_stepsBy_120 : decode cX9_stepsBy 120 = .ok (.iastore, 1) := by decide +kernel
theorem dX9_stepsBy_121 : decode cX9_stepsBy 121 = .ok (.aload_n 0, 1) := by decide +kernel
theorem dX9_stepsBy_122 : decode cX9_stepsBy 122 = .ok (.dup, 1) := by decide +kernel
theorem dX9_stepsBy_123 : decode cX9_stepsBy 123 = .ok (.getfield 196, 3) := by decide +kernel
theorem dX9_stepsBy_126 : decode cX9_stepsBy 126 = .ok (.iconst 1, 1) := by decide +kernel
theorem dX9_stepsBy_127 : decode cX9_stepsBy 127 = .ok (.iadd, 1) := by decide +kernel
theorem dX9_stepsBy_128 : decode cX9_stepsBy 128 = .ok (.putfield 196, 3) := by decide +kernel
theorem dX9_stepsBy_131 : decode cX9_stepsBy 131 = .ok (.iinc 2 1, 3) := by decide +kernel
theorem dX9_stepsBy_134 : decode cX9_stepsBy 134 = .ok (.goto (-127), 3) := by decide +kernel
theorem dX9_stepsBy_137 : decode cX9_stepsBy 137 = .ok (.return_, 1) := by decide +kernel
theorem dX9_isProper_0 : decode cX9_isProper 0 = .ok (.iconst 1, 1) := by decide +kernel
theorem dX9_isProper_1 : decode cX9_isProper 1 = .ok (.istore_n 2, 1) := by decide +kernel
theorem dX9_isProper_2 : decode cX9_isProper 2 = .ok (.iload_n 2, 1) := by decide +kernel
theorem dX9_isProper_3 : decode cX9_isProper 3 = .ok (.aload_n 0, 1) := by decide +kernel
theorem dX9_isProper_4 : decode cX9_isProper 4 = .ok (.getfield 182, 3) := by decide +kernel
theorem dX9_isProper_7 : decode cX9_isProper 7 = .ok (.if_icmp .ge 86, 3) := by decide +kernel
theorem dX9_isProper_10 : decode cX9_isProper 10 = .ok (.aload_n 0, 1) := by decide +kernel
theorem dX9_isProper_11 : decode cX9_isProper 11 = .ok (.iload_n 2, 1) := by decide +kernel
theorem dX9_isProper_12 : decode cX9_isProper 12 = .ok (.invokevirtual 199, 3) := by decide +kernel
theorem dX9_isProper_15 : decode cX9_isProper 15 = .ok (.iconst 0, 1) := by decide +kernel
theorem dX9_isProper_16 : decode cX9_isProper 16 = .ok (.istore_n 3, 1) := by decide +kernel
theorem dX9_isProper_17 : decode cX9_isProper 17 = .ok (.iload_n 3, 1) := by decide +kernel
theorem dX9_isProper_18 : decode cX9_isProper 18 = .ok (.bipush 6, 2) := by decide +kernel
theorem dX9_isProper_20 : decode cX9_isProper 20 = .ok (.if_icmp .ge 31, 3) := by decide +kernel
theorem dX9_isProper_23 : decode cX9_isProper 23 = .ok (.aload_n 0, 1) := by decide +kernel
theorem dX9_isProper_24 : decode cX9_isProper 24 = .ok (.getfield 57, 3) := by decide +kernel
theorem dX9_isProper_27 : decode cX9_isProper 27 = .ok (.iload_n 3, 1) := by decide +kernel
theorem dX9_isProper_28 : decode cX9_isProper 28 = .ok (.aload_n 0, 1) := by decide +kernel
theorem dX9_isProper_29 : decode cX9_isProper 29 = .ok (.getfield 51, 3) := by decide +kernel
theorem dX9_isProper_32 : decode cX9_isProper 32 = .ok (.bipush 6, 2) := by decide +kernel
theorem dX9_isProper_34 : decode cX9_isProper 34 = .ok (.aload_n 0, 1) := by decide +kernel
theorem dX9_isProper_35 : decode cX9_isProper 35 = .ok (.getfield 196, 3) := by decide +kernel
theorem dX9_isProper_38 : decode cX9_isProper 38 = .ok (.iconst 1, 1) := by decide +kernel
theorem dX9_isProper_39 : decode cX9_isProper 39 = .ok (.isub, 1) := by decide +kernel
theorem dX9_isProper_40 : decode cX9_isProper 40 = .ok (.imul, 1) := by decide +kernel
theorem dX9_isProper_41 : decode cX9_isProper 41 = .ok (.iload_n 3, 1) := by decide +kernel
theorem dX9_isProper_42 : decode cX9_isProper 42 = .ok (.iadd, 1) := by decide +kernel
theorem dX9_isProper_43 : decode cX9_isProper 43 = .ok (.iaload, 1) := by decide +kernel
theorem dX9_isProper_44 : decode cX9_isProper 44 = .ok (.iastore, 1) := by decide +kernel
theorem dX9_isProper_45 : decode cX9_isProper 45 = .ok (.iinc 3 1, 3) := by decide +kernel
theorem dX9_isProper_48 : decode cX9_isProper 48 = .ok (.goto (-31), 3) := by decide +kernel
theorem dX9_isProper_51 : decode cX9_isProper 51 = .ok (.aload_n 0, 1) := by decide +kernel
theorem dX9_isProper_52 : decode cX9_isProper 52 = .ok (.iload_n 2, 1) := by decide +kernel
theorem dX9_isProper_53 : decode cX9_isProper 53 = .ok (.iconst 1, 1) := by decide +kernel
theorem dX9_isProper_54 : decode cX9_isProper 54 = .ok (.iadd, 1) := by decide +kernel
theorem dX9_isProper_55 : decode cX9_isProper 55 = .ok (.invokevirtual 199, 3) := by decide +kernel
theorem dX9_isProper_58 : decode cX9_isProper 58 = .ok (.aload_n 0, 1) := by decide +kernel
theorem dX9_isProper_59 : decode cX9_isProper 59 = .ok (.aload_n 0, 1) := by decide +kernel
theorem dX9_isProper_60 : decode cX9_isProper 60 = .ok (.getfield 57, 3) := by decide +kernel
theorem dX9_isProper_63 : decode cX9_isProper 63 = .ok (.iconst 0, 1) := by decide +kernel
theorem dX9_isProper_64 : decode cX9_isProper 64 = .ok (.aload_n 0, 1) := by decide +kernel
theorem dX9_isProper_65 : decode cX9_isProper 65 = .ok (.getfield 51, 3) := by decide +kernel
theorem dX9_isProper_68 : decode cX9_isProper 68 = .ok (.iconst 0, 1) := by decide +kernel
theorem dX9_isProper_69 : decode cX9_isProper 69 = .ok (.invokevirtual 139, 3) := by decide +kernel
theorem dX9_isProper_72 : decode cX9_isProper 72 = .ok (.istore_n 3, 1) := by decide +kernel
theorem dX9_isProper_73 : decode cX9_isProper 73 = .ok (.iload_n 3, 1) := by decide +kernel
theorem dX9_isProper_74 : decode cX9_isProper 74 = .ok (.ifCond .gt 11, 3) := by decide +kernel
theorem dX9_isProper_77 : decode cX9_isProper 77 = .ok (.iload_n 1, 1) := by decide +kernel
theorem dX9_isProper_78 : decode cX9_isProper 78 = .ok (.ifCond .eq 9, 3) := by decide +kernel
theorem dX9_isProper_81 : decode cX9_isProper 81 = .ok (.iload_n 3, 1) := by decide +kernel
theorem dX9_isProper_82 : decode cX9_isProper 82 = .ok (.ifCond .ne 5, 3) := by decide +kernel
theorem dX9_isProper_85 : decode cX9_isProper 85 = .ok (.iconst 0, 1) := by decide +kernel
theorem dX9_isProper_86 : decode cX9_isProper 86 = .ok (.ireturn, 1) := by decide +kernel
theorem dX9_isProper_87 : decode cX9_isProper 87 = .ok (.iinc 2 1, 3) := by decide +kernel
theorem dX9_isProper_90 : decode cX9_isProper 90 = .ok (.goto (-88), 3) := by decide +kernel
theorem dX9_isProper_93 : decode cX9_isProper 93 = .ok (.iconst 1, 1) := by decide +kernel
theorem dX9_isProper_94 : decode cX9_isProper 94 = .ok (.ireturn, 1) := by decide +kernel
theorem dX9_isMyth_0 : decode cX9_isMyth 0 = .ok (.aload_n 0, 1) := by decide +kernel
theorem dX9_isMyth_1 : decode cX9_isMyth 1 = .ok (.getfield 182, 3) := by decide +kernel
theorem dX9_isMyth_4 : decode cX9_isMyth 4 = .ok (.iconst 2, 1) := by decide +kernel
theorem dX9_isMyth_5 : decode cX9_isMyth 5 = .ok (.if_icmp .lt 7, 3) := by decide +kernel
theorem dX9_isMyth_8 : decode cX9_isMyth 8 = .ok (.iconst 1, 1) := by decide +kernel
theorem dX9_isMyth_9 : decode cX9_isMyth 9 = .ok (.goto 4, 3) := by decide +kernel
theorem dX9_isMyth_12 : decode cX9_isMyth 12 = .ok (.iconst 0, 1) := by decide +kernel
theorem dX9_isMyth_13 : decode cX9_isMyth 13 = .ok (.istore_n 1, 1) := by decide +kernel
theorem dX9_isMyth_14 : decode cX9_isMyth 14 = .ok (.iconst 1, 1) := by decide +kernel
theorem dX9_isMyth_15 : decode cX9_isMyth 15 = .ok (.istore_n 2, 1) := by decide +kernel
theorem dX9_isMyth_16 : decode cX9_isMyth 16 = .ok (.iload_n 2, 1) := by decide +kernel
theorem dX9_isMyth_17 : decode cX9_isMyth 17 = .ok (.aload_n 0, 1) := by decide +kernel
theorem dX9_isMyth_18 : decode cX9_isMyth 18 = .ok (.getfield 182, 3) := by decide +kernel
theorem dX9_isMyth_21 : decode cX9_isMyth 21 = .ok (.if_icmp .ge 32, 3) := by decide +kernel
theorem dX9_isMyth_24 : decode cX9_isMyth 24 = .ok (.iload_n 1, 1) := by decide +kernel
theorem dX9_isMyth_25 : decode cX9_isMyth 25 = .ok (.ifCond .eq 28, 3) := by decide +kernel
theorem dX9_isMyth_28 : decode cX9_isMyth 28 = .ok (.aload_n 0, 1) := by decide +kernel
theorem dX9_isMyth_29 : decode cX9_isMyth 29 = .ok (.iload_n 2, 1) := by decide +kernel
theorem dX9_isMyth_30 : decode cX9_isMyth 30 = .ok (.invokevirtual 199, 3) := by decide +kernel
theorem dX9_isMyth_33 : decode cX9_isMyth 33 = .ok (.aload_n 0, 1) := by decide +kernel
theorem dX9_isMyth_34 : decode cX9_isMyth 34 = .ok (.getfield 196, 3) := by decide +kernel
theorem dX9_isMyth_37 : decode cX9_isMyth 37 = .ok (.iconst 2, 1) := by decide +kernel
theorem dX9_isMyth_38 : decode cX9_isMyth 38 = .ok (.if_icmp .ne 7, 3) := by decide +kernel
theorem dX9_isMyth_41 : decode cX9_isMyth 41 = .ok (.iconst 1, 1) := by decide +kernel
theorem dX9_isMyth_42 : decode cX9_isMyth 42 = .ok (.goto 4, 3) := by decide +kernel
theorem dX9_isMyth_45 : decode cX9_isMyth 45 = .ok (.iconst 0, 1) := by decide +kernel
theorem dX9_isMyth_46 : decode cX9_isMyth 46 = .ok (.istore_n 1, 1) := by decide +kernel
theorem dX9_isMyth_47 : decode cX9_isMyth 47 = .ok (.iinc 2 1, 3) := by decide +kernel
theorem dX9_isMyth_50 : decode cX9_isMyth 50 = .ok (.goto (-34), 3) := by decide +kernel
theorem dX9_isMyth_53 : decode cX9_isMyth 53 = .ok (.iload_n 1, 1) := by decide +kernel
theorem dX9_isMyth_54 : decode cX9_isMyth 54 = .ok (.ireturn, 1) := by decide +kernel
theorem dX9_scale_0 : decode cX9_scale 0 = .ok (.aload_n 0, 1) := by decide +kernel
theorem dX9_scale_1 : decode cX9_scale 1 = .ok (.getfield 182, 3) := by decide +kernel
theorem dX9_scale_4 : decode cX9_scale 4 = .ok (.ifCond .ne 10, 3) := by decide +kernel
theorem dX9_scale_7 : decode cX9_scale 7 = .ok (.aload_n 0, 1) := by decide +kernel
theorem dX9_scale_8 : decode cX9_scale 8 = .ok (.bipush 7, 2) := by decide +kernel
theorem dX9_scale_10 : decode cX9_scale 10 = .ok (.invokevirtual 136, 3) := by decide +kernel
theorem dX9_scale_13 : decode cX9_scale 13 = .ok (.ireturn, 1) := by decide +kernel
theorem dX9_scale_14 : decode cX9_scale 14 = .ok (.iload_n 1, 1) := by decide +kernel
theorem dX9_scale_15 : decode cX9_scale 15 = .ok (.ifCond .lt 8, 3) := by decide +kernel
theorem dX9_scale_18 : decode cX9_scale 18 = .ok (.iload_n 1, 1) := by decide +kernel
theorem dX9_scale_19 : decode cX9_scale 19 = .ok (.iconst 4, 1) := by decide +kernel
theorem dX9_scale_20 : decode cX9_scale 20 = .ok (.if_icmp .le 9, 3) := by decide +kernel
theorem dX9_scale_23 : decode cX9_scale 23 = .ok (.aload_n 0, 1) := by decide +kernel
theorem dX9_scale_24 : decode cX9_scale 24 = .ok (.iconst 3, 1) := by decide +kernel
theorem dX9_scale_25 : decode cX9_scale 25 = .ok (.invokevirtual 136, 3) := by decide +kernel
theorem dX9_scale_28 : decode cX9_scale 28 = .ok (.ireturn, 1) := by decide +kernel
theorem dX9_scale_29 : decode cX9_scale 29 = .ok (.aload_n 0, 1) := by decide +kernel
theorem dX9_scale_30 : decode cX9_scale 30 = .ok (.iconst 0, 1) := by decide +kernel
theorem dX9_scale_31 : decode cX9_scale 31 = .ok (.putfield 66, 3) := by decide +kernel
theorem dX9_scale_34 : decode cX9_scale 34 = .ok (.iload_n 1, 1) := by decide +kernel
theorem dX9_scale_35 : decode cX9_scale 35 = .ok (.ifCond .ne 8, 3) := by decide +kernel
theorem dX9_scale_38 : decode cX9_scale 38 = .ok (.aload_n 0, 1) := by decide +kernel
theorem dX9_scale_39 : decode cX9_scale 39 = .ok (.getfield 182, 3) := by decide +kernel
theorem dX9_scale_42 : decode cX9_scale 42 = .ok (.ireturn, 1) := by decide +kernel
theorem dX9_scale_43 : decode cX9_scale 43 = .ok (.iload_n 1, 1) := by decide +kernel
theorem dX9_scale_44 : decode cX9_scale 44 = .ok (.iconst 2, 1) := by decide +kernel
theorem dX9_scale_45 : decode cX9_scale 45 = .ok (.if_icmp .ne 16, 3) := by decide +kernel
theorem dX9_scale_48 : decode cX9_scale 48 = .ok (.aload_n 0, 1) := by decide +kernel
theorem dX9_scale_49 : decode cX9_scale 49 = .ok (.invokevirtual 202, 3) := by decide +kernel
theorem dX9_scale_52 : decode cX9_scale 52 = .ok (.ifCond .eq 7, 3) := by decide +kernel
theorem dX9_scale_55 : decode cX9_scale 55 = .ok (.iconst 1, 1) := by decide +kernel
theorem dX9_scale_56 : decode cX9_scale 56 = .ok (.goto 4, 3) := by decide +kernel
theorem dX9_scale_59 : decode cX9_scale 59 = .ok (.iconst 0, 1) := by decide +kernel
theorem dX9_scale_60 : decode cX9_scale 60 = .ok (.ireturn, 1) := by decide +kernel
theorem dX9_scale_61 : decode cX9_scale 61 = .ok (.iload_n 1, 1) := by decide +kernel
theorem dX9_scale_62 : decode cX9_scale 62 = .ok (.iconst 2, 1) := by decide +kernel
theorem dX9_scale_63 : decode cX9_scale 63 = .ok (.if_icmp .le 26, 3) := by decide +kernel
theorem dX9_scale_66 : decode cX9_scale 66 = .ok (.aload_n 0, 1) := by decide +kernel
theorem dX9_scale_67 : decode cX9_scale 67 = .ok (.iload_n 1, 1) := by decide +kernel
theorem dX9_scale_68 : decode cX9_scale 68 = .ok (.iconst 4, 1) := by decide +kernel
theorem dX9_scale_69 : decode cX9_scale 69 = .ok (.if_icmp .ne 7, 3) := by decide +kernel
theorem dX9_scale_72 : decode cX9_scale 72 = .ok (.iconst 1, 1) := by decide +kernel
theorem dX9_scale_73 : decode cX9_scale 73 = .ok (.goto 4, 3) := by decide +kernel
theorem dX9_scale_76 : decode cX9_scale 76 = .ok (.iconst 0, 1) := by decide +kernel
theorem dX9_scale_77 : decode cX9_scale 77 = .ok (.invokevirtual 205, 3) := by decide +kernel
theorem dX9_scale_80 : decode cX9_scale 80 = .ok (.ifCond .eq 7, 3) := by decide +kernel
theorem dX9_scale_83 : decode cX9_scale 83 = .ok (.iconst 1, 1) := by decide +kernel
theorem dX9_scale_84 : decode cX9_scale 84 = .ok (.goto 4, 3) := by decide +kernel
theorem dX9_scale_87 : decode cX9_scale 87 = .ok (.iconst 0, 1) := by decide +kernel
theorem dX9_scale_88 : decode cX9_scale 88 = .ok (.ireturn, 1) := by decide +kernel
theorem dX9_scale_89 : decode cX9_scale 89 = .ok (.aload_n 0, 1) := by decide +kernel
theorem dX9_scale_90 : decode cX9_scale 90 = .ok (.iconst 1, 1) := by decide +kernel
theorem dX9_scale_91 : decode cX9_scale 91 = .ok (.invokevirtual 199, 3) := by decide +kernel
theorem dX9_scale_94 : decode cX9_scale 94 = .ok (.aload_n 0, 1) := by decide +kernel
theorem dX9_scale_95 : decode cX9_scale 95 = .ok (.getfield 196, 3) := by decide +kernel
theorem dX9_scale_98 : decode cX9_scale 98 = .ok (.iconst 2, 1) := by decide +kernel
theorem dX9_scale_99 : decode cX9_scale 99 = .ok (.if_icmp .gt 7, 3) := by decide +kernel
theorem dX9_scale_102 : decode cX9_scale 102 = .ok (.iconst 1, 1) := by decide +kernel
theorem dX9_scale_103 : decode cX9_scale 103 = .ok (.goto 4, 3) := by decide +kernel
theorem dX9_scale_106 : decode cX9_scale 106 = .ok (.iconst 0, 1) := by decide +kernel
theorem dX9_scale_107 : decode cX9_scale 107 = .ok (.ireturn, 1) := by decide +kernel
theorem dX9_kinds_0 : decode cX9_kinds 0 = .ok (.aload_n 0, 1) := by decide +kernel
theorem dX9_kinds_1 : decode cX9_kinds 1 = .ok (.getfield 182, 3) := by decide +kernel
theorem dX9_kinds_4 : decode cX9_kinds 4 = .ok (.ifCond .ne 10, 3) := by decide +kernel
theorem dX9_kinds_7 : decode cX9_kinds 7 = .ok (.aload_n 0, 1) := by decide +kernel
theorem dX9_kinds_8 : decode cX9_kinds 8 = .ok (.bipush 7, 2) := by decide +kernel
theorem dX9_kinds_10 : decode cX9_kinds 10 = .ok (.invokevirtual 136, 3) := by decide +kernel
theorem dX9_kinds_13 : decode cX9_kinds 13 = .ok (.ireturn, 1) := by decide +kernel
theorem dX9_kinds_14 : decode cX9_kinds 14 = .ok (.iload_n 1, 1) := by decide +kernel
theorem dX9_kinds_15 : decode cX9_kinds 15 = .ok (.iconst 1, 1) := by decide +kernel
theorem dX9_kinds_16 : decode cX9_kinds 16 = .ok (.if_icmp .lt 11, 3) := by decide +kernel
theorem dX9_kinds_19 : decode cX9_kinds 19 = .ok (.iload_n 1, 1) := by decide +kernel
theorem dX9_kinds_20 : decode cX9_kinds 20 = .ok (.aload_n 0, 1) := by decide +kernel
theorem dX9_kinds_21 : decode cX9_kinds 21 = .ok (.getfield 182, 3) := by decide +kernel
theorem dX9_kinds_24 : decode cX9_kinds 24 = .ok (.if_icmp .le 9, 3) := by decide +kernel
theorem dX9_kinds_27 : decode cX9_kinds 27 = .ok (.aload_n 0, 1) := by decide +kernel
theorem dX9_kinds_28 : decode cX9_kinds 28 = .ok (.iconst 3, 1) := by decide +kernel
theorem dX9_kinds_29 : decode cX9_kinds 29 = .ok (.invokevirtual 136, 3) := by decide +kernel
theorem dX9_kinds_32 : decode cX9_kinds 32 = .ok (.ireturn, 1) := by decide +kernel
theorem dX9_kinds_33 : decode cX9_kinds 33 = .ok (.aload_n 0, 1) := by decide +kernel
theorem dX9_kinds_34 : decode cX9_kinds 34 = .ok (.iconst 0, 1) := by decide +kernel
theorem dX9_kinds_35 : decode cX9_kinds 35 = .ok (.putfield 66, 3) := by decide +kernel
theorem dX9_kinds_38 : decode cX9_kinds 38 = .ok (.aload_n 0, 1) := by decide +kernel
theorem dX9_kinds_39 : decode cX9_kinds 39 = .ok (.iload_n 1, 1) := by decide +kernel
theorem dX9_kinds_40 : decode cX9_kinds 40 = .ok (.invokevirtual 199, 3) := by decide +kernel
theorem dX9_kinds_43 : decode cX9_kinds 43 = .ok (.aload_n 0, 1) := by decide +kernel
theorem dX9_kinds_44 : decode cX9_kinds 44 = .ok (.getfield 196, 3) := by decide +kernel
theorem dX9_kinds_47 : decode cX9_kinds 47 = .ok (.ireturn, 1) := by decide +kernel
theorem dX9_step_0 : decode cX9_step 0 = .ok (.iload_n 3, 1) := by decide +kernel
theorem dX9_step_1 : decode cX9_step 1 = .ok (.invokestatic 111, 3) := by decide +kernel
theorem dX9_step_4 : decode cX9_step 4 = .ok (.ifCond .ne 9, 3) := by decide +kernel
theorem dX9_step_7 : decode cX9_step 7 = .ok (.aload_n 0, 1) := by decide +kernel
theorem dX9_step_8 : decode cX9_step 8 = .ok (.iconst 1, 1) := by decide +kernel
theorem dX9_step_9 : decode cX9_step 9 = .ok (.invokevirtual 136, 3) := by decide +kernel
theorem dX9_step_12 : decode cX9_step 12 = .ok (.ireturn, 1) := by decide +kernel
theorem dX9_step_13 : decode cX9_step 13 = .ok (.aload_n 0, 1) := by decide +kernel
theorem dX9_step_14 : decode cX9_step 14 = .ok (.getfield 182, 3) := by decide +kernel
theorem dX9_step_17 : decode cX9_step 17 = .ok (.ifCond .ne 10, 3) := by decide +kernel
theorem dX9_step_20 : decode cX9_step 20 = .ok (.aload_n 0, 1) := by decide +kernel
theorem dX9_step_21 : decode cX9_step 21 = .ok (.bipush 7, 2) := by decide +kernel
theorem dX9_step_23 : decode cX9_step 23 = .ok (.invokevirtual 136, 3) := by decide +kernel
theorem dX9_step_26 : decode cX9_step 26 = .ok (.ireturn, 1) := by decide +kernel
theorem dX9_step_27 : decode cX9_step 27 = .ok (.iload_n 1, 1) := by decide +kernel
theorem dX9_step_28 : decode cX9_step 28 = .ok (.iconst 1, 1) := by decide +kernel
theorem dX9_step_29 : decode cX9_step 29 = .ok (.if_icmp .lt 11, 3) := by decide +kernel
theorem dX9_step_32 : decode cX9_step 32 = .ok (.iload_n 1, 1) := by decide +kernel
theorem dX9_step_33 : decode cX9_step 33 = .ok (.aload_n 0, 1) := by decide +kernel
theorem dX9_step_34 : decode cX9_step 34 = .ok (.getfield 182, 3) := by decide +kernel
theorem dX9_step_37 : decode cX9_step 37 = .ok (.if_icmp .le 9, 3) := by decide +kernel
theorem dX9_step_40 : decode cX9_step 40 = .ok (.aload_n 0, 1) := by decide +kernel
theorem dX9_step_41 : decode cX9_step 41 = .ok (.iconst 3, 1) := by decide +kernel
theorem dX9_step_42 : decode cX9_step 42 = .ok (.invokevirtual 136, 3) := by decide +kernel
theorem dX9_step_45 : decode cX9_step 45 = .ok (.ireturn, 1) := by decide +kernel
theorem dX9_step_46 : decode cX9_step 46 = .ok (.aload_n 0, 1) := by decide +kernel
theorem dX9_step_47 : decode cX9_step 47 = .ok (.iload_n 1, 1) := by decide +kernel
theorem dX9_step_48 : decode cX9_step 48 = .ok (.invokevirtual 199, 3) := by decide +kernel
theorem dX9_step_51 : decode cX9_step 51 = .ok (.iload_n 2, 1) := by decide +kernel
theorem dX9_step_52 : decode cX9_step 52 = .ok (.ifCond .lt 11, 3) := by decide +kernel
theorem dX9_step_55 : decode cX9_step 55 = .ok (.iload_n 2, 1) := by decide +kernel
theorem dX9_step_56 : decode cX9_step 56 = .ok (.aload_n 0, 1) := by decide +kernel
theorem dX9_step_57 : decode cX9_step 57 = .ok (.getfield 196, 3) := by decide +kernel
theorem dX9_step_60 : decode cX9_step 60 = .ok (.if_icmp .lt 9, 3) := by decide +kernel
theorem dX9_step_63 : decode cX9_step 63 = .ok (.aload_n 0, 1) := by decide +kernel
theorem dX9_step_64 : decode cX9_step 64 = .ok (.iconst 3, 1) := by decide +kernel
theorem dX9_step_65 : decode cX9_step 65 = .ok (.invokevirtual 136, 3) := by decide +kernel
theorem dX9_step_68 : decode cX9_step 68 = .ok (.ireturn, 1) := by decide +kernel
theorem dX9_step_69 : decode cX9_step 69 = .ok (.aload_n 0, 1) := by decide +kernel
theorem dX9_step_70 : decode cX9_step 70 = .ok (.aload_n 0, 1) := by decide +kernel
theorem dX9_step_71 : decode cX9_step 71 = .ok (.getfield 51, 3) := by decide +kernel
theorem dX9_step_74 : decode cX9_step 74 = .ok (.bipush 6, 2) := by decide +kernel
theorem dX9_step_76 : decode cX9_step 76 = .ok (.iload_n 2, 1) := by decide +kernel
theorem dX9_step_77 : decode cX9_step 77 = .ok (.imul, 1) := by decide +kernel
theorem dX9_step_78 : decode cX9_step 78 = .ok (.invokevirtual 89, 3) := by decide +kernel
theorem dX9_step_81 : decode cX9_step 81 = .ok (.aload_n 0, 1) := by decide +kernel
theorem dX9_step_82 : decode cX9_step 82 = .ok (.iload_n 3, 1) := by decide +kernel
theorem dX9_step_83 : decode cX9_step 83 = .ok (.invokevirtual 114, 3) := by decide +kernel
theorem dX9_step_86 : decode cX9_step 86 = .ok (.ifCond .eq 12, 3) := by decide +kernel
theorem dX9_step_89 : decode cX9_step 89 = .ok (.aload_n 0, 1) := by decide +kernel
theorem dX9_step_90 : decode cX9_step 90 = .ok (.getfield 54, 3) := by decide +kernel
theorem dX9_step_93 : decode cX9_step 93 = .ok (.iload_n 2, 1) := by decide +kernel
theorem dX9_step_94 : decode cX9_step 94 = .ok (.iaload, 1) := by decide +kernel
theorem dX9_step_95 : decode cX9_step 95 = .ok (.goto 4, 3) := by decide +kernel
theorem dX9_step_98 : decode cX9_step 98 = .ok (.iconst (-1), 1) := by decide +kernel
theorem dX9_step_99 : decode cX9_step 99 = .ok (.ireturn, 1) := by decide +kernel
theorem dX9_mode_0 : decode cX9_mode 0 = .ok (.aload_n 0, 1) := by decide +kernel
theorem dX9_mode_1 : decode cX9_mode 1 = .ok (.getfield 182, 3) := by decide +kernel
theorem dX9_mode_4 : decode cX9_mode 4 = .ok (.ifCond .ne 10, 3) := by decide +kernel
theorem dX9_mode_7 : decode cX9_mode 7 = .ok (.aload_n 0, 1) := by decide +kernel
theorem dX9_mode_8 : decode cX9_mode 8 = .ok (.bipush 7, 2) := by decide +kernel
theorem dX9_mode_10 : decode cX9_mode 10 = .ok (.invokevirtual 104, 3) := by decide +kernel
theorem dX9_mode_13 : decode cX9_mode 13 = .ok (.ireturn, 1) := by decide +kernel
theorem dX9_mode_14 : decode cX9_mode 14 = .ok (.iload_n 1, 1) := by decide +kernel
theorem dX9_mode_15 : decode cX9_mode 15 = .ok (.ifCond .lt 11, 3) := by decide +kernel
theorem dX9_mode_18 : decode cX9_mode 18 = .ok (.iload_n 1, 1) := by decide +kernel
theorem dX9_mode_19 : decode cX9_mode 19 = .ok (.aload_n 0, 1) := by decide +kernel
theorem dX9_mode_20 : decode cX9_mode 20 = .ok (.getfield 182, 3) := by decide +kernel
theorem dX9_mode_23 : decode cX9_mode 23 = .ok (.if_icmp .lt 9, 3) := by decide +kernel
theorem dX9_mode_26 : decode cX9_mode 26 = .ok (.aload_n 0, 1) := by decide +kernel
theorem dX9_mode_27 : decode cX9_mode 27 = .ok (.iconst 3, 1) := by decide +kernel
theorem dX9_mode_28 : decode cX9_mode 28 = .ok (.invokevirtual 104, 3) := by decide +kernel
theorem dX9_mode_31 : decode cX9_mode 31 = .ok (.ireturn, 1) := by decide +kernel
theorem dX9_mode_32 : decode cX9_mode 32 = .ok (.iconst 0, 1) := by decide +kernel
theorem dX9_mode_33 : decode cX9_mode 33 = .ok (.istore_n 2, 1) := by decide +kernel
theorem dX9_mode_34 : decode cX9_mode 34 = .ok (.iload_n 2, 1) := by decide +kernel
theorem dX9_mode_35 : decode cX9_mode 35 = .ok (.aload_n 0, 1) := by decide +kernel
theorem dX9_mode_36 : decode cX9_mode 36 = .ok (.getfield 182, 3) := by decide +kernel
theorem dX9_mode_39 : decode cX9_mode 39 = .ok (.if_icmp .ge 53, 3) := by decide +kernel
theorem dX9_mode_42 : decode cX9_mode 42 = .ok (.aload_n 0, 1) := by decide +kernel
theorem dX9_mode_43 : decode cX9_mode 43 = .ok (.iload_n 1, 1) := by decide +kernel
theorem dX9_mode_44 : decode cX9_mode 44 = .ok (.iload_n 2, 1) := by decide +kernel
theorem dX9_mode_45 : decode cX9_mode 45 = .ok (.iadd, 1) := by decide +kernel
theorem dX9_mode_46 : decode cX9_mode 46 = .ok (.invokevirtual 193, 3) := by decide +kernel
theorem dX9_mode_49 : decode cX9_mode 49 = .ok (.aload_n 0, 1) := by decide +kernel
theorem dX9_mode_50 : decode cX9_mode 50 = .ok (.aload_n 0, 1) := by decide +kernel
theorem dX9_mode_51 : decode cX9_mode 51 = .ok (.getfield 45, 3) := by decide +kernel
theorem dX9_mode_54 : decode cX9_mode 54 = .ok (.bipush 6, 2) := by decide +kernel
theorem dX9_mode_56 : decode cX9_mode 56 = .ok (.iload_n 1, 1) := by decide +kernel
theorem dX9_mode_57 : decode cX9_mode 57 = .ok (.imul, 1) := by decide +kernel
theorem dX9_mode_58 : decode cX9_mode 58 = .ok (.invokevirtual 93, 3) := by decide +kernel
theorem dX9_mode_61 : decode cX9_mode 61 = .ok (.aload_n 0, 1) := by decide +kernel
theorem dX9_mode_62 : decode cX9_mode 62 = .ok (.invokevirtual 100, 3) := by decide +kernel
theorem dX9_mode_65 : decode cX9_mode 65 = .ok (.ifCond .eq 9, 3) := by decide +kernel
theorem dX9_mode_68 : decode cX9_mode 68 = .ok (.aload_n 0, 1) := by decide +kernel
theorem dX9_mode_69 : decode cX9_mode 69 = .ok (.iconst 4, 1) := by decide +kernel
theorem dX9_mode_70 : decode cX9_mode 70 = .ok (.invokevirtual 104, 3) := by decide +kernel
theorem dX9_mode_73 : decode cX9_mode 73 = .ok (.ireturn, 1) := by decide +kernel
theorem dX9_mode_74 : decode cX9_mode 74 = .ok (.aload_n 0, 1) := by decide +kernel
theorem dX9_mode_75 : decode cX9_mode 75 = .ok (.aload_n 0, 1) := by decide +kernel
theorem dX9_mode_76 : decode cX9_mode 76 = .ok (.getfield 48, 3) := by decide +kernel
theorem dX9_mode_79 : decode cX9_mode 79 = .ok (.bipush 6, 2) := by decide +kernel
theorem dX9_mode_81 : decode cX9_mode 81 = .ok (.iload_n 2, 1) := by decide +kernel
theorem dX9_mode_82 : decode cX9_mode 82 = .ok (.imul, 1) := by decide +kernel
theorem dX9_mode_83 : decode cX9_mode 83 = .ok (.invokevirtual 108, 3) := by decide +kernel
theorem dX9_mode_86 : decode cX9_mode 86 = .ok (.iinc 2 1, 3) := by decide +kernel
theorem dX9_mode_89 : decode cX9_mode 89 = .ok (.goto (-55), 3) := by decide +kernel
theorem dX9_mode_92 : decode cX9_mode 92 = .ok (.iconst 0, 1) := by decide +kernel
theorem dX9_mode_93 : decode cX9_mode 93 = .ok (.istore_n 2, 1) := by decide +kernel
theorem dX9_mode_94 : decode cX9_mode 94 = .ok (.iload_n 2, 1) := by decide +kernel
theorem dX9_mode_95 : decode cX9_mode 95 = .ok (.bipush 6, 2) := by decide +kernel
theorem dX9_mode_97 : decode cX9_mode 97 = .ok (.aload_n 0, 1) := by decide +kernel
theorem dX9_mode_98 : decode cX9_mode 98 = .ok (.getfield 182, 3) := by decide +kernel
theorem dX9_mode_101 : decode cX9_mode 101 = .ok (.imul, 1) := by decide +kernel
theorem dX9_mode_102 : decode cX9_mode 102 = .ok (.if_icmp .ge 21, 3) := by decide +kernel
theorem dX9_mode_105 : decode cX9_mode 105 = .ok (.aload_n 0, 1) := by decide +kernel
theorem dX9_mode_106 : decode cX9_mode 106 = .ok (.getfield 45, 3) := by decide +kernel
theorem dX9_mode_109 : decode cX9_mode 109 = .ok (.iload_n 2, 1) := by decide +kernel
theorem dX9_mode_110 : decode cX9_mode 110 = .ok (.aload_n 0, 1) := by decide +kernel
theorem dX9_mode_111 : decode cX9_mode 111 = .ok (.getfield 48, 3) := by decide +kernel
theorem dX9_mode_114 : decode cX9_mode 114 = .ok (.iload_n 2, 1) := by decide +kernel
theorem dX9_mode_115 : decode cX9_mode 115 = .ok (.iaload, 1) := by decide +kernel
theorem dX9_mode_116 : decode cX9_mode 116 = .ok (.iastore, 1) := by decide +kernel
theorem dX9_mode_117 : decode cX9_mode 117 = .ok (.iinc 2 1, 3) := by decide +kernel
theorem dX9_mode_120 : decode cX9_mode 120 = .ok (.goto (-26), 3) := by decide +kernel
theorem dX9_mode_123 : decode cX9_mode 123 = .ok (.aload_n 0, 1) := by decide +kernel
theorem dX9_mode_124 : decode cX9_mode 124 = .ok (.iconst 0, 1) := by decide +kernel
theorem dX9_mode_125 : decode cX9_mode 125 = .ok (.invokevirtual 104, 3) := by decide +kernel
theorem dX9_mode_128 : decode cX9_mode 128 = .ok (.ireturn, 1) := by decide +kernel
theorem dX9_follows_0 : decode cX9_follows 0 = .ok (.aload_n 0, 1) := by decide +kernel
theorem dX9_follows_1 : decode cX9_follows 1 = .ok (.getfield 182, 3) := by decide +kernel
theorem dX9_follows_4 : decode cX9_follows 4 = .ok (.ifCond .ne 10, 3) := by decide +kernel
theorem dX9_follows_7 : decode cX9_follows 7 = .ok (.aload_n 0, 1) := by decide +kernel
theorem dX9_follows_8 : decode cX9_follows 8 = .ok (.bipush 7, 2) := by decide +kernel
theorem dX9_follows_10 : decode cX9_follows 10 = .ok (.invokevirtual 136, 3) := by decide +kernel
theorem dX9_follows_13 : decode cX9_follows 13 = .ok (.ireturn, 1) := by decide +kernel
theorem dX9_follows_14 : decode cX9_follows 14 = .ok (.iload_n 1, 1) := by decide +kernel
theorem dX9_follows_15 : decode cX9_follows 15 = .ok (.invokestatic 153, 3) := by decide +kernel
theorem dX9_follows_18 : decode cX9_follows 18 = .ok (.ifCond .ne 9, 3) := by decide +kernel
theorem dX9_follows_21 : decode cX9_follows 21 = .ok (.aload_n 0, 1) := by decide +kernel
theorem dX9_follows_22 : decode cX9_follows 22 = .ok (.iconst 3, 1) := by decide +kernel
theorem dX9_follows_23 : decode cX9_follows 23 = .ok (.invokevirtual 136, 3) := by decide +kernel
theorem dX9_follows_26 : decode cX9_follows 26 = .ok (.ireturn, 1) := by decide +kernel
theorem dX9_follows_27 : decode cX9_follows 27 = .ok (.aload_n 0, 1) := by decide +kernel
theorem dX9_follows_28 : decode cX9_follows 28 = .ok (.iconst 0, 1) := by decide +kernel
theorem dX9_follows_29 : decode cX9_follows 29 = .ok (.putfield 66, 3) := by decide +kernel
theorem dX9_follows_32 : decode cX9_follows 32 = .ok (.iconst 0, 1) := by decide +kernel
theorem dX9_follows_33 : decode cX9_follows 33 = .ok (.istore_n 2, 1) := by decide +kernel
theorem dX9_follows_34 : decode cX9_follows 34 = .ok (.iload_n 2, 1) := by decide +kernel
theorem dX9_follows_35 : decode cX9_follows 35 = .ok (.aload_n 0, 1) := by decide +kernel
theorem dX9_follows_36 : decode cX9_follows 36 = .ok (.getfield 182, 3) := by decide +kernel
theorem dX9_follows_39 : decode cX9_follows 39 = .ok (.if_icmp .gt 28, 3) := by decide +kernel
theorem dX9_follows_42 : decode cX9_follows 42 = .ok (.aload_n 0, 1) := by decide +kernel
theorem dX9_follows_43 : decode cX9_follows 43 = .ok (.aload_n 0, 1) := by decide +kernel
theorem dX9_follows_44 : decode cX9_follows 44 = .ok (.getfield 45, 3) := by decide +kernel
theorem dX9_follows_47 : decode cX9_follows 47 = .ok (.bipush 6, 2) := by decide +kernel
theorem dX9_follows_49 : decode cX9_follows 49 = .ok (.iload_n 2, 1) := by decide +kernel
theorem dX9_follows_50 : decode cX9_follows 50 = .ok (.imul, 1) := by decide +kernel
theorem dX9_follows_51 : decode cX9_follows 51 = .ok (.iload_n 1, 1) := by decide +kernel
theorem dX9_follows_52 : decode cX9_follows 52 = .ok (.invokevirtual 159, 3) := by decide +kernel
theorem dX9_follows_55 : decode cX9_follows 55 = .ok (.iload_n 2, 1) := by decide +kernel
theorem dX9_follows_56 : decode cX9_follows 56 = .ok (.if_icmp .eq 5, 3) := by decide +kernel
theorem dX9_follows_59 : decode cX9_follows 59 = .ok (.iconst 0, 1) := by decide +kernel
theorem dX9_follows_60 : decode cX9_follows 60 = .ok (.ireturn, 1) := by decide +kernel
theorem dX9_follows_61 : decode cX9_follows 61 = .ok (.iinc 2 1, 3) := by decide +kernel
theorem dX9_follows_64 : decode cX9_follows 64 = .ok (.goto (-30), 3) := by decide +kernel
theorem dX9_follows_67 : decode cX9_follows 67 = .ok (.iconst 1, 1) := by decide +kernel
theorem dX9_follows_68 : decode cX9_follows 68 = .ok (.ireturn, 1) := by decide +kernel
theorem dX9_isDim_0 : decode cX9_isDim 0 = .ok (.iconst 0, 1) := by decide +kernel
theorem dX9_isDim_1 : decode cX9_isDim 1 = .ok (.istore_n 1, 1) := by decide +kernel
theorem dX9_isDim_2 : decode cX9_isDim 2 = .ok (.iconst 0, 1) := by decide +kernel
theorem dX9_isDim_3 : decode cX9_isDim 3 = .ok (.istore_n 2, 1) := by decide +kernel
theorem dX9_isDim_4 : decode cX9_isDim 4 = .ok (.iload_n 2, 1) := by decide +kernel
theorem dX9_isDim_5 : decode cX9_isDim 5 = .ok (.bipush 6, 2) := by decide +kernel
theorem dX9_isDim_7 : decode cX9_isDim 7 = .ok (.if_icmp .ge 43, 3) := by decide +kernel
theorem dX9_isDim_10 : decode cX9_isDim 10 = .ok (.iload_n 1, 1) := by decide +kernel
theorem dX9_isDim_11 : decode cX9_isDim 11 = .ok (.ifCond .ne 27, 3) := by decide +kernel
theorem dX9_isDim_14 : decode cX9_isDim 14 = .ok (.aload_n 0, 1) := by decide +kernel
theorem dX9_isDim_15 : decode cX9_isDim 15 = .ok (.getfield 23, 3) := by decide +kernel
theorem dX9_isDim_18 : decode cX9_isDim 18 = .ok (.iload_n 2, 1) := by decide +kernel
theorem dX9_isDim_19 : decode cX9_isDim 19 = .ok (.iaload, 1) := by decide +kernel
theorem dX9_isDim_20 : decode cX9_isDim 20 = .ok (.sipush (-200), 3) := by decide +kernel
theorem dX9_isDim_23 : decode cX9_isDim 23 = .ok (.if_icmp .lt 15, 3) := by decide +kernel
theorem dX9_isDim_26 : decode cX9_isDim 26 = .ok (.aload_n 0, 1) := by decide +kernel
theorem dX9_isDim_27 : decode cX9_isDim 27 = .ok (.getfield 23, 3) := by decide +kernel
theorem dX9_isDim_30 : decode cX9_isDim 30 = .ok (.iload_n 2, 1) := by decide +kernel
theorem dX9_isDim_31 : decode cX9_isDim 31 = .ok (.iaload, 1) := by decide +kernel
theorem dX9_isDim_32 : decode cX9_isDim 32 = .ok (.sipush 200, 3) := by decide +kernel
theorem dX9_isDim_35 : decode cX9_isDim 35 = .ok (.if_icmp .le 7, 3) := by decide +kernel
theorem dX9_isDim_38 : decode cX9_isDim 38 = .ok (.iconst 1, 1) := by decide +kernel
theorem dX9_isDim_39 : decode cX9_isDim 39 = .ok (.goto 4, 3) := by decide +kernel
theorem dX9_isDim_42 : decode cX9_isDim 42 = .ok (.iconst 0, 1) := by decide +kernel
theorem dX9_isDim_43 : decode cX9_isDim 43 = .ok (.istore_n 1, 1) := by decide +kernel
theorem dX9_isDim_44 : decode cX9_isDim 44 = .ok (.iinc 2 1, 3) := by decide +kernel
theorem dX9_isDim_47 : decode cX9_isDim 47 = .ok (.goto (-43), 3) := by decide +kernel
theorem dX9_isDim_50 : decode cX9_isDim 50 = .ok (.iload_n 1, 1) := by decide +kernel
theorem dX9_isDim_51 : decode cX9_isDim 51 = .ok (.ireturn, 1) := by decide +kernel
theorem dX9_quotient_0 : decode cX9_quotient 0 = .ok (.iload_n 1, 1) := by decide +kernel
theorem dX9_quotient_1 : decode cX9_quotient 1 = .ok (.invokestatic 111, 3) := by decide +kernel
theorem dX9_quotient_4 : decode cX9_quotient 4 = .ok (.ifCond .eq 10, 3) := by decide +kernel
theorem dX9_quotient_7 : decode cX9_quotient 7 = .ok (.iload_n 2, 1) := by decide +kernel
theorem dX9_quotient_8 : decode cX9_quotient 8 = .ok (.invokestatic 111, 3) := by decide +kernel
theorem dX9_quotient_11 : decode cX9_quotient 11 = .ok (.ifCond .ne 9, 3) := by decide +kernel
theorem dX9_quotient_14 : decode cX9_quotient 14 = .ok (.aload_n 0, 1) := by decide +kernel
theorem dX9_quotient_15 : decode cX9_quotient 15 = .ok (.iconst 1, 1) := by decide +kernel
theorem dX9_quotient_16 : decode cX9_quotient 16 = .ok (.invokevirtual 136, 3) := by decide +kernel
theorem dX9_quotient_19 : decode cX9_quotient 19 = .ok (.ireturn, 1) := by decide +kernel
theorem dX9_quotient_20 : decode cX9_quotient 20 = .ok (.aload_n 0, 1) := by decide +kernel
theorem dX9_quotient_21 : decode cX9_quotient 21 = .ok (.getfield 13, 3) := by decide +kernel
theorem dX9_quotient_24 : decode cX9_quotient 24 = .ok (.iload_n 1, 1) := by decide +kernel
theorem dX9_quotient_25 : decode cX9_quotient 25 = .ok (.baload, 1) := by decide +kernel
theorem dX9_quotient_26 : decode cX9_quotient 26 = .ok (.ifCond .eq 12, 3) := by decide +kernel
theorem dX9_quotient_29 : decode cX9_quotient 29 = .ok (.aload_n 0, 1) := by decide +kernel
theorem dX9_quotient_30 : decode cX9_quotient 30 = .ok (.getfield 13, 3) := by decide +kernel
theorem dX9_quotient_33 : decode cX9_quotient 33 = .ok (.iload_n 2, 1) := by decide +kernel
theorem dX9_quotient_34 : decode cX9_quotient 34 = .ok (.baload, 1) := by decide +kernel
theorem dX9_quotient_35 : decode cX9_quotient 35 = .ok (.ifCond .ne 9, 3) := by decide +kernel
theorem dX9_quotient_38 : decode cX9_quotient 38 = .ok (.aload_n 0, 1) := by decide +kernel
theorem dX9_quotient_39 : decode cX9_quotient 39 = .ok (.iconst 2, 1) := by decide +kernel
theorem dX9_quotient_40 : decode cX9_quotient 40 = .ok (.invokevirtual 136, 3) := by decide +kernel
theorem dX9_quotient_43 : decode cX9_quotient 43 = .ok (.ireturn, 1) := by decide +kernel
theorem dX9_quotient_44 : decode cX9_quotient 44 = .ok (.iload_n 3, 1) := by decide +kernel
theorem dX9_quotient_45 : decode cX9_quotient 45 = .ok (.ifCond .lt 9, 3) := by decide +kernel
theorem dX9_quotient_48 : decode cX9_quotient 48 = .ok (.iload_n 3, 1) := by decide +kernel
theorem dX9_quotient_49 : decode cX9_quotient 49 = .ok (.bipush 19, 2) := by decide +kernel
theorem dX9_quotient_51 : decode cX9_quotient 51 = .ok (.if_icmp .le 9, 3) := by decide +kernel
theorem dX9_quotient_54 : decode cX9_quotient 54 = .ok (.aload_n 0, 1) := by decide +kernel
theorem dX9_quotient_55 : decode cX9_quotient 55 = .ok (.iconst 3, 1) := by decide +kernel
theorem dX9_quotient_56 : decode cX9_quotient 56 = .ok (.invokevirtual 136, 3) := by decide +kernel
theorem dX9_quotient_59 : decode cX9_quotient 59 = .ok (.ireturn, 1) := by decide +kernel
theorem dX9_quotient_60 : decode cX9_quotient 60 = .ok (.aload_n 0, 1) := by decide +kernel
theorem dX9_quotient_61 : decode cX9_quotient 61 = .ok (.iload_n 1, 1) := by decide +kernel
theorem dX9_quotient_62 : decode cX9_quotient 62 = .ok (.invokevirtual 126, 3) := by decide +kernel
theorem dX9_quotient_65 : decode cX9_quotient 65 = .ok (.ifCond .eq 11, 3) := by decide +kernel
theorem dX9_quotient_68 : decode cX9_quotient 68 = .ok (.aload_n 0, 1) := by decide +kernel
theorem dX9_quotient_69 : decode cX9_quotient 69 = .ok (.iload_n 2, 1) := by decide +kernel
theorem dX9_quotient_70 : decode cX9_quotient 70 = .ok (.invokevirtual 126, 3) := by decide +kernel
theorem dX9_quotient_73 : decode cX9_quotient 73 = .ok (.ifCond .ne 9, 3) := by decide +kernel
theorem dX9_quotient_76 : decode cX9_quotient 76 = .ok (.aload_n 0, 1) := by decide +kernel
theorem dX9_quotient_77 : decode cX9_quotient 77 = .ok (.iconst 5, 1) := by decide +kernel
theorem dX9_quotient_78 : decode cX9_quotient 78 = .ok (.invokevirtual 136, 3) := by decide +kernel
theorem dX9_quotient_81 : decode cX9_quotient 81 = .ok (.ireturn, 1) := by decide +kernel
theorem dX9_quotient_82 : decode cX9_quotient 82 = .ok (.aload_n 0, 1) := by decide +kernel
theorem dX9_quotient_83 : decode cX9_quotient 83 = .ok (.aload_n 0, 1) := by decide +kernel
theorem dX9_quotient_84 : decode cX9_quotient 84 = .ok (.getfield 60, 3) := by decide +kernel
theorem dX9_quotient_87 : decode cX9_quotient 87 = .ok (.aload_n 0, 1) := by decide +kernel
theorem dX9_quotient_88 : decode cX9_quotient 88 = .ok (.getfield 7, 3) := by decide +kernel
theorem dX9_quotient_91 : decode cX9_quotient 91 = .ok (.bipush 6, 2) := by decide +kernel
theorem dX9_quotient_93 : decode cX9_quotient 93 = .ok (.iload_n 1, 1) := by decide +kernel
theorem dX9_quotient_94 : decode cX9_quotient 94 = .ok (.imul, 1) := by decide +kernel
theorem dX9_quotient_95 : decode cX9_quotient 95 = .ok (.invokevirtual 129, 3) := by decide +kernel
theorem dX9_quotient_98 : decode cX9_quotient 98 = .ok (.aload_n 0, 1) := by decide +kernel
theorem dX9_quotient_99 : decode cX9_quotient 99 = .ok (.aload_n 0, 1) := by decide +kernel
theorem dX9_quotient_100 : decode cX9_quotient 100 = .ok (.getfield 63, 3) := by decide +kernel
theorem dX9_quotient_103 : decode cX9_quotient 103 = .ok (.aload_n 0, 1) := by decide +kernel
theorem dX9_quotient_104 : decode cX9_quotient 104 = .ok (.getfield 7, 3) := by decide +kernel
theorem dX9_quotient_107 : decode cX9_quotient 107 = .ok (.bipush 6, 2) := by decide +kernel
theorem dX9_quotient_109 : decode cX9_quotient 109 = .ok (.iload_n 2, 1) := by decide +kernel
theorem dX9_quotient_110 : decode cX9_quotient 110 = .ok (.imul, 1) := by decide +kernel
theorem dX9_quotient_111 : decode cX9_quotient 111 = .ok (.invokevirtual 129, 3) := by decide +kernel
theorem dX9_quotient_114 : decode cX9_quotient 114 = .ok (.aload_n 0, 1) := by decide +kernel
theorem dX9_quotient_115 : decode cX9_quotient 115 = .ok (.iconst 0, 1) := by decide +kernel
theorem dX9_quotient_116 : decode cX9_quotient 116 = .ok (.putfield 66, 3) := by decide +kernel
theorem dX9_quotient_119 : decode cX9_quotient 119 = .ok (.iconst 0, 1) := by decide +kernel
theorem dX9_quotient_120 : decode cX9_quotient 120 = .ok (.istore 4, 2) := by decide +kernel
theorem dX9_quotient_122 : decode cX9_quotient 122 = .ok (.iconst 0, 1) := by decide +kernel
theorem dX9_quotient_123 : decode cX9_quotient 123 = .ok (.istore 5, 2) := by decide +kernel
theorem dX9_quotient_125 : decode cX9_quotient 125 = .ok (.iconst 1, 1) := by decide +kernel
theorem dX9_quotient_126 : decode cX9_quotient 126 = .ok (.istore 6, 2) := by decide +kernel
theorem dX9_quotient_128 : decode cX9_quotient 128 = .ok (.iload 6, 2) := by decide +kernel
theorem dX9_quotient_130 : decode cX9_quotient 130 = .ok (.ifCond .lt 70, 3) := by decide +kernel
theorem dX9_quotient_133 : decode cX9_quotient 133 = .ok (.iconst 0, 1) := by decide +kernel
theorem dX9_quotient_134 : decode cX9_quotient 134 = .ok (.istore 7, 2) := by decide +kernel
theorem dX9_quotient_136 : decode cX9_quotient 136 = .ok (.iload 7, 2) := by decide +kernel
theorem dX9_quotient_138 : decode cX9_quotient 138 = .ok (.bipush 6, 2) := by decide +kernel
theorem dX9_quotient_140 : decode cX9_quotient 140 = .ok (.if_icmp .ge 34, 3) := by decide +kernel
theorem dX9_quotient_143 : decode cX9_quotient 143 = .ok (.aload_n 0, 1) := by decide +kernel
theorem dX9_quotient_144 : decode cX9_quotient 144 = .ok (.getfield 23, 3) := by decide +kernel
theorem dX9_quotient_147 : decode cX9_quotient 147 = .ok (.iload 7, 2) := by decide +kernel
theorem dX9_quotient_149 : decode cX9_quotient 149 = .ok (.aload_n 0, 1) := by decide +kernel
theorem dX9_quotient_150 : decode cX9_quotient 150 = .ok (.getfield 60, 3) := by decide +kernel
theorem dX9_quotient_153 : decode cX9_quotient 153 = .ok (.iload 7, 2) := by decide +kernel
theorem dX9_quotient_155 : decode cX9_quotient 155 = .ok (.iaload, 1) := by decide +kernel
theorem dX9_quotient_156 : decode cX9_quotient 156 = .ok (.iload 5, 2) := by decide +kernel
theorem dX9_quotient_158 : decode cX9_quotient 158 = .ok (.aload_n 0, 1) := by decide +kernel
theorem dX9_quotient_159 : decode cX9_quotient 159 = .ok (.getfield 63, 3) := by decide +kernel
theorem dX9_quotient_162 : decode cX9_quotient 162 = .ok (.iload 7, 2) := by decide +kernel
theorem dX9_quotient_164 : decode cX9_quotient 164 = .ok (.iaload, 1) := by decide +kernel
theorem dX9_quotient_165 : decode cX9_quotient 165 = .ok (.imul, 1) := by decide +kernel
theorem dX9_quotient_166 : decode cX9_quotient 166 = .ok (.isub, 1) := by decide +kernel
theorem dX9_quotient_167 : decode cX9_quotient 167 = .ok (.iastore, 1) := by decide +kernel
theorem dX9_quotient_168 : decode cX9_quotient 168 = .ok (.iinc 7 1, 3) := by decide +kernel
theorem dX9_quotient_171 : decode cX9_quotient 171 = .ok (.goto (-35), 3) := by decide +kernel
theorem dX9_quotient_174 : decode cX9_quotient 174 = .ok (.aload_n 0, 1) := by decide +kernel
theorem dX9_quotient_175 : decode cX9_quotient 175 = .ok (.invokevirtual 209, 3) := by decide +kernel
theorem dX9_quotient_178 : decode cX9_quotient 178 = .ok (.ifCond .eq 10, 3) := by decide +kernel
theorem dX9_quotient_181 : decode cX9_quotient 181 = .ok (.aload_n 0, 1) := by decide +kernel
theorem dX9_quotient_182 : decode cX9_quotient 182 = .ok (.bipush 9, 2) := by decide +kernel
theorem dX9_quotient_184 : decode cX9_quotient 184 = .ok (.invokevirtual 136, 3) := by decide +kernel
theorem dX9_quotient_187 : decode cX9_quotient 187 = .ok (.ireturn, 1) := by decide +kernel
theorem dX9_quotient_188 : decode cX9_quotient 188 = .ok (.aload_n 0, 1) := by decide +kernel
theorem dX9_quotient_189 : decode cX9_quotient 189 = .ok (.invokevirtual 96, 3) := by decide +kernel
theorem dX9_quotient_192 : decode cX9_quotient 192 = .ok (.istore 6, 2) := by decide +kernel
theorem dX9_quotient_194 : decode cX9_quotient 194 = .ok (.iinc 5 1, 3) := by decide +kernel
theorem dX9_quotient_197 : decode cX9_quotient 197 = .ok (.goto (-69), 3) := by decide +kernel
theorem dX9_quotient_200 : decode cX9_quotient 200 = .ok (.iinc 5 (-2), 3) := by decide +kernel
theorem dX9_quotient_203 : decode cX9_quotient 203 = .ok (.iload 4, 2) := by decide +kernel
theorem dX9_quotient_205 : decode cX9_quotient 205 = .ok (.iload_n 3, 1) := by decide +kernel
theorem dX9_quotient_206 : decode cX9_quotient 206 = .ok (.if_icmp .ne 6, 3) := by decide +kernel
theorem dX9_quotient_209 : decode cX9_quotient 209 = .ok (.iload 5, 2) := by decide +kernel
theorem dX9_quotient_211 : decode cX9_quotient 211 = .ok (.ireturn, 1) := by decide +kernel
theorem dX9_quotient_212 : decode cX9_quotient 212 = .ok (.iconst 1, 1) := by decide +kernel
theorem dX9_quotient_213 : decode cX9_quotient 213 = .ok (.istore 7, 2) := by decide +kernel
theorem dX9_quotient_215 : decode cX9_quotient 215 = .ok (.iconst 0, 1) := by decide +kernel
theorem dX9_quotient_216 : decode cX9_quotient 216 = .ok (.istore 8, 2) := by decide +kernel
theorem dX9_quotient_218 : decode cX9_quotient 218 = .ok (.iload 8, 2) := by decide +kernel
theorem dX9_quotient_220 : decode cX9_quotient 220 = .ok (.bipush 6, 2) := by decide +kernel
theorem dX9_quotient_222 : decode cX9_quotient 222 = .ok (.if_icmp .ge 69, 3) := by decide +kernel
theorem dX9_quotient_225 : decode cX9_quotient 225 = .ok (.aload_n 0, 1) := by decide +kernel
theorem dX9_quotient_226 : decode cX9_quotient 226 = .ok (.getfield 60, 3) := by decide +kernel
theorem dX9_quotient_229 : decode cX9_quotient 229 = .ok (.iload 8, 2) := by decide +kernel
theorem dX9_quotient_231 : decode cX9_quotient 231 = .ok (.iaload, 1) := by decide +kernel
theorem dX9_quotient_232 : decode cX9_quotient 232 = .ok (.iload 5, 2) := by decide +kernel
theorem dX9_quotient_234 : decode cX9_quotient 234 = .ok (.aload_n 0, 1) := by decide +kernel
theorem dX9_quotient_235 : decode cX9_quotient 235 = .ok (.getfield 63, 3) := by decide +kernel
theorem dX9_quotient_238 : decode cX9_quotient 238 = .ok (.iload 8, 2) := by decide +kernel
theorem dX9_quotient_240 : decode cX9_quotient 240 = .ok (.iaload, 1) := by decide +kernel
theorem dX9_quotient_241 : decode cX9_quotient 241 = .ok (.imul, 1) := by decide +kernel
theorem dX9_quotient_242 : decode cX9_quotient 242 = .ok (.isub, 1) := by decide +kernel
theorem dX9_quotient_243 : decode cX9_quotient 243 = .ok (.istore 9, 2) := by decide +kernel
theorem dX9_quotient_245 : decode cX9_quotient 245 = .ok (.aload_n 0, 1) := by decide +kernel
theorem dX9_quotient_246 : decode cX9_quotient 246 = .ok (.getfield 60, 3) := by decide +kernel
theorem dX9_quotient_249 : decode cX9_quotient 249 = .ok (.iload 8, 2) := by decide +kernel
theorem dX9_quotient_251 : decode cX9_quotient 251 = .ok (.aload_n 0, 1) := by decide +kernel
theorem dX9_quotient_252 : decode cX9_quotient 252 = .ok (.getfield 63, 3) := by decide +kernel
theorem dX9_quotient_255 : decode cX9_quotient 255 = .ok (.iload 8, 2) := by decide +kernel
theorem dX9_quotient_257 : decode cX9_quotient 257 = .ok (.iaload, 1) := by decide +kernel
theorem dX9_quotient_258 : decode cX9_quotient 258 = .ok (.iastore, 1) := by decide +kernel
theorem dX9_quotient_259 : decode cX9_quotient 259 = .ok (.aload_n 0, 1) := by decide +kernel
theorem dX9_quotient_260 : decode cX9_quotient 260 = .ok (.getfield 63, 3) := by decide +kernel
theorem dX9_quotient_263 : decode cX9_quotient 263 = .ok (.iload 8, 2) := by decide +kernel
theorem dX9_quotient_265 : decode cX9_quotient 265 = .ok (.iload 9, 2) := by decide +kernel
theorem dX9_quotient_267 : decode cX9_quotient 267 = .ok (.iastore, 1) := by decide +kernel
theorem dX9_quotient_268 : decode cX9_quotient 268 = .ok (.iload 7, 2) := by decide +kernel
theorem dX9_quotient_270 : decode cX9_quotient 270 = .ok (.ifCond .eq 12, 3) := by decide +kernel
theorem dX9_quotient_273 : decode cX9_quotient 273 = .ok (.iload 9, 2) := by decide +kernel
theorem dX9_quotient_275 : decode cX9_quotient 275 = .ok (.ifCond .ne 7, 3) := by decide +kernel
theorem dX9_quotient_278 : decode cX9_quotient 278 = .ok (.iconst 1, 1) := by decide +kernel
theorem dX9_quotient_279 : decode cX9_quotient 279 = .ok (.goto 4, 3) := by decide +kernel
theorem dX9_quotient_282 : decode cX9_quotient 282 = .ok (.iconst 0, 1) := by decide +kernel
theorem dX9_quotient_283 : decode cX9_quotient 283 = .ok (.istore 7, 2) := by decide +kernel
theorem dX9_quotient_285 : decode cX9_quotient 285 = .ok (.iinc 8 1, 3) := by decide +kernel
theorem dX9_quotient_288 : decode cX9_quotient 288 = .ok (.goto (-70), 3) := by decide +kernel
theorem dX9_quotient_291 : decode cX9_quotient 291 = .ok (.iload 7, 2) := by decide +kernel
theorem dX9_quotient_293 : decode cX9_quotient 293 = .ok (.ifCond .eq 6, 3) := by decide +kernel
theorem dX9_quotient_296 : decode cX9_quotient 296 = .ok (.bipush (-2), 2) := by decide +kernel
theorem dX9_quotient_298 : decode cX9_quotient 298 = .ok (.ireturn, 1) := by decide +kernel
theorem dX9_quotient_299 : decode cX9_quotient 299 = .ok (.iinc 4 1, 3) := by decide +kernel
theorem dX9_quotient_302 : decode cX9_quotient 302 = .ok (.goto (-180), 3) := by decide +kernel
end
section
theorem dL_law_0 : decode cL_law 0 = .ok (.new 7, 3) := by decide +kernel
theorem dL_law_3 : decode cL_law 3 = .ok (.dup, 1) := by decide +kernel
theorem dL_law_4 : decode cL_law 4 = .ok (.invokespecial 9, 3) := by decide +kernel
theorem dL_law_7 : decode cL_law 7 = .ok (.astore_n 1, 1) := by decide +kernel
theorem dL_law_8 : decode cL_law 8 = .ok (.new 10, 3) := by decide +kernel
theorem dL_law_11 : decode cL_law 11 = .ok (.dup, 1) := by decide +kernel
theorem dL_law_12 : decode cL_law 12 = .ok (.invokespecial 12, 3) := by decide +kernel
theorem dL_law_15 : decode cL_law 15 = .ok (.astore_n 2, 1) := by decide +kernel
theorem dL_law_16 : decode cL_law 16 = .ok (.iconst 0, 1) := by decide +kernel
theorem dL_law_17 : decode cL_law 17 = .ok (.istore_n 3, 1) := by decide +kernel
theorem dL_law_18 : decode cL_law 18 = .ok (.iload_n 3, 1) := by decide +kernel
theorem dL_law_19 : decode cL_law 19 = .ok (.aload_n 0, 1) := by decide +kernel
theorem dL_law_20 : decode cL_law 20 = .ok (.arraylength, 1) := by decide +kernel
theorem dL_law_21 : decode cL_law 21 = .ok (.bipush 8, 2) := by decide +kernel
theorem dL_law_23 : decode cL_law 23 = .ok (.isub, 1) := by decide +kernel
theorem dL_law_24 : decode cL_law 24 = .ok (.if_icmp .gt 991, 3) := by decide +kernel
theorem dL_law_27 : decode cL_law 27 = .ok (.aload_n 0, 1) := by decide +kernel
theorem dL_law_28 : decode cL_law 28 = .ok (.iload_n 3, 1) := by decide +kernel
theorem dL_law_29 : decode cL_law 29 = .ok (.iaload, 1) := by decide +kernel
theorem dL_law_30 : decode cL_law 30 = .ok (.bipush 31, 2) := by decide +kernel
theorem dL_law_32 : decode cL_law 32 = .ok (.iand, 1) := by decide +kernel
theorem dL_law_33 : decode cL_law 33 = .ok (.tableswitch 976 0 27 #[127, 140, 227, 270, 323, 366, 389, 422, 455, 478, 501, 534, 567, 590, 603, 616, 630, 653, 676, 699, 722, 765, 798, 821, 844, 887, 910, 933], 127) := by decide +kernel
theorem dL_law_160 : decode cL_law 160 = .ok (.aload_n 1, 1) := by decide +kernel
theorem dL_law_161 : decode cL_law 161 = .ok (.invokevirtual 13, 3) := by decide +kernel
theorem dL_law_164 : decode cL_law 164 = .ok (.aload_n 2, 1) := by decide +kernel
theorem dL_law_165 : decode cL_law 165 = .ok (.invokevirtual 17, 3) := by decide +kernel
theorem dL_law_168 : decode cL_law 168 = .ok (.if_icmp .eq 841, 3) := by decide +kernel
theorem dL_law_171 : decode cL_law 171 = .ok (.iconst 0, 1) := by decide +kernel
theorem dL_law_172 : decode cL_law 172 = .ok (.ireturn, 1) := by decide +kernel
theorem dL_law_173 : decode cL_law 173 = .ok (.aload_n 1, 1) := by decide +kernel
theorem dL_law_174 : decode cL_law 174 = .ok (.aload_n 0, 1) := by decide +kernel
theorem dL_law_175 : decode cL_law 175 = .ok (.iload_n 3, 1) := by decide +kernel
theorem dL_law_176 : decode cL_law 176 = .ok (.iconst 1, 1) := by decide +kernel
theorem dL_law_177 : decode cL_law 177 = .ok (.iadd, 1) := by decide +kernel
theorem dL_law_178 : decode cL_law 178 = .ok (.iaload, 1) := by decide +kernel
theorem dL_law_179 : decode cL_law 179 = .ok (.aload_n 0, 1) := by decide +kernel
theorem dL_law_180 : decode cL_law 180 = .ok (.iload_n 3, 1) := by decide +kernel
theorem dL_law_181 : decode cL_law 181 = .ok (.iconst 2, 1) := by decide +kernel
theorem dL_law_182 : decode cL_law 182 = .ok (.iadd, 1) := by decide +kernel
theorem dL_law_183 : decode cL_law 183 = .ok (.iaload, 1) := by decide +kernel
theorem dL_law_184 : decode cL_law 184 = .ok (.aload_n 0, 1) := by decide +kernel
theorem dL_law_185 : decode cL_law 185 = .ok (.iload_n 3, 1) := by decide +kernel
theorem dL_law_186 : decode cL_law 186 = .ok (.iconst 3, 1) := by decide +kernel
theorem dL_law_187 : decode cL_law 187 = .ok (.iadd, 1) := by decide +kernel
theorem dL_law_188 : decode cL_law 188 = .ok (.iaload, 1) := by decide +kernel
theorem dL_law_189 : decode cL_law 189 = .ok (.aload_n 0, 1) := by decide +kernel
theorem dL_law_190 : decode cL_law 190 = .ok (.iload_n 3, 1) := by decide +kernel
theorem dL_law_191 : decode cL_law 191 = .ok (.iconst 4, 1) := by decide +kernel
theorem dL_law_192 : decode cL_law 192 = .ok (.iadd, 1) := by decide +kernel
theorem dL_law_193 : decode cL_law 193 = .ok (.iaload, 1) := by decide +kernel
theorem dL_law_194 : decode cL_law 194 = .ok (.aload_n 0, 1) := by decide +kernel
theorem dL_law_195 : decode cL_law 195 = .ok (.iload_n 3, 1) := by decide +kernel
theorem dL_law_196 : decode cL_law 196 = .ok (.iconst 5, 1) := by decide +kernel
theorem dL_law_197 : decode cL_law 197 = .ok (.iadd, 1) := by decide +kernel
theorem dL_law_198 : decode cL_law 198 = .ok (.iaload, 1) := by decide +kernel
theorem dL_law_199 : decode cL_law 199 = .ok (.aload_n 0, 1) := by decide +kernel
theorem dL_law_200 : decode cL_law 200 = .ok (.iload_n 3, 1) := by decide +kernel
theorem dL_law_201 : decode cL_law 201 = .ok (.bipush 6, 2) := by decide +kernel
theorem dL_law_203 : decode cL_law 203 = .ok (.iadd, 1) := by decide +kernel
theorem dL_law_204 : decode cL_law 204 = .ok (.iaload, 1) := by decide +kernel
theorem dL_law_205 : decode cL_law 205 = .ok (.aload_n 0, 1) := by decide +kernel
theorem dL_law_206 : decode cL_law 206 = .ok (.iload_n 3, 1) := by decide +kernel
theorem dL_law_207 : decode cL_law 207 = .ok (.bipush 7, 2) := by decide +kernel
theorem dL_law_209 : decode cL_law 209 = .ok (.iadd, 1) := by decide +kernel
theorem dL_law_210 : decode cL_law 210 = .ok (.iaload, 1) := by decide +kernel
theorem dL_law_211 : decode cL_law 211 = .ok (.invokevirtual 18, 3) := by decide +kernel
theorem dL_law_214 : decode cL_law 214 = .ok (.aload_n 2, 1) := by decide +kernel
theorem dL_law_215 : decode cL_law 215 = .ok (.aload_n 0, 1) := by decide +kernel
theorem dL_law_216 : decode cL_law 216 = .ok (.iload_n 3, 1) := by decide +kernel
theorem dL_law_217 : decode cL_law 217 = .ok (.iconst 1, 1) := by decide +kernel
theorem dL_law_218 : decode cL_law 218 = .ok (.iadd, 1) := by decide +kernel
theorem dL_law_219 : decode cL_law 219 = .ok (.iaload, 1) := by decide +kernel
theorem dL_law_220 : decode cL_law 220 = .ok (.aload_n 0, 1) := by decide +kernel
theorem dL_law_221 : decode cL_law 221 = .ok (.iload_n 3, 1) := by decide +kernel
theorem dL_law_222 : decode cL_law 222 = .ok (.iconst 2, 1) := by decide +kernel
theorem dL_law_223 : decode cL_law 223 = .ok (.iadd, 1) := by decide +kernel
theorem dL_law_224 : decode cL_law 224 = .ok (.iaload, 1) := by decide +kernel
theorem dL_law_225 : decode cL_law 225 = .ok (.aload_n 0, 1) := by decide +kernel
theorem dL_law_226 : decode cL_law 226 = .ok (.iload_n 3, 1) := by decide +kernel
theorem dL_law_227 : decode cL_law 227 = .ok (.iconst 3, 1) := by decide +kernel
theorem dL_law_228 : decode cL_law 228 = .ok (.iadd, 1) := by decide +kernel
theorem dL_law_229 : decode cL_law 229 = .ok (.iaload, 1) := by decide +kernel
theorem dL_law_230 : decode cL_law 230 = .ok (.aload_n 0, 1) := by decide +kernel
theorem dL_law_231 : decode cL_law 231 = .ok (.iload_n 3, 1) := by decide +kernel
theorem dL_law_232 : decode cL_law 232 = .ok (.iconst 4, 1) := by decide +kernel
theorem dL_law_233 : decode cL_law 233 = .ok (.iadd, 1) := by decide +kernel
theorem dL_law_234 : decode cL_law 234 = .ok (.iaload, 1) := by decide +kernel
theorem dL_law_235 : decode cL_law 235 = .ok (.aload_n 0, 1) := by decide +kernel
theorem dL_law_236 : decode cL_law 236 = .ok (.iload_n 3, 1) := by decide +kernel
theorem dL_law_237 : decode cL_law 237 = .ok (.iconst 5, 1) := by decide +kernel
theorem dL_law_238 : decode cL_law 238 = .ok (.iadd, 1) := by decide +kernel
theorem dL_law_239 : decode cL_law 239 = .ok (.iaload, 1) := by decide +kernel
theorem dL_law_240 : decode cL_law 240 = .ok (.aload_n 0, 1) := by decide +kernel
theorem dL_law_241 : decode cL_law 241 = .ok (.iload_n 3, 1) := by decide +kernel
theorem dL_law_242 : decode cL_law 242 = .ok (.bipush 6, 2) := by decide +kernel
theorem dL_law_244 : decode cL_law 244 = .ok (.iadd, 1) := by decide +kernel
theorem dL_law_245 : decode cL_law 245 = .ok (.iaload, 1) := by decide +kernel
theorem dL_law_246 : decode cL_law 246 = .ok (.aload_n 0, 1) := by decide +kernel
theorem dL_law_247 : decode cL_law 247 = .ok (.iload_n 3, 1) := by decide +kernel
theorem dL_law_248 : decode cL_law 248 = .ok (.bipush 7, 2) := by decide +kernel
theorem dL_law_250 : decode cL_law 250 = .ok (.iadd, 1) := by decide +kernel
theorem dL_law_251 : decode cL_law 251 = .ok (.iaload, 1) := by decide +kernel
theorem dL_law_252 : decode cL_law 252 = .ok (.invokevirtual 22, 3) := by decide +kernel
theorem dL_law_255 : decode cL_law 255 = .ok (.if_icmp .eq 754, 3) := by decide +kernel
theorem dL_law_258 : decode cL_law 258 = .ok (.iconst 0, 1) := by decide +kernel
theorem dL_law_259 : decode cL_law 259 = .ok (.ireturn, 1) := by decide +kernel
theorem dL_law_260 : decode cL_law 260 = .ok (.aload_n 1, 1) := by decide +kernel
theorem dL_law_261 : decode cL_law 261 = .ok (.aload_n 0, 1) := by decide +kernel
theorem dL_law_262 : decode cL_law 262 = .ok (.iload_n 3, 1) := by decide +kernel
theorem dL_law_263 : decode cL_law 263 = .ok (.iconst 1, 1) := by decide +kernel
theorem dL_law_264 : decode cL_law 264 = .ok (.iadd, 1) := by decide +kernel
theorem dL_law_265 : decode cL_law 265 = .ok (.iaload, 1) := by decide +kernel
theorem dL_law_266 : decode cL_law 266 = .ok (.aload_n 0, 1) := by decide +kernel
theorem dL_law_267 : decode cL_law 267 = .ok (.iload_n 3, 1) := by decide +kernel
theorem dL_law_268 : decode cL_law 268 = .ok (.iconst 2, 1) := by decide +kernel
theorem dL_law_269 : decode cL_law 269 = .ok (.iadd, 1) := by decide +kernel
theorem dL_law_270 : decode cL_law 270 = .ok (.iaload, 1) := by decide +kernel
theorem dL_law_271 : decode cL_law 271 = .ok (.aload_n 0, 1) := by decide +kernel
theorem dL_law_272 : decode cL_law 272 = .ok (.iload_n 3, 1) := by decide +kernel
theorem dL_law_273 : decode cL_law 273 = .ok (.iconst 3, 1) := by decide +kernel
theorem dL_law_274 : decode cL_law 274 = .ok (.iadd, 1) := by decide +kernel
theorem dL_law_275 : decode cL_law 275 = .ok (.iaload, 1) := by decide +kernel
theorem dL_law_276 : decode cL_law 276 = .ok (.invokevirtual 23, 3) := by decide +kernel
theorem dL_law_279 : decode cL_law 279 = .ok (.aload_n 2, 1) := by decide +kernel
theorem dL_law_280 : decode cL_law 280 = .ok (.aload_n 0, 1) := by decide +kernel
theorem dL_law_281 : decode cL_law 281 = .ok (.iload_n 3, 1) := by decide +kernel
theorem dL_law_282 : decode cL_law 282 = .ok (.iconst 1, 1) := by decide +kernel
theorem dL_law_283 : decode cL_law 283 = .ok (.iadd, 1) := by decide +kernel
theorem dL_law_284 : decode cL_law 284 = .ok (.iaload, 1) := by decide +kernel
theorem dL_law_285 : decode cL_law 285 = .ok (.aload_n 0, 1) := by decide +kernel
theorem dL_law_286 : decode cL_law 286 = .ok (.iload_n 3, 1) := by decide +kernel
theorem dL_law_287 : decode cL_law 287 = .ok (.iconst 2, 1) := by decide +kernel
theorem dL_law_288 : decode cL_law 288 = .ok (.iadd, 1) := by decide +kernel
theorem dL_law_289 : decode cL_law 289 = .ok (.iaload, 1) := by decide +kernel
theorem dL_law_290 : decode cL_law 290 = .ok (.aload_n 0, 1) := by decide +kernel
theorem dL_law_291 : decode cL_law 291 = .ok (.iload_n 3, 1) := by decide +kernel
theorem dL_law_292 : decode cL_law 292 = .ok (.iconst 3, 1) := by decide +kernel
theorem dL_law_293 : decode cL_law 293 = .ok (.iadd, 1) := by decide +kernel
theorem dL_law_294 : decode cL_law 294 = .ok (.iaload, 1) := by decide +kernel
theorem dL_law_295 : decode cL_law 295 = .ok (.invokevirtual 27, 3) := by decide +kernel
theorem dL_law_298 : decode cL_law 298 = .ok (.if_icmp .eq 711, 3) := by decide +kernel
theorem dL_law_301 : decode cL_law 301 = .ok (.iconst 0, 1) := by decide +kernel
theorem dL_law_302 : decode cL_law 302 = .ok (.ireturn, 1) := by decide +kernel
theorem dL_law_303 : decode cL_law 303 = .ok (.aload_n 1, 1) := by decide +kernel
theorem dL_law_304 : decode cL_law 304 = .ok (.aload_n 0, 1) := by decide +kernel
theorem dL_law_305 : decode cL_law 305 = .ok (.iload_n 3, 1) := by decide +kernel
theorem dL_law_306 : decode cL_law 306 = .ok (.iconst 1, 1) := by decide +kernel
theorem dL_law_307 : decode cL_law 307 = .ok (.iadd, 1) := by decide +kernel
theorem dL_law_308 : decode cL_law 308 = .ok (.iaload, 1) := by decide +kernel
theorem dL_law_309 : decode cL_law 309 = .ok (.aload_n 0, 1) := by decide +kernel
theorem dL_law_310 : decode cL_law 310 = .ok (.iload_n 3, 1) := by decide +kernel
theorem dL_law_311 : decode cL_law 311 = .ok (.iconst 2, 1) := by decide +kernel
theorem dL_law_312 : decode cL_law 312 = .ok (.iadd, 1) := by decide +kernel
theorem dL_law_313 : decode cL_law 313 = .ok (.iaload, 1) := by decide +kernel
theorem dL_law_314 : decode cL_law 314 = .ok (.aload_n 0, 1) := by decide +kernel
theorem dL_law_315 : decode cL_law 315 = .ok (.iload_n 3, 1) := by decide +kernel
theorem dL_law_316 : decode cL_law 316 = .ok (.iconst 3, 1) := by decide +kernel
theorem dL_law_317 : decode cL_law 317 = .ok (.iadd, 1) := by decide +kernel
theorem dL_law_318 : decode cL_law 318 = .ok (.iaload, 1) := by decide +kernel
theorem dL_law_319 : decode cL_law 319 = .ok (.aload_n 0, 1) := by decide +kernel
theorem dL_law_320 : decode cL_law 320 = .ok (.iload_n 3, 1) := by decide +kernel
theorem dL_law_321 : decode cL_law 321 = .ok (.iconst 4, 1) := by decide +kernel
theorem dL_law_322 : decode cL_law 322 = .ok (.iadd, 1) := by decide +kernel
theorem dL_law_323 : decode cL_law 323 = .ok (.iaload, 1) := by decide +kernel
theorem dL_law_324 : decode cL_law 324 = .ok (.invokevirtual 28, 3) := by decide +kernel
theorem dL_law_327 : decode cL_law 327 = .ok (.aload_n 2, 1) := by decide +kernel
theorem dL_law_328 : decode cL_law 328 = .ok (.aload_n 0, 1) := by decide +kernel
theorem dL_law_329 : decode cL_law 329 = .ok (.iload_n 3, 1) := by decide +kernel
theorem dL_law_330 : decode cL_law 330 = .ok (.iconst 1, 1) := by decide +kernel
theorem dL_law_331 : decode cL_law 331 = .ok (.iadd, 1) := by decide +kernel
theorem dL_law_332 : decode cL_law 332 = .ok (.iaload, 1) := by decide +kernel
theorem dL_law_333 : decode cL_law 333 = .ok (.aload_n 0, 1) := by decide +kernel
theorem dL_law_334 : decode cL_law 334 = .ok (.iload_n 3, 1) := by decide +kernel
theorem dL_law_335 : decode cL_law 335 = .ok (.iconst 2, 1) := by decide +kernel
theorem dL_law_336 : decode cL_law 336 = .ok (.iadd, 1) := by decide +kernel
theorem dL_law_337 : decode cL_law 337 = .ok (.iaload, 1) := by decide +kernel
theorem dL_law_338 : decode cL_law 338 = .ok (.aload_n 0, 1) := by decide +kernel
theorem dL_law_339 : decode cL_law 339 = .ok (.iload_n 3, 1) := by decide +kernel
theorem dL_law_340 : decode cL_law 340 = .ok (.iconst 3, 1) := by decide +kernel
theorem dL_law_341 : decode cL_law 341 = .ok (.iadd, 1) := by decide +kernel
theorem dL_law_342 : decode cL_law 342 = .ok (.iaload, 1) := by decide +kernel
theorem dL_law_343 : decode cL_law 343 = .ok (.aload_n 0, 1) := by decide +kernel
theorem dL_law_344 : decode cL_law 344 = .ok (.iload_n 3, 1) := by decide +kernel
theorem dL_law_345 : decode cL_law 345 = .ok (.iconst 4, 1) := by decide +kernel
theorem dL_law_346 : decode cL_law 346 = .ok (.iadd, 1) := by decide +kernel
theorem dL_law_347 : decode cL_law 347 = .ok (.iaload, 1) := by decide +kernel
theorem dL_law_348 : decode cL_law 348 = .ok (.invokevirtual 32, 3) := by decide +kernel
theorem dL_law_351 : decode cL_law 351 = .ok (.if_icmp .eq 658, 3) := by decide +kernel
theorem dL_law_354 : decode cL_law 354 = .ok (.iconst 0, 1) := by decide +kernel
theorem dL_law_355 : decode cL_law 355 = .ok (.ireturn, 1) := by decide +kernel
theorem dL_law_356 : decode cL_law 356 = .ok (.aload_n 1, 1) := by decide +kernel
theorem dL_law_357 : decode cL_law 357 = .ok (.aload_n 0, 1) := by decide +kernel
theorem dL_law_358 : decode cL_law 358 = .ok (.iload_n 3, 1) := by decide +kernel
theorem dL_law_359 : decode cL_law 359 = .ok (.iconst 1, 1) := by decide +kernel
theorem dL_law_360 : decode cL_law 360 = .ok (.iadd, 1) := by decide +kernel
theorem dL_law_361 : decode cL_law 361 = .ok (.iaload, 1) := by decide +kernel
theorem dL_law_362 : decode cL_law 362 = .ok (.aload_n 0, 1) := by decide +kernel
theorem dL_law_363 : decode cL_law 363 = .ok (.iload_n 3, 1) := by decide +kernel
theorem dL_law_364 : decode cL_law 364 = .ok (.iconst 2, 1) := by decide +kernel
theorem dL_law_365 : decode cL_law 365 = .ok (.iadd, 1) := by decide +kernel
theorem dL_law_366 : decode cL_law 366 = .ok (.iaload, 1) := by decide +kernel
theorem dL_law_367 : decode cL_law 367 = .ok (.aload_n 0, 1) := by decide +kernel
theorem dL_law_368 : decode cL_law 368 = .ok (.iload_n 3, 1) := by decide +kernel
theorem dL_law_369 : decode cL_law 369 = .ok (.iconst 3, 1) := by decide +kernel
theorem dL_law_370 : decode cL_law 370 = .ok (.iadd, 1) := by decide +kernel
theorem dL_law_371 : decode cL_law 371 = .ok (.iaload, 1) := by decide +kernel
theorem dL_law_372 : decode cL_law 372 = .ok (.invokevirtual 33, 3) := by decide +kernel
theorem dL_law_375 : decode cL_law 375 = .ok (.aload_n 2, 1) := by decide +kernel
theorem dL_law_376 : decode cL_law 376 = .ok (.aload_n 0, 1) := by decide +kernel
theorem dL_law_377 : decode cL_law 377 = .ok (.iload_n 3, 1) := by decide +kernel
theorem dL_law_378 : decode cL_law 378 = .ok (.iconst 1, 1) := by decide +kernel
theorem dL_law_379 : decode cL_law 379 = .ok (.iadd, 1) := by decide +kernel
theorem dL_law_380 : decode cL_law 380 = .ok (.iaload, 1) := by decide +kernel
theorem dL_law_381 : decode cL_law 381 = .ok (.aload_n 0, 1) := by decide +kernel
theorem dL_law_382 : decode cL_law 382 = .ok (.iload_n 3, 1) := by decide +kernel
theorem dL_law_383 : decode cL_law 383 = .ok (.iconst 2, 1) := by decide +kernel
theorem dL_law_384 : decode cL_law 384 = .ok (.iadd, 1) := by decide +kernel
theorem dL_law_385 : decode cL_law 385 = .ok (.iaload, 1) := by decide +kernel
theorem dL_law_386 : decode cL_law 386 = .ok (.aload_n 0, 1) := by decide +kernel
theorem dL_law_387 : decode cL_law 387 = .ok (.iload_n 3, 1) := by decide +kernel
theorem dL_law_388 : decode cL_law 388 = .ok (.iconst 3, 1) := by decide +kernel
theorem dL_law_389 : decode cL_law 389 = .ok (.iadd, 1) := by decide +kernel
theorem dL_law_390 : decode cL_law 390 = .ok (.iaload, 1) := by decide +kernel
theorem dL_law_391 : decode cL_law 391 = .ok (.invokevirtual 36, 3) := by decide +kernel
theorem dL_law_394 : decode cL_law 394 = .ok (.if_icmp .eq 615, 3) := by decide +kernel
theorem dL_law_397 : decode cL_law 397 = .ok (.iconst 0, 1) := by decide +kernel
theorem dL_law_398 : decode cL_law 398 = .ok (.ireturn, 1) := by decide +kernel
theorem dL_law_399 : decode cL_law 399 = .ok (.aload_n 1, 1) := by decide +kernel
theorem dL_law_400 : decode cL_law 400 = .ok (.aload_n 0, 1) := by decide +kernel
theorem dL_law_401 : decode cL_law 401 = .ok (.iload_n 3, 1) := by decide +kernel
theorem dL_law_402 : decode cL_law 402 = .ok (.iconst 1, 1) := by decide +kernel
theorem dL_law_403 : decode cL_law 403 = .ok (.iadd, 1) := by decide +kernel
theorem dL_law_404 : decode cL_law 404 = .ok (.iaload, 1) := by decide +kernel
theorem dL_law_405 : decode cL_law 405 = .ok (.invokevirtual 37, 3) := by decide +kernel
theorem dL_law_408 : decode cL_law 408 = .ok (.aload_n 2, 1) := by decide +kernel
theorem dL_law_409 : decode cL_law 409 = .ok (.aload_n 0, 1) := by decide +kernel
theorem dL_law_410 : decode cL_law 410 = .ok (.iload_n 3, 1) := by decide +kernel
theorem dL_law_411 : decode cL_law 411 = .ok (.iconst 1, 1) := by decide +kernel
theorem dL_law_412 : decode cL_law 412 = .ok (.iadd, 1) := by decide +kernel
theorem dL_law_413 : decode cL_law 413 = .ok (.iaload, 1) := by decide +kernel
theorem dL_law_414 : decode cL_law 414 = .ok (.invokevirtual 41, 3) := by decide +kernel
theorem dL_law_417 : decode cL_law 417 = .ok (.if_icmp .eq 592, 3) := by decide +kernel
theorem dL_law_420 : decode cL_law 420 = .ok (.iconst 0, 1) := by decide +kernel
theorem dL_law_421 : decode cL_law 421 = .ok (.ireturn, 1) := by decide +kernel
theorem dL_law_422 : decode cL_law 422 = .ok (.aload_n 1, 1) := by decide +kernel
theorem dL_law_423 : decode cL_law 423 = .ok (.aload_n 0, 1) := by decide +kernel
theorem dL_law_424 : decode cL_law 424 = .ok (.iload_n 3, 1) := by decide +kernel
theorem dL_law_425 : decode cL_law 425 = .ok (.iconst 1, 1) := by decide +kernel
theorem dL_law_426 : decode cL_law 426 = .ok (.iadd, 1) := by decide +kernel
theorem dL_law_427 : decode cL_law 427 = .ok (.iaload, 1) := by decide +kernel
theorem dL_law_428 : decode cL_law 428 = .ok (.aload_n 0, 1) := by decide +kernel
theorem dL_law_429 : decode cL_law 429 = .ok (.iload_n 3, 1) := by decide +kernel
theorem dL_law_430 : decode cL_law 430 = .ok (.iconst 2, 1) := by decide +kernel
theorem dL_law_431 : decode cL_law 431 = .ok (.iadd, 1) := by decide +kernel
theorem dL_law_432 : decode cL_law 432 = .ok (.iaload, 1) := by decide +kernel
theorem dL_law_433 : decode cL_law 433 = .ok (.invokevirtual 42, 3) := by decide +kernel
theorem dL_law_436 : decode cL_law 436 = .ok (.aload_n 2, 1) := by decide +kernel
theorem dL_law_437 : decode cL_law 437 = .ok (.aload_n 0, 1) := by decide +kernel
theorem dL_law_438 : decode cL_law 438 = .ok (.iload_n 3, 1) := by decide +kernel
theorem dL_law_439 : decode cL_law 439 = .ok (.iconst 1, 1) := by decide +kernel
theorem dL_law_440 : decode cL_law 440 = .ok (.iadd, 1) := by decide +kernel
theorem dL_law_441 : decode cL_law 441 = .ok (.iaload, 1) := by decide +kernel
theorem dL_law_442 : decode cL_law 442 = .ok (.aload_n 0, 1) := by decide +kernel
theorem dL_law_443 : decode cL_law 443 = .ok (.iload_n 3, 1) := by decide +kernel
theorem dL_law_444 : decode cL_law 444 = .ok (.iconst 2, 1) := by decide +kernel
theorem dL_law_445 : decode cL_law 445 = .ok (.iadd, 1) := by decide +kernel
theorem dL_law_446 : decode cL_law 446 = .ok (.iaload, 1) := by decide +kernel
theorem dL_law_447 : decode cL_law 447 = .ok (.invokevirtual 46, 3) := by decide +kernel
theorem dL_law_450 : decode cL_law 450 = .ok (.if_icmp .eq 559, 3) := by decide +kernel
theorem dL_law_453 : decode cL_law 453 = .ok (.iconst 0, 1) := by decide +kernel
theorem dL_law_454 : decode cL_law 454 = .ok (.ireturn, 1) := by decide +kernel
theorem dL_law_455 : decode cL_law 455 = .ok (.aload_n 1, 1) := by decide +kernel
theorem dL_law_456 : decode cL_law 456 = .ok (.aload_n 0, 1) := by decide +kernel
theorem dL_law_457 : decode cL_law 457 = .ok (.iload_n 3, 1) := by decide +kernel
theorem dL_law_458 : decode cL_law 458 = .ok (.iconst 1, 1) := by decide +kernel
theorem dL_law_459 : decode cL_law 459 = .ok (.iadd, 1) := by decide +kernel
theorem dL_law_460 : decode cL_law 460 = .ok (.iaload, 1) := by decide +kernel
theorem dL_law_461 : decode cL_law 461 = .ok (.aload_n 0, 1) := by decide +kernel
theorem dL_law_462 : decode cL_law 462 = .ok (.iload_n 3, 1) := by decide +kernel
theorem dL_law_463 : decode cL_law 463 = .ok (.iconst 2, 1) := by decide +kernel
theorem dL_law_464 : decode cL_law 464 = .ok (.iadd, 1) := by decide +kernel
theorem dL_law_465 : decode cL_law 465 = .ok (.iaload, 1) := by decide +kernel
theorem dL_law_466 : decode cL_law 466 = .ok (.invokevirtual 47, 3) := by decide +kernel
theorem dL_law_469 : decode cL_law 469 = .ok (.aload_n 2, 1) := by decide +kernel
theorem dL_law_470 : decode cL_law 470 = .ok (.aload_n 0, 1) := by decide +kernel
theorem dL_law_471 : decode cL_law 471 = .ok (.iload_n 3, 1) := by decide +kernel
theorem dL_law_472 : decode cL_law 472 = .ok (.iconst 1, 1) := by decide +kernel
theorem dL_law_473 : decode cL_law 473 = .ok (.iadd, 1) := by decide +kernel
theorem dL_law_474 : decode cL_law 474 = .ok (.iaload, 1) := by decide +kernel
theorem dL_law_475 : decode cL_law 475 = .ok (.aload_n 0, 1) := by decide +kernel
theorem dL_law_476 : decode cL_law 476 = .ok (.iload_n 3, 1) := by decide +kernel
theorem dL_law_477 : decode cL_law 477 = .ok (.iconst 2, 1) := by decide +kernel
theorem dL_law_478 : decode cL_law 478 = .ok (.iadd, 1) := by decide +kernel
theorem dL_law_479 : decode cL_law 479 = .ok (.iaload, 1) := by decide +kernel
theorem dL_law_480 : decode cL_law 480 = .ok (.invokevirtual 50, 3) := by decide +kernel
theorem dL_law_483 : decode cL_law 483 = .ok (.if_icmp .eq 526, 3) := by decide +kernel
theorem dL_law_486 : decode cL_law 486 = .ok (.iconst 0, 1) := by decide +kernel
theorem dL_law_487 : decode cL_law 487 = .ok (.ireturn, 1) := by decide +kernel
theorem dL_law_488 : decode cL_law 488 = .ok (.aload_n 1, 1) := by decide +kernel
theorem dL_law_489 : decode cL_law 489 = .ok (.aload_n 0, 1) := by decide +kernel
theorem dL_law_490 : decode cL_law 490 = .ok (.iload_n 3, 1) := by decide +kernel
theorem dL_law_491 : decode cL_law 491 = .ok (.iconst 1, 1) := by decide +kernel
theorem dL_law_492 : decode cL_law 492 = .ok (.iadd, 1) := by decide +kernel
theorem dL_law_493 : decode cL_law 493 = .ok (.iaload, 1) := by decide +kernel
theorem dL_law_494 : decode cL_law 494 = .ok (.invokevirtual 51, 3) := by decide +kernel
theorem dL_law_497 : decode cL_law 497 = .ok (.aload_n 2, 1) := by decide +kernel
theorem dL_law_498 : decode cL_law 498 = .ok (.aload_n 0, 1) := by decide +kernel
theorem dL_law_499 : decode cL_law 499 = .ok (.iload_n 3, 1) := by decide +kernel
theorem dL_law_500 : decode cL_law 500 = .ok (.iconst 1, 1) := by decide +kernel
theorem dL_law_501 : decode cL_law 501 = .ok (.iadd, 1) := by decide +kernel
theorem dL_law_502 : decode cL_law 502 = .ok (.iaload, 1) := by decide +kernel
theorem dL_law_503 : decode cL_law 503 = .ok (.invokevirtual 55, 3) := by decide +kernel
theorem dL_law_506 : decode cL_law 506 = .ok (.if_icmp .eq 503, 3) := by decide +kernel
theorem dL_law_509 : decode cL_law 509 = .ok (.iconst 0, 1) := by decide +kernel
theorem dL_law_510 : decode cL_law 510 = .ok (.ireturn, 1) := by decide +kernel
theorem dL_law_511 : decode cL_law 511 = .ok (.aload_n 1, 1) := by decide +kernel
theorem dL_law_512 : decode cL_law 512 = .ok (.aload_n 0, 1) := by decide +kernel
theorem dL_law_513 : decode cL_law 513 = .ok (.iload_n 3, 1) := by decide +kernel
theorem dL_law_514 : decode cL_law 514 = .ok (.iconst 1, 1) := by decide +kernel
theorem dL_law_515 : decode cL_law 515 = .ok (.iadd, 1) := by decide +kernel
theorem dL_law_516 : decode cL_law 516 = .ok (.iaload, 1) := by decide +kernel
theorem dL_law_517 : decode cL_law 517 = .ok (.invokevirtual 56, 3) := by decide +kernel
theorem dL_law_520 : decode cL_law 520 = .ok (.aload_n 2, 1) := by decide +kernel
theorem dL_law_521 : decode cL_law 521 = .ok (.aload_n 0, 1) := by decide +kernel
theorem dL_law_522 : decode cL_law 522 = .ok (.iload_n 3, 1) := by decide +kernel
theorem dL_law_523 : decode cL_law 523 = .ok (.iconst 1, 1) := by decide +kernel
theorem dL_law_524 : decode cL_law 524 = .ok (.iadd, 1) := by decide +kernel
theorem dL_law_525 : decode cL_law 525 = .ok (.iaload, 1) := by decide +kernel
theorem dL_law_526 : decode cL_law 526 = .ok (.invokevirtual 59, 3) := by decide +kernel
theorem dL_law_529 : decode cL_law 529 = .ok (.if_icmp .eq 480, 3) := by decide +kernel
theorem dL_law_532 : decode cL_law 532 = .ok (.iconst 0, 1) := by decide +kernel
theorem dL_law_533 : decode cL_law 533 = .ok (.ireturn, 1) := by decide +kernel
theorem dL_law_534 : decode cL_law 534 = .ok (.aload_n 1, 1) := by decide +kernel
theorem dL_law_535 : decode cL_law 535 = .ok (.aload_n 0, 1) := by decide +kernel
theorem dL_law_536 : decode cL_law 536 = .ok (.iload_n 3, 1) := by decide +kernel
theorem dL_law_537 : decode cL_law 537 = .ok (.iconst 1, 1) := by decide +kernel
theorem dL_law_538 : decode cL_law 538 = .ok (.iadd, 1) := by decide +kernel
theorem dL_law_539 : decode cL_law 539 = .ok (.iaload, 1) := by decide +kernel
theorem dL_law_540 : decode cL_law 540 = .ok (.aload_n 0, 1) := by decide +kernel
theorem dL_law_541 : decode cL_law 541 = .ok (.iload_n 3, 1) := by decide +kernel
theorem dL_law_542 : decode cL_law 542 = .ok (.iconst 2, 1) := by decide +kernel
theorem dL_law_543 : decode cL_law 543 = .ok (.iadd, 1) := by decide +kernel
theorem dL_law_544 : decode cL_law 544 = .ok (.iaload, 1) := by decide +kernel
theorem dL_law_545 : decode cL_law 545 = .ok (.invokevirtual 60, 3) := by decide +kernel
theorem dL_law_548 : decode cL_law 548 = .ok (.aload_n 2, 1) := by decide +kernel
theorem dL_law_549 : decode cL_law 549 = .ok (.aload_n 0, 1) := by decide +kernel
theorem dL_law_550 : decode cL_law 550 = .ok (.iload_n 3, 1) := by decide +kernel
theorem dL_law_551 : decode cL_law 551 = .ok (.iconst 1, 1) := by decide +kernel
theorem dL_law_552 : decode cL_law 552 = .ok (.iadd, 1) := by decide +kernel
theorem dL_law_553 : decode cL_law 553 = .ok (.iaload, 1) := by decide +kernel
theorem dL_law_554 : decode cL_law 554 = .ok (.aload_n 0, 1) := by decide +kernel
theorem dL_law_555 : decode cL_law 555 = .ok (.iload_n 3, 1) := by decide +kernel
theorem dL_law_556 : decode cL_law 556 = .ok (.iconst 2, 1) := by decide +kernel
theorem dL_law_557 : decode cL_law 557 = .ok (.iadd, 1) := by decide +kernel
theorem dL_law_558 : decode cL_law 558 = .ok (.iaload, 1) := by decide +kernel
theorem dL_law_559 : decode cL_law 559 = .ok (.invokevirtual 63, 3) := by decide +kernel
theorem dL_law_562 : decode cL_law 562 = .ok (.if_icmp .eq 447, 3) := by decide +kernel
theorem dL_law_565 : decode cL_law 565 = .ok (.iconst 0, 1) := by decide +kernel
theorem dL_law_566 : decode cL_law 566 = .ok (.ireturn, 1) := by decide +kernel
theorem dL_law_567 : decode cL_law 567 = .ok (.aload_n 1, 1) := by decide +kernel
theorem dL_law_568 : decode cL_law 568 = .ok (.aload_n 0, 1) := by decide +kernel
theorem dL_law_569 : decode cL_law 569 = .ok (.iload_n 3, 1) := by decide +kernel
theorem dL_law_570 : decode cL_law 570 = .ok (.iconst 1, 1) := by decide +kernel
theorem dL_law_571 : decode cL_law 571 = .ok (.iadd, 1) := by decide +kernel
theorem dL_law_572 : decode cL_law 572 = .ok (.iaload, 1) := by decide +kernel
theorem dL_law_573 : decode cL_law 573 = .ok (.aload_n 0, 1) := by decide +kernel
theorem dL_law_574 : decode cL_law 574 = .ok (.iload_n 3, 1) := by decide +kernel
theorem dL_law_575 : decode cL_law 575 = .ok (.iconst 2, 1) := by decide +kernel
theorem dL_law_576 : decode cL_law 576 = .ok (.iadd, 1) := by decide +kernel
theorem dL_law_577 : decode cL_law 577 = .ok (.iaload, 1) := by decide +kernel
theorem dL_law_578 : decode cL_law 578 = .ok (.invokevirtual 64, 3) := by decide +kernel
theorem dL_law_581 : decode cL_law 581 = .ok (.aload_n 2, 1) := by decide +kernel
theorem dL_law_582 : decode cL_law 582 = .ok (.aload_n 0, 1) := by decide +kernel
theorem dL_law_583 : decode cL_law 583 = .ok (.iload_n 3, 1) := by decide +kernel
theorem dL_law_584 : decode cL_law 584 = .ok (.iconst 1, 1) := by decide +kernel
theorem dL_law_585 : decode cL_law 585 = .ok (.iadd, 1) := by decide +kernel
theorem dL_law_586 : decode cL_law 586 = .ok (.iaload, 1) := by decide +kernel
theorem dL_law_587 : decode cL_law 587 = .ok (.aload_n 0, 1) := by decide +kernel
theorem dL_law_588 : decode cL_law 588 = .ok (.iload_n 3, 1) := by decide +kernel
theorem dL_law_589 : decode cL_law 589 = .ok (.iconst 2, 1) := by decide +kernel
theorem dL_law_590 : decode cL_law 590 = .ok (.iadd, 1) := by decide +kernel
theorem dL_law_591 : decode cL_law 591 = .ok (.iaload, 1) := by decide +kernel
theorem dL_law_592 : decode cL_law 592 = .ok (.invokevirtual 67, 3) := by decide +kernel
theorem dL_law_595 : decode cL_law 595 = .ok (.if_icmp .eq 414, 3) := by decide +kernel
theorem dL_law_598 : decode cL_law 598 = .ok (.iconst 0, 1) := by decide +kernel
theorem dL_law_599 : decode cL_law 599 = .ok (.ireturn, 1) := by decide +kernel
theorem dL_law_600 : decode cL_law 600 = .ok (.aload_n 1, 1) := by decide +kernel
theorem dL_law_601 : decode cL_law 601 = .ok (.aload_n 0, 1) := by decide +kernel
theorem dL_law_602 : decode cL_law 602 = .ok (.iload_n 3, 1) := by decide +kernel
theorem dL_law_603 : decode cL_law 603 = .ok (.iconst 1, 1) := by decide +kernel
theorem dL_law_604 : decode cL_law 604 = .ok (.iadd, 1) := by decide +kernel
theorem dL_law_605 : decode cL_law 605 = .ok (.iaload, 1) := by decide +kernel
theorem dL_law_606 : decode cL_law 606 = .ok (.invokevirtual 68, 3) := by decide +kernel
theorem dL_law_609 : decode cL_law 609 = .ok (.aload_n 2, 1) := by decide +kernel
theorem dL_law_610 : decode cL_law 610 = .ok (.aload_n 0, 1) := by decide +kernel
theorem dL_law_611 : decode cL_law 611 = .ok (.iload_n 3, 1) := by decide +kernel
theorem dL_law_612 : decode cL_law 612 = .ok (.iconst 1, 1) := by decide +kernel
theorem dL_law_613 : decode cL_law 613 = .ok (.iadd, 1) := by decide +kernel
theorem dL_law_614 : decode cL_law 614 = .ok (.iaload, 1) := by decide +kernel
theorem dL_law_615 : decode cL_law 615 = .ok (.invokevirtual 71, 3) := by decide +kernel
theorem dL_law_618 : decode cL_law 618 = .ok (.if_icmp .eq 391, 3) := by decide +kernel
theorem dL_law_621 : decode cL_law 621 = .ok (.iconst 0, 1) := by decide +kernel
theorem dL_law_622 : decode cL_law 622 = .ok (.ireturn, 1) := by decide +kernel
theorem dL_law_623 : decode cL_law 623 = .ok (.aload_n 1, 1) := by decide +kernel
theorem dL_law_624 : decode cL_law 624 = .ok (.invokevirtual 72, 3) := by decide +kernel
theorem dL_law_627 : decode cL_law 627 = .ok (.aload_n 2, 1) := by decide +kernel
theorem dL_law_628 : decode cL_law 628 = .ok (.invokevirtual 75, 3) := by decide +kernel
theorem dL_law_631 : decode cL_law 631 = .ok (.if_icmp .eq 378, 3) := by decide +kernel
theorem dL_law_634 : decode cL_law 634 = .ok (.iconst 0, 1) := by decide +kernel
theorem dL_law_635 : decode cL_law 635 = .ok (.ireturn, 1) := by decide +kernel
theorem dL_law_636 : decode cL_law 636 = .ok (.aload_n 1, 1) := by decide +kernel
theorem dL_law_637 : decode cL_law 637 = .ok (.invokevirtual 76, 3) := by decide +kernel
theorem dL_law_640 : decode cL_law 640 = .ok (.aload_n 2, 1) := by decide +kernel
theorem dL_law_641 : decode cL_law 641 = .ok (.invokevirtual 79, 3) := by decide +kernel
theorem dL_law_644 : decode cL_law 644 = .ok (.if_icmp .eq 365, 3) := by decide +kernel
theorem dL_law_647 : decode cL_law 647 = .ok (.iconst 0, 1) := by decide +kernel
theorem dL_law_648 : decode cL_law 648 = .ok (.ireturn, 1) := by decide +kernel
theorem dL_law_649 : decode cL_law 649 = .ok (.aload_n 1, 1) := by decide +kernel
theorem dL_law_650 : decode cL_law 650 = .ok (.invokevirtual 80, 3) := by decide +kernel
theorem dL_law_653 : decode cL_law 653 = .ok (.aload_n 2, 1) := by decide +kernel
theorem dL_law_654 : decode cL_law 654 = .ok (.invokevirtual 84, 3) := by decide +kernel
theorem dL_law_657 : decode cL_law 657 = .ok (.lcmp, 1) := by decide +kernel
theorem dL_law_658 : decode cL_law 658 = .ok (.ifCond .eq 351, 3) := by decide +kernel
theorem dL_law_661 : decode cL_law 661 = .ok (.iconst 0, 1) := by decide +kernel
theorem dL_law_662 : decode cL_law 662 = .ok (.ireturn, 1) := by decide +kernel
theorem dL_law_663 : decode cL_law 663 = .ok (.aload_n 1, 1) := by decide +kernel
theorem dL_law_664 : decode cL_law 664 = .ok (.aload_n 0, 1) := by decide +kernel
theorem dL_law_665 : decode cL_law 665 = .ok (.iload_n 3, 1) := by decide +kernel
theorem dL_law_666 : decode cL_law 666 = .ok (.iconst 1, 1) := by decide +kernel
theorem dL_law_667 : decode cL_law 667 = .ok (.iadd, 1) := by decide +kernel
theorem dL_law_668 : decode cL_law 668 = .ok (.iaload, 1) := by decide +kernel
theorem dL_law_669 : decode cL_law 669 = .ok (.invokevirtual 85, 3) := by decide +kernel
theorem dL_law_672 : decode cL_law 672 = .ok (.aload_n 2, 1) := by decide +kernel
theorem dL_law_673 : decode cL_law 673 = .ok (.aload_n 0, 1) := by decide +kernel
theorem dL_law_674 : decode cL_law 674 = .ok (.iload_n 3, 1) := by decide +kernel
theorem dL_law_675 : decode cL_law 675 = .ok (.iconst 1, 1) := by decide +kernel
theorem dL_law_676 : decode cL_law 676 = .ok (.iadd, 1) := by decide +kernel
theorem dL_law_677 : decode cL_law 677 = .ok (.iaload, 1) := by decide +kernel
theorem dL_law_678 : decode cL_law 678 = .ok (.invokevirtual 88, 3) := by decide +kernel
theorem dL_law_681 : decode cL_law 681 = .ok (.if_icmp .eq 328, 3) := by decide +kernel
theorem dL_law_684 : decode cL_law 684 = .ok (.iconst 0, 1) := by decide +kernel
theorem dL_law_685 : decode cL_law 685 = .ok (.ireturn, 1) := by decide +kernel
theorem dL_law_686 : decode cL_law 686 = .ok (.aload_n 1, 1) := by decide +kernel
theorem dL_law_687 : decode cL_law 687 = .ok (.aload_n 0, 1) := by decide +kernel
theorem dL_law_688 : decode cL_law 688 = .ok (.iload_n 3, 1) := by decide +kernel
theorem dL_law_689 : decode cL_law 689 = .ok (.iconst 1, 1) := by decide +kernel
theorem dL_law_690 : decode cL_law 690 = .ok (.iadd, 1) := by decide +kernel
theorem dL_law_691 : decode cL_law 691 = .ok (.iaload, 1) := by decide +kernel
theorem dL_law_692 : decode cL_law 692 = .ok (.invokevirtual 89, 3) := by decide +kernel
theorem dL_law_695 : decode cL_law 695 = .ok (.aload_n 2, 1) := by decide +kernel
theorem dL_law_696 : decode cL_law 696 = .ok (.aload_n 0, 1) := by decide +kernel
theorem dL_law_697 : decode cL_law 697 = .ok (.iload_n 3, 1) := by decide +kernel
theorem dL_law_698 : decode cL_law 698 = .ok (.iconst 1, 1) := by decide +kernel
theorem dL_law_699 : decode cL_law 699 = .ok (.iadd, 1) := by decide +kernel
theorem dL_law_700 : decode cL_law 700 = .ok (.iaload, 1) := by decide +kernel
theorem dL_law_701 : decode cL_law 701 = .ok (.invokevirtual 92, 3) := by decide +kernel
theorem dL_law_704 : decode cL_law 704 = .ok (.if_icmp .eq 305, 3) := by decide +kernel
theorem dL_law_707 : decode cL_law 707 = .ok (.iconst 0, 1) := by decide +kernel
theorem dL_law_708 : decode cL_law 708 = .ok (.ireturn, 1) := by decide +kernel
theorem dL_law_709 : decode cL_law 709 = .ok (.aload_n 1, 1) := by decide +kernel
theorem dL_law_710 : decode cL_law 710 = .ok (.aload_n 0, 1) := by decide +kernel
theorem dL_law_711 : decode cL_law 711 = .ok (.iload_n 3, 1) := by decide +kernel
theorem dL_law_712 : decode cL_law 712 = .ok (.iconst 1, 1) := by decide +kernel
theorem dL_law_713 : decode cL_law 713 = .ok (.iadd, 1) := by decide +kernel
theorem dL_law_714 : decode cL_law 714 = .ok (.iaload, 1) := by decide +kernel
theorem dL_law_715 : decode cL_law 715 = .ok (.invokevirtual 93, 3) := by decide +kernel
theorem dL_law_718 : decode cL_law 718 = .ok (.aload_n 2, 1) := by decide +kernel
theorem dL_law_719 : decode cL_law 719 = .ok (.aload_n 0, 1) := by decide +kernel
theorem dL_law_720 : decode cL_law 720 = .ok (.iload_n 3, 1) := by decide +kernel
theorem dL_law_721 : decode cL_law 721 = .ok (.iconst 1, 1) := by decide +kernel
theorem dL_law_722 : decode cL_law 722 = .ok (.iadd, 1) := by decide +kernel
theorem dL_law_723 : decode cL_law 723 = .ok (.iaload, 1) := by decide +kernel
theorem dL_law_724 : decode cL_law 724 = .ok (.invokevirtual 96, 3) := by decide +kernel
theorem dL_law_727 : decode cL_law 727 = .ok (.if_icmp .eq 282, 3) := by decide +kernel
theorem dL_law_730 : decode cL_law 730 = .ok (.iconst 0, 1) := by decide +kernel
theorem dL_law_731 : decode cL_law 731 = .ok (.ireturn, 1) := by decide +kernel
theorem dL_law_732 : decode cL_law 732 = .ok (.aload_n 1, 1) := by decide +kernel
theorem dL_law_733 : decode cL_law 733 = .ok (.aload_n 0, 1) := by decide +kernel
theorem dL_law_734 : decode cL_law 734 = .ok (.iload_n 3, 1) := by decide +kernel
theorem dL_law_735 : decode cL_law 735 = .ok (.iconst 1, 1) := by decide +kernel
theorem dL_law_736 : decode cL_law 736 = .ok (.iadd, 1) := by decide +kernel
theorem dL_law_737 : decode cL_law 737 = .ok (.iaload, 1) := by decide +kernel
theorem dL_law_738 : decode cL_law 738 = .ok (.invokevirtual 97, 3) := by decide +kernel
theorem dL_law_741 : decode cL_law 741 = .ok (.aload_n 2, 1) := by decide +kernel
theorem dL_law_742 : decode cL_law 742 = .ok (.aload_n 0, 1) := by decide +kernel
theorem dL_law_743 : decode cL_law 743 = .ok (.iload_n 3, 1) := by decide +kernel
theorem dL_law_744 : decode cL_law 744 = .ok (.iconst 1, 1) := by decide +kernel
theorem dL_law_745 : decode cL_law 745 = .ok (.iadd, 1) := by decide +kernel
theorem dL_law_746 : decode cL_law 746 = .ok (.iaload, 1) := by decide +kernel
theorem dL_law_747 : decode cL_law 747 = .ok (.invokevirtual 100, 3) := by decide +kernel
theorem dL_law_750 : decode cL_law 750 = .ok (.if_icmp .eq 259, 3) := by decide +kernel
theorem dL_law_753 : decode cL_law 753 = .ok (.iconst 0, 1) := by decide +kernel
theorem dL_law_754 : decode cL_law 754 = .ok (.ireturn, 1) := by decide +kernel
theorem dL_law_755 : decode cL_law 755 = .ok (.aload_n 1, 1) := by decide +kernel
theorem dL_law_756 : decode cL_law 756 = .ok (.aload_n 0, 1) := by decide +kernel
theorem dL_law_757 : decode cL_law 757 = .ok (.iload_n 3, 1) := by decide +kernel
theorem dL_law_758 : decode cL_law 758 = .ok (.iconst 1, 1) := by decide +kernel
theorem dL_law_759 : decode cL_law 759 = .ok (.iadd, 1) := by decide +kernel
theorem dL_law_760 : decode cL_law 760 = .ok (.iaload, 1) := by decide +kernel
theorem dL_law_761 : decode cL_law 761 = .ok (.aload_n 0, 1) := by decide +kernel
theorem dL_law_762 : decode cL_law 762 = .ok (.iload_n 3, 1) := by decide +kernel
theorem dL_law_763 : decode cL_law 763 = .ok (.iconst 2, 1) := by decide +kernel
theorem dL_law_764 : decode cL_law 764 = .ok (.iadd, 1) := by decide +kernel
theorem dL_law_765 : decode cL_law 765 = .ok (.iaload, 1) := by decide +kernel
theorem dL_law_766 : decode cL_law 766 = .ok (.aload_n 0, 1) := by decide +kernel
theorem dL_law_767 : decode cL_law 767 = .ok (.iload_n 3, 1) := by decide +kernel
theorem dL_law_768 : decode cL_law 768 = .ok (.iconst 3, 1) := by decide +kernel
theorem dL_law_769 : decode cL_law 769 = .ok (.iadd, 1) := by decide +kernel
theorem dL_law_770 : decode cL_law 770 = .ok (.iaload, 1) := by decide +kernel
theorem dL_law_771 : decode cL_law 771 = .ok (.invokevirtual 101, 3) := by decide +kernel
theorem dL_law_774 : decode cL_law 774 = .ok (.aload_n 2, 1) := by decide +kernel
theorem dL_law_775 : decode cL_law 775 = .ok (.aload_n 0, 1) := by decide +kernel
theorem dL_law_776 : decode cL_law 776 = .ok (.iload_n 3, 1) := by decide +kernel
theorem dL_law_777 : decode cL_law 777 = .ok (.iconst 1, 1) := by decide +kernel
theorem dL_law_778 : decode cL_law 778 = .ok (.iadd, 1) := by decide +kernel
theorem dL_law_779 : decode cL_law 779 = .ok (.iaload, 1) := by decide +kernel
theorem dL_law_780 : decode cL_law 780 = .ok (.aload_n 0, 1) := by decide +kernel
theorem dL_law_781 : decode cL_law 781 = .ok (.iload_n 3, 1) := by decide +kernel
theorem dL_law_782 : decode cL_law 782 = .ok (.iconst 2, 1) := by decide +kernel
theorem dL_law_783 : decode cL_law 783 = .ok (.iadd, 1) := by decide +kernel
theorem dL_law_784 : decode cL_law 784 = .ok (.iaload, 1) := by decide +kernel
theorem dL_law_785 : decode cL_law 785 = .ok (.aload_n 0, 1) := by decide +kernel
theorem dL_law_786 : decode cL_law 786 = .ok (.iload_n 3, 1) := by decide +kernel
theorem dL_law_787 : decode cL_law 787 = .ok (.iconst 3, 1) := by decide +kernel
theorem dL_law_788 : decode cL_law 788 = .ok (.iadd, 1) := by decide +kernel
theorem dL_law_789 : decode cL_law 789 = .ok (.iaload, 1) := by decide +kernel
theorem dL_law_790 : decode cL_law 790 = .ok (.invokevirtual 104, 3) := by decide +kernel
theorem dL_law_793 : decode cL_law 793 = .ok (.if_icmp .eq 216, 3) := by decide +kernel
theorem dL_law_796 : decode cL_law 796 = .ok (.iconst 0, 1) := by decide +kernel
theorem dL_law_797 : decode cL_law 797 = .ok (.ireturn, 1) := by decide +kernel
theorem dL_law_798 : decode cL_law 798 = .ok (.aload_n 1, 1) := by decide +kernel
theorem dL_law_799 : decode cL_law 799 = .ok (.aload_n 0, 1) := by decide +kernel
theorem dL_law_800 : decode cL_law 800 = .ok (.iload_n 3, 1) := by decide +kernel
theorem dL_law_801 : decode cL_law 801 = .ok (.iconst 1, 1) := by decide +kernel
theorem dL_law_802 : decode cL_law 802 = .ok (.iadd, 1) := by decide +kernel
theorem dL_law_803 : decode cL_law 803 = .ok (.iaload, 1) := by decide +kernel
theorem dL_law_804 : decode cL_law 804 = .ok (.aload_n 0, 1) := by decide +kernel
theorem dL_law_805 : decode cL_law 805 = .ok (.iload_n 3, 1) := by decide +kernel
theorem dL_law_806 : decode cL_law 806 = .ok (.iconst 2, 1) := by decide +kernel
theorem dL_law_807 : decode cL_law 807 = .ok (.iadd, 1) := by decide +kernel
theorem dL_law_808 : decode cL_law 808 = .ok (.iaload, 1) := by decide +kernel
theorem dL_law_809 : decode cL_law 809 = .ok (.invokevirtual 105, 3) := by decide +kernel
theorem dL_law_812 : decode cL_law 812 = .ok (.aload_n 2, 1) := by decide +kernel
theorem dL_law_813 : decode cL_law 813 = .ok (.aload_n 0, 1) := by decide +kernel
theorem dL_law_814 : decode cL_law 814 = .ok (.iload_n 3, 1) := by decide +kernel
theorem dL_law_815 : decode cL_law 815 = .ok (.iconst 1, 1) := by decide +kernel
theorem dL_law_816 : decode cL_law 816 = .ok (.iadd, 1) := by decide +kernel
theorem dL_law_817 : decode cL_law 817 = .ok (.iaload, 1) := by decide +kernel
theorem dL_law_818 : decode cL_law 818 = .ok (.aload_n 0, 1) := by decide +kernel
theorem dL_law_819 : decode cL_law 819 = .ok (.iload_n 3, 1) := by decide +kernel
theorem dL_law_820 : decode cL_law 820 = .ok (.iconst 2, 1) := by decide +kernel
theorem dL_law_821 : decode cL_law 821 = .ok (.iadd, 1) := by decide +kernel
theorem dL_law_822 : decode cL_law 822 = .ok (.iaload, 1) := by decide +kernel
theorem dL_law_823 : decode cL_law 823 = .ok (.invokevirtual 109, 3) := by decide +kernel
theorem dL_law_826 : decode cL_law 826 = .ok (.if_icmp .eq 183, 3) := by decide +kernel
theorem dL_law_829 : decode cL_law 829 = .ok (.iconst 0, 1) := by decide +kernel
theorem dL_law_830 : decode cL_law 830 = .ok (.ireturn, 1) := by decide +kernel
theorem dL_law_831 : decode cL_law 831 = .ok (.aload_n 1, 1) := by decide +kernel
theorem dL_law_832 : decode cL_law 832 = .ok (.aload_n 0, 1) := by decide +kernel
theorem dL_law_833 : decode cL_law 833 = .ok (.iload_n 3, 1) := by decide +kernel
theorem dL_law_834 : decode cL_law 834 = .ok (.iconst 1, 1) := by decide +kernel
theorem dL_law_835 : decode cL_law 835 = .ok (.iadd, 1) := by decide +kernel
theorem dL_law_836 : decode cL_law 836 = .ok (.iaload, 1) := by decide +kernel
theorem dL_law_837 : decode cL_law 837 = .ok (.invokevirtual 110, 3) := by decide +kernel
theorem dL_law_840 : decode cL_law 840 = .ok (.aload_n 2, 1) := by decide +kernel
theorem dL_law_841 : decode cL_law 841 = .ok (.aload_n 0, 1) := by decide +kernel
theorem dL_law_842 : decode cL_law 842 = .ok (.iload_n 3, 1) := by decide +kernel
theorem dL_law_843 : decode cL_law 843 = .ok (.iconst 1, 1) := by decide +kernel
theorem dL_law_844 : decode cL_law 844 = .ok (.iadd, 1) := by decide +kernel
theorem dL_law_845 : decode cL_law 845 = .ok (.iaload, 1) := by decide +kernel
theorem dL_law_846 : decode cL_law 846 = .ok (.invokevirtual 113, 3) := by decide +kernel
theorem dL_law_849 : decode cL_law 849 = .ok (.if_icmp .eq 160, 3) := by decide +kernel
theorem dL_law_852 : decode cL_law 852 = .ok (.iconst 0, 1) := by decide +kernel
theorem dL_law_853 : decode cL_law 853 = .ok (.ireturn, 1) := by decide +kernel
theorem dL_law_854 : decode cL_law 854 = .ok (.aload_n 1, 1) := by decide +kernel
theorem dL_law_855 : decode cL_law 855 = .ok (.aload_n 0, 1) := by decide +kernel
theorem dL_law_856 : decode cL_law 856 = .ok (.iload_n 3, 1) := by decide +kernel
theorem dL_law_857 : decode cL_law 857 = .ok (.iconst 1, 1) := by decide +kernel
theorem dL_law_858 : decode cL_law 858 = .ok (.iadd, 1) := by decide +kernel
theorem dL_law_859 : decode cL_law 859 = .ok (.iaload, 1) := by decide +kernel
theorem dL_law_860 : decode cL_law 860 = .ok (.invokevirtual 114, 3) := by decide +kernel
theorem dL_law_863 : decode cL_law 863 = .ok (.aload_n 2, 1) := by decide +kernel
theorem dL_law_864 : decode cL_law 864 = .ok (.aload_n 0, 1) := by decide +kernel
theorem dL_law_865 : decode cL_law 865 = .ok (.iload_n 3, 1) := by decide +kernel
theorem dL_law_866 : decode cL_law 866 = .ok (.iconst 1, 1) := by decide +kernel
theorem dL_law_867 : decode cL_law 867 = .ok (.iadd, 1) := by decide +kernel
theorem dL_law_868 : decode cL_law 868 = .ok (.iaload, 1) := by decide +kernel
theorem dL_law_869 : decode cL_law 869 = .ok (.invokevirtual 117, 3) := by decide +kernel
theorem dL_law_872 : decode cL_law 872 = .ok (.if_icmp .eq 137, 3) := by decide +kernel
theorem dL_law_875 : decode cL_law 875 = .ok (.iconst 0, 1) := by decide +kernel
theorem dL_law_876 : decode cL_law 876 = .ok (.ireturn, 1) := by decide +kernel
theorem dL_law_877 : decode cL_law 877 = .ok (.aload_n 1, 1) := by decide +kernel
theorem dL_law_878 : decode cL_law 878 = .ok (.aload_n 0, 1) := by decide +kernel
theorem dL_law_879 : decode cL_law 879 = .ok (.iload_n 3, 1) := by decide +kernel
theorem dL_law_880 : decode cL_law 880 = .ok (.iconst 1, 1) := by decide +kernel
theorem dL_law_881 : decode cL_law 881 = .ok (.iadd, 1) := by decide +kernel
theorem dL_law_882 : decode cL_law 882 = .ok (.iaload, 1) := by decide +kernel
theorem dL_law_883 : decode cL_law 883 = .ok (.aload_n 0, 1) := by decide +kernel
theorem dL_law_884 : decode cL_law 884 = .ok (.iload_n 3, 1) := by decide +kernel
theorem dL_law_885 : decode cL_law 885 = .ok (.iconst 2, 1) := by decide +kernel
theorem dL_law_886 : decode cL_law 886 = .ok (.iadd, 1) := by decide +kernel
theorem dL_law_887 : decode cL_law 887 = .ok (.iaload, 1) := by decide +kernel
theorem dL_law_888 : decode cL_law 888 = .ok (.aload_n 0, 1) := by decide +kernel
theorem dL_law_889 : decode cL_law 889 = .ok (.iload_n 3, 1) := by decide +kernel
theorem dL_law_890 : decode cL_law 890 = .ok (.iconst 3, 1) := by decide +kernel
theorem dL_law_891 : decode cL_law 891 = .ok (.iadd, 1) := by decide +kernel
theorem dL_law_892 : decode cL_law 892 = .ok (.iaload, 1) := by decide +kernel
theorem dL_law_893 : decode cL_law 893 = .ok (.invokevirtual 118, 3) := by decide +kernel
theorem dL_law_896 : decode cL_law 896 = .ok (.aload_n 2, 1) := by decide +kernel
theorem dL_law_897 : decode cL_law 897 = .ok (.aload_n 0, 1) := by decide +kernel
theorem dL_law_898 : decode cL_law 898 = .ok (.iload_n 3, 1) := by decide +kernel
theorem dL_law_899 : decode cL_law 899 = .ok (.iconst 1, 1) := by decide +kernel
theorem dL_law_900 : decode cL_law 900 = .ok (.iadd, 1) := by decide +kernel
theorem dL_law_901 : decode cL_law 901 = .ok (.iaload, 1) := by decide +kernel
theorem dL_law_902 : decode cL_law 902 = .ok (.aload_n 0, 1) := by decide +kernel
theorem dL_law_903 : decode cL_law 903 = .ok (.iload_n 3, 1) := by decide +kernel
theorem dL_law_904 : decode cL_law 904 = .ok (.iconst 2, 1) := by decide +kernel
theorem dL_law_905 : decode cL_law 905 = .ok (.iadd, 1) := by decide +kernel
theorem dL_law_906 : decode cL_law 906 = .ok (.iaload, 1) := by decide +kernel
theorem dL_law_907 : decode cL_law 907 = .ok (.aload_n 0, 1) := by decide +kernel
theorem dL_law_908 : decode cL_law 908 = .ok (.iload_n 3, 1) := by decide +kernel
theorem dL_law_909 : decode cL_law 909 = .ok (.iconst 3, 1) := by decide +kernel
theorem dL_law_910 : decode cL_law 910 = .ok (.iadd, 1) := by decide +kernel
theorem dL_law_911 : decode cL_law 911 = .ok (.iaload, 1) := by decide +kernel
theorem dL_law_912 : decode cL_law 912 = .ok (.invokevirtual 122, 3) := by decide +kernel
theorem dL_law_915 : decode cL_law 915 = .ok (.if_icmp .eq 94, 3) := by decide +kernel
theorem dL_law_918 : decode cL_law 918 = .ok (.iconst 0, 1) := by decide +kernel
theorem dL_law_919 : decode cL_law 919 = .ok (.ireturn, 1) := by decide +kernel
theorem dL_law_920 : decode cL_law 920 = .ok (.aload_n 1, 1) := by decide +kernel
theorem dL_law_921 : decode cL_law 921 = .ok (.aload_n 0, 1) := by decide +kernel
theorem dL_law_922 : decode cL_law 922 = .ok (.iload_n 3, 1) := by decide +kernel
theorem dL_law_923 : decode cL_law 923 = .ok (.iconst 1, 1) := by decide +kernel
theorem dL_law_924 : decode cL_law 924 = .ok (.iadd, 1) := by decide +kernel
theorem dL_law_925 : decode cL_law 925 = .ok (.iaload, 1) := by decide +kernel
theorem dL_law_926 : decode cL_law 926 = .ok (.invokevirtual 123, 3) := by decide +kernel
theorem dL_law_929 : decode cL_law 929 = .ok (.aload_n 2, 1) := by decide +kernel
theorem dL_law_930 : decode cL_law 930 = .ok (.aload_n 0, 1) := by decide +kernel
theorem dL_law_931 : decode cL_law 931 = .ok (.iload_n 3, 1) := by decide +kernel
theorem dL_law_932 : decode cL_law 932 = .ok (.iconst 1, 1) := by decide +kernel
theorem dL_law_933 : decode cL_law 933 = .ok (.iadd, 1) := by decide +kernel
theorem dL_law_934 : decode cL_law 934 = .ok (.iaload, 1) := by decide +kernel
theorem dL_law_935 : decode cL_law 935 = .ok (.invokevirtual 126, 3) := by decide +kernel
theorem dL_law_938 : decode cL_law 938 = .ok (.if_icmp .eq 71, 3) := by decide +kernel
theorem dL_law_941 : decode cL_law 941 = .ok (.iconst 0, 1) := by decide +kernel
theorem dL_law_942 : decode cL_law 942 = .ok (.ireturn, 1) := by decide +kernel
theorem dL_law_943 : decode cL_law 943 = .ok (.aload_n 1, 1) := by decide +kernel
theorem dL_law_944 : decode cL_law 944 = .ok (.aload_n 0, 1) := by decide +kernel
theorem dL_law_945 : decode cL_law 945 = .ok (.iload_n 3, 1) := by decide +kernel
theorem dL_law_946 : decode cL_law 946 = .ok (.iconst 1, 1) := by decide +kernel
theorem dL_law_947 : decode cL_law 947 = .ok (.iadd, 1) := by decide +kernel
theorem dL_law_948 : decode cL_law 948 = .ok (.iaload, 1) := by decide +kernel
theorem dL_law_949 : decode cL_law 949 = .ok (.invokevirtual 127, 3) := by decide +kernel
theorem dL_law_952 : decode cL_law 952 = .ok (.aload_n 2, 1) := by decide +kernel
theorem dL_law_953 : decode cL_law 953 = .ok (.aload_n 0, 1) := by decide +kernel
theorem dL_law_954 : decode cL_law 954 = .ok (.iload_n 3, 1) := by decide +kernel
theorem dL_law_955 : decode cL_law 955 = .ok (.iconst 1, 1) := by decide +kernel
theorem dL_law_956 : decode cL_law 956 = .ok (.iadd, 1) := by decide +kernel
theorem dL_law_957 : decode cL_law 957 = .ok (.iaload, 1) := by decide +kernel
theorem dL_law_958 : decode cL_law 958 = .ok (.invokevirtual 130, 3) := by decide +kernel
theorem dL_law_961 : decode cL_law 961 = .ok (.if_icmp .eq 48, 3) := by decide +kernel
theorem dL_law_964 : decode cL_law 964 = .ok (.iconst 0, 1) := by decide +kernel
theorem dL_law_965 : decode cL_law 965 = .ok (.ireturn, 1) := by decide +kernel
theorem dL_law_966 : decode cL_law 966 = .ok (.aload_n 1, 1) := by decide +kernel
theorem dL_law_967 : decode cL_law 967 = .ok (.aload_n 0, 1) := by decide +kernel
theorem dL_law_968 : decode cL_law 968 = .ok (.iload_n 3, 1) := by decide +kernel
theorem dL_law_969 : decode cL_law 969 = .ok (.iconst 1, 1) := by decide +kernel
theorem dL_law_970 : decode cL_law 970 = .ok (.iadd, 1) := by decide +kernel
theorem dL_law_971 : decode cL_law 971 = .ok (.iaload, 1) := by decide +kernel
theorem dL_law_972 : decode cL_law 972 = .ok (.aload_n 0, 1) := by decide +kernel
theorem dL_law_973 : decode cL_law 973 = .ok (.iload_n 3, 1) := by decide +kernel
theorem dL_law_974 : decode cL_law 974 = .ok (.iconst 2, 1) := by decide +kernel
theorem dL_law_975 : decode cL_law 975 = .ok (.iadd, 1) := by decide +kernel
theorem dL_law_976 : decode cL_law 976 = .ok (.iaload, 1) := by decide +kernel
theorem dL_law_977 : decode cL_law 977 = .ok (.aload_n 0, 1) := by decide +kernel
theorem dL_law_978 : decode cL_law 978 = .ok (.iload_n 3, 1) := by decide +kernel
theorem dL_law_979 : decode cL_law 979 = .ok (.iconst 3, 1) := by decide +kernel
theorem dL_law_980 : decode cL_law 980 = .ok (.iadd, 1) := by decide +kernel
theorem dL_law_981 : decode cL_law 981 = .ok (.iaload, 1) := by decide +kernel
theorem dL_law_982 : decode cL_law 982 = .ok (.invokevirtual 131, 3) := by decide +kernel
theorem dL_law_985 : decode cL_law 985 = .ok (.aload_n 2, 1) := by decide +kernel
theorem dL_law_986 : decode cL_law 986 = .ok (.aload_n 0, 1) := by decide +kernel
theorem dL_law_987 : decode cL_law 987 = .ok (.iload_n 3, 1) := by decide +kernel
theorem dL_law_988 : decode cL_law 988 = .ok (.iconst 1, 1) := by decide +kernel
theorem dL_law_989 : decode cL_law 989 = .ok (.iadd, 1) := by decide +kernel
theorem dL_law_990 : decode cL_law 990 = .ok (.iaload, 1) := by decide +kernel
theorem dL_law_991 : decode cL_law 991 = .ok (.aload_n 0, 1) := by decide +kernel
theorem dL_law_992 : decode cL_law 992 = .ok (.iload_n 3, 1) := by decide +kernel
theorem dL_law_993 : decode cL_law 993 = .ok (.iconst 2, 1) := by decide +kernel
theorem dL_law_994 : decode cL_law 994 = .ok (.iadd, 1) := by decide +kernel
theorem dL_law_995 : decode cL_law 995 = .ok (.iaload, 1) := by decide +kernel
theorem dL_law_996 : decode cL_law 996 = .ok (.aload_n 0, 1) := by decide +kernel
theorem dL_law_997 : decode cL_law 997 = .ok (.iload_n 3, 1) := by decide +kernel
theorem dL_law_998 : decode cL_law 998 = .ok (.iconst 3, 1) := by decide +kernel
theorem dL_law_999 : decode cL_law 999 = .ok (.iadd, 1) := by decide +kernel
theorem dL_law_1000 : decode cL_law 1000 = .ok (.iaload, 1) := by decide +kernel
theorem dL_law_1001 : decode cL_law 1001 = .ok (.invokevirtual 134, 3) := by decide +kernel
theorem dL_law_1004 : decode cL_law 1004 = .ok (.if_icmp .eq 5, 3) := by decide +kernel
theorem dL_law_1007 : decode cL_law 1007 = .ok (.iconst 0, 1) := by decide +kernel
theorem dL_law_1008 : decode cL_law 1008 = .ok (.ireturn, 1) := by decide +kernel
theorem dL_law_1009 : decode cL_law 1009 = .ok (.iinc 3 8, 3) := by decide +kernel
theorem dL_law_1012 : decode cL_law 1012 = .ok (.goto (-994), 3) := by decide +kernel
theorem dL_law_1015 : decode cL_law 1015 = .ok (.iconst 1, 1) := by decide +kernel
theorem dL_law_1016 : decode cL_law 1016 = .ok (.ireturn, 1) := by decide +kernel
end
section

abbrev Mem : Type := Nat → va_E
abbrev Cx : Type := Launch × va_G × (Nat → Nat) × (Nat → ClassId) × Nat × Nat
abbrev Lv : Type := List (Option Value)
abbrev KT : Type := Mem → Nat → Lv → List Value → Prop
def gtb : List Cond := lw_tbl.filter goodWord
theorem gtb_in {y : MethodName} {cc : ByteArray} {n : Nat} {ret : Option FieldType} (h : Cond.code y cc n ret ∈ gtb) : GoodIn gtb (Cond.code y cc n ret :: gtb) := by
  intro w hw
  have hm : w ∈ gtb := by
    rcases List.mem_cons.mp hw with rfl | h1
    · exact h
    · exact h1
  exact ⟨hm, good_of_word (List.mem_filter.mp hm).2⟩
abbrev rf (X : Cx) (i : Nat) : Value := .ref (X.2.2.1 i)
abbrev aI (X : Cx) (n : Nat) (f : Nat → Int32) : va_E := .inl (X.2.2.2.1 0, n, .inl f)
abbrev aJ (X : Cx) (n : Nat) (f : Nat → Int64) : va_E := .inl (X.2.2.2.1 1, n, .inr (.inl f))
abbrev aB (X : Cx) (n : Nat) (f : Nat → Int32) : va_E := .inl (X.2.2.2.1 2, n, .inl f)
abbrev aZ (X : Cx) (n : Nat) (f : Nat → Int32) : va_E := .inl (X.2.2.2.1 3, n, .inl f)
abbrev aRI (X : Cx) (n : Nat) (r : Nat → Nat) : va_E := .inl (X.2.2.2.1 4, n, .inr (.inr (.inr (.inr (fun k => some (X.2.2.1 (r k)))))))
abbrev aRJ (X : Cx) (n : Nat) (r : Nat → Nat) : va_E := .inl (X.2.2.2.1 5, n, .inr (.inr (.inr (.inr (fun k => some (X.2.2.1 (r k)))))))
def inA (X : Cx) (q : Nat) : Prop := ∃ i, i < 147 ∧ q = X.2.2.1 i
def hld (X : Cx) (g : Mem) (H : Heap) : Prop := ∀ i, i < 147 → va_at X.2.1 vwCl (X.2.2.1 i, g i) H
def injX (X : Cx) : Prop := ∀ i j, i < 147 → j < 147 → X.2.2.1 i = X.2.2.1 j → i = j
def tysX (X : Cx) : List (ClassId × FieldType) := [(X.2.2.2.1 0, .int), (X.2.2.2.1 1, .long), (X.2.2.2.1 2, .byte), (X.2.2.2.1 3, .boolean), (X.2.2.2.1 4, .array .int), (X.2.2.2.1 5, .array .long)]
def prI (j : Nat) : Int32 := ([2, 3, 5, 7, 11, 13] : List Int32).getD j 0
def lgL (j : Nat) : Int64 := ([1000000000000, 1584962500721, 2321928094887, 2807354922058, 3459431618637, 3700439718141] : List Int64).getD j 0
def staX (X : Cx) (U : State) (H : Heap) : Prop := va_Z "TuneBench" "PRIMES" "[I" (.ref X.2.2.2.2.1) (inA X) U H ∧ va_T .int X.2.2.2.2.1 6 (fun j => .int (prI j)) (inA X) U H ∧ va_Z "TuneBench$Divisions" "LOGARITHMS" "[J" (.ref X.2.2.2.2.2) (inA X) U H ∧ va_T .long X.2.2.2.2.2 6 (fun j => .long (lgL j)) (inA X) U H
def ovrA (U : State) (cA cE : ClassId) (ty : FieldType) : Prop := ∃ (k kc : Class), U.vm.classes[cA]? = some k ∧ k.kind = .array cE (.array ty) ∧ U.vm.classes[cE]? = some kc
def ovrX (X : Cx) (U : State) : Prop := ovrA U (X.2.2.2.1 4) (X.2.2.2.1 0) .int ∧ ovrA U (X.2.2.2.1 5) (X.2.2.2.1 1) .long
def nsts : List Cond := [.fieldLinkNest "TuneBench" 137 "TuneBench$Commas" "count" "I" "TuneBench", .fieldLinkNest "TuneBench$Scale" 84 "TuneBench$NoteList" "rows" "[[I" "TuneBench", .fieldLinkNest "TuneBench$Scale" 46 "TuneBench$NoteList" "count" "I" "TuneBench", .fieldLinkNest "TuneBench" 188 "TuneBench$NoteList" "count" "I" "TuneBench", .fieldLinkNest "TuneBench" 161 "TuneBench$Scale" "period" "[I" "TuneBench", .fieldLinkNest "TuneBench" 164 "TuneBench$Scale" "notes" "LTuneBench$NoteList;" "TuneBench", .fieldLinkNest "TuneBench$Row" 25 "TuneBench" "PRIMES" "[I" "TuneBench", .fieldLinkNest "TuneBench$Natural" 28 "TuneBench" "PRIMES" "[I" "TuneBench", .methodLinkNest "TuneBench$Divisions" 11 ⟨"TuneBench", "isPrimeNumber", "(I)Z"⟩ "TuneBench"]
theorem nsts_tbl : ∀ w ∈ nsts, w ∈ lw_tbl := by decide +kernel
theorem nsts_on : ∀ w ∈ nsts, w.onTables = true := by decide +kernel
theorem nsts_kind {w : Cond} (h : w ∈ nsts) : (∃ (a : String) (i : Nat) (b n d h : String), w = .fieldLinkNest a i b n d h) ∨ ∃ (a : String) (i : Nat) (x : MethodName) (h : String), w = .methodLinkNest a i x h := by
  simp only [nsts, List.mem_cons, List.not_mem_nil, or_false] at h
  rcases h with rfl | rfl | rfl | rfl | rfl | rfl | rfl | rfl | rfl <;> first | exact Or.inl ⟨_, _, _, _, _, _, rfl⟩ | exact Or.inr ⟨_, _, _, _, rfl⟩
def nstX (U : State) : Prop := ∀ w ∈ nsts, va_Nw w U
theorem nstX.warm {s U : State} (hW : s.WarmedH U.vm) (h : nstX s) : nstX U := by
  intro w hw
  have h1 := h w hw
  rcases nsts_kind hw with ⟨a, i, b, n, d, z, rfl⟩ | ⟨a, i, x, z, rfl⟩
  · exact va_Nw.warmF hW h1
  · exact va_Nw.warmM hW h1
theorem nstX.same {s U : State} (hW : s.vm = U.vm) (h : nstX s) : nstX U := fun w hw => va_Nw.same (nsts_on w hw) hW (h w hw)
theorem ovrA.moved {u U : State} (hvm : u.vm.Alike U.vm) {cA cE : ClassId} {ty : FieldType} (h : ovrA u cA cE ty) : ovrA U cA cE ty := by
  obtain ⟨k, kc, h1, h2, h3⟩ := h
  obtain ⟨k', hk', he⟩ := hvm.2.2 _ _ h1
  obtain ⟨k2, hk2, -⟩ := hvm.2.2 _ _ h3
  exact ⟨k', k2, hk', by rw [he]; exact h2, hk2⟩
def kxX (X : Cx) (U : State) : Prop := va_K X.2.1 vwCl (tysX X) U ∧ ovrX X U ∧ nstX U
def PreX (X : Cx) (g : Mem) (U : State) : Prop := injX X ∧ kxX X U ∧ staX X U U.heap ∧ hld X g U.heap
theorem kxX.warm {X : Cx} {s U : State} (hW : s.WarmedH U.vm) (h : kxX X s) : kxX X U := ⟨va_K.moved hW.alike h.1, ⟨h.2.1.1.moved hW.alike, h.2.1.2.moved hW.alike⟩, h.2.2.warm hW⟩
theorem kxX.same {X : Cx} {s U : State} (hW : s.vm = U.vm) (h : kxX X s) : kxX X U := by
  have ha : s.vm.Alike U.vm := by rw [hW]; exact Vm.Alike.refl _
  exact ⟨va_K.moved ha h.1, ⟨h.2.1.1.moved ha, h.2.1.2.moved ha⟩, h.2.2.same hW⟩
theorem staX.moved {X : Cx} {u U : State} {H H1 : Heap} (hvm : u.vm.Alike U.vm) (h : staX X u H) (hq : ∀ a : Nat, a < H.size → ¬ inA X a → H1[a]? = H[a]?) : staX X U H1 :=
  ⟨(h.1.moved hvm).kept hq, (h.2.1.moved hvm).kept hq, (h.2.2.1.moved hvm).kept hq, (h.2.2.2.moved hvm).kept hq⟩
theorem PreX.blind {X : Cx} {as : List Value} {g : Mem} : FrameBlind (va_Pc as (PreX X g)) := by
  intro a U fr mk h
  obtain ⟨h0, h1, h2, h3, h4⟩ := h
  exact ⟨h0, h1, kxX.same (s := U) rfl h2, h3.moved (Vm.Alike.refl U.vm) (fun _ _ _ => rfl), h4⟩
-- the locals
def lget : Lv → Nat → Option Value
  | [], _ => none
  | a :: _, 0 => a
  | _ :: t, k + 1 => lget t k
def drop2 (a : Option Value) : Option Value := match a with
  | some (.long _) => none
  | some (.double _) => none
  | b => b
def lset : Lv → Nat → Value → Lv
  | [], _, _ => []
  | _ :: t, 0, v => some v :: t
  | a :: t, 1, v => drop2 a :: lset t 0 v
  | a :: t, k + 2, v => a :: lset t (k + 1) v
def lset2 : Lv → Nat → Value → Lv
  | [], _, _ => []
  | [_], 0, v => [some v]
  | _ :: _ :: t, 0, v => some v :: none :: t
  | a :: t, 1, v => drop2 a :: lset2 t 0 v
  | a :: t, k + 2, v => a :: lset2 t (k + 1) v
def asc : Nat → Lv → List (Nat × Value)
  | _, [] => []
  | k, none :: t => asc (k + 1) t
  | k, some v :: t => (k, v) :: asc (k + 1) t
theorem asc_mem : ∀ (vs : Lv) (k : Nat) (q : Nat × Value), q ∈ asc k vs → ∃ j, q.1 = k + j ∧ lget vs j = some q.2
  | [], k, q, h => by simp [asc] at h
  | none :: t, k, q, h => by
    obtain ⟨j, h1, h2⟩ := asc_mem t (k + 1) q h
    exact ⟨j + 1, by omega, h2⟩
  | some v :: t, k, q, h => by
    rcases List.mem_cons.mp h with rfl | h
    · exact ⟨0, rfl, rfl⟩
    · obtain ⟨j, h1, h2⟩ := asc_mem t (k + 1) q h
      exact ⟨j + 1, by omega, h2⟩
theorem mem_asc : ∀ (vs : Lv) (k j : Nat) (v : Value), lget vs j = some v → (k + j, v) ∈ asc k vs
  | [], k, j, v, h => by simp [lget] at h
  | none :: t, k, 0, v, h => by simp [lget] at h
  | some w :: t, k, 0, v, h => by
    simp only [lget, Option.some.injEq] at h
    subst h
    exact List.mem_cons_self
  | none :: t, k, j + 1, v, h => by
    have := mem_asc t (k + 1) j v h
    rw [show k + (j + 1) = k + 1 + j by omega]
    exact this
  | some w :: t, k, j + 1, v, h => by
    have := mem_asc t (k + 1) j v h
    rw [show k + (j + 1) = k + 1 + j by omega]
    exact List.mem_cons_of_mem _ this
theorem drop2_some {a : Option Value} {w : Value} (h : drop2 a = some w) : a = some w ∧ ¬ w.category = 2 := by
  cases a with
  | none => simp [drop2] at h
  | some x => cases x <;> simp [drop2] at h <;> subst h <;> simp [Value.category]
theorem lset_get : ∀ (vs : Lv) (i : Nat) (v : Value) (j : Nat) (w : Value), lget (lset vs i v) j = some w → (j = i ∧ w = v) ∨ (j ≠ i ∧ ¬ (j + 1 = i ∧ w.category = 2) ∧ lget vs j = some w)
  | [], _, _, j, w, h => by simp [lset, lget] at h
  | a :: t, 0, v, 0, w, h => by
    simp only [lset, lget, Option.some.injEq] at h
    exact Or.inl ⟨rfl, h.symm⟩
  | a :: t, 0, v, j + 1, w, h => Or.inr ⟨by omega, by omega, by simpa [lset, lget] using h⟩
  | a :: t, 1, v, 0, w, h => by
    have h1 : drop2 a = some w := by simpa [lset, lget] using h
    obtain ⟨h2, h3⟩ := drop2_some h1
    exact Or.inr ⟨by omega, fun q => h3 q.2, h2⟩
  | a :: t, 1, v, j + 1, w, h => by
    have h1 : lget (lset t 0 v) j = some w := by simpa [lset, lget] using h
    rcases lset_get t 0 v j w h1 with ⟨h2, h3⟩ | ⟨h2, h3, h4⟩
    · exact Or.inl ⟨by omega, h3⟩
    · exact Or.inr ⟨by omega, fun q => by omega, h4⟩
  | a :: t, i + 2, v, 0, w, h => Or.inr ⟨by omega, by omega, by simpa [lset, lget] using h⟩
  | a :: t, i + 2, v, j + 1, w, h => by
    have h1 : lget (lset t (i + 1) v) j = some w := by simpa [lset, lget] using h
    rcases lset_get t (i + 1) v j w h1 with ⟨h2, h3⟩ | ⟨h2, h3, h4⟩
    · exact Or.inl ⟨by omega, h3⟩
    · exact Or.inr ⟨by omega, fun q => h3 ⟨by omega, q.2⟩, h4⟩
theorem lset2_get : ∀ (vs : Lv) (i : Nat) (v : Value) (j : Nat) (w : Value), lget (lset2 vs i v) j = some w → (j = i ∧ w = v) ∨ (j ≠ i ∧ j ≠ i + 1 ∧ ¬ (j + 1 = i ∧ w.category = 2) ∧ lget vs j = some w)
  | [], _, _, j, w, h => by simp [lset2, lget] at h
  | [a], 0, v, 0, w, h => by
    simp only [lset2, lget, Option.some.injEq] at h
    exact Or.inl ⟨rfl, h.symm⟩
  | [a], 0, v, j + 1, w, h => by simp [lset2, lget] at h
  | a :: b :: t, 0, v, 0, w, h => by
    simp only [lset2, lget, Option.some.injEq] at h
    exact Or.inl ⟨rfl, h.symm⟩
  | a :: b :: t, 0, v, 1, w, h => by simp [lset2, lget] at h
  | a :: b :: t, 0, v, j + 2, w, h => Or.inr ⟨by omega, by omega, by omega, by simpa [lset2, lget] using h⟩
  | a :: t, 1, v, 0, w, h => by
    have h1 : drop2 a = some w := by simpa [lset2, lget] using h
    obtain ⟨h2, h3⟩ := drop2_some h1
    exact Or.inr ⟨by omega, by omega, fun q => h3 q.2, h2⟩
  | a :: t, 1, v, j + 1, w, h => by
    have h1 : lget (lset2 t 0 v) j = some w := by simpa [lset2, lget] using h
    rcases lset2_get t 0 v j w h1 with ⟨h2, h3⟩ | ⟨h2, h3, h4, h5⟩
    · exact Or.inl ⟨by omega, h3⟩
    · exact Or.inr ⟨by omega, by omega, fun q => by omega, h5⟩
  | a :: t, i + 2, v, 0, w, h => Or.inr ⟨by omega, by omega, by omega, by simpa [lset2, lget] using h⟩
  | a :: t, i + 2, v, j + 1, w, h => by
    have h1 : lget (lset2 t (i + 1) v) j = some w := by simpa [lset2, lget] using h
    rcases lset2_get t (i + 1) v j w h1 with ⟨h2, h3⟩ | ⟨h2, h3, h4, h5⟩
    · exact Or.inl ⟨by omega, h3⟩
    · exact Or.inr ⟨by omega, by omega, fun q => h4 ⟨by omega, q.2⟩, h5⟩
abbrev lsh (ls : Array Slot) (nL : Nat) (vs : Lv) : Prop := lv_has ls nL (asc 0 vs)
theorem lsh_at {ls : Array Slot} {nL i : Nat} {vs : Lv} {v : Value} (h : lsh ls nL vs) (hv : lget vs i = some v) : ls[i]? = some (.val v) := by
  have := h.2.2 _ (mem_asc vs 0 i v hv)
  simpa using this
theorem lsh_set {ls : Array Slot} {nL i : Nat} {vs : Lv} {v : Value} (h : lv_has ls nL ((i, v) :: (asc 0 vs).filter (fun q => !(q.1 == i) && !(q.1 + 1 == i && q.2.category == 2)))) : lsh ls nL (lset vs i v) := by
  refine ⟨h.1, h.2.1, fun q hq => h.2.2 q ?_⟩
  obtain ⟨j, h1, h2⟩ := asc_mem _ _ _ hq
  rw [Nat.zero_add] at h1
  obtain ⟨q1, q2⟩ := q
  dsimp only at h1 h2
  subst h1
  rcases lset_get vs i v q1 q2 h2 with ⟨rfl, rfl⟩ | ⟨h3, h4, h5⟩
  · exact List.mem_cons_self
  · refine List.mem_cons_of_mem _ (List.mem_filter.mpr ⟨by simpa using mem_asc vs 0 q1 q2 h5, ?_⟩)
    by_cases hc : q1 + 1 = i
    · have : ¬ q2.category = 2 := fun z => h4 ⟨hc, z⟩
      simp [h3, this]
    · simp [h3, hc]
theorem lsh_set2 {ls : Array Slot} {nL i : Nat} {vs : Lv} {v : Value} (h : lv_has ls nL ((i, v) :: (asc 0 vs).filter (fun q => !(q.1 == i) && (!(q.1 == i + 1) && !(q.1 + 1 == i && q.2.category == 2))))) : lsh ls nL (lset2 vs i v) := by
  refine ⟨h.1, h.2.1, fun q hq => h.2.2 q ?_⟩
  obtain ⟨j, h1, h2⟩ := asc_mem _ _ _ hq
  rw [Nat.zero_add] at h1
  obtain ⟨q1, q2⟩ := q
  dsimp only at h1 h2
  subst h1
  rcases lset2_get vs i v q1 q2 h2 with ⟨rfl, rfl⟩ | ⟨h3, h6, h4, h5⟩
  · exact List.mem_cons_self
  · refine List.mem_cons_of_mem _ (List.mem_filter.mpr ⟨by simpa using mem_asc vs 0 q1 q2 h5, ?_⟩)
    by_cases hc : q1 + 1 = i
    · have : ¬ q2.category = 2 := fun z => h4 ⟨hc, z⟩
      simp [h3, h6, this]
    · simp [h3, h6, hc]
-- the world as a list
def wdl (X : Cx) (g : Mem) : va_W := (List.range 147).map (fun i => (X.2.2.1 i, g i))
theorem wdl_get {X : Cx} {g : Mem} {o : Nat} (ho : o < 147) : (wdl X g)[o]? = some (X.2.2.1 o, g o) := by
  unfold wdl
  rw [List.getElem?_map, List.getElem?_range ho]
  rfl
theorem wdl_at {X : Cx} {g : Mem} {o : Nat} {e : va_E} (ho : o < 147) (hg : g o = e) : (wdl X g)[o]? = some (X.2.2.1 o, e) := by rw [wdl_get ho, hg]
theorem wdl_P {X : Cx} {g : Mem} {H : Heap} (h : hld X g H) : va_P X.2.1 vwCl (wdl X g) H := by
  intro k q hk
  have hl : k < (wdl X g).length := (List.getElem?_eq_some_iff.mp hk).1
  have h1 : k < 147 := by simpa [wdl] using hl
  rw [wdl_get h1] at hk
  cases hk
  exact h k h1
theorem wdl_D {X : Cx} {g : Mem} (h : injX X) : va_D (inA X) (wdl X g) := by
  have key : ∀ (k : Nat) (q : Nat × va_E), (wdl X g)[k]? = some q → k < 147 ∧ q = (X.2.2.1 k, g k) := by
    intro k q hk
    have hl : k < (wdl X g).length := (List.getElem?_eq_some_iff.mp hk).1
    have h1 : k < 147 := by simpa [wdl] using hl
    rw [wdl_get h1] at hk
    cases hk
    exact ⟨h1, rfl⟩
  refine ⟨fun i j p q hi hj hpq => ?_, fun k q hk => ?_⟩
  · obtain ⟨a1, rfl⟩ := key i p hi
    obtain ⟨b1, rfl⟩ := key j q hj
    exact h i j a1 b1 hpq
  · obtain ⟨a1, rfl⟩ := key k q hk
    exact ⟨k, a1, rfl⟩
theorem hld_set {X : Cx} {g : Mem} {H H1 : Heap} {o : Nat} {e : va_E} (h : hld X g H) (hi : injX X) (ho : o < 147) (he : va_at X.2.1 vwCl (X.2.2.1 o, e) H1) (hq : ∀ q, q ≠ X.2.2.1 o → H1[q]? = H[q]?) : hld X (va_up g o e) H1 := by
  intro i hl
  by_cases hio : i = o
  · subst hio
    simpa [va_up] using he
  · rw [show va_up g o e i = g i by simp [va_up, hio]]
    exact (h i hl).kept (hq _ (fun z => hio (hi i o hl ho z)))
theorem hld_of {X : Cx} {g : Mem} {H1 : Heap} {o : Nat} {e : va_E} (ho : o < 147) (h : va_P X.2.1 vwCl ((wdl X g).set o (X.2.2.1 o, e)) H1) : hld X (va_up g o e) H1 := by
  intro i hl
  have hlen : o < (wdl X g).length := by simpa [wdl] using ho
  by_cases hio : i = o
  · subst hio
    have := h i (X.2.2.1 i, e) (List.getElem?_set_self hlen)
    simpa [va_up] using this
  · have := h i (X.2.2.1 i, g i) (by rw [List.getElem?_set_ne (fun z => hio z.symm)]; exact wdl_get hl)
    simpa [va_up, hio] using this
theorem asg_rf (vm : Vm) (a : ClassId) : vm.assignable a a = true := by
  show vm.assignableAux (255 + 1) a a = true
  unfold Vm.assignableAux
  simp
-- contracts
def Qcc (X : Cx) (Q : Option Value → Mem → Prop) : Array Value → State → Outcome → State → Prop := fun _ st oc t => (∃ (r : Option Value) (g : Mem), oc = .returned r ∧ Q r g ∧ hld X g t.heap) ∧ va_F (inA X) st t
def rmd (d : Nat) : Room := { frames := d, cells := 0, slots := 0, locals := 38 * d }
def CallM (X : Cx) (d : Nat) (y : MethodName) (as : List Value) (g : Mem) (Q : Option Value → Mem → Prop) : Prop := ∃ (cc : ByteArray) (n : Nat) (ret : Option FieldType), Cond.code y cc n ret ∈ gtb ∧ n ≤ 19 ∧ Met X.1 y (Cond.code y cc n ret :: gtb) (rmd d) (va_Pc as (PreX X g)) (Qcc X Q) 0 0 (inA X)
abbrev CallI (X : Cx) (d : Nat) (y : MethodName) (as : List Value) (g : Mem) (Q : Int32 → Mem → Prop) : Prop := CallM X d y as g (fun v g' => ∃ i, v = some (.int i) ∧ Q i g')
abbrev CallL (X : Cx) (d : Nat) (y : MethodName) (as : List Value) (g : Mem) (Q : Int64 → Mem → Prop) : Prop := CallM X d y as g (fun v g' => ∃ i, v = some (.long i) ∧ Q i g')
abbrev CallV (X : Cx) (d : Nat) (y : MethodName) (as : List Value) (g : Mem) (Q : Mem → Prop) : Prop := CallM X d y as g (fun v g' => v = none ∧ Q g')
def MnameOk (y : MethodName) (n : Nat) : Prop := y.cls ≠ "java/lang/invoke/MethodHandle" ∧ y.cls ≠ "java/lang/invoke/VarHandle" ∧ (parseMethodDescriptor y.desc).map (fun d => d.parameters.length) = some n
def SL (own : String) (idx : Nat) (y : MethodName) (n : Nat) : Prop := (Cond.methodLink own idx y ∈ gtb ∨ ∃ h, Cond.methodLinkNest own idx y h ∈ nsts) ∧ Cond.static y ∈ gtb ∧ Cond.initialized y.cls ∈ gtb ∧ MnameOk y n
def VL (own : String) (idx : Nat) (y : MethodName) (n ci : Nat) : Prop := Cond.methodLink own idx y ∈ gtb ∧ Cond.instanceMethod y ∈ gtb ∧ Cond.selects y.cls y y ∈ gtb ∧ Cond.initialized y.cls ∈ gtb ∧ MnameOk y n ∧ ∃ (T : u_T) (N : Nat), vwCl[ci]? = some (y.cls, T, N)
def FL (own : String) (idx ci k : Nat) : Prop := ∃ (C : String) (T : u_T) (N : Nat), vwCl[ci]? = some (C, T, N) ∧ k < N ∧ (∀ w ∈ u_ws C T N, w ∈ gtb) ∧ (Cond.fieldLink own idx (T k).1 (T k).2.1 (T k).2.2.1 ∈ gtb ∨ ∃ h, Cond.fieldLinkNest own idx (T k).1 (T k).2.1 (T k).2.2.1 h ∈ nsts)
def FP (own : String) (idx ci k : Nat) (ty : FieldType) : Prop := ∃ (C : String) (T : u_T) (N : Nat) (ty0 : Nat → FieldType), vwCl[ci]? = some (C, T, N) ∧ k < N ∧ (∀ w ∈ u_ws C T N, w ∈ gtb) ∧ (∀ k, k < N → parseFieldDescriptor (T k).2.2.1 = some (ty0 k)) ∧ (∀ a, a < N → ∀ b, b < N → a ≠ b → (T a).2.1 ≠ (T b).2.1) ∧ (T k).2.2.2 = false ∧ parseFieldDescriptor (T k).2.2.1 = some ty ∧ (Cond.fieldLink own idx (T k).1 (T k).2.1 (T k).2.2.1 ∈ gtb ∨ ∃ h, Cond.fieldLinkNest own idx (T k).1 (T k).2.1 (T k).2.2.1 h ∈ nsts)
def ACL (own : String) (idx : Nat) : Prop := Cond.methodLink own idx arraycopyName ∈ gtb ∧ Cond.native arraycopyName ∈ gtb ∧ Cond.static arraycopyName ∈ gtb ∧ Cond.initialized "java/lang/System" ∈ gtb
/-- what a method's walk stands on -/
def Fx (X : Cx) (p : Program) (s : State) (m : MethodId) (args : Array Value) (c : Code) (R : Room) (cells slots : Nat) (own : String) (cc : ByteArray) (nL d : Nat) : Prop := p.tables.exec = Jvm.exec ∧ c.code = cc ∧ c.maxLocals = nL ∧ s.vm.findClass own = some m.cls ∧ (∀ w ∈ gtb, w.before args s = true) ∧ injX X ∧ kxX X s ∧ staX X s s.heap ∧ d ≤ R.frames ∧ 38 * d ≤ R.locals ∧ cells ≤ R.cells ∧ slots ≤ R.slots
/-- the judgement: from every heap that holds the memory, at this place, the walk comes to its end -/
def KX (X : Cx) (p : Program) (e : Env) (R : Room) (s : State) (m : MethodId) (args : Array Value) (below : List Frame) (meth : Method) (c : Code) (cells slots nL : Nat) (Qw : State → Prop) : KT := fun g pc vs st => ∀ (H : Heap) (locs : List Loc) (ls : Array Slot), hld X g H → va_S (inA X) s.heap H locs → lsh ls nL vs → W p X.1 e R s m args below meth c H locs cells slots Qw (F0 m pc ls st)

def r_iconst (X : Cx) (own : String) (cc : ByteArray) (nL d : Nat) (K : KT) : Prop := ∀ (g : Mem) (pc : Nat) (vs : Lv) (st : List Value) (n : Int) (v : Int32), decode cc pc = .ok (.iconst n, 1) → Int32.ofInt n = v → (K g (pc + 1) vs (.int v :: st)) → K g pc vs (st)
def r_bipush (X : Cx) (own : String) (cc : ByteArray) (nL d : Nat) (K : KT) : Prop := ∀ (g : Mem) (pc : Nat) (vs : Lv) (st : List Value) (n : Int) (v : Int32), decode cc pc = .ok (.bipush n, 2) → (Int8.ofInt n).toInt32 = v → (K g (pc + 2) vs (.int v :: st)) → K g pc vs (st)
def r_sipush (X : Cx) (own : String) (cc : ByteArray) (nL d : Nat) (K : KT) : Prop := ∀ (g : Mem) (pc : Nat) (vs : Lv) (st : List Value) (n : Int) (v : Int32), decode cc pc = .ok (.sipush n, 3) → (Int16.ofInt n).toInt32 = v → (K g (pc + 3) vs (.int v :: st)) → K g pc vs (st)
def r_lconst (X : Cx) (own : String) (cc : ByteArray) (nL d : Nat) (K : KT) : Prop := ∀ (g : Mem) (pc : Nat) (vs : Lv) (st : List Value) (n : Fin 2) (v : Int64), decode cc pc = .ok (.lconst n, 1) → Int64.ofNat (n : Nat) = v → (K g (pc + 1) vs (.long v :: st)) → K g pc vs (st)
def r_ldc (X : Cx) (own : String) (cc : ByteArray) (nL d : Nat) (K : KT) : Prop := ∀ (g : Mem) (pc : Nat) (vs : Lv) (st : List Value) (i : Nat) (v : Int32), decode cc pc = .ok (.ldc i, 2) → Cond.constant own i v ∈ gtb → (K g (pc + 2) vs (.int v :: st)) → K g pc vs (st)
def r_ldcw (X : Cx) (own : String) (cc : ByteArray) (nL d : Nat) (K : KT) : Prop := ∀ (g : Mem) (pc : Nat) (vs : Lv) (st : List Value) (i : Nat) (v : Int32), decode cc pc = .ok (.ldc_w i, 3) → Cond.constant own i v ∈ gtb → (K g (pc + 3) vs (.int v :: st)) → K g pc vs (st)
def r_ldc2 (X : Cx) (own : String) (cc : ByteArray) (nL d : Nat) (K : KT) : Prop := ∀ (g : Mem) (pc : Nat) (vs : Lv) (st : List Value) (i : Nat) (v : Int64), decode cc pc = .ok (.ldc2_w i, 3) → Cond.constantLong own i v ∈ gtb → (K g (pc + 3) vs (.long v :: st)) → K g pc vs (st)
def r_iload_n (X : Cx) (own : String) (cc : ByteArray) (nL d : Nat) (K : KT) : Prop := ∀ (g : Mem) (pc : Nat) (vs : Lv) (st : List Value) (k : Fin 4) (i : Nat) (v : Int32), decode cc pc = .ok (.iload_n k, 1) → (k : Nat) = i → lget vs i = some (.int v) → (K g (pc + 1) vs (.int v :: st)) → K g pc vs (st)
def r_iload (X : Cx) (own : String) (cc : ByteArray) (nL d : Nat) (K : KT) : Prop := ∀ (g : Mem) (pc : Nat) (vs : Lv) (st : List Value) (i : Nat) (v : Int32), decode cc pc = .ok (.iload i, 2) → lget vs i = some (.int v) → (K g (pc + 2) vs (.int v :: st)) → K g pc vs (st)
def r_istore_n (X : Cx) (own : String) (cc : ByteArray) (nL d : Nat) (K : KT) : Prop := ∀ (g : Mem) (pc : Nat) (vs : Lv) (st : List Value) (k : Fin 4) (i : Nat) (v : Int32), decode cc pc = .ok (.istore_n k, 1) → (k : Nat) = i → i < nL → (K g (pc + 1) (lset vs i (.int v)) st) → K g pc vs (.int v :: st)
def r_istore (X : Cx) (own : String) (cc : ByteArray) (nL d : Nat) (K : KT) : Prop := ∀ (g : Mem) (pc : Nat) (vs : Lv) (st : List Value) (i : Nat) (v : Int32), decode cc pc = .ok (.istore i, 2) → i < nL → (K g (pc + 2) (lset vs i (.int v)) st) → K g pc vs (.int v :: st)
def r_lload_n (X : Cx) (own : String) (cc : ByteArray) (nL d : Nat) (K : KT) : Prop := ∀ (g : Mem) (pc : Nat) (vs : Lv) (st : List Value) (k : Fin 4) (i : Nat) (v : Int64), decode cc pc = .ok (.lload_n k, 1) → (k : Nat) = i → lget vs i = some (.long v) → (K g (pc + 1) vs (.long v :: st)) → K g pc vs (st)
def r_lload (X : Cx) (own : String) (cc : ByteArray) (nL d : Nat) (K : KT) : Prop := ∀ (g : Mem) (pc : Nat) (vs : Lv) (st : List Value) (i : Nat) (v : Int64), decode cc pc = .ok (.lload i, 2) → lget vs i = some (.long v) → (K g (pc + 2) vs (.long v :: st)) → K g pc vs (st)
def r_lstore_n (X : Cx) (own : String) (cc : ByteArray) (nL d : Nat) (K : KT) : Prop := ∀ (g : Mem) (pc : Nat) (vs : Lv) (st : List Value) (k : Fin 4) (i : Nat) (v : Int64), decode cc pc = .ok (.lstore_n k, 1) → (k : Nat) = i → i + 1 < nL → (K g (pc + 1) (lset2 vs i (.long v)) st) → K g pc vs (.long v :: st)
def r_lstore (X : Cx) (own : String) (cc : ByteArray) (nL d : Nat) (K : KT) : Prop := ∀ (g : Mem) (pc : Nat) (vs : Lv) (st : List Value) (i : Nat) (v : Int64), decode cc pc = .ok (.lstore i, 2) → i + 1 < nL → (K g (pc + 2) (lset2 vs i (.long v)) st) → K g pc vs (.long v :: st)
def r_aload_n (X : Cx) (own : String) (cc : ByteArray) (nL d : Nat) (K : KT) : Prop := ∀ (g : Mem) (pc : Nat) (vs : Lv) (st : List Value) (k : Fin 4) (i : Nat) (v : Nat), decode cc pc = .ok (.aload_n k, 1) → (k : Nat) = i → lget vs i = some (.ref v) → (K g (pc + 1) vs (.ref v :: st)) → K g pc vs (st)
def r_aload (X : Cx) (own : String) (cc : ByteArray) (nL d : Nat) (K : KT) : Prop := ∀ (g : Mem) (pc : Nat) (vs : Lv) (st : List Value) (i : Nat) (v : Nat), decode cc pc = .ok (.aload i, 2) → lget vs i = some (.ref v) → (K g (pc + 2) vs (.ref v :: st)) → K g pc vs (st)
def r_astore_n (X : Cx) (own : String) (cc : ByteArray) (nL d : Nat) (K : KT) : Prop := ∀ (g : Mem) (pc : Nat) (vs : Lv) (st : List Value) (k : Fin 4) (i : Nat) (v : Nat), decode cc pc = .ok (.astore_n k, 1) → (k : Nat) = i → i < nL → (K g (pc + 1) (lset vs i (.ref v)) st) → K g pc vs (.ref v :: st)
def r_astore (X : Cx) (own : String) (cc : ByteArray) (nL d : Nat) (K : KT) : Prop := ∀ (g : Mem) (pc : Nat) (vs : Lv) (st : List Value) (i : Nat) (v : Nat), decode cc pc = .ok (.astore i, 2) → i < nL → (K g (pc + 2) (lset vs i (.ref v)) st) → K g pc vs (.ref v :: st)
def r_iinc (X : Cx) (own : String) (cc : ByteArray) (nL d : Nat) (K : KT) : Prop := ∀ (g : Mem) (pc : Nat) (vs : Lv) (st : List Value) (i : Nat) (n : Int) (x v : Int32), decode cc pc = .ok (.iinc i n, 3) → lget vs i = some (.int x) → x + Int32.ofInt n = v → i < nL → (K g (pc + 3) (lset vs i (.int v)) st) → K g pc vs (st)
def r_iadd (X : Cx) (own : String) (cc : ByteArray) (nL d : Nat) (K : KT) : Prop := ∀ (g : Mem) (pc : Nat) (vs : Lv) (st : List Value) (x y : Int32), decode cc pc = .ok (.iadd, 1) → (K g (pc + 1) vs (.int (x + y) :: st)) → K g pc vs (.int y :: .int x :: st)
def r_isub (X : Cx) (own : String) (cc : ByteArray) (nL d : Nat) (K : KT) : Prop := ∀ (g : Mem) (pc : Nat) (vs : Lv) (st : List Value) (x y : Int32), decode cc pc = .ok (.isub, 1) → (K g (pc + 1) vs (.int (x - y) :: st)) → K g pc vs (.int y :: .int x :: st)
def r_imul (X : Cx) (own : String) (cc : ByteArray) (nL d : Nat) (K : KT) : Prop := ∀ (g : Mem) (pc : Nat) (vs : Lv) (st : List Value) (x y : Int32), decode cc pc = .ok (.imul, 1) → (K g (pc + 1) vs (.int (x * y) :: st)) → K g pc vs (.int y :: .int x :: st)
def r_iand (X : Cx) (own : String) (cc : ByteArray) (nL d : Nat) (K : KT) : Prop := ∀ (g : Mem) (pc : Nat) (vs : Lv) (st : List Value) (x y : Int32), decode cc pc = .ok (.iand, 1) → (K g (pc + 1) vs (.int (x &&& y) :: st)) → K g pc vs (.int y :: .int x :: st)
def r_ixor (X : Cx) (own : String) (cc : ByteArray) (nL d : Nat) (K : KT) : Prop := ∀ (g : Mem) (pc : Nat) (vs : Lv) (st : List Value) (x y : Int32), decode cc pc = .ok (.ixor, 1) → (K g (pc + 1) vs (.int (x ^^^ y) :: st)) → K g pc vs (.int y :: .int x :: st)
def r_idiv (X : Cx) (own : String) (cc : ByteArray) (nL d : Nat) (K : KT) : Prop := ∀ (g : Mem) (pc : Nat) (vs : Lv) (st : List Value) (x y : Int32), decode cc pc = .ok (.idiv, 1) → ¬ y = 0 → (K g (pc + 1) vs (.int (x / y) :: st)) → K g pc vs (.int y :: .int x :: st)
def r_irem (X : Cx) (own : String) (cc : ByteArray) (nL d : Nat) (K : KT) : Prop := ∀ (g : Mem) (pc : Nat) (vs : Lv) (st : List Value) (x y : Int32), decode cc pc = .ok (.irem, 1) → ¬ y = 0 → (K g (pc + 1) vs (.int (x - x / y * y) :: st)) → K g pc vs (.int y :: .int x :: st)
def r_ineg (X : Cx) (own : String) (cc : ByteArray) (nL d : Nat) (K : KT) : Prop := ∀ (g : Mem) (pc : Nat) (vs : Lv) (st : List Value) (x : Int32), decode cc pc = .ok (.ineg, 1) → (K g (pc + 1) vs (.int (-x) :: st)) → K g pc vs (.int x :: st)
def r_ladd (X : Cx) (own : String) (cc : ByteArray) (nL d : Nat) (K : KT) : Prop := ∀ (g : Mem) (pc : Nat) (vs : Lv) (st : List Value) (x y : Int64), decode cc pc = .ok (.ladd, 1) → (K g (pc + 1) vs (.long (x + y) :: st)) → K g pc vs (.long y :: .long x :: st)
def r_lsub (X : Cx) (own : String) (cc : ByteArray) (nL d : Nat) (K : KT) : Prop := ∀ (g : Mem) (pc : Nat) (vs : Lv) (st : List Value) (x y : Int64), decode cc pc = .ok (.lsub, 1) → (K g (pc + 1) vs (.long (x - y) :: st)) → K g pc vs (.long y :: .long x :: st)
def r_lmul (X : Cx) (own : String) (cc : ByteArray) (nL d : Nat) (K : KT) : Prop := ∀ (g : Mem) (pc : Nat) (vs : Lv) (st : List Value) (x y : Int64), decode cc pc = .ok (.lmul, 1) → (K g (pc + 1) vs (.long (x * y) :: st)) → K g pc vs (.long y :: .long x :: st)
def r_ldiv (X : Cx) (own : String) (cc : ByteArray) (nL d : Nat) (K : KT) : Prop := ∀ (g : Mem) (pc : Nat) (vs : Lv) (st : List Value) (x y : Int64), decode cc pc = .ok (.ldiv, 1) → ¬ y = 0 → (K g (pc + 1) vs (.long (x / y) :: st)) → K g pc vs (.long y :: .long x :: st)
def r_lrem (X : Cx) (own : String) (cc : ByteArray) (nL d : Nat) (K : KT) : Prop := ∀ (g : Mem) (pc : Nat) (vs : Lv) (st : List Value) (x y : Int64), decode cc pc = .ok (.lrem, 1) → ¬ y = 0 → (K g (pc + 1) vs (.long (x - x / y * y) :: st)) → K g pc vs (.long y :: .long x :: st)
def r_lneg (X : Cx) (own : String) (cc : ByteArray) (nL d : Nat) (K : KT) : Prop := ∀ (g : Mem) (pc : Nat) (vs : Lv) (st : List Value) (x : Int64), decode cc pc = .ok (.lneg, 1) → (K g (pc + 1) vs (.long (-x) :: st)) → K g pc vs (.long x :: st)
def r_ishl (X : Cx) (own : String) (cc : ByteArray) (nL d : Nat) (K : KT) : Prop := ∀ (g : Mem) (pc : Nat) (vs : Lv) (st : List Value) (x y : Int32), decode cc pc = .ok (.ishl, 1) → (K g (pc + 1) vs (.int (x <<< (y &&& 31)) :: st)) → K g pc vs (.int y :: .int x :: st)
def r_ishr (X : Cx) (own : String) (cc : ByteArray) (nL d : Nat) (K : KT) : Prop := ∀ (g : Mem) (pc : Nat) (vs : Lv) (st : List Value) (x y : Int32), decode cc pc = .ok (.ishr, 1) → (K g (pc + 1) vs (.int (x >>> (y &&& 31)) :: st)) → K g pc vs (.int y :: .int x :: st)
def r_iushr (X : Cx) (own : String) (cc : ByteArray) (nL d : Nat) (K : KT) : Prop := ∀ (g : Mem) (pc : Nat) (vs : Lv) (st : List Value) (x y v : Int32), decode cc pc = .ok (.iushr, 1) → (x.toUInt32 >>> (y.toUInt32 &&& Int32.toUInt32 31)).toInt32 = v → (K g (pc + 1) vs (.int v :: st)) → K g pc vs (.int y :: .int x :: st)
def r_i2l (X : Cx) (own : String) (cc : ByteArray) (nL d : Nat) (K : KT) : Prop := ∀ (g : Mem) (pc : Nat) (vs : Lv) (st : List Value) (x : Int32), decode cc pc = .ok (.i2l, 1) → (K g (pc + 1) vs (.long x.toInt64 :: st)) → K g pc vs (.int x :: st)
def r_l2i (X : Cx) (own : String) (cc : ByteArray) (nL d : Nat) (K : KT) : Prop := ∀ (g : Mem) (pc : Nat) (vs : Lv) (st : List Value) (x : Int64), decode cc pc = .ok (.l2i, 1) → (K g (pc + 1) vs (.int x.toInt32 :: st)) → K g pc vs (.long x :: st)
def r_i2b (X : Cx) (own : String) (cc : ByteArray) (nL d : Nat) (K : KT) : Prop := ∀ (g : Mem) (pc : Nat) (vs : Lv) (st : List Value) (x : Int32), decode cc pc = .ok (.i2b, 1) → (K g (pc + 1) vs (.int x.toInt8.toInt32 :: st)) → K g pc vs (.int x :: st)
def r_lcmp (X : Cx) (own : String) (cc : ByteArray) (nL d : Nat) (K : KT) : Prop := ∀ (g : Mem) (pc : Nat) (vs : Lv) (st : List Value) (x y : Int64), decode cc pc = .ok (.lcmp, 1) → (K g (pc + 1) vs (.int (lg_cmp x y) :: st)) → K g pc vs (.long y :: .long x :: st)
def r_dup (X : Cx) (own : String) (cc : ByteArray) (nL d : Nat) (K : KT) : Prop := ∀ (g : Mem) (pc : Nat) (vs : Lv) (st : List Value) (a : Value), decode cc pc = .ok (.dup, 1) → a.category = 1 → (K g (pc + 1) vs (a :: a :: st)) → K g pc vs (a :: st)
def r_pop (X : Cx) (own : String) (cc : ByteArray) (nL d : Nat) (K : KT) : Prop := ∀ (g : Mem) (pc : Nat) (vs : Lv) (st : List Value) (a : Value), decode cc pc = .ok (.pop, 1) → a.category = 1 → (K g (pc + 1) vs (st)) → K g pc vs (a :: st)
def r_dup2 (X : Cx) (own : String) (cc : ByteArray) (nL d : Nat) (K : KT) : Prop := ∀ (g : Mem) (pc : Nat) (vs : Lv) (st : List Value) (a b : Value), decode cc pc = .ok (.dup2, 1) → a.category = 1 → b.category = 1 → (K g (pc + 1) vs (a :: b :: a :: b :: st)) → K g pc vs (a :: b :: st)
def r_if_eq (X : Cx) (own : String) (cc : ByteArray) (nL d : Nat) (K : KT) : Prop := ∀ (g : Mem) (pc : Nat) (vs : Lv) (st : List Value) (x : Int32) (off : Int) (tgt : Nat), decode cc pc = .ok (.ifCond .eq off, 3) → (pc : Int) + off = (tgt : Int) → (x = 0 → K g tgt vs st) → (¬ x = 0 → K g (pc + 3) vs st) → K g pc vs (.int x :: st)
def r_icmp_eq (X : Cx) (own : String) (cc : ByteArray) (nL d : Nat) (K : KT) : Prop := ∀ (g : Mem) (pc : Nat) (vs : Lv) (st : List Value) (x y : Int32) (off : Int) (tgt : Nat), decode cc pc = .ok (.if_icmp .eq off, 3) → (pc : Int) + off = (tgt : Int) → (x = y → K g tgt vs st) → (¬ x = y → K g (pc + 3) vs st) → K g pc vs (.int y :: .int x :: st)
def r_if_ne (X : Cx) (own : String) (cc : ByteArray) (nL d : Nat) (K : KT) : Prop := ∀ (g : Mem) (pc : Nat) (vs : Lv) (st : List Value) (x : Int32) (off : Int) (tgt : Nat), decode cc pc = .ok (.ifCond .ne off, 3) → (pc : Int) + off = (tgt : Int) → (¬ x = 0 → K g tgt vs st) → (x = 0 → K g (pc + 3) vs st) → K g pc vs (.int x :: st)
def r_icmp_ne (X : Cx) (own : String) (cc : ByteArray) (nL d : Nat) (K : KT) : Prop := ∀ (g : Mem) (pc : Nat) (vs : Lv) (st : List Value) (x y : Int32) (off : Int) (tgt : Nat), decode cc pc = .ok (.if_icmp .ne off, 3) → (pc : Int) + off = (tgt : Int) → (¬ x = y → K g tgt vs st) → (x = y → K g (pc + 3) vs st) → K g pc vs (.int y :: .int x :: st)
def r_if_lt (X : Cx) (own : String) (cc : ByteArray) (nL d : Nat) (K : KT) : Prop := ∀ (g : Mem) (pc : Nat) (vs : Lv) (st : List Value) (x : Int32) (off : Int) (tgt : Nat), decode cc pc = .ok (.ifCond .lt off, 3) → (pc : Int) + off = (tgt : Int) → (x < 0 → K g tgt vs st) → (¬ x < 0 → K g (pc + 3) vs st) → K g pc vs (.int x :: st)
def r_icmp_lt (X : Cx) (own : String) (cc : ByteArray) (nL d : Nat) (K : KT) : Prop := ∀ (g : Mem) (pc : Nat) (vs : Lv) (st : List Value) (x y : Int32) (off : Int) (tgt : Nat), decode cc pc = .ok (.if_icmp .lt off, 3) → (pc : Int) + off = (tgt : Int) → (x < y → K g tgt vs st) → (¬ x < y → K g (pc + 3) vs st) → K g pc vs (.int y :: .int x :: st)
def r_if_ge (X : Cx) (own : String) (cc : ByteArray) (nL d : Nat) (K : KT) : Prop := ∀ (g : Mem) (pc : Nat) (vs : Lv) (st : List Value) (x : Int32) (off : Int) (tgt : Nat), decode cc pc = .ok (.ifCond .ge off, 3) → (pc : Int) + off = (tgt : Int) → (0 ≤ x → K g tgt vs st) → (¬ 0 ≤ x → K g (pc + 3) vs st) → K g pc vs (.int x :: st)
def r_icmp_ge (X : Cx) (own : String) (cc : ByteArray) (nL d : Nat) (K : KT) : Prop := ∀ (g : Mem) (pc : Nat) (vs : Lv) (st : List Value) (x y : Int32) (off : Int) (tgt : Nat), decode cc pc = .ok (.if_icmp .ge off, 3) → (pc : Int) + off = (tgt : Int) → (y ≤ x → K g tgt vs st) → (¬ y ≤ x → K g (pc + 3) vs st) → K g pc vs (.int y :: .int x :: st)
def r_if_gt (X : Cx) (own : String) (cc : ByteArray) (nL d : Nat) (K : KT) : Prop := ∀ (g : Mem) (pc : Nat) (vs : Lv) (st : List Value) (x : Int32) (off : Int) (tgt : Nat), decode cc pc = .ok (.ifCond .gt off, 3) → (pc : Int) + off = (tgt : Int) → (0 < x → K g tgt vs st) → (¬ 0 < x → K g (pc + 3) vs st) → K g pc vs (.int x :: st)
def r_icmp_gt (X : Cx) (own : String) (cc : ByteArray) (nL d : Nat) (K : KT) : Prop := ∀ (g : Mem) (pc : Nat) (vs : Lv) (st : List Value) (x y : Int32) (off : Int) (tgt : Nat), decode cc pc = .ok (.if_icmp .gt off, 3) → (pc : Int) + off = (tgt : Int) → (y < x → K g tgt vs st) → (¬ y < x → K g (pc + 3) vs st) → K g pc vs (.int y :: .int x :: st)
def r_if_le (X : Cx) (own : String) (cc : ByteArray) (nL d : Nat) (K : KT) : Prop := ∀ (g : Mem) (pc : Nat) (vs : Lv) (st : List Value) (x : Int32) (off : Int) (tgt : Nat), decode cc pc = .ok (.ifCond .le off, 3) → (pc : Int) + off = (tgt : Int) → (x ≤ 0 → K g tgt vs st) → (¬ x ≤ 0 → K g (pc + 3) vs st) → K g pc vs (.int x :: st)
def r_icmp_le (X : Cx) (own : String) (cc : ByteArray) (nL d : Nat) (K : KT) : Prop := ∀ (g : Mem) (pc : Nat) (vs : Lv) (st : List Value) (x y : Int32) (off : Int) (tgt : Nat), decode cc pc = .ok (.if_icmp .le off, 3) → (pc : Int) + off = (tgt : Int) → (x ≤ y → K g tgt vs st) → (¬ x ≤ y → K g (pc + 3) vs st) → K g pc vs (.int y :: .int x :: st)
def r_goto (X : Cx) (own : String) (cc : ByteArray) (nL d : Nat) (K : KT) : Prop := ∀ (g : Mem) (pc : Nat) (vs : Lv) (st : List Value) (off : Int) (tgt : Nat), decode cc pc = .ok (.goto off, 3) → (pc : Int) + off = (tgt : Int) → (K g tgt vs st) → K g pc vs (st)
def r_tabO (X : Cx) (own : String) (cc : ByteArray) (nL d : Nat) (K : KT) : Prop := ∀ (g : Mem) (pc : Nat) (vs : Lv) (st : List Value) (dflt lo hi : Int) (offs : Array Int) (len : Nat) (x : Int32) (tgt : Nat), decode cc pc = .ok (.tableswitch dflt lo hi offs, len) → x.toInt < lo ∨ hi < x.toInt → (pc : Int) + dflt = (tgt : Int) → (K g tgt vs st) → K g pc vs (.int x :: st)
def r_tabI (X : Cx) (own : String) (cc : ByteArray) (nL d : Nat) (K : KT) : Prop := ∀ (g : Mem) (pc : Nat) (vs : Lv) (st : List Value) (dflt lo hi : Int) (offs : Array Int) (len : Nat) (x : Int32) (off : Int) (tgt : Nat), decode cc pc = .ok (.tableswitch dflt lo hi offs, len) → ¬ x.toInt < lo → ¬ hi < x.toInt → offs[(x.toInt - lo).toNat]? = some off → (pc : Int) + off = (tgt : Int) → (K g tgt vs st) → K g pc vs (.int x :: st)
def r_getf (X : Cx) (own : String) (cc : ByteArray) (nL d : Nat) (K : KT) : Prop := ∀ (g : Mem) (pc : Nat) (vs : Lv) (st : List Value) (idx ci k o : Nat) (fs : List Value) (v : Value), decode cc pc = .ok (.getfield idx, 3) → FL own idx ci k → o < 147 → g o = .inr (ci, fs) → fs[k]? = some v → (K g (pc + 3) vs (v :: st)) → K g pc vs (rf X o :: st)
def r_putf (X : Cx) (own : String) (cc : ByteArray) (nL d : Nat) (K : KT) : Prop := ∀ (g : Mem) (pc : Nat) (vs : Lv) (st : List Value) (idx ci k o : Nat) (fs : List Value) (v : Value) (ty : FieldType), decode cc pc = .ok (.putfield idx, 3) → FP own idx ci k ty → o < 147 → g o = .inr (ci, fs) → narrow ty v = v → fits ty v = true → k < fs.length → (K (va_up g o (.inr (ci, fs.set k v))) (pc + 3) vs st) → K g pc vs (v :: rf X o :: st)
def r_getsP (X : Cx) (own : String) (cc : ByteArray) (nL d : Nat) (K : KT) : Prop := ∀ (g : Mem) (pc : Nat) (vs : Lv) (st : List Value) (idx : Nat) (host : String), decode cc pc = .ok (.getstatic idx, 3) → Cond.fieldLinkNest own idx "TuneBench" "PRIMES" "[I" host ∈ nsts → (K g (pc + 3) vs (.ref X.2.2.2.2.1 :: st)) → K g pc vs (st)
def r_getsL (X : Cx) (own : String) (cc : ByteArray) (nL d : Nat) (K : KT) : Prop := ∀ (g : Mem) (pc : Nat) (vs : Lv) (st : List Value) (idx : Nat), decode cc pc = .ok (.getstatic idx, 3) → Cond.fieldLink own idx "TuneBench$Divisions" "LOGARITHMS" "[J" ∈ gtb → (K g (pc + 3) vs (.ref X.2.2.2.2.2 :: st)) → K g pc vs (st)
def r_ialdP (X : Cx) (own : String) (cc : ByteArray) (nL d : Nat) (K : KT) : Prop := ∀ (g : Mem) (pc : Nat) (vs : Lv) (st : List Value) (i : Int32), decode cc pc = .ok (.iaload, 1) → vp_in i 6 → (K g (pc + 1) vs (.int (prI i.toNatClampNeg) :: st)) → K g pc vs (.int i :: .ref X.2.2.2.2.1 :: st)
def r_laldL (X : Cx) (own : String) (cc : ByteArray) (nL d : Nat) (K : KT) : Prop := ∀ (g : Mem) (pc : Nat) (vs : Lv) (st : List Value) (i : Int32), decode cc pc = .ok (.laload, 1) → vp_in i 6 → (K g (pc + 1) vs (.long (lgL i.toNatClampNeg) :: st)) → K g pc vs (.int i :: .ref X.2.2.2.2.2 :: st)
def r_iald (X : Cx) (own : String) (cc : ByteArray) (nL d : Nat) (K : KT) : Prop := ∀ (g : Mem) (pc : Nat) (vs : Lv) (st : List Value) (o n : Nat) (f : Nat → Int32) (i : Int32), decode cc pc = .ok (.iaload, 1) → o < 147 → g o = aI X n f → vp_in i n → (K g (pc + 1) vs (.int (f i.toNatClampNeg) :: st)) → K g pc vs (.int i :: rf X o :: st)
def r_lald (X : Cx) (own : String) (cc : ByteArray) (nL d : Nat) (K : KT) : Prop := ∀ (g : Mem) (pc : Nat) (vs : Lv) (st : List Value) (o n : Nat) (f : Nat → Int64) (i : Int32), decode cc pc = .ok (.laload, 1) → o < 147 → g o = aJ X n f → vp_in i n → (K g (pc + 1) vs (.long (f i.toNatClampNeg) :: st)) → K g pc vs (.int i :: rf X o :: st)
def r_bald (X : Cx) (own : String) (cc : ByteArray) (nL d : Nat) (K : KT) : Prop := ∀ (g : Mem) (pc : Nat) (vs : Lv) (st : List Value) (o n : Nat) (f : Nat → Int32) (i : Int32), decode cc pc = .ok (.baload, 1) → o < 147 → g o = aB X n f → vp_in i n → (K g (pc + 1) vs (.int (f i.toNatClampNeg) :: st)) → K g pc vs (.int i :: rf X o :: st)
def r_zald (X : Cx) (own : String) (cc : ByteArray) (nL d : Nat) (K : KT) : Prop := ∀ (g : Mem) (pc : Nat) (vs : Lv) (st : List Value) (o n : Nat) (f : Nat → Int32) (i : Int32), decode cc pc = .ok (.baload, 1) → o < 147 → g o = aZ X n f → vp_in i n → (K g (pc + 1) vs (.int (f i.toNatClampNeg) :: st)) → K g pc vs (.int i :: rf X o :: st)
def r_aaldI (X : Cx) (own : String) (cc : ByteArray) (nL d : Nat) (K : KT) : Prop := ∀ (g : Mem) (pc : Nat) (vs : Lv) (st : List Value) (o n : Nat) (r : Nat → Nat) (i : Int32), decode cc pc = .ok (.aaload, 1) → o < 147 → g o = aRI X n r → vp_in i n → (K g (pc + 1) vs (rf X (r i.toNatClampNeg) :: st)) → K g pc vs (.int i :: rf X o :: st)
def r_aaldJ (X : Cx) (own : String) (cc : ByteArray) (nL d : Nat) (K : KT) : Prop := ∀ (g : Mem) (pc : Nat) (vs : Lv) (st : List Value) (o n : Nat) (r : Nat → Nat) (i : Int32), decode cc pc = .ok (.aaload, 1) → o < 147 → g o = aRJ X n r → vp_in i n → (K g (pc + 1) vs (rf X (r i.toNatClampNeg) :: st)) → K g pc vs (.int i :: rf X o :: st)
def r_iast (X : Cx) (own : String) (cc : ByteArray) (nL d : Nat) (K : KT) : Prop := ∀ (g : Mem) (pc : Nat) (vs : Lv) (st : List Value) (o n : Nat) (f : Nat → Int32) (i : Int32) (x : Int32), decode cc pc = .ok (.iastore, 1) → o < 147 → g o = aI X n f → vp_in i n → (K (va_up g o (aI X n (upd f i.toNatClampNeg x))) (pc + 1) vs st) → K g pc vs (.int x :: .int i :: rf X o :: st)
def r_last (X : Cx) (own : String) (cc : ByteArray) (nL d : Nat) (K : KT) : Prop := ∀ (g : Mem) (pc : Nat) (vs : Lv) (st : List Value) (o n : Nat) (f : Nat → Int64) (i : Int32) (x : Int64), decode cc pc = .ok (.lastore, 1) → o < 147 → g o = aJ X n f → vp_in i n → (K (va_up g o (aJ X n (vp_updL f i.toNatClampNeg x))) (pc + 1) vs st) → K g pc vs (.long x :: .int i :: rf X o :: st)
def r_bast (X : Cx) (own : String) (cc : ByteArray) (nL d : Nat) (K : KT) : Prop := ∀ (g : Mem) (pc : Nat) (vs : Lv) (st : List Value) (o n : Nat) (f : Nat → Int32) (i : Int32) (x : Int32), decode cc pc = .ok (.bastore, 1) → o < 147 → g o = aB X n f → vp_in i n → (K (va_up g o (aB X n (upd f i.toNatClampNeg (vp_nar .byte x)))) (pc + 1) vs st) → K g pc vs (.int x :: .int i :: rf X o :: st)
def r_zast (X : Cx) (own : String) (cc : ByteArray) (nL d : Nat) (K : KT) : Prop := ∀ (g : Mem) (pc : Nat) (vs : Lv) (st : List Value) (o n : Nat) (f : Nat → Int32) (i : Int32) (x : Int32), decode cc pc = .ok (.bastore, 1) → o < 147 → g o = aZ X n f → vp_in i n → (K (va_up g o (aZ X n (upd f i.toNatClampNeg (vp_nar .boolean x)))) (pc + 1) vs st) → K g pc vs (.int x :: .int i :: rf X o :: st)
def r_aastI (X : Cx) (own : String) (cc : ByteArray) (nL d : Nat) (K : KT) : Prop := ∀ (g : Mem) (pc : Nat) (vs : Lv) (st : List Value) (o n q m2 : Nat) (r : Nat → Nat) (f : Nat → Int32) (i : Int32), decode cc pc = .ok (.aastore, 1) → o < 147 → g o = aRI X n r → vp_in i n → q < 147 → g q = aI X m2 f → (K (va_up g o (aRI X n (va_up r i.toNatClampNeg q))) (pc + 1) vs st) → K g pc vs (rf X q :: .int i :: rf X o :: st)
def r_aastJ (X : Cx) (own : String) (cc : ByteArray) (nL d : Nat) (K : KT) : Prop := ∀ (g : Mem) (pc : Nat) (vs : Lv) (st : List Value) (o n q m2 : Nat) (r : Nat → Nat) (f : Nat → Int64) (i : Int32), decode cc pc = .ok (.aastore, 1) → o < 147 → g o = aRJ X n r → vp_in i n → q < 147 → g q = aJ X m2 f → (K (va_up g o (aRJ X n (va_up r i.toNatClampNeg q))) (pc + 1) vs st) → K g pc vs (rf X q :: .int i :: rf X o :: st)
def r_alen (X : Cx) (own : String) (cc : ByteArray) (nL d : Nat) (K : KT) : Prop := ∀ (g : Mem) (pc : Nat) (vs : Lv) (st : List Value) (o : Nat) (cA : ClassId) (x : vp_A) (v : Int32) (t0 : Nat) (ty : FieldType), decode cc pc = .ok (.arraylength, 1) → o < 147 → g o = .inl (cA, x) → (tysX X)[t0]? = some (cA, ty) → Int32.ofNat x.1 = v → (K g (pc + 1) vs (.int v :: st)) → K g pc vs (rf X o :: st)
def r_callS (X : Cx) (own : String) (cc : ByteArray) (nL d : Nat) (K : KT) : Prop := ∀ (g : Mem) (pc : Nat) (vs : Lv) (st : List Value) (idx n d1 : Nat) (y : MethodName) (as r : List Value) (Q : Option Value → Mem → Prop), decode cc pc = .ok (.invokestatic idx, 3) → SL own idx y n → as.length = n → (r.map fun v => v.category).sum ≤ 8 → d1 + 1 ≤ d → CallM X d1 y as g Q → st = as.reverse ++ r → (∀ v g9, Q v g9 → K g9 (pc + 3) vs (v.toList ++ r)) → K g pc vs (st)
def r_callV (X : Cx) (own : String) (cc : ByteArray) (nL d : Nat) (K : KT) : Prop := ∀ (g : Mem) (pc : Nat) (vs : Lv) (st : List Value) (idx n d1 o ci : Nat) (y : MethodName) (as r fs : List Value) (Q : Option Value → Mem → Prop), decode cc pc = .ok (.invokevirtual idx, 3) → VL own idx y n ci → o < 147 → g o = .inr (ci, fs) → as.length = n → (r.map fun v => v.category).sum ≤ 8 → d1 + 1 ≤ d → CallM X d1 y (rf X o :: as) g Q → st = as.reverse ++ rf X o :: r → (∀ v g9, Q v g9 → K g9 (pc + 3) vs (v.toList ++ r)) → K g pc vs (st)
def r_copy (X : Cx) (own : String) (cc : ByteArray) (nL d : Nat) (K : KT) : Prop := ∀ (g : Mem) (pc : Nat) (vs : Lv)  (idx q0 q1 n0 n1 : Nat) (f f1 : Nat → Int32) (sp dp n : Int32), decode cc pc = .ok (.invokestatic idx, 3) → ACL own idx → 1 ≤ d → q0 < 147 → g q0 = aI X n0 f → q1 < 147 → g q1 = aI X n1 f1 → ¬ sp < 0 → ¬ dp < 0 → ¬ n < 0 → sp.toNatClampNeg + n.toNatClampNeg ≤ n0 → dp.toNatClampNeg + n.toNatClampNeg ≤ n1 → (K (va_up g q1 (aI X n1 (va_cpy f f1 sp.toNatClampNeg dp.toNatClampNeg n.toNatClampNeg))) (pc + 3) vs []) → K g pc vs (.int n :: .int dp :: rf X q1 :: .int sp :: rf X q0 :: [])
def Cl (X : Cx) (own : String) (cc : ByteArray) (nL d : Nat) (K : KT) : Prop := r_iconst X own cc nL d K ∧ r_bipush X own cc nL d K ∧ r_sipush X own cc nL d K ∧ r_lconst X own cc nL d K ∧ r_ldc X own cc nL d K ∧ r_ldcw X own cc nL d K ∧ r_ldc2 X own cc nL d K ∧ r_iload_n X own cc nL d K ∧ r_iload X own cc nL d K ∧ r_istore_n X own cc nL d K ∧ r_istore X own cc nL d K ∧ r_lload_n X own cc nL d K ∧ r_lload X own cc nL d K ∧ r_lstore_n X own cc nL d K ∧ r_lstore X own cc nL d K ∧ r_aload_n X own cc nL d K ∧ r_aload X own cc nL d K ∧ r_astore_n X own cc nL d K ∧ r_astore X own cc nL d K ∧ r_iinc X own cc nL d K ∧ r_iadd X own cc nL d K ∧ r_isub X own cc nL d K ∧ r_imul X own cc nL d K ∧ r_iand X own cc nL d K ∧ r_ixor X own cc nL d K ∧ r_idiv X own cc nL d K ∧ r_irem X own cc nL d K ∧ r_ineg X own cc nL d K ∧ r_ladd X own cc nL d K ∧ r_lsub X own cc nL d K ∧ r_lmul X own cc nL d K ∧ r_ldiv X own cc nL d K ∧ r_lrem X own cc nL d K ∧ r_lneg X own cc nL d K ∧ r_ishl X own cc nL d K ∧ r_ishr X own cc nL d K ∧ r_iushr X own cc nL d K ∧ r_i2l X own cc nL d K ∧ r_l2i X own cc nL d K ∧ r_i2b X own cc nL d K ∧ r_lcmp X own cc nL d K ∧ r_dup X own cc nL d K ∧ r_pop X own cc nL d K ∧ r_dup2 X own cc nL d K ∧ r_if_eq X own cc nL d K ∧ r_icmp_eq X own cc nL d K ∧ r_if_ne X own cc nL d K ∧ r_icmp_ne X own cc nL d K ∧ r_if_lt X own cc nL d K ∧ r_icmp_lt X own cc nL d K ∧ r_if_ge X own cc nL d K ∧ r_icmp_ge X own cc nL d K ∧ r_if_gt X own cc nL d K ∧ r_icmp_gt X own cc nL d K ∧ r_if_le X own cc nL d K ∧ r_icmp_le X own cc nL d K ∧ r_goto X own cc nL d K ∧ r_tabO X own cc nL d K ∧ r_tabI X own cc nL d K ∧ r_getf X own cc nL d K ∧ r_putf X own cc nL d K ∧ r_getsP X own cc nL d K ∧ r_getsL X own cc nL d K ∧ r_ialdP X own cc nL d K ∧ r_laldL X own cc nL d K ∧ r_iald X own cc nL d K ∧ r_lald X own cc nL d K ∧ r_bald X own cc nL d K ∧ r_zald X own cc nL d K ∧ r_aaldI X own cc nL d K ∧ r_aaldJ X own cc nL d K ∧ r_iast X own cc nL d K ∧ r_last X own cc nL d K ∧ r_bast X own cc nL d K ∧ r_zast X own cc nL d K ∧ r_aastI X own cc nL d K ∧ r_aastJ X own cc nL d K ∧ r_alen X own cc nL d K ∧ r_callS X own cc nL d K ∧ r_callV X own cc nL d K ∧ r_copy X own cc nL d K
theorem q_iconst {X : Cx} {own : String} {cc : ByteArray} {nL d : Nat} {K : KT} (hK : Cl X own cc nL d K) {g : Mem} {pc : Nat} {vs : Lv} {st : List Value} {n : Int} {v : Int32} (hd : decode cc pc = .ok (.iconst n, 1)) (hv : Int32.ofInt n = v) (h : K g (pc + 1) vs (.int v :: st)) : K g pc vs (st) := hK.1 g pc vs st n v hd hv h
theorem q_bipush {X : Cx} {own : String} {cc : ByteArray} {nL d : Nat} {K : KT} (hK : Cl X own cc nL d K) {g : Mem} {pc : Nat} {vs : Lv} {st : List Value} {n : Int} {v : Int32} (hd : decode cc pc = .ok (.bipush n, 2)) (hv : (Int8.ofInt n).toInt32 = v) (h : K g (pc + 2) vs (.int v :: st)) : K g pc vs (st) := hK.2.1 g pc vs st n v hd hv h
theorem q_sipush {X : Cx} {own : String} {cc : ByteArray} {nL d : Nat} {K : KT} (hK : Cl X own cc nL d K) {g : Mem} {pc : Nat} {vs : Lv} {st : List Value} {n : Int} {v : Int32} (hd : decode cc pc = .ok (.sipush n, 3)) (hv : (Int16.ofInt n).toInt32 = v) (h : K g (pc + 3) vs (.int v :: st)) : K g pc vs (st) := hK.2.2.1 g pc vs st n v hd hv h
theorem q_lconst {X : Cx} {own : String} {cc : ByteArray} {nL d : Nat} {K : KT} (hK : Cl X own cc nL d K) {g : Mem} {pc : Nat} {vs : Lv} {st : List Value} {n : Fin 2} {v : Int64} (hd : decode cc pc = .ok (.lconst n, 1)) (hv : Int64.ofNat (n : Nat) = v) (h : K g (pc + 1) vs (.long v :: st)) : K g pc vs (st) := hK.2.2.2.1 g pc vs st n v hd hv h
theorem q_ldc {X : Cx} {own : String} {cc : ByteArray} {nL d : Nat} {K : KT} (hK : Cl X own cc nL d K) {g : Mem} {pc : Nat} {vs : Lv} {st : List Value} {i : Nat} {v : Int32} (hd : decode cc pc = .ok (.ldc i, 2)) (hm : Cond.constant own i v ∈ gtb) (h : K g (pc + 2) vs (.int v :: st)) : K g pc vs (st) := hK.2.2.2.2.1 g pc vs st i v hd hm h
theorem q_ldcw {X : Cx} {own : String} {cc : ByteArray} {nL d : Nat} {K : KT} (hK : Cl X own cc nL d K) {g : Mem} {pc : Nat} {vs : Lv} {st : List Value} {i : Nat} {v : Int32} (hd : decode cc pc = .ok (.ldc_w i, 3)) (hm : Cond.constant own i v ∈ gtb) (h : K g (pc + 3) vs (.int v :: st)) : K g pc vs (st) := hK.2.2.2.2.2.1 g pc vs st i v hd hm h
theorem q_ldc2 {X : Cx} {own : String} {cc : ByteArray} {nL d : Nat} {K : KT} (hK : Cl X own cc nL d K) {g : Mem} {pc : Nat} {vs : Lv} {st : List Value} {i : Nat} {v : Int64} (hd : decode cc pc = .ok (.ldc2_w i, 3)) (hm : Cond.constantLong own i v ∈ gtb) (h : K g (pc + 3) vs (.long v :: st)) : K g pc vs (st) := hK.2.2.2.2.2.2.1 g pc vs st i v hd hm h
theorem q_iload_n {X : Cx} {own : String} {cc : ByteArray} {nL d : Nat} {K : KT} (hK : Cl X own cc nL d K) {g : Mem} {pc : Nat} {vs : Lv} {st : List Value} {k : Fin 4} (i : Nat) {v : Int32} (hd : decode cc pc = .ok (.iload_n k, 1)) (hi : (k : Nat) = i) (hv : lget vs i = some (.int v)) (h : K g (pc + 1) vs (.int v :: st)) : K g pc vs (st) := hK.2.2.2.2.2.2.2.1 g pc vs st k i v hd hi hv h
theorem q_iload {X : Cx} {own : String} {cc : ByteArray} {nL d : Nat} {K : KT} (hK : Cl X own cc nL d K) {g : Mem} {pc : Nat} {vs : Lv} {st : List Value} {i : Nat} {v : Int32} (hd : decode cc pc = .ok (.iload i, 2)) (hv : lget vs i = some (.int v)) (h : K g (pc + 2) vs (.int v :: st)) : K g pc vs (st) := hK.2.2.2.2.2.2.2.2.1 g pc vs st i v hd hv h
theorem q_istore_n {X : Cx} {own : String} {cc : ByteArray} {nL d : Nat} {K : KT} (hK : Cl X own cc nL d K) {g : Mem} {pc : Nat} {vs : Lv} {st : List Value} {k : Fin 4} (i : Nat) {v : Int32} (hd : decode cc pc = .ok (.istore_n k, 1)) (hi : (k : Nat) = i) (hn : i < nL) (h : K g (pc + 1) (lset vs i (.int v)) st) : K g pc vs (.int v :: st) := hK.2.2.2.2.2.2.2.2.2.1 g pc vs st k i v hd hi hn h
theorem q_istore {X : Cx} {own : String} {cc : ByteArray} {nL d : Nat} {K : KT} (hK : Cl X own cc nL d K) {g : Mem} {pc : Nat} {vs : Lv} {st : List Value} {i : Nat} {v : Int32} (hd : decode cc pc = .ok (.istore i, 2)) (hn : i < nL) (h : K g (pc + 2) (lset vs i (.int v)) st) : K g pc vs (.int v :: st) := hK.2.2.2.2.2.2.2.2.2.2.1 g pc vs st i v hd hn h
theorem q_lload_n {X : Cx} {own : String} {cc : ByteArray} {nL d : Nat} {K : KT} (hK : Cl X own cc nL d K) {g : Mem} {pc : Nat} {vs : Lv} {st : List Value} {k : Fin 4} (i : Nat) {v : Int64} (hd : decode cc pc = .ok (.lload_n k, 1)) (hi : (k : Nat) = i) (hv : lget vs i = some (.long v)) (h : K g (pc + 1) vs (.long v :: st)) : K g pc vs (st) := hK.2.2.2.2.2.2.2.2.2.2.2.1 g pc vs st k i v hd hi hv h
theorem q_lload {X : Cx} {own : String} {cc : ByteArray} {nL d : Nat} {K : KT} (hK : Cl X own cc nL d K) {g : Mem} {pc : Nat} {vs : Lv} {st : List Value} {i : Nat} {v : Int64} (hd : decode cc pc = .ok (.lload i, 2)) (hv : lget vs i = some (.long v)) (h : K g (pc + 2) vs (.long v :: st)) : K g pc vs (st) := hK.2.2.2.2.2.2.2.2.2.2.2.2.1 g pc vs st i v hd hv h
theorem q_lstore_n {X : Cx} {own : String} {cc : ByteArray} {nL d : Nat} {K : KT} (hK : Cl X own cc nL d K) {g : Mem} {pc : Nat} {vs : Lv} {st : List Value} {k : Fin 4} (i : Nat) {v : Int64} (hd : decode cc pc = .ok (.lstore_n k, 1)) (hi : (k : Nat) = i) (hn : i + 1 < nL) (h : K g (pc + 1) (lset2 vs i (.long v)) st) : K g pc vs (.long v :: st) := hK.2.2.2.2.2.2.2.2.2.2.2.2.2.1 g pc vs st k i v hd hi hn h
theorem q_lstore {X : Cx} {own : String} {cc : ByteArray} {nL d : Nat} {K : KT} (hK : Cl X own cc nL d K) {g : Mem} {pc : Nat} {vs : Lv} {st : List Value} {i : Nat} {v : Int64} (hd : decode cc pc = .ok (.lstore i, 2)) (hn : i + 1 < nL) (h : K g (pc + 2) (lset2 vs i (.long v)) st) : K g pc vs (.long v :: st) := hK.2.2.2.2.2.2.2.2.2.2.2.2.2.2.1 g pc vs st i v hd hn h
theorem q_aload_n {X : Cx} {own : String} {cc : ByteArray} {nL d : Nat} {K : KT} (hK : Cl X own cc nL d K) {g : Mem} {pc : Nat} {vs : Lv} {st : List Value} {k : Fin 4} (i : Nat) {v : Nat} (hd : decode cc pc = .ok (.aload_n k, 1)) (hi : (k : Nat) = i) (hv : lget vs i = some (.ref v)) (h : K g (pc + 1) vs (.ref v :: st)) : K g pc vs (st) := hK.2.2.2.2.2.2.2.2.2.2.2.2.2.2.2.1 g pc vs st k i v hd hi hv h
theorem q_aload {X : Cx} {own : String} {cc : ByteArray} {nL d : Nat} {K : KT} (hK : Cl X own cc nL d K) {g : Mem} {pc : Nat} {vs : Lv} {st : List Value} {i : Nat} {v : Nat} (hd : decode cc pc = .ok (.aload i, 2)) (hv : lget vs i = some (.ref v)) (h : K g (pc + 2) vs (.ref v :: st)) : K g pc vs (st) := hK.2.2.2.2.2.2.2.2.2.2.2.2.2.2.2.2.1 g pc vs st i v hd hv h
theorem q_astore_n {X : Cx} {own : String} {cc : ByteArray} {nL d : Nat} {K : KT} (hK : Cl X own cc nL d K) {g : Mem} {pc : Nat} {vs : Lv} {st : List Value} {k : Fin 4} (i : Nat) {v : Nat} (hd : decode cc pc = .ok (.astore_n k, 1)) (hi : (k : Nat) = i) (hn : i < nL) (h : K g (pc + 1) (lset vs i (.ref v)) st) : K g pc vs (.ref v :: st) := hK.2.2.2.2.2.2.2.2.2.2.2.2.2.2.2.2.2.1 g pc vs st k i v hd hi hn h
theorem q_astore {X : Cx} {own : String} {cc : ByteArray} {nL d : Nat} {K : KT} (hK : Cl X own cc nL d K) {g : Mem} {pc : Nat} {vs : Lv} {st : List Value} {i : Nat} {v : Nat} (hd : decode cc pc = .ok (.astore i, 2)) (hn : i < nL) (h : K g (pc + 2) (lset vs i (.ref v)) st) : K g pc vs (.ref v :: st) := hK.2.2.2.2.2.2.2.2.2.2.2.2.2.2.2.2.2.2.1 g pc vs st i v hd hn h
theorem q_iinc {X : Cx} {own : String} {cc : ByteArray} {nL d : Nat} {K : KT} (hK : Cl X own cc nL d K) {g : Mem} {pc : Nat} {vs : Lv} {st : List Value} {i : Nat} {n : Int} {x v : Int32} (hd : decode cc pc = .ok (.iinc i n, 3)) (hx : lget vs i = some (.int x)) (hv : x + Int32.ofInt n = v) (hn : i < nL) (h : K g (pc + 3) (lset vs i (.int v)) st) : K g pc vs (st) := hK.2.2.2.2.2.2.2.2.2.2.2.2.2.2.2.2.2.2.2.1 g pc vs st i n x v hd hx hv hn h
theorem q_iadd {X : Cx} {own : String} {cc : ByteArray} {nL d : Nat} {K : KT} (hK : Cl X own cc nL d K) {g : Mem} {pc : Nat} {vs : Lv} {st : List Value} {x y : Int32} (hd : decode cc pc = .ok (.iadd, 1)) (h : K g (pc + 1) vs (.int (x + y) :: st)) : K g pc vs (.int y :: .int x :: st) := hK.2.2.2.2.2.2.2.2.2.2.2.2.2.2.2.2.2.2.2.2.1 g pc vs st x y hd h
theorem q_isub {X : Cx} {own : String} {cc : ByteArray} {nL d : Nat} {K : KT} (hK : Cl X own cc nL d K) {g : Mem} {pc : Nat} {vs : Lv} {st : List Value} {x y : Int32} (hd : decode cc pc = .ok (.isub, 1)) (h : K g (pc + 1) vs (.int (x - y) :: st)) : K g pc vs (.int y :: .int x :: st) := hK.2.2.2.2.2.2.2.2.2.2.2.2.2.2.2.2.2.2.2.2.2.1 g pc vs st x y hd h
theorem q_imul {X : Cx} {own : String} {cc : ByteArray} {nL d : Nat} {K : KT} (hK : Cl X own cc nL d K) {g : Mem} {pc : Nat} {vs : Lv} {st : List Value} {x y : Int32} (hd : decode cc pc = .ok (.imul, 1)) (h : K g (pc + 1) vs (.int (x * y) :: st)) : K g pc vs (.int y :: .int x :: st) := hK.2.2.2.2.2.2.2.2.2.2.2.2.2.2.2.2.2.2.2.2.2.2.1 g pc vs st x y hd h
theorem q_iand {X : Cx} {own : String} {cc : ByteArray} {nL d : Nat} {K : KT} (hK : Cl X own cc nL d K) {g : Mem} {pc : Nat} {vs : Lv} {st : List Value} {x y : Int32} (hd : decode cc pc = .ok (.iand, 1)) (h : K g (pc + 1) vs (.int (x &&& y) :: st)) : K g pc vs (.int y :: .int x :: st) := hK.2.2.2.2.2.2.2.2.2.2.2.2.2.2.2.2.2.2.2.2.2.2.2.1 g pc vs st x y hd h
theorem q_ixor {X : Cx} {own : String} {cc : ByteArray} {nL d : Nat} {K : KT} (hK : Cl X own cc nL d K) {g : Mem} {pc : Nat} {vs : Lv} {st : List Value} {x y : Int32} (hd : decode cc pc = .ok (.ixor, 1)) (h : K g (pc + 1) vs (.int (x ^^^ y) :: st)) : K g pc vs (.int y :: .int x :: st) := hK.2.2.2.2.2.2.2.2.2.2.2.2.2.2.2.2.2.2.2.2.2.2.2.2.1 g pc vs st x y hd h
theorem q_idiv {X : Cx} {own : String} {cc : ByteArray} {nL d : Nat} {K : KT} (hK : Cl X own cc nL d K) {g : Mem} {pc : Nat} {vs : Lv} {st : List Value} {x y : Int32} (hd : decode cc pc = .ok (.idiv, 1)) (hne : ¬ y = 0) (h : K g (pc + 1) vs (.int (x / y) :: st)) : K g pc vs (.int y :: .int x :: st) := hK.2.2.2.2.2.2.2.2.2.2.2.2.2.2.2.2.2.2.2.2.2.2.2.2.2.1 g pc vs st x y hd hne h
theorem q_irem {X : Cx} {own : String} {cc : ByteArray} {nL d : Nat} {K : KT} (hK : Cl X own cc nL d K) {g : Mem} {pc : Nat} {vs : Lv} {st : List Value} {x y : Int32} (hd : decode cc pc = .ok (.irem, 1)) (hne : ¬ y = 0) (h : K g (pc + 1) vs (.int (x - x / y * y) :: st)) : K g pc vs (.int y :: .int x :: st) := hK.2.2.2.2.2.2.2.2.2.2.2.2.2.2.2.2.2.2.2.2.2.2.2.2.2.2.1 g pc vs st x y hd hne h
theorem q_ineg {X : Cx} {own : String} {cc : ByteArray} {nL d : Nat} {K : KT} (hK : Cl X own cc nL d K) {g : Mem} {pc : Nat} {vs : Lv} {st : List Value} {x : Int32} (hd : decode cc pc = .ok (.ineg, 1)) (h : K g (pc + 1) vs (.int (-x) :: st)) : K g pc vs (.int x :: st) := hK.2.2.2.2.2.2.2.2.2.2.2.2.2.2.2.2.2.2.2.2.2.2.2.2.2.2.2.1 g pc vs st x hd h
theorem q_ladd {X : Cx} {own : String} {cc : ByteArray} {nL d : Nat} {K : KT} (hK : Cl X own cc nL d K) {g : Mem} {pc : Nat} {vs : Lv} {st : List Value} {x y : Int64} (hd : decode cc pc = .ok (.ladd, 1)) (h : K g (pc + 1) vs (.long (x + y) :: st)) : K g pc vs (.long y :: .long x :: st) := hK.2.2.2.2.2.2.2.2.2.2.2.2.2.2.2.2.2.2.2.2.2.2.2.2.2.2.2.2.1 g pc vs st x y hd h
theorem q_lsub {X : Cx} {own : String} {cc : ByteArray} {nL d : Nat} {K : KT} (hK : Cl X own cc nL d K) {g : Mem} {pc : Nat} {vs : Lv} {st : List Value} {x y : Int64} (hd : decode cc pc = .ok (.lsub, 1)) (h : K g (pc + 1) vs (.long (x - y) :: st)) : K g pc vs (.long y :: .long x :: st) := hK.2.2.2.2.2.2.2.2.2.2.2.2.2.2.2.2.2.2.2.2.2.2.2.2.2.2.2.2.2.1 g pc vs st x y hd h
theorem q_lmul {X : Cx} {own : String} {cc : ByteArray} {nL d : Nat} {K : KT} (hK : Cl X own cc nL d K) {g : Mem} {pc : Nat} {vs : Lv} {st : List Value} {x y : Int64} (hd : decode cc pc = .ok (.lmul, 1)) (h : K g (pc + 1) vs (.long (x * y) :: st)) : K g pc vs (.long y :: .long x :: st) := hK.2.2.2.2.2.2.2.2.2.2.2.2.2.2.2.2.2.2.2.2.2.2.2.2.2.2.2.2.2.2.1 g pc vs st x y hd h
theorem q_ldiv {X : Cx} {own : String} {cc : ByteArray} {nL d : Nat} {K : KT} (hK : Cl X own cc nL d K) {g : Mem} {pc : Nat} {vs : Lv} {st : List Value} {x y : Int64} (hd : decode cc pc = .ok (.ldiv, 1)) (hne : ¬ y = 0) (h : K g (pc + 1) vs (.long (x / y) :: st)) : K g pc vs (.long y :: .long x :: st) := hK.2.2.2.2.2.2.2.2.2.2.2.2.2.2.2.2.2.2.2.2.2.2.2.2.2.2.2.2.2.2.2.1 g pc vs st x y hd hne h
theorem q_lrem {X : Cx} {own : String} {cc : ByteArray} {nL d : Nat} {K : KT} (hK : Cl X own cc nL d K) {g : Mem} {pc : Nat} {vs : Lv} {st : List Value} {x y : Int64} (hd : decode cc pc = .ok (.lrem, 1)) (hne : ¬ y = 0) (h : K g (pc + 1) vs (.long (x - x / y * y) :: st)) : K g pc vs (.long y :: .long x :: st) := hK.2.2.2.2.2.2.2.2.2.2.2.2.2.2.2.2.2.2.2.2.2.2.2.2.2.2.2.2.2.2.2.2.1 g pc vs st x y hd hne h
theorem q_lneg {X : Cx} {own : String} {cc : ByteArray} {nL d : Nat} {K : KT} (hK : Cl X own cc nL d K) {g : Mem} {pc : Nat} {vs : Lv} {st : List Value} {x : Int64} (hd : decode cc pc = .ok (.lneg, 1)) (h : K g (pc + 1) vs (.long (-x) :: st)) : K g pc vs (.long x :: st) := hK.2.2.2.2.2.2.2.2.2.2.2.2.2.2.2.2.2.2.2.2.2.2.2.2.2.2.2.2.2.2.2.2.2.1 g pc vs st x hd h
theorem q_ishl {X : Cx} {own : String} {cc : ByteArray} {nL d : Nat} {K : KT} (hK : Cl X own cc nL d K) {g : Mem} {pc : Nat} {vs : Lv} {st : List Value} {x y : Int32} (hd : decode cc pc = .ok (.ishl, 1)) (h : K g (pc + 1) vs (.int (x <<< (y &&& 31)) :: st)) : K g pc vs (.int y :: .int x :: st) := hK.2.2.2.2.2.2.2.2.2.2.2.2.2.2.2.2.2.2.2.2.2.2.2.2.2.2.2.2.2.2.2.2.2.2.1 g pc vs st x y hd h
theorem q_ishr {X : Cx} {own : String} {cc : ByteArray} {nL d : Nat} {K : KT} (hK : Cl X own cc nL d K) {g : Mem} {pc : Nat} {vs : Lv} {st : List Value} {x y : Int32} (hd : decode cc pc = .ok (.ishr, 1)) (h : K g (pc + 1) vs (.int (x >>> (y &&& 31)) :: st)) : K g pc vs (.int y :: .int x :: st) := hK.2.2.2.2.2.2.2.2.2.2.2.2.2.2.2.2.2.2.2.2.2.2.2.2.2.2.2.2.2.2.2.2.2.2.2.1 g pc vs st x y hd h
theorem q_iushr {X : Cx} {own : String} {cc : ByteArray} {nL d : Nat} {K : KT} (hK : Cl X own cc nL d K) {g : Mem} {pc : Nat} {vs : Lv} {st : List Value} {x y v : Int32} (hd : decode cc pc = .ok (.iushr, 1)) (hv : (x.toUInt32 >>> (y.toUInt32 &&& Int32.toUInt32 31)).toInt32 = v) (h : K g (pc + 1) vs (.int v :: st)) : K g pc vs (.int y :: .int x :: st) := hK.2.2.2.2.2.2.2.2.2.2.2.2.2.2.2.2.2.2.2.2.2.2.2.2.2.2.2.2.2.2.2.2.2.2.2.2.1 g pc vs st x y v hd hv h
theorem q_i2l {X : Cx} {own : String} {cc : ByteArray} {nL d : Nat} {K : KT} (hK : Cl X own cc nL d K) {g : Mem} {pc : Nat} {vs : Lv} {st : List Value} {x : Int32} (hd : decode cc pc = .ok (.i2l, 1)) (h : K g (pc + 1) vs (.long x.toInt64 :: st)) : K g pc vs (.int x :: st) := hK.2.2.2.2.2.2.2.2.2.2.2.2.2.2.2.2.2.2.2.2.2.2.2.2.2.2.2.2.2.2.2.2.2.2.2.2.2.1 g pc vs st x hd h
theorem q_l2i {X : Cx} {own : String} {cc : ByteArray} {nL d : Nat} {K : KT} (hK : Cl X own cc nL d K) {g : Mem} {pc : Nat} {vs : Lv} {st : List Value} {x : Int64} (hd : decode cc pc = .ok (.l2i, 1)) (h : K g (pc + 1) vs (.int x.toInt32 :: st)) : K g pc vs (.long x :: st) := hK.2.2.2.2.2.2.2.2.2.2.2.2.2.2.2.2.2.2.2.2.2.2.2.2.2.2.2.2.2.2.2.2.2.2.2.2.2.2.1 g pc vs st x hd h
theorem q_i2b {X : Cx} {own : String} {cc : ByteArray} {nL d : Nat} {K : KT} (hK : Cl X own cc nL d K) {g : Mem} {pc : Nat} {vs : Lv} {st : List Value} {x : Int32} (hd : decode cc pc = .ok (.i2b, 1)) (h : K g (pc + 1) vs (.int x.toInt8.toInt32 :: st)) : K g pc vs (.int x :: st) := hK.2.2.2.2.2.2.2.2.2.2.2.2.2.2.2.2.2.2.2.2.2.2.2.2.2.2.2.2.2.2.2.2.2.2.2.2.2.2.2.1 g pc vs st x hd h
theorem q_lcmp {X : Cx} {own : String} {cc : ByteArray} {nL d : Nat} {K : KT} (hK : Cl X own cc nL d K) {g : Mem} {pc : Nat} {vs : Lv} {st : List Value} {x y : Int64} (hd : decode cc pc = .ok (.lcmp, 1)) (h : K g (pc + 1) vs (.int (lg_cmp x y) :: st)) : K g pc vs (.long y :: .long x :: st) := hK.2.2.2.2.2.2.2.2.2.2.2.2.2.2.2.2.2.2.2.2.2.2.2.2.2.2.2.2.2.2.2.2.2.2.2.2.2.2.2.2.1 g pc vs st x y hd h
theorem q_dup {X : Cx} {own : String} {cc : ByteArray} {nL d : Nat} {K : KT} (hK : Cl X own cc nL d K) {g : Mem} {pc : Nat} {vs : Lv} {st : List Value} {a : Value} (hd : decode cc pc = .ok (.dup, 1)) (ha : a.category = 1) (h : K g (pc + 1) vs (a :: a :: st)) : K g pc vs (a :: st) := hK.2.2.2.2.2.2.2.2.2.2.2.2.2.2.2.2.2.2.2.2.2.2.2.2.2.2.2.2.2.2.2.2.2.2.2.2.2.2.2.2.2.1 g pc vs st a hd ha h
theorem q_pop {X : Cx} {own : String} {cc : ByteArray} {nL d : Nat} {K : KT} (hK : Cl X own cc nL d K) {g : Mem} {pc : Nat} {vs : Lv} {st : List Value} {a : Value} (hd : decode cc pc = .ok (.pop, 1)) (ha : a.category = 1) (h : K g (pc + 1) vs (st)) : K g pc vs (a :: st) := hK.2.2.2.2.2.2.2.2.2.2.2.2.2.2.2.2.2.2.2.2.2.2.2.2.2.2.2.2.2.2.2.2.2.2.2.2.2.2.2.2.2.2.1 g pc vs st a hd ha h
theorem q_dup2 {X : Cx} {own : String} {cc : ByteArray} {nL d : Nat} {K : KT} (hK : Cl X own cc nL d K) {g : Mem} {pc : Nat} {vs : Lv} {st : List Value} {a b : Value} (hd : decode cc pc = .ok (.dup2, 1)) (ha : a.category = 1) (hb : b.category = 1) (h : K g (pc + 1) vs (a :: b :: a :: b :: st)) : K g pc vs (a :: b :: st) := hK.2.2.2.2.2.2.2.2.2.2.2.2.2.2.2.2.2.2.2.2.2.2.2.2.2.2.2.2.2.2.2.2.2.2.2.2.2.2.2.2.2.2.2.1 g pc vs st a b hd ha hb h
theorem q_if_eq {X : Cx} {own : String} {cc : ByteArray} {nL d : Nat} {K : KT} (hK : Cl X own cc nL d K) {g : Mem} {pc : Nat} {vs : Lv} {st : List Value} {x : Int32} {off : Int} (tgt : Nat) (hd : decode cc pc = .ok (.ifCond .eq off, 3)) (ht : (pc : Int) + off = (tgt : Int)) (h : x = 0 → K g tgt vs st) (h2 : ¬ x = 0 → K g (pc + 3) vs st) : K g pc vs (.int x :: st) := hK.2.2.2.2.2.2.2.2.2.2.2.2.2.2.2.2.2.2.2.2.2.2.2.2.2.2.2.2.2.2.2.2.2.2.2.2.2.2.2.2.2.2.2.2.1 g pc vs st x off tgt hd ht h h2
theorem q_icmp_eq {X : Cx} {own : String} {cc : ByteArray} {nL d : Nat} {K : KT} (hK : Cl X own cc nL d K) {g : Mem} {pc : Nat} {vs : Lv} {st : List Value} {x y : Int32} {off : Int} (tgt : Nat) (hd : decode cc pc = .ok (.if_icmp .eq off, 3)) (ht : (pc : Int) + off = (tgt : Int)) (h : x = y → K g tgt vs st) (h2 : ¬ x = y → K g (pc + 3) vs st) : K g pc vs (.int y :: .int x :: st) := hK.2.2.2.2.2.2.2.2.2.2.2.2.2.2.2.2.2.2.2.2.2.2.2.2.2.2.2.2.2.2.2.2.2.2.2.2.2.2.2.2.2.2.2.2.2.1 g pc vs st x y off tgt hd ht h h2
theorem q_if_ne {X : Cx} {own : String} {cc : ByteArray} {nL d : Nat} {K : KT} (hK : Cl X own cc nL d K) {g : Mem} {pc : Nat} {vs : Lv} {st : List Value} {x : Int32} {off : Int} (tgt : Nat) (hd : decode cc pc = .ok (.ifCond .ne off, 3)) (ht : (pc : Int) + off = (tgt : Int)) (h : ¬ x = 0 → K g tgt vs st) (h2 : x = 0 → K g (pc + 3) vs st) : K g pc vs (.int x :: st) := hK.2.2.2.2.2.2.2.2.2.2.2.2.2.2.2.2.2.2.2.2.2.2.2.2.2.2.2.2.2.2.2.2.2.2.2.2.2.2.2.2.2.2.2.2.2.2.1 g pc vs st x off tgt hd ht h h2
theorem q_icmp_ne {X : Cx} {own : String} {cc : ByteArray} {nL d : Nat} {K : KT} (hK : Cl X own cc nL d K) {g : Mem} {pc : Nat} {vs : Lv} {st : List Value} {x y : Int32} {off : Int} (tgt : Nat) (hd : decode cc pc = .ok (.if_icmp .ne off, 3)) (ht : (pc : Int) + off = (tgt : Int)) (h : ¬ x = y → K g tgt vs st) (h2 : x = y → K g (pc + 3) vs st) : K g pc vs (.int y :: .int x :: st) := hK.2.2.2.2.2.2.2.2.2.2.2.2.2.2.2.2.2.2.2.2.2.2.2.2.2.2.2.2.2.2.2.2.2.2.2.2.2.2.2.2.2.2.2.2.2.2.2.1 g pc vs st x y off tgt hd ht h h2
theorem q_if_lt {X : Cx} {own : String} {cc : ByteArray} {nL d : Nat} {K : KT} (hK : Cl X own cc nL d K) {g : Mem} {pc : Nat} {vs : Lv} {st : List Value} {x : Int32} {off : Int} (tgt : Nat) (hd : decode cc pc = .ok (.ifCond .lt off, 3)) (ht : (pc : Int) + off = (tgt : Int)) (h : x < 0 → K g tgt vs st) (h2 : ¬ x < 0 → K g (pc + 3) vs st) : K g pc vs (.int x :: st) := hK.2.2.2.2.2.2.2.2.2.2.2.2.2.2.2.2.2.2.2.2.2.2.2.2.2.2.2.2.2.2.2.2.2.2.2.2.2.2.2.2.2.2.2.2.2.2.2.2.1 g pc vs st x off tgt hd ht h h2
theorem q_icmp_lt {X : Cx} {own : String} {cc : ByteArray} {nL d : Nat} {K : KT} (hK : Cl X own cc nL d K) {g : Mem} {pc : Nat} {vs : Lv} {st : List Value} {x y : Int32} {off : Int} (tgt : Nat) (hd : decode cc pc = .ok (.if_icmp .lt off, 3)) (ht : (pc : Int) + off = (tgt : Int)) (h : x < y → K g tgt vs st) (h2 : ¬ x < y → K g (pc + 3) vs st) : K g pc vs (.int y :: .int x :: st) := hK.2.2.2.2.2.2.2.2.2.2.2.2.2.2.2.2.2.2.2.2.2.2.2.2.2.2.2.2.2.2.2.2.2.2.2.2.2.2.2.2.2.2.2.2.2.2.2.2.2.1 g pc vs st x y off tgt hd ht h h2
theorem q_if_ge {X : Cx} {own : String} {cc : ByteArray} {nL d : Nat} {K : KT} (hK : Cl X own cc nL d K) {g : Mem} {pc : Nat} {vs : Lv} {st : List Value} {x : Int32} {off : Int} (tgt : Nat) (hd : decode cc pc = .ok (.ifCond .ge off, 3)) (ht : (pc : Int) + off = (tgt : Int)) (h : 0 ≤ x → K g tgt vs st) (h2 : ¬ 0 ≤ x → K g (pc + 3) vs st) : K g pc vs (.int x :: st) := hK.2.2.2.2.2.2.2.2.2.2.2.2.2.2.2.2.2.2.2.2.2.2.2.2.2.2.2.2.2.2.2.2.2.2.2.2.2.2.2.2.2.2.2.2.2.2.2.2.2.2.1 g pc vs st x off tgt hd ht h h2
theorem q_icmp_ge {X : Cx} {own : String} {cc : ByteArray} {nL d : Nat} {K : KT} (hK : Cl X own cc nL d K) {g : Mem} {pc : Nat} {vs : Lv} {st : List Value} {x y : Int32} {off : Int} (tgt : Nat) (hd : decode cc pc = .ok (.if_icmp .ge off, 3)) (ht : (pc : Int) + off = (tgt : Int)) (h : y ≤ x → K g tgt vs st) (h2 : ¬ y ≤ x → K g (pc + 3) vs st) : K g pc vs (.int y :: .int x :: st) := hK.2.2.2.2.2.2.2.2.2.2.2.2.2.2.2.2.2.2.2.2.2.2.2.2.2.2.2.2.2.2.2.2.2.2.2.2.2.2.2.2.2.2.2.2.2.2.2.2.2.2.2.1 g pc vs st x y off tgt hd ht h h2
theorem q_if_gt {X : Cx} {own : String} {cc : ByteArray} {nL d : Nat} {K : KT} (hK : Cl X own cc nL d K) {g : Mem} {pc : Nat} {vs : Lv} {st : List Value} {x : Int32} {off : Int} (tgt : Nat) (hd : decode cc pc = .ok (.ifCond .gt off, 3)) (ht : (pc : Int) + off = (tgt : Int)) (h : 0 < x → K g tgt vs st) (h2 : ¬ 0 < x → K g (pc + 3) vs st) : K g pc vs (.int x :: st) := hK.2.2.2.2.2.2.2.2.2.2.2.2.2.2.2.2.2.2.2.2.2.2.2.2.2.2.2.2.2.2.2.2.2.2.2.2.2.2.2.2.2.2.2.2.2.2.2.2.2.2.2.2.1 g pc vs st x off tgt hd ht h h2
theorem q_icmp_gt {X : Cx} {own : String} {cc : ByteArray} {nL d : Nat} {K : KT} (hK : Cl X own cc nL d K) {g : Mem} {pc : Nat} {vs : Lv} {st : List Value} {x y : Int32} {off : Int} (tgt : Nat) (hd : decode cc pc = .ok (.if_icmp .gt off, 3)) (ht : (pc : Int) + off = (tgt : Int)) (h : y < x → K g tgt vs st) (h2 : ¬ y < x → K g (pc + 3) vs st) : K g pc vs (.int y :: .int x :: st) := hK.2.2.2.2.2.2.2.2.2.2.2.2.2.2.2.2.2.2.2.2.2.2.2.2.2.2.2.2.2.2.2.2.2.2.2.2.2.2.2.2.2.2.2.2.2.2.2.2.2.2.2.2.2.1 g pc vs st x y off tgt hd ht h h2
theorem q_if_le {X : Cx} {own : String} {cc : ByteArray} {nL d : Nat} {K : KT} (hK : Cl X own cc nL d K) {g : Mem} {pc : Nat} {vs : Lv} {st : List Value} {x : Int32} {off : Int} (tgt : Nat) (hd : decode cc pc = .ok (.ifCond .le off, 3)) (ht : (pc : Int) + off = (tgt : Int)) (h : x ≤ 0 → K g tgt vs st) (h2 : ¬ x ≤ 0 → K g (pc + 3) vs st) : K g pc vs (.int x :: st) := hK.2.2.2.2.2.2.2.2.2.2.2.2.2.2.2.2.2.2.2.2.2.2.2.2.2.2.2.2.2.2.2.2.2.2.2.2.2.2.2.2.2.2.2.2.2.2.2.2.2.2.2.2.2.2.1 g pc vs st x off tgt hd ht h h2
theorem q_icmp_le {X : Cx} {own : String} {cc : ByteArray} {nL d : Nat} {K : KT} (hK : Cl X own cc nL d K) {g : Mem} {pc : Nat} {vs : Lv} {st : List Value} {x y : Int32} {off : Int} (tgt : Nat) (hd : decode cc pc = .ok (.if_icmp .le off, 3)) (ht : (pc : Int) + off = (tgt : Int)) (h : x ≤ y → K g tgt vs st) (h2 : ¬ x ≤ y → K g (pc + 3) vs st) : K g pc vs (.int y :: .int x :: st) := hK.2.2.2.2.2.2.2.2.2.2.2.2.2.2.2.2.2.2.2.2.2.2.2.2.2.2.2.2.2.2.2.2.2.2.2.2.2.2.2.2.2.2.2.2.2.2.2.2.2.2.2.2.2.2.2.1 g pc vs st x y off tgt hd ht h h2
theorem q_goto {X : Cx} {own : String} {cc : ByteArray} {nL d : Nat} {K : KT} (hK : Cl X own cc nL d K) {g : Mem} {pc : Nat} {vs : Lv} {st : List Value} {off : Int} (tgt : Nat) (hd : decode cc pc = .ok (.goto off, 3)) (ht : (pc : Int) + off = (tgt : Int)) (h : K g tgt vs st) : K g pc vs (st) := hK.2.2.2.2.2.2.2.2.2.2.2.2.2.2.2.2.2.2.2.2.2.2.2.2.2.2.2.2.2.2.2.2.2.2.2.2.2.2.2.2.2.2.2.2.2.2.2.2.2.2.2.2.2.2.2.2.1 g pc vs st off tgt hd ht h
theorem q_tabO {X : Cx} {own : String} {cc : ByteArray} {nL d : Nat} {K : KT} (hK : Cl X own cc nL d K) {g : Mem} {pc : Nat} {vs : Lv} {st : List Value} {dflt lo hi : Int} {offs : Array Int} {len : Nat} {x : Int32} (tgt : Nat) (hd : decode cc pc = .ok (.tableswitch dflt lo hi offs, len)) (hx : x.toInt < lo ∨ hi < x.toInt) (ht : (pc : Int) + dflt = (tgt : Int)) (h : K g tgt vs st) : K g pc vs (.int x :: st) := hK.2.2.2.2.2.2.2.2.2.2.2.2.2.2.2.2.2.2.2.2.2.2.2.2.2.2.2.2.2.2.2.2.2.2.2.2.2.2.2.2.2.2.2.2.2.2.2.2.2.2.2.2.2.2.2.2.2.1 g pc vs st dflt lo hi offs len x tgt hd hx ht h
theorem q_tabI {X : Cx} {own : String} {cc : ByteArray} {nL d : Nat} {K : KT} (hK : Cl X own cc nL d K) {g : Mem} {pc : Nat} {vs : Lv} {st : List Value} {dflt lo hi : Int} {offs : Array Int} {len : Nat} {x : Int32} {off : Int} (tgt : Nat) (hd : decode cc pc = .ok (.tableswitch dflt lo hi offs, len)) (h1 : ¬ x.toInt < lo) (h3 : ¬ hi < x.toInt) (ho : offs[(x.toInt - lo).toNat]? = some off) (ht : (pc : Int) + off = (tgt : Int)) (h : K g tgt vs st) : K g pc vs (.int x :: st) := hK.2.2.2.2.2.2.2.2.2.2.2.2.2.2.2.2.2.2.2.2.2.2.2.2.2.2.2.2.2.2.2.2.2.2.2.2.2.2.2.2.2.2.2.2.2.2.2.2.2.2.2.2.2.2.2.2.2.2.1 g pc vs st dflt lo hi offs len x off tgt hd h1 h3 ho ht h
theorem q_getf {X : Cx} {own : String} {cc : ByteArray} {nL d : Nat} {K : KT} (hK : Cl X own cc nL d K) {g : Mem} {pc : Nat} {vs : Lv} {st : List Value} {idx ci k o : Nat} {fs : List Value} {v : Value} (hd : decode cc pc = .ok (.getfield idx, 3)) (hF : FL own idx ci k) (ho : o < 147) (hg : g o = .inr (ci, fs)) (hv : fs[k]? = some v) (h : K g (pc + 3) vs (v :: st)) : K g pc vs (rf X o :: st) := hK.2.2.2.2.2.2.2.2.2.2.2.2.2.2.2.2.2.2.2.2.2.2.2.2.2.2.2.2.2.2.2.2.2.2.2.2.2.2.2.2.2.2.2.2.2.2.2.2.2.2.2.2.2.2.2.2.2.2.2.1 g pc vs st idx ci k o fs v hd hF ho hg hv h
theorem q_putf {X : Cx} {own : String} {cc : ByteArray} {nL d : Nat} {K : KT} (hK : Cl X own cc nL d K) {g : Mem} {pc : Nat} {vs : Lv} {st : List Value} {idx ci k o : Nat} {fs : List Value} {v : Value} {ty : FieldType} (hd : decode cc pc = .ok (.putfield idx, 3)) (hF : FP own idx ci k ty) (ho : o < 147) (hg : g o = .inr (ci, fs)) (hn : narrow ty v = v) (hf : fits ty v = true) (hk : k < fs.length) (h : K (va_up g o (.inr (ci, fs.set k v))) (pc + 3) vs st) : K g pc vs (v :: rf X o :: st) := hK.2.2.2.2.2.2.2.2.2.2.2.2.2.2.2.2.2.2.2.2.2.2.2.2.2.2.2.2.2.2.2.2.2.2.2.2.2.2.2.2.2.2.2.2.2.2.2.2.2.2.2.2.2.2.2.2.2.2.2.2.1 g pc vs st idx ci k o fs v ty hd hF ho hg hn hf hk h
theorem q_getsP {X : Cx} {own : String} {cc : ByteArray} {nL d : Nat} {K : KT} (hK : Cl X own cc nL d K) {g : Mem} {pc : Nat} {vs : Lv} {st : List Value} {idx : Nat} {host : String} (hd : decode cc pc = .ok (.getstatic idx, 3)) (hF : Cond.fieldLinkNest own idx "TuneBench" "PRIMES" "[I" host ∈ nsts) (h : K g (pc + 3) vs (.ref X.2.2.2.2.1 :: st)) : K g pc vs (st) := hK.2.2.2.2.2.2.2.2.2.2.2.2.2.2.2.2.2.2.2.2.2.2.2.2.2.2.2.2.2.2.2.2.2.2.2.2.2.2.2.2.2.2.2.2.2.2.2.2.2.2.2.2.2.2.2.2.2.2.2.2.2.1 g pc vs st idx host hd hF h
theorem q_getsL {X : Cx} {own : String} {cc : ByteArray} {nL d : Nat} {K : KT} (hK : Cl X own cc nL d K) {g : Mem} {pc : Nat} {vs : Lv} {st : List Value} {idx : Nat} (hd : decode cc pc = .ok (.getstatic idx, 3)) (hF : Cond.fieldLink own idx "TuneBench$Divisions" "LOGARITHMS" "[J" ∈ gtb) (h : K g (pc + 3) vs (.ref X.2.2.2.2.2 :: st)) : K g pc vs (st) := hK.2.2.2.2.2.2.2.2.2.2.2.2.2.2.2.2.2.2.2.2.2.2.2.2.2.2.2.2.2.2.2.2.2.2.2.2.2.2.2.2.2.2.2.2.2.2.2.2.2.2.2.2.2.2.2.2.2.2.2.2.2.2.1 g pc vs st idx hd hF h
theorem q_ialdP {X : Cx} {own : String} {cc : ByteArray} {nL d : Nat} {K : KT} (hK : Cl X own cc nL d K) {g : Mem} {pc : Nat} {vs : Lv} {st : List Value} {i : Int32} (hd : decode cc pc = .ok (.iaload, 1)) (hi : vp_in i 6) (h : K g (pc + 1) vs (.int (prI i.toNatClampNeg) :: st)) : K g pc vs (.int i :: .ref X.2.2.2.2.1 :: st) := hK.2.2.2.2.2.2.2.2.2.2.2.2.2.2.2.2.2.2.2.2.2.2.2.2.2.2.2.2.2.2.2.2.2.2.2.2.2.2.2.2.2.2.2.2.2.2.2.2.2.2.2.2.2.2.2.2.2.2.2.2.2.2.2.1 g pc vs st i hd hi h
theorem q_laldL {X : Cx} {own : String} {cc : ByteArray} {nL d : Nat} {K : KT} (hK : Cl X own cc nL d K) {g : Mem} {pc : Nat} {vs : Lv} {st : List Value} {i : Int32} (hd : decode cc pc = .ok (.laload, 1)) (hi : vp_in i 6) (h : K g (pc + 1) vs (.long (lgL i.toNatClampNeg) :: st)) : K g pc vs (.int i :: .ref X.2.2.2.2.2 :: st) := hK.2.2.2.2.2.2.2.2.2.2.2.2.2.2.2.2.2.2.2.2.2.2.2.2.2.2.2.2.2.2.2.2.2.2.2.2.2.2.2.2.2.2.2.2.2.2.2.2.2.2.2.2.2.2.2.2.2.2.2.2.2.2.2.2.1 g pc vs st i hd hi h
theorem q_iald {X : Cx} {own : String} {cc : ByteArray} {nL d : Nat} {K : KT} (hK : Cl X own cc nL d K) {g : Mem} {pc : Nat} {vs : Lv} {st : List Value} {o n : Nat} {f : Nat → Int32} {i : Int32} (hd : decode cc pc = .ok (.iaload, 1)) (ho : o < 147) (hg : g o = aI X n f) (hi : vp_in i n) (h : K g (pc + 1) vs (.int (f i.toNatClampNeg) :: st)) : K g pc vs (.int i :: rf X o :: st) := hK.2.2.2.2.2.2.2.2.2.2.2.2.2.2.2.2.2.2.2.2.2.2.2.2.2.2.2.2.2.2.2.2.2.2.2.2.2.2.2.2.2.2.2.2.2.2.2.2.2.2.2.2.2.2.2.2.2.2.2.2.2.2.2.2.2.1 g pc vs st o n f i hd ho hg hi h
theorem q_lald {X : Cx} {own : String} {cc : ByteArray} {nL d : Nat} {K : KT} (hK : Cl X own cc nL d K) {g : Mem} {pc : Nat} {vs : Lv} {st : List Value} {o n : Nat} {f : Nat → Int64} {i : Int32} (hd : decode cc pc = .ok (.laload, 1)) (ho : o < 147) (hg : g o = aJ X n f) (hi : vp_in i n) (h : K g (pc + 1) vs (.long (f i.toNatClampNeg) :: st)) : K g pc vs (.int i :: rf X o :: st) := hK.2.2.2.2.2.2.2.2.2.2.2.2.2.2.2.2.2.2.2.2.2.2.2.2.2.2.2.2.2.2.2.2.2.2.2.2.2.2.2.2.2.2.2.2.2.2.2.2.2.2.2.2.2.2.2.2.2.2.2.2.2.2.2.2.2.2.1 g pc vs st o n f i hd ho hg hi h
theorem q_bald {X : Cx} {own : String} {cc : ByteArray} {nL d : Nat} {K : KT} (hK : Cl X own cc nL d K) {g : Mem} {pc : Nat} {vs : Lv} {st : List Value} {o n : Nat} {f : Nat → Int32} {i : Int32} (hd : decode cc pc = .ok (.baload, 1)) (ho : o < 147) (hg : g o = aB X n f) (hi : vp_in i n) (h : K g (pc + 1) vs (.int (f i.toNatClampNeg) :: st)) : K g pc vs (.int i :: rf X o :: st) := hK.2.2.2.2.2.2.2.2.2.2.2.2.2.2.2.2.2.2.2.2.2.2.2.2.2.2.2.2.2.2.2.2.2.2.2.2.2.2.2.2.2.2.2.2.2.2.2.2.2.2.2.2.2.2.2.2.2.2.2.2.2.2.2.2.2.2.2.1 g pc vs st o n f i hd ho hg hi h
theorem q_zald {X : Cx} {own : String} {cc : ByteArray} {nL d : Nat} {K : KT} (hK : Cl X own cc nL d K) {g : Mem} {pc : Nat} {vs : Lv} {st : List Value} {o n : Nat} {f : Nat → Int32} {i : Int32} (hd : decode cc pc = .ok (.baload, 1)) (ho : o < 147) (hg : g o = aZ X n f) (hi : vp_in i n) (h : K g (pc + 1) vs (.int (f i.toNatClampNeg) :: st)) : K g pc vs (.int i :: rf X o :: st) := hK.2.2.2.2.2.2.2.2.2.2.2.2.2.2.2.2.2.2.2.2.2.2.2.2.2.2.2.2.2.2.2.2.2.2.2.2.2.2.2.2.2.2.2.2.2.2.2.2.2.2.2.2.2.2.2.2.2.2.2.2.2.2.2.2.2.2.2.2.1 g pc vs st o n f i hd ho hg hi h
theorem q_aaldI {X : Cx} {own : String} {cc : ByteArray} {nL d : Nat} {K : KT} (hK : Cl X own cc nL d K) {g : Mem} {pc : Nat} {vs : Lv} {st : List Value} {o n : Nat} {r : Nat → Nat} {i : Int32} (hd : decode cc pc = .ok (.aaload, 1)) (ho : o < 147) (hg : g o = aRI X n r) (hi : vp_in i n) (h : K g (pc + 1) vs (rf X (r i.toNatClampNeg) :: st)) : K g pc vs (.int i :: rf X o :: st) := hK.2.2.2.2.2.2.2.2.2.2.2.2.2.2.2.2.2.2.2.2.2.2.2.2.2.2.2.2.2.2.2.2.2.2.2.2.2.2.2.2.2.2.2.2.2.2.2.2.2.2.2.2.2.2.2.2.2.2.2.2.2.2.2.2.2.2.2.2.2.1 g pc vs st o n r i hd ho hg hi h
theorem q_aaldJ {X : Cx} {own : String} {cc : ByteArray} {nL d : Nat} {K : KT} (hK : Cl X own cc nL d K) {g : Mem} {pc : Nat} {vs : Lv} {st : List Value} {o n : Nat} {r : Nat → Nat} {i : Int32} (hd : decode cc pc = .ok (.aaload, 1)) (ho : o < 147) (hg : g o = aRJ X n r) (hi : vp_in i n) (h : K g (pc + 1) vs (rf X (r i.toNatClampNeg) :: st)) : K g pc vs (.int i :: rf X o :: st) := hK.2.2.2.2.2.2.2.2.2.2.2.2.2.2.2.2.2.2.2.2.2.2.2.2.2.2.2.2.2.2.2.2.2.2.2.2.2.2.2.2.2.2.2.2.2.2.2.2.2.2.2.2.2.2.2.2.2.2.2.2.2.2.2.2.2.2.2.2.2.2.1 g pc vs st o n r i hd ho hg hi h
theorem q_iast {X : Cx} {own : String} {cc : ByteArray} {nL d : Nat} {K : KT} (hK : Cl X own cc nL d K) {g : Mem} {pc : Nat} {vs : Lv} {st : List Value} {o n : Nat} {f : Nat → Int32} {i : Int32} {x : Int32} (hd : decode cc pc = .ok (.iastore, 1)) (ho : o < 147) (hg : g o = aI X n f) (hi : vp_in i n) (h : K (va_up g o (aI X n (upd f i.toNatClampNeg x))) (pc + 1) vs st) : K g pc vs (.int x :: .int i :: rf X o :: st) := hK.2.2.2.2.2.2.2.2.2.2.2.2.2.2.2.2.2.2.2.2.2.2.2.2.2.2.2.2.2.2.2.2.2.2.2.2.2.2.2.2.2.2.2.2.2.2.2.2.2.2.2.2.2.2.2.2.2.2.2.2.2.2.2.2.2.2.2.2.2.2.2.1 g pc vs st o n f i x hd ho hg hi h
theorem q_last {X : Cx} {own : String} {cc : ByteArray} {nL d : Nat} {K : KT} (hK : Cl X own cc nL d K) {g : Mem} {pc : Nat} {vs : Lv} {st : List Value} {o n : Nat} {f : Nat → Int64} {i : Int32} {x : Int64} (hd : decode cc pc = .ok (.lastore, 1)) (ho : o < 147) (hg : g o = aJ X n f) (hi : vp_in i n) (h : K (va_up g o (aJ X n (vp_updL f i.toNatClampNeg x))) (pc + 1) vs st) : K g pc vs (.long x :: .int i :: rf X o :: st) := hK.2.2.2.2.2.2.2.2.2.2.2.2.2.2.2.2.2.2.2.2.2.2.2.2.2.2.2.2.2.2.2.2.2.2.2.2.2.2.2.2.2.2.2.2.2.2.2.2.2.2.2.2.2.2.2.2.2.2.2.2.2.2.2.2.2.2.2.2.2.2.2.2.1 g pc vs st o n f i x hd ho hg hi h
theorem q_bast {X : Cx} {own : String} {cc : ByteArray} {nL d : Nat} {K : KT} (hK : Cl X own cc nL d K) {g : Mem} {pc : Nat} {vs : Lv} {st : List Value} {o n : Nat} {f : Nat → Int32} {i : Int32} {x : Int32} (hd : decode cc pc = .ok (.bastore, 1)) (ho : o < 147) (hg : g o = aB X n f) (hi : vp_in i n) (h : K (va_up g o (aB X n (upd f i.toNatClampNeg (vp_nar .byte x)))) (pc + 1) vs st) : K g pc vs (.int x :: .int i :: rf X o :: st) := hK.2.2.2.2.2.2.2.2.2.2.2.2.2.2.2.2.2.2.2.2.2.2.2.2.2.2.2.2.2.2.2.2.2.2.2.2.2.2.2.2.2.2.2.2.2.2.2.2.2.2.2.2.2.2.2.2.2.2.2.2.2.2.2.2.2.2.2.2.2.2.2.2.2.1 g pc vs st o n f i x hd ho hg hi h
theorem q_zast {X : Cx} {own : String} {cc : ByteArray} {nL d : Nat} {K : KT} (hK : Cl X own cc nL d K) {g : Mem} {pc : Nat} {vs : Lv} {st : List Value} {o n : Nat} {f : Nat → Int32} {i : Int32} {x : Int32} (hd : decode cc pc = .ok (.bastore, 1)) (ho : o < 147) (hg : g o = aZ X n f) (hi : vp_in i n) (h : K (va_up g o (aZ X n (upd f i.toNatClampNeg (vp_nar .boolean x)))) (pc + 1) vs st) : K g pc vs (.int x :: .int i :: rf X o :: st) := hK.2.2.2.2.2.2.2.2.2.2.2.2.2.2.2.2.2.2.2.2.2.2.2.2.2.2.2.2.2.2.2.2.2.2.2.2.2.2.2.2.2.2.2.2.2.2.2.2.2.2.2.2.2.2.2.2.2.2.2.2.2.2.2.2.2.2.2.2.2.2.2.2.2.2.1 g pc vs st o n f i x hd ho hg hi h
theorem q_aastI {X : Cx} {own : String} {cc : ByteArray} {nL d : Nat} {K : KT} (hK : Cl X own cc nL d K) {g : Mem} {pc : Nat} {vs : Lv} {st : List Value} {o n q m2 : Nat} {r : Nat → Nat} {f : Nat → Int32} {i : Int32} (hd : decode cc pc = .ok (.aastore, 1)) (ho : o < 147) (hg : g o = aRI X n r) (hi : vp_in i n) (hq : q < 147) (hf : g q = aI X m2 f) (h : K (va_up g o (aRI X n (va_up r i.toNatClampNeg q))) (pc + 1) vs st) : K g pc vs (rf X q :: .int i :: rf X o :: st) := hK.2.2.2.2.2.2.2.2.2.2.2.2.2.2.2.2.2.2.2.2.2.2.2.2.2.2.2.2.2.2.2.2.2.2.2.2.2.2.2.2.2.2.2.2.2.2.2.2.2.2.2.2.2.2.2.2.2.2.2.2.2.2.2.2.2.2.2.2.2.2.2.2.2.2.2.1 g pc vs st o n q m2 r f i hd ho hg hi hq hf h
theorem q_aastJ {X : Cx} {own : String} {cc : ByteArray} {nL d : Nat} {K : KT} (hK : Cl X own cc nL d K) {g : Mem} {pc : Nat} {vs : Lv} {st : List Value} {o n q m2 : Nat} {r : Nat → Nat} {f : Nat → Int64} {i : Int32} (hd : decode cc pc = .ok (.aastore, 1)) (ho : o < 147) (hg : g o = aRJ X n r) (hi : vp_in i n) (hq : q < 147) (hf : g q = aJ X m2 f) (h : K (va_up g o (aRJ X n (va_up r i.toNatClampNeg q))) (pc + 1) vs st) : K g pc vs (rf X q :: .int i :: rf X o :: st) := hK.2.2.2.2.2.2.2.2.2.2.2.2.2.2.2.2.2.2.2.2.2.2.2.2.2.2.2.2.2.2.2.2.2.2.2.2.2.2.2.2.2.2.2.2.2.2.2.2.2.2.2.2.2.2.2.2.2.2.2.2.2.2.2.2.2.2.2.2.2.2.2.2.2.2.2.2.1 g pc vs st o n q m2 r f i hd ho hg hi hq hf h
theorem q_alen {X : Cx} {own : String} {cc : ByteArray} {nL d : Nat} {K : KT} (hK : Cl X own cc nL d K) {g : Mem} {pc : Nat} {vs : Lv} {st : List Value} {o : Nat} {cA : ClassId} {x : vp_A} {v : Int32} (t0 : Nat) {ty : FieldType} (hd : decode cc pc = .ok (.arraylength, 1)) (ho : o < 147) (hg : g o = .inl (cA, x)) (ht : (tysX X)[t0]? = some (cA, ty)) (hv : Int32.ofNat x.1 = v) (h : K g (pc + 1) vs (.int v :: st)) : K g pc vs (rf X o :: st) := hK.2.2.2.2.2.2.2.2.2.2.2.2.2.2.2.2.2.2.2.2.2.2.2.2.2.2.2.2.2.2.2.2.2.2.2.2.2.2.2.2.2.2.2.2.2.2.2.2.2.2.2.2.2.2.2.2.2.2.2.2.2.2.2.2.2.2.2.2.2.2.2.2.2.2.2.2.2.1 g pc vs st o cA x v t0 ty hd ho hg ht hv h
theorem q_callS {X : Cx} {own : String} {cc : ByteArray} {nL d : Nat} {K : KT} (hK : Cl X own cc nL d K) {g : Mem} {pc : Nat} {vs : Lv} {st : List Value} {idx n d1 : Nat} {y : MethodName} {as r : List Value} {Q : Option Value → Mem → Prop} (hd : decode cc pc = .ok (.invokestatic idx, 3)) (hL : SL own idx y n) (hn : as.length = n) (hr8 : (r.map fun v => v.category).sum ≤ 8) (hd1 : d1 + 1 ≤ d) (hC : CallM X d1 y as g Q) (hst : st = as.reverse ++ r) (h : ∀ v g9, Q v g9 → K g9 (pc + 3) vs (v.toList ++ r)) : K g pc vs (st) := hK.2.2.2.2.2.2.2.2.2.2.2.2.2.2.2.2.2.2.2.2.2.2.2.2.2.2.2.2.2.2.2.2.2.2.2.2.2.2.2.2.2.2.2.2.2.2.2.2.2.2.2.2.2.2.2.2.2.2.2.2.2.2.2.2.2.2.2.2.2.2.2.2.2.2.2.2.2.2.1 g pc vs st idx n d1 y as r Q hd hL hn hr8 hd1 hC hst h
theorem q_callV {X : Cx} {own : String} {cc : ByteArray} {nL d : Nat} {K : KT} (hK : Cl X own cc nL d K) {g : Mem} {pc : Nat} {vs : Lv} {st : List Value} {idx n d1 o ci : Nat} {y : MethodName} {as r fs : List Value} {Q : Option Value → Mem → Prop} (hd : decode cc pc = .ok (.invokevirtual idx, 3)) (hL : VL own idx y n ci) (ho : o < 147) (hg : g o = .inr (ci, fs)) (hn : as.length = n) (hr8 : (r.map fun v => v.category).sum ≤ 8) (hd1 : d1 + 1 ≤ d) (hC : CallM X d1 y (rf X o :: as) g Q) (hst : st = as.reverse ++ rf X o :: r) (h : ∀ v g9, Q v g9 → K g9 (pc + 3) vs (v.toList ++ r)) : K g pc vs (st) := hK.2.2.2.2.2.2.2.2.2.2.2.2.2.2.2.2.2.2.2.2.2.2.2.2.2.2.2.2.2.2.2.2.2.2.2.2.2.2.2.2.2.2.2.2.2.2.2.2.2.2.2.2.2.2.2.2.2.2.2.2.2.2.2.2.2.2.2.2.2.2.2.2.2.2.2.2.2.2.2.1 g pc vs st idx n d1 o ci y as r fs Q hd hL ho hg hn hr8 hd1 hC hst h
theorem q_copy {X : Cx} {own : String} {cc : ByteArray} {nL d : Nat} {K : KT} (hK : Cl X own cc nL d K) {g : Mem} {pc : Nat} {vs : Lv}  {idx q0 q1 n0 n1 : Nat} {f f1 : Nat → Int32} {sp dp n : Int32} (hd : decode cc pc = .ok (.invokestatic idx, 3)) (hL : ACL own idx) (hd1 : 1 ≤ d) (h0 : q0 < 147) (hg0 : g q0 = aI X n0 f) (h1 : q1 < 147) (hg1 : g q1 = aI X n1 f1) (z1 : ¬ sp < 0) (z2 : ¬ dp < 0) (z3 : ¬ n < 0) (z4 : sp.toNatClampNeg + n.toNatClampNeg ≤ n0) (z5 : dp.toNatClampNeg + n.toNatClampNeg ≤ n1) (h : K (va_up g q1 (aI X n1 (va_cpy f f1 sp.toNatClampNeg dp.toNatClampNeg n.toNatClampNeg))) (pc + 3) vs []) : K g pc vs (.int n :: .int dp :: rf X q1 :: .int sp :: rf X q0 :: []) := hK.2.2.2.2.2.2.2.2.2.2.2.2.2.2.2.2.2.2.2.2.2.2.2.2.2.2.2.2.2.2.2.2.2.2.2.2.2.2.2.2.2.2.2.2.2.2.2.2.2.2.2.2.2.2.2.2.2.2.2.2.2.2.2.2.2.2.2.2.2.2.2.2.2.2.2.2.2.2.2.2 g pc vs  idx q0 q1 n0 n1 f f1 sp dp n hd hL hd1 h0 hg0 h1 hg1 z1 z2 z3 z4 z5 h
section MS
variable {X : Cx} {p : Program} {e : Env} {R : Room} {s : State} {m : MethodId} {args : Array Value} {below : List Frame} {meth : Method} {c : Code} {cells slots nL d : Nat} {Qw : State → Prop} {own : String} {cc : ByteArray}
theorem s_iconst (F : Fx X p s m args c R cells slots own cc nL d) : r_iconst X own cc nL d (KX X p e R s m args below meth c cells slots nL Qw) := by
  intro g pc vs st n v hd hv h H locs ls hh hS hl
  exact lv_iconst F.1 F.2.1 hd hv (h H locs ls hh hS hl)
theorem s_bipush (F : Fx X p s m args c R cells slots own cc nL d) : r_bipush X own cc nL d (KX X p e R s m args below meth c cells slots nL Qw) := by
  intro g pc vs st n v hd hv h H locs ls hh hS hl
  exact lv_bipush F.1 F.2.1 hd hv (h H locs ls hh hS hl)
theorem s_sipush (F : Fx X p s m args c R cells slots own cc nL d) : r_sipush X own cc nL d (KX X p e R s m args below meth c cells slots nL Qw) := by
  intro g pc vs st n v hd hv h H locs ls hh hS hl
  exact lv_sipush F.1 F.2.1 hd hv (h H locs ls hh hS hl)
theorem s_lconst (F : Fx X p s m args c R cells slots own cc nL d) : r_lconst X own cc nL d (KX X p e R s m args below meth c cells slots nL Qw) := by
  intro g pc vs st n v hd hv h H locs ls hh hS hl
  exact lv_lconst F.1 F.2.1 hd hv (h H locs ls hh hS hl)
theorem s_ldc (F : Fx X p s m args c R cells slots own cc nL d) : r_ldc X own cc nL d (KX X p e R s m args below meth c cells slots nL Qw) := by
  intro g pc vs st i v hd hm h H locs ls hh hS hl
  exact lv_ldc F.1 F.2.1 F.2.2.2.1 (F.2.2.2.2.1 _ hm) hd (h H locs ls hh hS hl)
theorem s_ldcw (F : Fx X p s m args c R cells slots own cc nL d) : r_ldcw X own cc nL d (KX X p e R s m args below meth c cells slots nL Qw) := by
  intro g pc vs st i v hd hm h H locs ls hh hS hl
  exact lv_ldcw F.1 F.2.1 F.2.2.2.1 (F.2.2.2.2.1 _ hm) hd (h H locs ls hh hS hl)
theorem s_ldc2 (F : Fx X p s m args c R cells slots own cc nL d) : r_ldc2 X own cc nL d (KX X p e R s m args below meth c cells slots nL Qw) := by
  intro g pc vs st i v hd hm h H locs ls hh hS hl
  exact lv_ldc2 F.1 F.2.1 F.2.2.2.1 (F.2.2.2.2.1 _ hm) hd (h H locs ls hh hS hl)
theorem s_iload_n (F : Fx X p s m args c R cells slots own cc nL d) : r_iload_n X own cc nL d (KX X p e R s m args below meth c cells slots nL Qw) := by
  intro g pc vs st k i v hd hi hv h H locs ls hh hS hl
  exact lv_iload_n F.1 F.2.1 hd hi (lsh_at hl hv) (h H locs ls hh hS hl)
theorem s_iload (F : Fx X p s m args c R cells slots own cc nL d) : r_iload X own cc nL d (KX X p e R s m args below meth c cells slots nL Qw) := by
  intro g pc vs st i v hd hv h H locs ls hh hS hl
  exact lv_iload F.1 F.2.1 hd (lsh_at hl hv) (h H locs ls hh hS hl)
theorem s_istore_n (F : Fx X p s m args c R cells slots own cc nL d) : r_istore_n X own cc nL d (KX X p e R s m args below meth c cells slots nL Qw) := by
  intro g pc vs st k i v hd hi hn h H locs ls hh hS hl
  exact lv_istore_n F.1 F.2.1 hd hi hl hn rfl (fun ls2 hl2 => h H locs ls2 hh hS (lsh_set hl2))
theorem s_istore (F : Fx X p s m args c R cells slots own cc nL d) : r_istore X own cc nL d (KX X p e R s m args below meth c cells slots nL Qw) := by
  intro g pc vs st i v hd hn h H locs ls hh hS hl
  exact lv_istore F.1 F.2.1 hd hl hn rfl (fun ls2 hl2 => h H locs ls2 hh hS (lsh_set hl2))
theorem s_lload_n (F : Fx X p s m args c R cells slots own cc nL d) : r_lload_n X own cc nL d (KX X p e R s m args below meth c cells slots nL Qw) := by
  intro g pc vs st k i v hd hi hv h H locs ls hh hS hl
  exact lv_lload_n F.1 F.2.1 hd hi (lsh_at hl hv) (h H locs ls hh hS hl)
theorem s_lload (F : Fx X p s m args c R cells slots own cc nL d) : r_lload X own cc nL d (KX X p e R s m args below meth c cells slots nL Qw) := by
  intro g pc vs st i v hd hv h H locs ls hh hS hl
  exact lv_lload F.1 F.2.1 hd (lsh_at hl hv) (h H locs ls hh hS hl)
theorem s_lstore_n (F : Fx X p s m args c R cells slots own cc nL d) : r_lstore_n X own cc nL d (KX X p e R s m args below meth c cells slots nL Qw) := by
  intro g pc vs st k i v hd hi hn h H locs ls hh hS hl
  exact lv_lstore_n F.1 F.2.1 hd hi hl hn rfl (fun ls2 hl2 => h H locs ls2 hh hS (lsh_set2 hl2))
theorem s_lstore (F : Fx X p s m args c R cells slots own cc nL d) : r_lstore X own cc nL d (KX X p e R s m args below meth c cells slots nL Qw) := by
  intro g pc vs st i v hd hn h H locs ls hh hS hl
  exact lv_lstore F.1 F.2.1 hd hl hn rfl (fun ls2 hl2 => h H locs ls2 hh hS (lsh_set2 hl2))
theorem s_aload_n (F : Fx X p s m args c R cells slots own cc nL d) : r_aload_n X own cc nL d (KX X p e R s m args below meth c cells slots nL Qw) := by
  intro g pc vs st k i v hd hi hv h H locs ls hh hS hl
  exact lv_aload_n F.1 F.2.1 hd hi (lsh_at hl hv) (h H locs ls hh hS hl)
theorem s_aload (F : Fx X p s m args c R cells slots own cc nL d) : r_aload X own cc nL d (KX X p e R s m args below meth c cells slots nL Qw) := by
  intro g pc vs st i v hd hv h H locs ls hh hS hl
  exact lv_aload F.1 F.2.1 hd (lsh_at hl hv) (h H locs ls hh hS hl)
theorem s_astore_n (F : Fx X p s m args c R cells slots own cc nL d) : r_astore_n X own cc nL d (KX X p e R s m args below meth c cells slots nL Qw) := by
  intro g pc vs st k i v hd hi hn h H locs ls hh hS hl
  exact lv_astore_n F.1 F.2.1 hd hi hl hn rfl (fun ls2 hl2 => h H locs ls2 hh hS (lsh_set hl2))
theorem s_astore (F : Fx X p s m args c R cells slots own cc nL d) : r_astore X own cc nL d (KX X p e R s m args below meth c cells slots nL Qw) := by
  intro g pc vs st i v hd hn h H locs ls hh hS hl
  exact lv_astore F.1 F.2.1 hd hl hn rfl (fun ls2 hl2 => h H locs ls2 hh hS (lsh_set hl2))
theorem s_iinc (F : Fx X p s m args c R cells slots own cc nL d) : r_iinc X own cc nL d (KX X p e R s m args below meth c cells slots nL Qw) := by
  intro g pc vs st i n x v hd hx hv hn h H locs ls hh hS hl
  obtain ⟨k, hk⟩ := List.getElem?_of_mem (mem_asc vs 0 i _ hx)
  rw [Nat.zero_add] at hk
  exact lv_iinc F.1 F.2.1 hd hl hk hv hn rfl (fun ls2 hl2 => h H locs ls2 hh hS (lsh_set hl2))
theorem s_iadd (F : Fx X p s m args c R cells slots own cc nL d) : r_iadd X own cc nL d (KX X p e R s m args below meth c cells slots nL Qw) := by
  intro g pc vs st x y hd h H locs ls hh hS hl
  exact lv_iadd F.1 F.2.1 hd  (h H locs ls hh hS hl)
theorem s_isub (F : Fx X p s m args c R cells slots own cc nL d) : r_isub X own cc nL d (KX X p e R s m args below meth c cells slots nL Qw) := by
  intro g pc vs st x y hd h H locs ls hh hS hl
  exact lv_isub F.1 F.2.1 hd  (h H locs ls hh hS hl)
theorem s_imul (F : Fx X p s m args c R cells slots own cc nL d) : r_imul X own cc nL d (KX X p e R s m args below meth c cells slots nL Qw) := by
  intro g pc vs st x y hd h H locs ls hh hS hl
  exact lv_imul F.1 F.2.1 hd  (h H locs ls hh hS hl)
theorem s_iand (F : Fx X p s m args c R cells slots own cc nL d) : r_iand X own cc nL d (KX X p e R s m args below meth c cells slots nL Qw) := by
  intro g pc vs st x y hd h H locs ls hh hS hl
  exact lv_iand F.1 F.2.1 hd  (h H locs ls hh hS hl)
theorem s_ixor (F : Fx X p s m args c R cells slots own cc nL d) : r_ixor X own cc nL d (KX X p e R s m args below meth c cells slots nL Qw) := by
  intro g pc vs st x y hd h H locs ls hh hS hl
  exact lv_ixor F.1 F.2.1 hd  (h H locs ls hh hS hl)
theorem s_idiv (F : Fx X p s m args c R cells slots own cc nL d) : r_idiv X own cc nL d (KX X p e R s m args below meth c cells slots nL Qw) := by
  intro g pc vs st x y hd hne h H locs ls hh hS hl
  exact lv_idiv F.1 F.2.1 hd hne (h H locs ls hh hS hl)
theorem s_irem (F : Fx X p s m args c R cells slots own cc nL d) : r_irem X own cc nL d (KX X p e R s m args below meth c cells slots nL Qw) := by
  intro g pc vs st x y hd hne h H locs ls hh hS hl
  exact lv_irem F.1 F.2.1 hd hne (h H locs ls hh hS hl)
theorem s_ineg (F : Fx X p s m args c R cells slots own cc nL d) : r_ineg X own cc nL d (KX X p e R s m args below meth c cells slots nL Qw) := by
  intro g pc vs st x hd h H locs ls hh hS hl
  exact lv_ineg F.1 F.2.1 hd  (h H locs ls hh hS hl)
theorem s_ladd (F : Fx X p s m args c R cells slots own cc nL d) : r_ladd X own cc nL d (KX X p e R s m args below meth c cells slots nL Qw) := by
  intro g pc vs st x y hd h H locs ls hh hS hl
  exact lv_ladd F.1 F.2.1 hd  (h H locs ls hh hS hl)
theorem s_lsub (F : Fx X p s m args c R cells slots own cc nL d) : r_lsub X own cc nL d (KX X p e R s m args below meth c cells slots nL Qw) := by
  intro g pc vs st x y hd h H locs ls hh hS hl
  exact lv_lsub F.1 F.2.1 hd  (h H locs ls hh hS hl)
theorem s_lmul (F : Fx X p s m args c R cells slots own cc nL d) : r_lmul X own cc nL d (KX X p e R s m args below meth c cells slots nL Qw) := by
  intro g pc vs st x y hd h H locs ls hh hS hl
  exact lv_lmul F.1 F.2.1 hd  (h H locs ls hh hS hl)
theorem s_ldiv (F : Fx X p s m args c R cells slots own cc nL d) : r_ldiv X own cc nL d (KX X p e R s m args below meth c cells slots nL Qw) := by
  intro g pc vs st x y hd hne h H locs ls hh hS hl
  exact lv_ldiv F.1 F.2.1 hd hne (h H locs ls hh hS hl)
theorem s_lrem (F : Fx X p s m args c R cells slots own cc nL d) : r_lrem X own cc nL d (KX X p e R s m args below meth c cells slots nL Qw) := by
  intro g pc vs st x y hd hne h H locs ls hh hS hl
  exact lv_lrem F.1 F.2.1 hd hne (h H locs ls hh hS hl)
theorem s_lneg (F : Fx X p s m args c R cells slots own cc nL d) : r_lneg X own cc nL d (KX X p e R s m args below meth c cells slots nL Qw) := by
  intro g pc vs st x hd h H locs ls hh hS hl
  exact lv_lneg F.1 F.2.1 hd  (h H locs ls hh hS hl)
theorem s_ishl (F : Fx X p s m args c R cells slots own cc nL d) : r_ishl X own cc nL d (KX X p e R s m args below meth c cells slots nL Qw) := by
  intro g pc vs st x y hd h H locs ls hh hS hl
  exact lv_ishl F.1 F.2.1 hd  (h H locs ls hh hS hl)
theorem s_ishr (F : Fx X p s m args c R cells slots own cc nL d) : r_ishr X own cc nL d (KX X p e R s m args below meth c cells slots nL Qw) := by
  intro g pc vs st x y hd h H locs ls hh hS hl
  exact lv_ishr F.1 F.2.1 hd  (h H locs ls hh hS hl)
theorem s_iushr (F : Fx X p s m args c R cells slots own cc nL d) : r_iushr X own cc nL d (KX X p e R s m args below meth c cells slots nL Qw) := by
  intro g pc vs st x y v hd hv h H locs ls hh hS hl
  exact lv_iushr F.1 F.2.1 hd hv (h H locs ls hh hS hl)
theorem s_i2l (F : Fx X p s m args c R cells slots own cc nL d) : r_i2l X own cc nL d (KX X p e R s m args below meth c cells slots nL Qw) := by
  intro g pc vs st x hd h H locs ls hh hS hl
  exact lv_i2l F.1 F.2.1 hd rfl (h H locs ls hh hS hl)
theorem s_l2i (F : Fx X p s m args c R cells slots own cc nL d) : r_l2i X own cc nL d (KX X p e R s m args below meth c cells slots nL Qw) := by
  intro g pc vs st x hd h H locs ls hh hS hl
  exact lv_l2i F.1 F.2.1 hd rfl (h H locs ls hh hS hl)
theorem s_i2b (F : Fx X p s m args c R cells slots own cc nL d) : r_i2b X own cc nL d (KX X p e R s m args below meth c cells slots nL Qw) := by
  intro g pc vs st x hd h H locs ls hh hS hl
  exact lv_i2b F.1 F.2.1 hd rfl (h H locs ls hh hS hl)
theorem s_lcmp (F : Fx X p s m args c R cells slots own cc nL d) : r_lcmp X own cc nL d (KX X p e R s m args below meth c cells slots nL Qw) := by
  intro g pc vs st x y hd h H locs ls hh hS hl
  exact W.lcmp F.1 F.2.1 hd  (h H locs ls hh hS hl)
theorem s_dup (F : Fx X p s m args c R cells slots own cc nL d) : r_dup X own cc nL d (KX X p e R s m args below meth c cells slots nL Qw) := by
  intro g pc vs st a hd ha h H locs ls hh hS hl
  exact lv_dup F.1 F.2.1 hd ha (h H locs ls hh hS hl)
theorem s_pop (F : Fx X p s m args c R cells slots own cc nL d) : r_pop X own cc nL d (KX X p e R s m args below meth c cells slots nL Qw) := by
  intro g pc vs st a hd ha h H locs ls hh hS hl
  exact lv_pop F.1 F.2.1 hd ha (h H locs ls hh hS hl)
theorem s_dup2 (F : Fx X p s m args c R cells slots own cc nL d) : r_dup2 X own cc nL d (KX X p e R s m args below meth c cells slots nL Qw) := by
  intro g pc vs st a b hd ha hb h H locs ls hh hS hl
  exact lv_dup2_11 F.1 F.2.1 hd ha hb (h H locs ls hh hS hl)
theorem s_if_eq (F : Fx X p s m args c R cells slots own cc nL d) : r_if_eq X own cc nL d (KX X p e R s m args below meth c cells slots nL Qw) := by
  intro g pc vs st x off tgt hd ht h h2 H locs ls hh hS hl
  exact lv_if_eq F.1 F.2.1 hd ht (fun z => h z H locs ls hh hS hl) (fun z => h2 z H locs ls hh hS hl)
theorem s_icmp_eq (F : Fx X p s m args c R cells slots own cc nL d) : r_icmp_eq X own cc nL d (KX X p e R s m args below meth c cells slots nL Qw) := by
  intro g pc vs st x y off tgt hd ht h h2 H locs ls hh hS hl
  exact lv_icmp_eq F.1 F.2.1 hd ht (fun z => h z H locs ls hh hS hl) (fun z => h2 z H locs ls hh hS hl)
theorem s_if_ne (F : Fx X p s m args c R cells slots own cc nL d) : r_if_ne X own cc nL d (KX X p e R s m args below meth c cells slots nL Qw) := by
  intro g pc vs st x off tgt hd ht h h2 H locs ls hh hS hl
  exact lv_if_ne F.1 F.2.1 hd ht (fun z => h z H locs ls hh hS hl) (fun z => h2 z H locs ls hh hS hl)
theorem s_icmp_ne (F : Fx X p s m args c R cells slots own cc nL d) : r_icmp_ne X own cc nL d (KX X p e R s m args below meth c cells slots nL Qw) := by
  intro g pc vs st x y off tgt hd ht h h2 H locs ls hh hS hl
  exact lv_icmp_ne F.1 F.2.1 hd ht (fun z => h z H locs ls hh hS hl) (fun z => h2 z H locs ls hh hS hl)
theorem s_if_lt (F : Fx X p s m args c R cells slots own cc nL d) : r_if_lt X own cc nL d (KX X p e R s m args below meth c cells slots nL Qw) := by
  intro g pc vs st x off tgt hd ht h h2 H locs ls hh hS hl
  exact lv_if_lt F.1 F.2.1 hd ht (fun z => h z H locs ls hh hS hl) (fun z => h2 z H locs ls hh hS hl)
theorem s_icmp_lt (F : Fx X p s m args c R cells slots own cc nL d) : r_icmp_lt X own cc nL d (KX X p e R s m args below meth c cells slots nL Qw) := by
  intro g pc vs st x y off tgt hd ht h h2 H locs ls hh hS hl
  exact lv_icmp_lt F.1 F.2.1 hd ht (fun z => h z H locs ls hh hS hl) (fun z => h2 z H locs ls hh hS hl)
theorem s_if_ge (F : Fx X p s m args c R cells slots own cc nL d) : r_if_ge X own cc nL d (KX X p e R s m args below meth c cells slots nL Qw) := by
  intro g pc vs st x off tgt hd ht h h2 H locs ls hh hS hl
  exact lv_if_ge F.1 F.2.1 hd ht (fun z => h z H locs ls hh hS hl) (fun z => h2 z H locs ls hh hS hl)
theorem s_icmp_ge (F : Fx X p s m args c R cells slots own cc nL d) : r_icmp_ge X own cc nL d (KX X p e R s m args below meth c cells slots nL Qw) := by
  intro g pc vs st x y off tgt hd ht h h2 H locs ls hh hS hl
  exact lv_icmp_ge F.1 F.2.1 hd ht (fun z => h z H locs ls hh hS hl) (fun z => h2 z H locs ls hh hS hl)
theorem s_if_gt (F : Fx X p s m args c R cells slots own cc nL d) : r_if_gt X own cc nL d (KX X p e R s m args below meth c cells slots nL Qw) := by
  intro g pc vs st x off tgt hd ht h h2 H locs ls hh hS hl
  exact lv_if_gt F.1 F.2.1 hd ht (fun z => h z H locs ls hh hS hl) (fun z => h2 z H locs ls hh hS hl)
theorem s_icmp_gt (F : Fx X p s m args c R cells slots own cc nL d) : r_icmp_gt X own cc nL d (KX X p e R s m args below meth c cells slots nL Qw) := by
  intro g pc vs st x y off tgt hd ht h h2 H locs ls hh hS hl
  exact lv_icmp_gt F.1 F.2.1 hd ht (fun z => h z H locs ls hh hS hl) (fun z => h2 z H locs ls hh hS hl)
theorem s_if_le (F : Fx X p s m args c R cells slots own cc nL d) : r_if_le X own cc nL d (KX X p e R s m args below meth c cells slots nL Qw) := by
  intro g pc vs st x off tgt hd ht h h2 H locs ls hh hS hl
  exact lv_if_le F.1 F.2.1 hd ht (fun z => h z H locs ls hh hS hl) (fun z => h2 z H locs ls hh hS hl)
theorem s_icmp_le (F : Fx X p s m args c R cells slots own cc nL d) : r_icmp_le X own cc nL d (KX X p e R s m args below meth c cells slots nL Qw) := by
  intro g pc vs st x y off tgt hd ht h h2 H locs ls hh hS hl
  exact lv_icmp_le F.1 F.2.1 hd ht (fun z => h z H locs ls hh hS hl) (fun z => h2 z H locs ls hh hS hl)
theorem s_goto (F : Fx X p s m args c R cells slots own cc nL d) : r_goto X own cc nL d (KX X p e R s m args below meth c cells slots nL Qw) := by
  intro g pc vs st off tgt hd ht h H locs ls hh hS hl
  exact lv_goto F.1 F.2.1 hd ht (h H locs ls hh hS hl)
theorem s_tabO (F : Fx X p s m args c R cells slots own cc nL d) : r_tabO X own cc nL d (KX X p e R s m args below meth c cells slots nL Qw) := by
  intro g pc vs st dflt lo hi offs len x tgt hd hx ht h H locs ls hh hS hl
  exact lv_tableOut F.1 F.2.1 hd hx ht (h H locs ls hh hS hl)
theorem s_tabI (F : Fx X p s m args c R cells slots own cc nL d) : r_tabI X own cc nL d (KX X p e R s m args below meth c cells slots nL Qw) := by
  intro g pc vs st dflt lo hi offs len x off tgt hd h1 h3 ho ht h H locs ls hh hS hl
  exact lv_tableIn F.1 F.2.1 hd h1 h3 ho ht (h H locs ls hh hS hl)
theorem s_getf (F : Fx X p s m args c R cells slots own cc nL d) : r_getf X own cc nL d (KX X p e R s m args below meth c cells slots nL Qw) := by
  intro g pc vs st idx ci k o fs v hd hF ho hg hv h H locs ls hh hS hl
  obtain ⟨C, T, N, f1, f2, f3, f4⟩ := hF
  rcases f4 with f4 | ⟨z, f4⟩
  · exact va_get F.1 F.2.1 F.2.2.2.2.1 f3 F.2.2.2.1 F.2.2.2.2.2.2.1.1 (wdl_P hh) o (wdl_at ho hg) f1 k f2 (F.2.2.2.2.1 _ f4) (fun _ q => q) hv hd (h H locs ls hh hS hl)
  · exact va_getN F.1 F.2.1 F.2.2.2.2.1 f3 F.2.2.2.1 F.2.2.2.2.2.2.1.1 (wdl_P hh) o (wdl_at ho hg) f1 k f2 (va_Nw.use rfl (F.2.2.2.2.2.2.1.2.2 _ f4)) (fun _ q => q) hv hd (h H locs ls hh hS hl)
theorem s_putf (F : Fx X p s m args c R cells slots own cc nL d) : r_putf X own cc nL d (KX X p e R s m args below meth c cells slots nL Qw) := by
  intro g pc vs st idx ci k o fs v ty hd hF ho hg hn hf hk h H locs ls hh hS hl
  obtain ⟨C, T, N, ty0, f1, f2, f3, f5, f6, f7, f8, f4⟩ := hF
  rcases f4 with f4 | ⟨z, f4⟩
  · exact va_put F.1 F.2.1 F.2.2.2.2.1 f3 ty0 f5 f6 F.2.2.2.1 F.2.2.2.2.2.2.1.1 (wdl_P hh) (wdl_D F.2.2.2.2.2.1) hS o (wdl_at ho hg) f1 k f2 (F.2.2.2.2.1 _ f4) (fun _ q => q) f7 f8 hn hf hk hd (fun H1 locs1 hP1 _ hS1 => h H1 locs1 ls (hld_of ho hP1) hS1 hl)
  · exact va_putN F.1 F.2.1 F.2.2.2.2.1 f3 ty0 f5 f6 F.2.2.2.1 F.2.2.2.2.2.2.1.1 (wdl_P hh) (wdl_D F.2.2.2.2.2.1) hS o (wdl_at ho hg) f1 k f2 (va_Nw.use rfl (F.2.2.2.2.2.2.1.2.2 _ f4)) (fun _ q => q) f7 f8 hn hf hk hd (fun H1 locs1 hP1 _ hS1 => h H1 locs1 ls (hld_of ho hP1) hS1 hl)
theorem s_getsP (F : Fx X p s m args c R cells slots own cc nL d) : r_getsP X own cc nL d (KX X p e R s m args below meth c cells slots nL Qw) := by
  intro g pc vs st idx host hd hF h H locs ls hh hS hl
  exact va_getsN F.1 F.2.1 F.2.2.2.2.2.2.2.1.1 hS F.2.2.2.1 (va_Nw.use rfl (F.2.2.2.2.2.2.1.2.2 _ hF)) (fun _ q => q) hd (h H locs ls hh hS hl)
theorem s_getsL (F : Fx X p s m args c R cells slots own cc nL d) : r_getsL X own cc nL d (KX X p e R s m args below meth c cells slots nL Qw) := by
  intro g pc vs st idx hd hF h H locs ls hh hS hl
  exact va_gets F.1 F.2.1 F.2.2.2.2.2.2.2.1.2.2.1 hS F.2.2.2.1 (F.2.2.2.2.1 _ hF) (fun _ q => q) hd (h H locs ls hh hS hl)
theorem s_ialdP (F : Fx X p s m args c R cells slots own cc nL d) : r_ialdP X own cc nL d (KX X p e R s m args below meth c cells slots nL Qw) := by
  intro g pc vs st i hd hi h H locs ls hh hS hl
  exact va_ti F.1 F.2.1 F.2.2.2.2.2.2.2.1.2.1 hS hi rfl hd (h H locs ls hh hS hl)
theorem s_laldL (F : Fx X p s m args c R cells slots own cc nL d) : r_laldL X own cc nL d (KX X p e R s m args below meth c cells slots nL Qw) := by
  intro g pc vs st i hd hi h H locs ls hh hS hl
  exact va_tl F.1 F.2.1 F.2.2.2.2.2.2.2.1.2.2.2 hS hi rfl hd (h H locs ls hh hS hl)
theorem s_iald (F : Fx X p s m args c R cells slots own cc nL d) : r_iald X own cc nL d (KX X p e R s m args below meth c cells slots nL Qw) := by
  intro g pc vs st o n f i hd ho hg hi h H locs ls hh hS hl
  exact va_iald F.1 F.2.1 F.2.2.2.2.2.2.1.1 (wdl_P hh) o 0 (wdl_at ho hg) rfl hi hd (h H locs ls hh hS hl)
theorem s_lald (F : Fx X p s m args c R cells slots own cc nL d) : r_lald X own cc nL d (KX X p e R s m args below meth c cells slots nL Qw) := by
  intro g pc vs st o n f i hd ho hg hi h H locs ls hh hS hl
  exact va_lald F.1 F.2.1 F.2.2.2.2.2.2.1.1 (wdl_P hh) o 1 (wdl_at ho hg) rfl hi hd (h H locs ls hh hS hl)
theorem s_bald (F : Fx X p s m args c R cells slots own cc nL d) : r_bald X own cc nL d (KX X p e R s m args below meth c cells slots nL Qw) := by
  intro g pc vs st o n f i hd ho hg hi h H locs ls hh hS hl
  exact va_bald F.1 F.2.1 F.2.2.2.2.2.2.1.1 (wdl_P hh) o 2 (wdl_at ho hg) rfl hi hd (h H locs ls hh hS hl)
theorem s_zald (F : Fx X p s m args c R cells slots own cc nL d) : r_zald X own cc nL d (KX X p e R s m args below meth c cells slots nL Qw) := by
  intro g pc vs st o n f i hd ho hg hi h H locs ls hh hS hl
  exact va_zald F.1 F.2.1 F.2.2.2.2.2.2.1.1 (wdl_P hh) o 3 (wdl_at ho hg) rfl hi hd (h H locs ls hh hS hl)
theorem s_aaldI (F : Fx X p s m args c R cells slots own cc nL d) : r_aaldI X own cc nL d (KX X p e R s m args below meth c cells slots nL Qw) := by
  intro g pc vs st o n r i hd ho hg hi h H locs ls hh hS hl
  have hlt : i.toNatClampNeg < n := Nat.not_le.mp fun q => hi (Or.inr q)
  exact W.aald (v := .ref (X.2.2.1 (r i.toNatClampNeg))) (ty := .array .int) F.1 F.2.1 (wdl_P hh o _ (wdl_at ho hg)) ((F.2.2.2.2.2.2.1.1.2 4 _ rfl).1 n (fun j => va_rf (some (X.2.2.1 (r j))))) rfl (fun q => by cases q) (by show ¬ (i < 0 ∨ (arrV _ _ _).slots.size ≤ _); rw [arrV_size]; exact hi) (by show (arrV _ _ _).slots[_]? = _; rw [arrV_read _ _ hlt]; rfl) rfl rfl hd (h H locs ls hh hS hl)
theorem s_aaldJ (F : Fx X p s m args c R cells slots own cc nL d) : r_aaldJ X own cc nL d (KX X p e R s m args below meth c cells slots nL Qw) := by
  intro g pc vs st o n r i hd ho hg hi h H locs ls hh hS hl
  have hlt : i.toNatClampNeg < n := Nat.not_le.mp fun q => hi (Or.inr q)
  exact W.aald (v := .ref (X.2.2.1 (r i.toNatClampNeg))) (ty := .array .long) F.1 F.2.1 (wdl_P hh o _ (wdl_at ho hg)) ((F.2.2.2.2.2.2.1.1.2 5 _ rfl).1 n (fun j => va_rf (some (X.2.2.1 (r j))))) rfl (fun q => by cases q) (by show ¬ (i < 0 ∨ (arrV _ _ _).slots.size ≤ _); rw [arrV_size]; exact hi) (by show (arrV _ _ _).slots[_]? = _; rw [arrV_read _ _ hlt]; rfl) rfl rfl hd (h H locs ls hh hS hl)
theorem s_iast (F : Fx X p s m args c R cells slots own cc nL d) : r_iast X own cc nL d (KX X p e R s m args below meth c cells slots nL Qw) := by
  intro g pc vs st o n f i x hd ho hg hi h H locs ls hh hS hl
  exact va_iast F.1 F.2.1 F.2.2.2.2.2.2.1.1 (wdl_P hh) (wdl_D F.2.2.2.2.2.1) hS o 0 (wdl_at ho hg) rfl hi hd (fun H1 locs1 hP1 _ hS1 => h H1 locs1 ls (hld_of ho hP1) hS1 hl)
theorem s_last (F : Fx X p s m args c R cells slots own cc nL d) : r_last X own cc nL d (KX X p e R s m args below meth c cells slots nL Qw) := by
  intro g pc vs st o n f i x hd ho hg hi h H locs ls hh hS hl
  exact va_last F.1 F.2.1 F.2.2.2.2.2.2.1.1 (wdl_P hh) (wdl_D F.2.2.2.2.2.1) hS o 1 (wdl_at ho hg) rfl hi hd (fun H1 locs1 hP1 _ hS1 => h H1 locs1 ls (hld_of ho hP1) hS1 hl)
theorem s_bast (F : Fx X p s m args c R cells slots own cc nL d) : r_bast X own cc nL d (KX X p e R s m args below meth c cells slots nL Qw) := by
  intro g pc vs st o n f i x hd ho hg hi h H locs ls hh hS hl
  exact va_bast F.1 F.2.1 F.2.2.2.2.2.2.1.1 (wdl_P hh) (wdl_D F.2.2.2.2.2.1) hS o 2 (wdl_at ho hg) rfl hi hd (fun H1 locs1 hP1 _ hS1 => h H1 locs1 ls (hld_of ho hP1) hS1 hl)
theorem s_zast (F : Fx X p s m args c R cells slots own cc nL d) : r_zast X own cc nL d (KX X p e R s m args below meth c cells slots nL Qw) := by
  intro g pc vs st o n f i x hd ho hg hi h H locs ls hh hS hl
  exact va_zast F.1 F.2.1 F.2.2.2.2.2.2.1.1 (wdl_P hh) (wdl_D F.2.2.2.2.2.1) hS o 3 (wdl_at ho hg) rfl hi hd (fun H1 locs1 hP1 _ hS1 => h H1 locs1 ls (hld_of ho hP1) hS1 hl)
theorem s_aastI (F : Fx X p s m args c R cells slots own cc nL d) : r_aastI X own cc nL d (KX X p e R s m args below meth c cells slots nL Qw) := by
  intro g pc vs st o n q m2 r f i hd ho hg hi hq hf h H locs ls hh hS hl
  have hlt : i.toNatClampNeg < n := Nat.not_le.mp fun q => hi (Or.inr q)
  have h0 : ¬ i < 0 := fun q => hi (Or.inl q)
  obtain ⟨k, kc, e1, e2, e3⟩ := F.2.2.2.2.2.2.1.2.1.1
  refine W.aast F.1 F.2.1 (wdl_P hh o _ (wdl_at ho hg)) (fun q h => by cases h) (fun h => by cases h) e1 e2 rfl e3 ⟨h0, by show _ < (arrV _ _ _).slots.size; rw [arrV_size]; exact hlt⟩ (wdl_P hh q _ (wdl_at hq hf)) (fun q h => by cases h) e3 (asg_rf _ _) rfl rfl hd fun H1 e z oq => ?_
  refine h H1 _ ls (hld_set hh F.2.2.2.2.2.1 ho ?_ oq) (hS.put z oq ⟨o, ho, rfl⟩) hl
  show H1[_]? = some (vp_cell _ _)
  rw [e, vp_cell_q, vp_cell_q, arrV_store]
  congr 2
  funext j
  by_cases hj : j = i.toNatClampNeg
  · subst hj
    simp [updV, va_up, va_rf]
  · simp [updV, va_up, hj, va_rf]
theorem s_aastJ (F : Fx X p s m args c R cells slots own cc nL d) : r_aastJ X own cc nL d (KX X p e R s m args below meth c cells slots nL Qw) := by
  intro g pc vs st o n q m2 r f i hd ho hg hi hq hf h H locs ls hh hS hl
  have hlt : i.toNatClampNeg < n := Nat.not_le.mp fun q => hi (Or.inr q)
  have h0 : ¬ i < 0 := fun q => hi (Or.inl q)
  obtain ⟨k, kc, e1, e2, e3⟩ := F.2.2.2.2.2.2.1.2.1.2
  refine W.aast F.1 F.2.1 (wdl_P hh o _ (wdl_at ho hg)) (fun q h => by cases h) (fun h => by cases h) e1 e2 rfl e3 ⟨h0, by show _ < (arrV _ _ _).slots.size; rw [arrV_size]; exact hlt⟩ (wdl_P hh q _ (wdl_at hq hf)) (fun q h => by cases h) e3 (asg_rf _ _) rfl rfl hd fun H1 e z oq => ?_
  refine h H1 _ ls (hld_set hh F.2.2.2.2.2.1 ho ?_ oq) (hS.put z oq ⟨o, ho, rfl⟩) hl
  show H1[_]? = some (vp_cell _ _)
  rw [e, vp_cell_q, vp_cell_q, arrV_store]
  congr 2
  funext j
  by_cases hj : j = i.toNatClampNeg
  · subst hj
    simp [updV, va_up, va_rf]
  · simp [updV, va_up, hj, va_rf]
theorem s_alen (F : Fx X p s m args c R cells slots own cc nL d) : r_alen X own cc nL d (KX X p e R s m args below meth c cells slots nL Qw) := by
  intro g pc vs st o cA x v t0 ty hd ho hg ht hv h H locs ls hh hS hl
  exact va_alen F.1 F.2.1 F.2.2.2.2.2.2.1.1 (wdl_P hh) o t0 (wdl_at ho hg) ht hv hd (h H locs ls hh hS hl)
theorem s_callS (F : Fx X p s m args c R cells slots own cc nL d) : r_callS X own cc nL d (KX X p e R s m args below meth c cells slots nL Qw) := by
  intro g pc vs st idx n d1 y as r Q hd hL hn hr8 hd1 hC hst h H locs ls hh hS hl
  have hF' : ∀ q, inA X q → inA X q := fun _ q => q
  obtain ⟨bytes, n9, ret9, c1, c2, hM⟩ := hC
  have hPre : ∀ U : State, U.heap = H → s.WarmedH U.vm → va_Pc (as) (PreX X g) (as).toArray U := fun U hU hW => ⟨rfl, F.2.2.2.2.2.1, F.2.2.2.2.2.2.1.warm hW, F.2.2.2.2.2.2.2.1.moved hW.alike (by rw [hU]; exact fun a h1 h2 => hS.2.1 a h1 h2), by rw [hU]; exact hh⟩
  have hR : (rmd d1).frames + 1 ≤ R.frames ∧ 8 + (n9 + 11) + (rmd d1).locals ≤ R.locals := ⟨Nat.le_trans hd1 F.2.2.2.2.2.2.2.2.1, by have := F.2.2.2.2.2.2.2.2.2.1; show 8 + (n9 + 11) + 38 * d1 ≤ R.locals; omega⟩
  obtain ⟨l1, l2, l3, l4⟩ := hL
  have hr : va_Run p X.1 e R s m args below meth c H locs cells slots 0 0 (F0 m pc ls st) r (Qcc X Q as.toArray) (inA X) := by
    rcases l1 with l1 | ⟨z, l1⟩
    · exact va_runS ⟨F.1, F.2.1, F.2.2.1, F.2.2.2.1, F.2.2.2.2.1⟩ hM ⟨callB_of n F.2.2.2.2.1 (gtb_in c1) rfl rfl rfl (F.2.2.2.2.1 _ l3) (F.2.2.2.2.1 _ l1) l4 hR, F.2.2.2.2.1 _ l2⟩ ⟨PreX.blind, hPre⟩ rfl hn hl.1 hst (lv_room hr8) hd ⟨F.2.2.2.2.2.2.2.2.2.2.1, F.2.2.2.2.2.2.2.2.2.2.2⟩
    · exact va_runSN ⟨F.1, F.2.1, F.2.2.1, F.2.2.2.1, F.2.2.2.2.1⟩ hM ⟨va_cnB n F.2.2.2.2.1 (gtb_in c1) rfl rfl rfl (F.2.2.2.2.2.2.1.2.2 _ l1) (F.2.2.2.2.1 _ l3) l4 hR, F.2.2.2.2.1 _ l2, trivial⟩ ⟨PreX.blind, hPre⟩ rfl hn hl.1 hst (lv_room hr8) hd ⟨F.2.2.2.2.2.2.2.2.2.2.1, F.2.2.2.2.2.2.2.2.2.2.2⟩
  intro T hT Xs
  obtain ⟨v, st₀, t, T', L, k0, X', hL, e1, e2, ⟨⟨r9, g9, k1, k2, k3⟩, hz, hk⟩, stp⟩ := hr T hT Xs
  cases k1
  rw [k0] at hz hk
  obtain ⟨t2, a1, b1⟩ := h v g9 k2 T'.heap (locs ++ L) ls (by rw [e1]; exact k3) ⟨Nat.le_trans hS.1 (by rw [e1]; exact hz), fun q h1 h2 => by rw [e1, hk q (Nat.lt_of_lt_of_le h1 hS.1) h2]; exact hS.2.1 q h1 h2, fun q hq => by
      rcases List.mem_append.mp hq with h | h
      · exact hS.2.2 q h
      · exact hL q h⟩ hl T' rfl X'
  exact ⟨t2, stp t2 a1, b1⟩
theorem s_callV (F : Fx X p s m args c R cells slots own cc nL d) : r_callV X own cc nL d (KX X p e R s m args below meth c cells slots nL Qw) := by
  intro g pc vs st idx n d1 o ci y as r fs Q hd hL ho hg hn hr8 hd1 hC hst h H locs ls hh hS hl
  have hF' : ∀ q, inA X q → inA X q := fun _ q => q
  obtain ⟨bytes, n9, ret9, c1, c2, hM⟩ := hC
  have hPre : ∀ U : State, U.heap = H → s.WarmedH U.vm → va_Pc (rf X o :: as) (PreX X g) (rf X o :: as).toArray U := fun U hU hW => ⟨rfl, F.2.2.2.2.2.1, F.2.2.2.2.2.2.1.warm hW, F.2.2.2.2.2.2.2.1.moved hW.alike (by rw [hU]; exact fun a h1 h2 => hS.2.1 a h1 h2), by rw [hU]; exact hh⟩
  have hR : (rmd d1).frames + 1 ≤ R.frames ∧ 8 + (n9 + 11) + (rmd d1).locals ≤ R.locals := ⟨Nat.le_trans hd1 F.2.2.2.2.2.2.2.2.1, by have := F.2.2.2.2.2.2.2.2.2.1; show 8 + (n9 + 11) + 38 * d1 ≤ R.locals; omega⟩
  obtain ⟨l1, l2, l3, l5, l4, T0, N0, l6⟩ := hL
  have hr : va_Run p X.1 e R s m args below meth c H locs cells slots 0 0 (F0 m pc ls st) r (Qcc X Q (rf X o :: as).toArray) (inA X) :=
    va_runV ⟨F.1, F.2.1, F.2.2.1, F.2.2.2.1, F.2.2.2.2.1⟩ hM ⟨callB_of n F.2.2.2.2.1 (gtb_in c1) rfl rfl rfl (F.2.2.2.2.1 _ l5) (F.2.2.2.2.1 _ l1) l4 hR, F.2.2.2.2.1 _ l2, F.2.2.2.2.1 _ l3⟩ ⟨PreX.blind, va_recv F.2.2.2.2.2.2.1.1 (wdl_P hh) l6 (wdl_at ho hg), hPre⟩ rfl hn hl.1 hst (lv_room hr8) hd ⟨F.2.2.2.2.2.2.2.2.2.2.1, F.2.2.2.2.2.2.2.2.2.2.2⟩
  intro T hT Xs
  obtain ⟨v, st₀, t, T', L, k0, X', hL, e1, e2, ⟨⟨r9, g9, k1, k2, k3⟩, hz, hk⟩, stp⟩ := hr T hT Xs
  cases k1
  rw [k0] at hz hk
  obtain ⟨t2, a1, b1⟩ := h v g9 k2 T'.heap (locs ++ L) ls (by rw [e1]; exact k3) ⟨Nat.le_trans hS.1 (by rw [e1]; exact hz), fun q h1 h2 => by rw [e1, hk q (Nat.lt_of_lt_of_le h1 hS.1) h2]; exact hS.2.1 q h1 h2, fun q hq => by
      rcases List.mem_append.mp hq with h | h
      · exact hS.2.2 q h
      · exact hL q h⟩ hl T' rfl X'
  exact ⟨t2, stp t2 a1, b1⟩
theorem s_copy (F : Fx X p s m args c R cells slots own cc nL d) : r_copy X own cc nL d (KX X p e R s m args below meth c cells slots nL Qw) := by
  intro g pc vs  idx q0 q1 n0 n1 f f1 sp dp n hd hL hd1 h0 hg0 h1 hg1 z1 z2 z3 z4 z5 h H locs ls hh hS hl
  have w1 := F.2.2.2.2.2.2.2.2.1
  have w2 := F.2.2.2.2.2.2.2.2.2.1
  exact va_copyi F.1 F.2.1 (F.2.2.1.trans hl.1.symm) F.2.2.2.1 (F.2.2.2.2.1 _ hL.1) (F.2.2.2.2.1 _ hL.2.1) (F.2.2.2.2.1 _ hL.2.2.1) (F.2.2.2.2.1 _ hL.2.2.2) F.2.2.2.2.2.2.1.1 (wdl_P hh) (wdl_D F.2.2.2.2.2.1) hS q0 q1 0 0 (wdl_at h0 hg0) (wdl_at h1 hg1) rfl rfl rfl z1 z2 z3 z4 z5 (fun _ _ => rfl) (by omega) (Nat.le_trans (by show (0 : Nat) + (nativeFrameWords "java/lang/System" "arraycopy" 5 + 11) ≤ 38; decide) (Nat.le_trans (by omega : 38 ≤ 38 * d) w2)) hd (fun H1 locs1 hP1 _ hS1 => h H1 locs1 ls (hld_of h1 hP1) hS1 hl)
theorem cl_sound (F : Fx X p s m args c R cells slots own cc nL d) : Cl X own cc nL d (KX X p e R s m args below meth c cells slots nL Qw) := ⟨s_iconst F, s_bipush F, s_sipush F, s_lconst F, s_ldc F, s_ldcw F, s_ldc2 F, s_iload_n F, s_iload F, s_istore_n F, s_istore F, s_lload_n F, s_lload F, s_lstore_n F, s_lstore F, s_aload_n F, s_aload F, s_astore_n F, s_astore F, s_iinc F, s_iadd F, s_isub F, s_imul F, s_iand F, s_ixor F, s_idiv F, s_irem F, s_ineg F, s_ladd F, s_lsub F, s_lmul F, s_ldiv F, s_lrem F, s_lneg F, s_ishl F, s_ishr F, s_iushr F, s_i2l F, s_l2i F, s_i2b F, s_lcmp F, s_dup F, s_pop F, s_dup2 F, s_if_eq F, s_icmp_eq F, s_if_ne F, s_icmp_ne F, s_if_lt F, s_icmp_lt F, s_if_ge F, s_icmp_ge F, s_if_gt F, s_icmp_gt F, s_if_le F, s_icmp_le F, s_goto F, s_tabO F, s_tabI F, s_getf F, s_putf F, s_getsP F, s_getsL F, s_ialdP F, s_laldL F, s_iald F, s_lald F, s_bald F, s_zald F, s_aaldI F, s_aaldJ F, s_iast F, s_last F, s_bast F, s_zast F, s_aastI F, s_aastJ F, s_alen F, s_callS F, s_callV F, s_copy F⟩
end MS
end
section
def ClR (cc : ByteArray) (ret : Option FieldType) (Q : Option Value → Mem → Prop) (K : KT) : Prop :=
  (∀ (g : Mem) (pc : Nat) (vs : Lv) (v : Int32) (ty : FieldType), decode cc pc = .ok (.ireturn, 1) → ret = some ty → narrow ty (.int v) = .int v → Q (some (.int v)) g → K g pc vs [.int v]) ∧
  (∀ (g : Mem) (pc : Nat) (vs : Lv) (v : Int64), decode cc pc = .ok (.lreturn, 1) → ret = some .long → Q (some (.long v)) g → K g pc vs [.long v]) ∧
  (∀ (g : Mem) (pc : Nat) (vs : Lv), decode cc pc = .ok (.return_, 1) → ret = none → Q none g → K g pc vs [])
theorem q_iret {cc : ByteArray} {ty : FieldType} {Q : Option Value → Mem → Prop} {K : KT} (hR : ClR cc (some ty) Q K) {g : Mem} {pc : Nat} {vs : Lv} {v : Int32} (hd : decode cc pc = .ok (.ireturn, 1)) (hn : narrow ty (.int v) = .int v) (hQ : Q (some (.int v)) g) : K g pc vs [.int v] := hR.1 g pc vs v ty hd rfl hn hQ
theorem q_lret {cc : ByteArray} {Q : Option Value → Mem → Prop} {K : KT} (hR : ClR cc (some .long) Q K) {g : Mem} {pc : Nat} {vs : Lv} {v : Int64} (hd : decode cc pc = .ok (.lreturn, 1)) (hQ : Q (some (.long v)) g) : K g pc vs [.long v] := hR.2.1 g pc vs v hd rfl hQ
theorem q_vret {cc : ByteArray} {Q : Option Value → Mem → Prop} {K : KT} (hR : ClR cc none Q K) {g : Mem} {pc : Nat} {vs : Lv} (hd : decode cc pc = .ok (.return_, 1)) (hQ : Q none g) : K g pc vs [] := hR.2.2 g pc vs hd rfl hQ
theorem CallM_intro {X : Cx} {d : Nat} {y : MethodName} {cc : ByteArray} {nL : Nat} {ret : Option FieldType} {as : List Value} {g : Mem} {Q : Option Value → Mem → Prop} {own : String} (vs0 : Lv) (hc : Cond.code y cc nL ret ∈ gtb) (hn : nL ≤ 19) (hp : plainName y.cls = true) (ho : y.cls = own) (hl : (lg_sl as).length ≤ nL) (hv : asc 0 vs0 = lv_args 0 as) (h : ∀ K : KT, Cl X own cc nL d K → ClR cc ret Q K → K g 0 vs0 []) : CallM X d y as g Q := by
  refine ⟨cc, nL, ret, hc, hn, Met.ofW (cc := cc) (maxL := nL) (ret := ret) hp rfl ?_⟩
  intro p e s m args below meth c s₁ B hml hv'
  obtain ⟨rfl, hinj, hk, hst, hh⟩ := hv'
  have F : Fx X p s m as.toArray c (rmd d) 0 0 own cc nL d := ⟨B.exec, B.bytes, hml, by rw [← ho]; exact findClass_of_methodNamed B.named, fun w hw => atoms_spec (ws := Cond.code y cc nL ret :: gtb) B.pre w (List.mem_cons_of_mem _ hw), hinj, hk, hst, Nat.le_refl _, Nat.le_refl _, Nat.le_refl _, Nat.le_refl _⟩
  have hr := B.returns
  have hlocks := B.notSynchronized
  have hle := lv_entry as (n := nL) hl
  rw [lg_entry_eq]
  refine h (KX X p e (rmd d) s m as.toArray below meth c 0 0 nL (MQ below (Qcc X Q) as.toArray s 0 0 (inA X))) (cl_sound F) ⟨?_, ?_, ?_⟩ s.heap [] _ hh va_S.rf (by show lv_has _ _ (asc 0 vs0); rw [hv]; exact hle)
  · intro g pc vs v ty hd hty hna hQ H locs ls hh hS hl
    exact W.zret F.1 F.2.1 (hr.trans hty) hna (fun t ht hW => ⟨⟨some (.int v), g, rfl, hQ, by rw [ht]; exact hh⟩, hS.F ht⟩) hS.2.2 hd hlocks
  · intro g pc vs v hd hty hQ H locs ls hh hS hl
    exact W.lret F.1 F.2.1 (hr.trans hty) (fun t ht hW => ⟨⟨some (.long v), g, rfl, hQ, by rw [ht]; exact hh⟩, hS.F ht⟩) hS.2.2 hd hlocks
  · intro g pc vs hd hty hQ H locs ls hh hS hl
    exact W.vret F.1 F.2.1 (hr.trans hty) (fun t ht hW => ⟨⟨none, g, rfl, hQ, by rw [ht]; exact hh⟩, hS.F ht⟩) hS.2.2 hd hlocks
theorem CallM.mono {X : Cx} {d : Nat} {y : MethodName} {as : List Value} {g : Mem} {Q Q' : Option Value → Mem → Prop} (h : CallM X d y as g Q) (hQ : ∀ v g', Q v g' → Q' v g') : CallM X d y as g Q' := by
  obtain ⟨cc, n, ret, h1, h2, h3⟩ := h
  refine ⟨cc, n, ret, h1, h2, ?_⟩
  intro p e ha hc hk s m args below hf happ hP hX
  obtain ⟨k, o, a1, a2, a3, ⟨⟨r, g', b1, b2, b3⟩, b4⟩, b5⟩ := h3 p e ha hc hk s m args below hf happ hP hX
  exact ⟨k, o, a1, a2, a3, ⟨⟨r, g', b1, hQ _ _ b2, b3⟩, b4⟩, b5⟩
theorem q_callSi {X : Cx} {own : String} {cc : ByteArray} {nL d : Nat} {K : KT} (hK : Cl X own cc nL d K) {g : Mem} {pc : Nat} {vs : Lv} {st : List Value} {idx n d1 : Nat} {y : MethodName} {as r : List Value} {Q : Int32 → Mem → Prop} (hd : decode cc pc = .ok (.invokestatic idx, 3)) (hL : SL own idx y n) (hn : as.length = n) (hd1 : d1 + 1 ≤ d) (hC : CallI X d1 y as g Q) (hst : st = as.reverse ++ r) (hr8 : (r.map fun v => v.category).sum ≤ 8) (h : ∀ v g9, Q v g9 → K g9 (pc + 3) vs (.int v :: r)) : K g pc vs st := q_callS hK hd hL hn hr8 hd1 hC hst (fun v g9 hq => by obtain ⟨i, rfl, hq⟩ := hq; exact h i g9 hq)
theorem q_callSl {X : Cx} {own : String} {cc : ByteArray} {nL d : Nat} {K : KT} (hK : Cl X own cc nL d K) {g : Mem} {pc : Nat} {vs : Lv} {st : List Value} {idx n d1 : Nat} {y : MethodName} {as r : List Value} {Q : Int64 → Mem → Prop} (hd : decode cc pc = .ok (.invokestatic idx, 3)) (hL : SL own idx y n) (hn : as.length = n) (hd1 : d1 + 1 ≤ d) (hC : CallL X d1 y as g Q) (hst : st = as.reverse ++ r) (hr8 : (r.map fun v => v.category).sum ≤ 8) (h : ∀ v g9, Q v g9 → K g9 (pc + 3) vs (.long v :: r)) : K g pc vs st := q_callS hK hd hL hn hr8 hd1 hC hst (fun v g9 hq => by obtain ⟨i, rfl, hq⟩ := hq; exact h i g9 hq)
theorem q_callSv {X : Cx} {own : String} {cc : ByteArray} {nL d : Nat} {K : KT} (hK : Cl X own cc nL d K) {g : Mem} {pc : Nat} {vs : Lv} {st : List Value} {idx n d1 : Nat} {y : MethodName} {as r : List Value} {Q : Mem → Prop} (hd : decode cc pc = .ok (.invokestatic idx, 3)) (hL : SL own idx y n) (hn : as.length = n) (hd1 : d1 + 1 ≤ d) (hC : CallV X d1 y as g Q) (hst : st = as.reverse ++ r) (hr8 : (r.map fun v => v.category).sum ≤ 8) (h : ∀ g9, Q g9 → K g9 (pc + 3) vs r) : K g pc vs st := q_callS hK hd hL hn hr8 hd1 hC hst (fun v g9 hq => by obtain ⟨rfl, hq⟩ := hq; exact h g9 hq)
theorem q_callVi {X : Cx} {own : String} {cc : ByteArray} {nL d : Nat} {K : KT} (hK : Cl X own cc nL d K) {g : Mem} {pc : Nat} {vs : Lv} {st : List Value} {idx n d1 o ci : Nat} {y : MethodName} {as r fs : List Value} {Q : Int32 → Mem → Prop} (hd : decode cc pc = .ok (.invokevirtual idx, 3)) (hL : VL own idx y n ci) (hn : as.length = n) (hd1 : d1 + 1 ≤ d) (ho : o < 147) (hg : g o = .inr (ci, fs)) (hC : CallI X d1 y (rf X o :: as) g Q) (hst : st = as.reverse ++ rf X o :: r) (hr8 : (r.map fun v => v.category).sum ≤ 8) (h : ∀ v g9, Q v g9 → K g9 (pc + 3) vs (.int v :: r)) : K g pc vs st := q_callV hK hd hL ho hg hn hr8 hd1 hC hst (fun v g9 hq => by obtain ⟨i, rfl, hq⟩ := hq; exact h i g9 hq)
theorem q_callVl {X : Cx} {own : String} {cc : ByteArray} {nL d : Nat} {K : KT} (hK : Cl X own cc nL d K) {g : Mem} {pc : Nat} {vs : Lv} {st : List Value} {idx n d1 o ci : Nat} {y : MethodName} {as r fs : List Value} {Q : Int64 → Mem → Prop} (hd : decode cc pc = .ok (.invokevirtual idx, 3)) (hL : VL own idx y n ci) (hn : as.length = n) (hd1 : d1 + 1 ≤ d) (ho : o < 147) (hg : g o = .inr (ci, fs)) (hC : CallL X d1 y (rf X o :: as) g Q) (hst : st = as.reverse ++ rf X o :: r) (hr8 : (r.map fun v => v.category).sum ≤ 8) (h : ∀ v g9, Q v g9 → K g9 (pc + 3) vs (.long v :: r)) : K g pc vs st := q_callV hK hd hL ho hg hn hr8 hd1 hC hst (fun v g9 hq => by obtain ⟨i, rfl, hq⟩ := hq; exact h i g9 hq)
theorem q_callVv {X : Cx} {own : String} {cc : ByteArray} {nL d : Nat} {K : KT} (hK : Cl X own cc nL d K) {g : Mem} {pc : Nat} {vs : Lv} {st : List Value} {idx n d1 o ci : Nat} {y : MethodName} {as r fs : List Value} {Q : Mem → Prop} (hd : decode cc pc = .ok (.invokevirtual idx, 3)) (hL : VL own idx y n ci) (hn : as.length = n) (hd1 : d1 + 1 ≤ d) (ho : o < 147) (hg : g o = .inr (ci, fs)) (hC : CallV X d1 y (rf X o :: as) g Q) (hst : st = as.reverse ++ rf X o :: r) (hr8 : (r.map fun v => v.category).sum ≤ 8) (h : ∀ g9, Q g9 → K g9 (pc + 3) vs r) : K g pc vs st := q_callV hK hd hL ho hg hn hr8 hd1 hC hst (fun v g9 hq => by obtain ⟨rfl, hq⟩ := hq; exact h g9 hq)
theorem gtb_of {w : Cond} (h1 : w ∈ lw_tbl) (h2 : goodWord w = true) : w ∈ gtb := List.mem_filter.mpr ⟨h1, h2⟩
theorem tb0 {w : Cond} (h : w ∈ k2_sels lw_privs) : w ∈ lw_tbl := List.mem_append_left _ h
theorem tb1 {w : Cond} (h : w ∈ tables_1_1) : w ∈ lw_tbl := List.mem_append_right _ (List.mem_append_left _ h)
theorem tb2 {w : Cond} (h : w ∈ tables_1_2) : w ∈ lw_tbl := List.mem_append_right _ (List.mem_append_right _ (List.mem_append_left _ h))
theorem tb3 {w : Cond} (h : w ∈ tables_1_3) : w ∈ lw_tbl := List.mem_append_right _ (List.mem_append_right _ (List.mem_append_right _ (List.mem_append_left _ h)))
theorem tb4 {w : Cond} (h : w ∈ tables_1_4) : w ∈ lw_tbl := List.mem_append_right _ (List.mem_append_right _ (List.mem_append_right _ (List.mem_append_right _ h)))
end
section
theorem ingX0 : ∀ w ∈ u_ws RX0 TX0 4, w ∈ gtb := by decide +kernel
theorem ingX2 : ∀ w ∈ u_ws RX2 TX2 4, w ∈ gtb := by decide +kernel
theorem ingX3 : ∀ w ∈ u_ws RX3 TX3 3, w ∈ gtb := by decide +kernel
theorem ingX4 : ∀ w ∈ u_ws RX4 TX4 2, w ∈ gtb := by decide +kernel
theorem ingX6 : ∀ w ∈ u_ws RX6 TX6 9, w ∈ gtb := by decide +kernel
theorem ingX7 : ∀ w ∈ u_ws RX7 TX7 3, w ∈ gtb := by decide +kernel
theorem ingX8 : ∀ w ∈ u_ws RX8 TX8 10, w ∈ gtb := by decide +kernel
theorem ingX9 : ∀ w ∈ u_ws RX9 TX9 25, w ∈ gtb := by decide +kernel
theorem fX0_13 : FL RX0 13 0 0 := ⟨RX0, TX0, 4, rfl, by decide, ingX0, Or.inl (gtb_of (tb1 (List.mem_of_getElem? (i := 68) (by decide +kernel))) (by decide +kernel))⟩
theorem fX0_18 : FL RX0 18 0 1 := ⟨RX0, TX0, 4, rfl, by decide, ingX0, Or.inl (gtb_of (tb1 (List.mem_of_getElem? (i := 69) (by decide +kernel))) (by decide +kernel))⟩
theorem fX0_21 : FL RX0 21 0 2 := ⟨RX0, TX0, 4, rfl, by decide, ingX0, Or.inl (gtb_of (tb1 (List.mem_of_getElem? (i := 70) (by decide +kernel))) (by decide +kernel))⟩
theorem pX0_21 : FP RX0 21 0 2 .int := ⟨RX0, TX0, 4, tyX0, rfl, by decide, ingX0, tyX0_ok, nmX0, rfl, by decide +kernel, Or.inl (gtb_of (tb1 (List.mem_of_getElem? (i := 70) (by decide +kernel))) (by decide +kernel))⟩
theorem fX0_25 : FL RX0 25 0 3 := ⟨RX0, TX0, 4, rfl, by decide, ingX0, Or.inl (gtb_of (tb1 (List.mem_of_getElem? (i := 72) (by decide +kernel))) (by decide +kernel))⟩
theorem pX0_25 : FP RX0 25 0 3 .long := ⟨RX0, TX0, 4, tyX0, rfl, by decide, ingX0, tyX0_ok, nmX0, rfl, by decide +kernel, Or.inl (gtb_of (tb1 (List.mem_of_getElem? (i := 72) (by decide +kernel))) (by decide +kernel))⟩
theorem fX2_9 : FL RX2 9 1 0 := ⟨RX2, TX2, 4, rfl, by decide, ingX2, Or.inl (gtb_of (tb1 (List.mem_of_getElem? (i := 143) (by decide +kernel))) (by decide +kernel))⟩
theorem fX2_15 : FL RX2 15 1 1 := ⟨RX2, TX2, 4, rfl, by decide, ingX2, Or.inl (gtb_of (tb1 (List.mem_of_getElem? (i := 144) (by decide +kernel))) (by decide +kernel))⟩
theorem fX2_19 : FL RX2 19 1 2 := ⟨RX2, TX2, 4, rfl, by decide, ingX2, Or.inl (gtb_of (tb1 (List.mem_of_getElem? (i := 145) (by decide +kernel))) (by decide +kernel))⟩
theorem pX2_19 : FP RX2 19 1 2 (.array .int) := ⟨RX2, TX2, 4, tyX2, rfl, by decide, ingX2, tyX2_ok, nmX2, rfl, by decide +kernel, Or.inl (gtb_of (tb1 (List.mem_of_getElem? (i := 145) (by decide +kernel))) (by decide +kernel))⟩
theorem fX2_22 : FL RX2 22 1 3 := ⟨RX2, TX2, 4, rfl, by decide, ingX2, Or.inl (gtb_of (tb1 (List.mem_of_getElem? (i := 146) (by decide +kernel))) (by decide +kernel))⟩
theorem pX2_22 : FP RX2 22 1 3 (.array .int) := ⟨RX2, TX2, 4, tyX2, rfl, by decide, ingX2, tyX2_ok, nmX2, rfl, by decide +kernel, Or.inl (gtb_of (tb1 (List.mem_of_getElem? (i := 146) (by decide +kernel))) (by decide +kernel))⟩
theorem fX3_11 : FL RX3 11 2 0 := ⟨RX3, TX3, 3, rfl, by decide, ingX3, Or.inl (gtb_of (tb1 (List.mem_of_getElem? (i := 36) (by decide +kernel))) (by decide +kernel))⟩
theorem fX3_15 : FL RX3 15 2 1 := ⟨RX3, TX3, 3, rfl, by decide, ingX3, Or.inl (gtb_of (tb1 (List.mem_of_getElem? (i := 37) (by decide +kernel))) (by decide +kernel))⟩
theorem pX3_15 : FP RX3 15 2 1 .int := ⟨RX3, TX3, 3, tyX3, rfl, by decide, ingX3, tyX3_ok, nmX3, rfl, by decide +kernel, Or.inl (gtb_of (tb1 (List.mem_of_getElem? (i := 37) (by decide +kernel))) (by decide +kernel))⟩
theorem fX3_19 : FL RX3 19 2 2 := ⟨RX3, TX3, 3, rfl, by decide, ingX3, Or.inl (gtb_of (tb1 (List.mem_of_getElem? (i := 38) (by decide +kernel))) (by decide +kernel))⟩
theorem pX3_19 : FP RX3 19 2 2 .long := ⟨RX3, TX3, 3, tyX3, rfl, by decide, ingX3, tyX3_ok, nmX3, rfl, by decide +kernel, Or.inl (gtb_of (tb1 (List.mem_of_getElem? (i := 38) (by decide +kernel))) (by decide +kernel))⟩
theorem fX4_13 : FL RX4 13 3 0 := ⟨RX4, TX4, 2, rfl, by decide, ingX4, Or.inl (gtb_of (tb1 (List.mem_of_getElem? (i := 97) (by decide +kernel))) (by decide +kernel))⟩
theorem fX4_16 : FL RX4 16 3 1 := ⟨RX4, TX4, 2, rfl, by decide, ingX4, Or.inl (gtb_of (tb1 (List.mem_of_getElem? (i := 99) (by decide +kernel))) (by decide +kernel))⟩
theorem pX4_16 : FP RX4 16 3 1 .int := ⟨RX4, TX4, 2, tyX4, rfl, by decide, ingX4, tyX4_ok, nmX4, rfl, by decide +kernel, Or.inl (gtb_of (tb1 (List.mem_of_getElem? (i := 99) (by decide +kernel))) (by decide +kernel))⟩
theorem fX6_9 : FL RX6 9 4 0 := ⟨RX6, TX6, 9, rfl, by decide, ingX6, Or.inl (gtb_of (tb1 (List.mem_of_getElem? (i := 107) (by decide +kernel))) (by decide +kernel))⟩
theorem fX6_15 : FL RX6 15 4 1 := ⟨RX6, TX6, 9, rfl, by decide, ingX6, Or.inl (gtb_of (tb1 (List.mem_of_getElem? (i := 108) (by decide +kernel))) (by decide +kernel))⟩
theorem fX6_19 : FL RX6 19 4 2 := ⟨RX6, TX6, 9, rfl, by decide, ingX6, Or.inl (gtb_of (tb1 (List.mem_of_getElem? (i := 110) (by decide +kernel))) (by decide +kernel))⟩
theorem fX6_22 : FL RX6 22 4 3 := ⟨RX6, TX6, 9, rfl, by decide, ingX6, Or.inl (gtb_of (tb1 (List.mem_of_getElem? (i := 111) (by decide +kernel))) (by decide +kernel))⟩
theorem fX6_25 : FL RX6 25 4 4 := ⟨RX6, TX6, 9, rfl, by decide, ingX6, Or.inl (gtb_of (tb1 (List.mem_of_getElem? (i := 112) (by decide +kernel))) (by decide +kernel))⟩
theorem fX6_32 : FL RX6 32 4 5 := ⟨RX6, TX6, 9, rfl, by decide, ingX6, Or.inl (gtb_of (tb1 (List.mem_of_getElem? (i := 113) (by decide +kernel))) (by decide +kernel))⟩
theorem fX6_35 : FL RX6 35 4 6 := ⟨RX6, TX6, 9, rfl, by decide, ingX6, Or.inl (gtb_of (tb1 (List.mem_of_getElem? (i := 114) (by decide +kernel))) (by decide +kernel))⟩
theorem fX6_39 : FL RX6 39 4 7 := ⟨RX6, TX6, 9, rfl, by decide, ingX6, Or.inl (gtb_of (tb1 (List.mem_of_getElem? (i := 115) (by decide +kernel))) (by decide +kernel))⟩
theorem pX6_39 : FP RX6 39 4 7 (.object "TuneBench$NoteList") := ⟨RX6, TX6, 9, tyX6, rfl, by decide, ingX6, tyX6_ok, nmX6, rfl, by decide +kernel, Or.inl (gtb_of (tb1 (List.mem_of_getElem? (i := 115) (by decide +kernel))) (by decide +kernel))⟩
theorem fX6_43 : FL RX6 43 4 8 := ⟨RX6, TX6, 9, rfl, by decide, ingX6, Or.inl (gtb_of (tb1 (List.mem_of_getElem? (i := 117) (by decide +kernel))) (by decide +kernel))⟩
theorem pX6_43 : FP RX6 43 4 8 (.object "TuneBench$NoteList") := ⟨RX6, TX6, 9, tyX6, rfl, by decide, ingX6, tyX6_ok, nmX6, rfl, by decide +kernel, Or.inl (gtb_of (tb1 (List.mem_of_getElem? (i := 117) (by decide +kernel))) (by decide +kernel))⟩
theorem fX6_46 : FL RX6 46 3 1 := ⟨RX4, TX4, 2, rfl, by decide, ingX4, Or.inr ⟨_, (by decide +kernel : Cond.fieldLinkNest RX6 46 "TuneBench$NoteList" "count" "I" "TuneBench" ∈ nsts)⟩⟩
theorem pX6_46 : FP RX6 46 3 1 .int := ⟨RX4, TX4, 2, tyX4, rfl, by decide, ingX4, tyX4_ok, nmX4, rfl, by decide +kernel, Or.inr ⟨_, (by decide +kernel : Cond.fieldLinkNest RX6 46 "TuneBench$NoteList" "count" "I" "TuneBench" ∈ nsts)⟩⟩
theorem fX6_84 : FL RX6 84 3 0 := ⟨RX4, TX4, 2, rfl, by decide, ingX4, Or.inr ⟨_, (by decide +kernel : Cond.fieldLinkNest RX6 84 "TuneBench$NoteList" "rows" "[[I" "TuneBench" ∈ nsts)⟩⟩
theorem fX7_12 : FL RX7 12 5 0 := ⟨RX7, TX7, 3, rfl, by decide, ingX7, Or.inl (gtb_of (tb1 (List.mem_of_getElem? (i := 49) (by decide +kernel))) (by decide +kernel))⟩
theorem fX7_18 : FL RX7 18 5 1 := ⟨RX7, TX7, 3, rfl, by decide, ingX7, Or.inl (gtb_of (tb1 (List.mem_of_getElem? (i := 50) (by decide +kernel))) (by decide +kernel))⟩
theorem fX7_21 : FL RX7 21 5 2 := ⟨RX7, TX7, 3, rfl, by decide, ingX7, Or.inl (gtb_of (tb1 (List.mem_of_getElem? (i := 51) (by decide +kernel))) (by decide +kernel))⟩
theorem fX8_11 : FL RX8 11 6 0 := ⟨RX8, TX8, 10, rfl, by decide, ingX8, Or.inl (gtb_of (tb1 (List.mem_of_getElem? (i := 156) (by decide +kernel))) (by decide +kernel))⟩
theorem fX8_14 : FL RX8 14 6 1 := ⟨RX8, TX8, 10, rfl, by decide, ingX8, Or.inl (gtb_of (tb1 (List.mem_of_getElem? (i := 157) (by decide +kernel))) (by decide +kernel))⟩
theorem fX8_18 : FL RX8 18 6 2 := ⟨RX8, TX8, 10, rfl, by decide, ingX8, Or.inl (gtb_of (tb1 (List.mem_of_getElem? (i := 158) (by decide +kernel))) (by decide +kernel))⟩
theorem fX8_22 : FL RX8 22 6 3 := ⟨RX8, TX8, 10, rfl, by decide, ingX8, Or.inl (gtb_of (tb1 (List.mem_of_getElem? (i := 159) (by decide +kernel))) (by decide +kernel))⟩
theorem fX8_29 : FL RX8 29 6 4 := ⟨RX8, TX8, 10, rfl, by decide, ingX8, Or.inl (gtb_of (tb1 (List.mem_of_getElem? (i := 160) (by decide +kernel))) (by decide +kernel))⟩
theorem fX8_36 : FL RX8 36 6 5 := ⟨RX8, TX8, 10, rfl, by decide, ingX8, Or.inl (gtb_of (tb1 (List.mem_of_getElem? (i := 161) (by decide +kernel))) (by decide +kernel))⟩
theorem fX8_45 : FL RX8 45 6 6 := ⟨RX8, TX8, 10, rfl, by decide, ingX8, Or.inl (gtb_of (tb1 (List.mem_of_getElem? (i := 162) (by decide +kernel))) (by decide +kernel))⟩
theorem fX8_52 : FL RX8 52 6 7 := ⟨RX8, TX8, 10, rfl, by decide, ingX8, Or.inl (gtb_of (tb1 (List.mem_of_getElem? (i := 163) (by decide +kernel))) (by decide +kernel))⟩
theorem fX8_56 : FL RX8 56 6 8 := ⟨RX8, TX8, 10, rfl, by decide, ingX8, Or.inl (gtb_of (tb1 (List.mem_of_getElem? (i := 164) (by decide +kernel))) (by decide +kernel))⟩
theorem pX8_56 : FP RX8 56 6 8 .int := ⟨RX8, TX8, 10, tyX8, rfl, by decide, ingX8, tyX8_ok, nmX8, rfl, by decide +kernel, Or.inl (gtb_of (tb1 (List.mem_of_getElem? (i := 164) (by decide +kernel))) (by decide +kernel))⟩
theorem fX8_60 : FL RX8 60 6 9 := ⟨RX8, TX8, 10, rfl, by decide, ingX8, Or.inl (gtb_of (tb1 (List.mem_of_getElem? (i := 165) (by decide +kernel))) (by decide +kernel))⟩
theorem pX8_60 : FP RX8 60 6 9 .int := ⟨RX8, TX8, 10, tyX8, rfl, by decide, ingX8, tyX8_ok, nmX8, rfl, by decide +kernel, Or.inl (gtb_of (tb1 (List.mem_of_getElem? (i := 165) (by decide +kernel))) (by decide +kernel))⟩
theorem fX8_137 : FL RX8 137 0 2 := ⟨RX0, TX0, 4, rfl, by decide, ingX0, Or.inr ⟨_, (by decide +kernel : Cond.fieldLinkNest RX8 137 "TuneBench$Commas" "count" "I" "TuneBench" ∈ nsts)⟩⟩
theorem pX8_137 : FP RX8 137 0 2 .int := ⟨RX0, TX0, 4, tyX0, rfl, by decide, ingX0, tyX0_ok, nmX0, rfl, by decide +kernel, Or.inr ⟨_, (by decide +kernel : Cond.fieldLinkNest RX8 137 "TuneBench$Commas" "count" "I" "TuneBench" ∈ nsts)⟩⟩
theorem fX8_161 : FL RX8 161 4 1 := ⟨RX6, TX6, 9, rfl, by decide, ingX6, Or.inr ⟨_, (by decide +kernel : Cond.fieldLinkNest RX8 161 "TuneBench$Scale" "period" "[I" "TuneBench" ∈ nsts)⟩⟩
theorem fX8_164 : FL RX8 164 4 7 := ⟨RX6, TX6, 9, rfl, by decide, ingX6, Or.inr ⟨_, (by decide +kernel : Cond.fieldLinkNest RX8 164 "TuneBench$Scale" "notes" "LTuneBench$NoteList;" "TuneBench" ∈ nsts)⟩⟩
theorem fX8_188 : FL RX8 188 3 1 := ⟨RX4, TX4, 2, rfl, by decide, ingX4, Or.inr ⟨_, (by decide +kernel : Cond.fieldLinkNest RX8 188 "TuneBench$NoteList" "count" "I" "TuneBench" ∈ nsts)⟩⟩
theorem fX9_7 : FL RX9 7 7 1 := ⟨RX9, TX9, 25, rfl, by decide, ingX9, Or.inl (gtb_of (tb3 (List.mem_of_getElem? (i := 126) (by decide +kernel))) (by decide +kernel))⟩
theorem fX9_13 : FL RX9 13 7 2 := ⟨RX9, TX9, 25, rfl, by decide, ingX9, Or.inl (gtb_of (tb3 (List.mem_of_getElem? (i := 127) (by decide +kernel))) (by decide +kernel))⟩
theorem fX9_17 : FL RX9 17 7 3 := ⟨RX9, TX9, 25, rfl, by decide, ingX9, Or.inl (gtb_of (tb3 (List.mem_of_getElem? (i := 128) (by decide +kernel))) (by decide +kernel))⟩
theorem fX9_20 : FL RX9 20 7 4 := ⟨RX9, TX9, 25, rfl, by decide, ingX9, Or.inl (gtb_of (tb3 (List.mem_of_getElem? (i := 129) (by decide +kernel))) (by decide +kernel))⟩
theorem fX9_23 : FL RX9 23 7 7 := ⟨RX9, TX9, 25, rfl, by decide, ingX9, Or.inl (gtb_of (tb3 (List.mem_of_getElem? (i := 132) (by decide +kernel))) (by decide +kernel))⟩
theorem fX9_26 : FL RX9 26 7 8 := ⟨RX9, TX9, 25, rfl, by decide, ingX9, Or.inl (gtb_of (tb3 (List.mem_of_getElem? (i := 133) (by decide +kernel))) (by decide +kernel))⟩
theorem fX9_29 : FL RX9 29 7 9 := ⟨RX9, TX9, 25, rfl, by decide, ingX9, Or.inl (gtb_of (tb3 (List.mem_of_getElem? (i := 134) (by decide +kernel))) (by decide +kernel))⟩
theorem fX9_32 : FL RX9 32 7 10 := ⟨RX9, TX9, 25, rfl, by decide, ingX9, Or.inl (gtb_of (tb3 (List.mem_of_getElem? (i := 135) (by decide +kernel))) (by decide +kernel))⟩
theorem fX9_35 : FL RX9 35 7 12 := ⟨RX9, TX9, 25, rfl, by decide, ingX9, Or.inl (gtb_of (tb3 (List.mem_of_getElem? (i := 137) (by decide +kernel))) (by decide +kernel))⟩
theorem fX9_38 : FL RX9 38 7 13 := ⟨RX9, TX9, 25, rfl, by decide, ingX9, Or.inl (gtb_of (tb3 (List.mem_of_getElem? (i := 138) (by decide +kernel))) (by decide +kernel))⟩
theorem fX9_41 : FL RX9 41 7 15 := ⟨RX9, TX9, 25, rfl, by decide, ingX9, Or.inl (gtb_of (tb3 (List.mem_of_getElem? (i := 140) (by decide +kernel))) (by decide +kernel))⟩
theorem fX9_45 : FL RX9 45 7 16 := ⟨RX9, TX9, 25, rfl, by decide, ingX9, Or.inl (gtb_of (tb3 (List.mem_of_getElem? (i := 141) (by decide +kernel))) (by decide +kernel))⟩
theorem fX9_48 : FL RX9 48 7 17 := ⟨RX9, TX9, 25, rfl, by decide, ingX9, Or.inl (gtb_of (tb3 (List.mem_of_getElem? (i := 142) (by decide +kernel))) (by decide +kernel))⟩
theorem fX9_51 : FL RX9 51 7 19 := ⟨RX9, TX9, 25, rfl, by decide, ingX9, Or.inl (gtb_of (tb3 (List.mem_of_getElem? (i := 144) (by decide +kernel))) (by decide +kernel))⟩
theorem fX9_54 : FL RX9 54 7 20 := ⟨RX9, TX9, 25, rfl, by decide, ingX9, Or.inl (gtb_of (tb3 (List.mem_of_getElem? (i := 145) (by decide +kernel))) (by decide +kernel))⟩
theorem fX9_57 : FL RX9 57 7 21 := ⟨RX9, TX9, 25, rfl, by decide, ingX9, Or.inl (gtb_of (tb3 (List.mem_of_getElem? (i := 146) (by decide +kernel))) (by decide +kernel))⟩
theorem fX9_60 : FL RX9 60 7 23 := ⟨RX9, TX9, 25, rfl, by decide, ingX9, Or.inl (gtb_of (tb3 (List.mem_of_getElem? (i := 148) (by decide +kernel))) (by decide +kernel))⟩
theorem fX9_63 : FL RX9 63 7 24 := ⟨RX9, TX9, 25, rfl, by decide, ingX9, Or.inl (gtb_of (tb3 (List.mem_of_getElem? (i := 149) (by decide +kernel))) (by decide +kernel))⟩
theorem fX9_66 : FL RX9 66 7 0 := ⟨RX9, TX9, 25, rfl, by decide, ingX9, Or.inl (gtb_of (tb3 (List.mem_of_getElem? (i := 125) (by decide +kernel))) (by decide +kernel))⟩
theorem pX9_66 : FP RX9 66 7 0 .int := ⟨RX9, TX9, 25, tyX9, rfl, by decide, ingX9, tyX9_ok, nmX9, rfl, by decide +kernel, Or.inl (gtb_of (tb3 (List.mem_of_getElem? (i := 125) (by decide +kernel))) (by decide +kernel))⟩
theorem fX9_72 : FL RX9 72 7 5 := ⟨RX9, TX9, 25, rfl, by decide, ingX9, Or.inl (gtb_of (tb3 (List.mem_of_getElem? (i := 130) (by decide +kernel))) (by decide +kernel))⟩
theorem pX9_72 : FP RX9 72 7 5 .int := ⟨RX9, TX9, 25, tyX9, rfl, by decide, ingX9, tyX9_ok, nmX9, rfl, by decide +kernel, Or.inl (gtb_of (tb3 (List.mem_of_getElem? (i := 130) (by decide +kernel))) (by decide +kernel))⟩
theorem fX9_75 : FL RX9 75 7 6 := ⟨RX9, TX9, 25, rfl, by decide, ingX9, Or.inl (gtb_of (tb3 (List.mem_of_getElem? (i := 131) (by decide +kernel))) (by decide +kernel))⟩
theorem pX9_75 : FP RX9 75 7 6 .int := ⟨RX9, TX9, 25, tyX9, rfl, by decide, ingX9, tyX9_ok, nmX9, rfl, by decide +kernel, Or.inl (gtb_of (tb3 (List.mem_of_getElem? (i := 131) (by decide +kernel))) (by decide +kernel))⟩
theorem fX9_143 : FL RX9 143 7 11 := ⟨RX9, TX9, 25, rfl, by decide, ingX9, Or.inl (gtb_of (tb3 (List.mem_of_getElem? (i := 136) (by decide +kernel))) (by decide +kernel))⟩
theorem pX9_143 : FP RX9 143 7 11 .int := ⟨RX9, TX9, 25, tyX9, rfl, by decide, ingX9, tyX9_ok, nmX9, rfl, by decide +kernel, Or.inl (gtb_of (tb3 (List.mem_of_getElem? (i := 136) (by decide +kernel))) (by decide +kernel))⟩
theorem fX9_162 : FL RX9 162 7 14 := ⟨RX9, TX9, 25, rfl, by decide, ingX9, Or.inl (gtb_of (tb3 (List.mem_of_getElem? (i := 139) (by decide +kernel))) (by decide +kernel))⟩
theorem pX9_162 : FP RX9 162 7 14 .int := ⟨RX9, TX9, 25, tyX9, rfl, by decide, ingX9, tyX9_ok, nmX9, rfl, by decide +kernel, Or.inl (gtb_of (tb3 (List.mem_of_getElem? (i := 139) (by decide +kernel))) (by decide +kernel))⟩
theorem fX9_182 : FL RX9 182 7 18 := ⟨RX9, TX9, 25, rfl, by decide, ingX9, Or.inl (gtb_of (tb3 (List.mem_of_getElem? (i := 143) (by decide +kernel))) (by decide +kernel))⟩
theorem pX9_182 : FP RX9 182 7 18 .int := ⟨RX9, TX9, 25, tyX9, rfl, by decide, ingX9, tyX9_ok, nmX9, rfl, by decide +kernel, Or.inl (gtb_of (tb3 (List.mem_of_getElem? (i := 143) (by decide +kernel))) (by decide +kernel))⟩
theorem fX9_196 : FL RX9 196 7 22 := ⟨RX9, TX9, 25, rfl, by decide, ingX9, Or.inl (gtb_of (tb3 (List.mem_of_getElem? (i := 147) (by decide +kernel))) (by decide +kernel))⟩
theorem pX9_196 : FP RX9 196 7 22 .int := ⟨RX9, TX9, 25, tyX9, rfl, by decide, ingX9, tyX9_ok, nmX9, rfl, by decide +kernel, Or.inl (gtb_of (tb3 (List.mem_of_getElem? (i := 147) (by decide +kernel))) (by decide +kernel))⟩
theorem aX5_9 : ACL RX5 9 := ⟨(gtb_of (tb1 (List.mem_of_getElem? (i := 212) (by decide +kernel))) (by decide +kernel)), (gtb_of (tb1 (List.mem_of_getElem? (i := 214) (by decide +kernel))) (by decide +kernel)), (gtb_of (tb1 (List.mem_of_getElem? (i := 213) (by decide +kernel))) (by decide +kernel)), (gtb_of (tb1 (List.mem_of_getElem? (i := 10) (by decide +kernel))) (by decide +kernel))⟩
theorem stJ6_bitCount_0f7a4 : Cond.static yJ6_bitCount_0f7a4 ∈ gtb ∧ Cond.initialized yJ6_bitCount_0f7a4.cls ∈ gtb := ⟨(gtb_of (tb2 (List.mem_of_getElem? (i := 166) (by decide +kernel))) (by decide +kernel)), (gtb_of (tb1 (List.mem_of_getElem? (i := 13) (by decide +kernel))) (by decide +kernel))⟩
theorem stJ9_abs_067f4 : Cond.static yJ9_abs_067f4 ∈ gtb ∧ Cond.initialized yJ9_abs_067f4.cls ∈ gtb := ⟨(gtb_of (tb1 (List.mem_of_getElem? (i := 231) (by decide +kernel))) (by decide +kernel)), (gtb_of (tb1 (List.mem_of_getElem? (i := 11) (by decide +kernel))) (by decide +kernel))⟩
theorem stJ9_floorDiv_7cf53 : Cond.static yJ9_floorDiv_7cf53 ∈ gtb ∧ Cond.initialized yJ9_floorDiv_7cf53.cls ∈ gtb := ⟨(gtb_of (tb2 (List.mem_of_getElem? (i := 30) (by decide +kernel))) (by decide +kernel)), (gtb_of (tb1 (List.mem_of_getElem? (i := 11) (by decide +kernel))) (by decide +kernel))⟩
theorem stJ9_max_7cf53 : Cond.static yJ9_max_7cf53 ∈ gtb ∧ Cond.initialized yJ9_max_7cf53.cls ∈ gtb := ⟨(gtb_of (tb2 (List.mem_of_getElem? (i := 33) (by decide +kernel))) (by decide +kernel)), (gtb_of (tb1 (List.mem_of_getElem? (i := 11) (by decide +kernel))) (by decide +kernel))⟩
theorem stJ9_min_7cf53 : Cond.static yJ9_min_7cf53 ∈ gtb ∧ Cond.initialized yJ9_min_7cf53.cls ∈ gtb := ⟨(gtb_of (tb2 (List.mem_of_getElem? (i := 36) (by decide +kernel))) (by decide +kernel)), (gtb_of (tb1 (List.mem_of_getElem? (i := 11) (by decide +kernel))) (by decide +kernel))⟩
theorem stX1_isDivision : Cond.static yX1_isDivision ∈ gtb ∧ Cond.initialized yX1_isDivision.cls ∈ gtb := ⟨(gtb_of (tb2 (List.mem_of_getElem? (i := 97) (by decide +kernel))) (by decide +kernel)), (gtb_of (tb1 (List.mem_of_getElem? (i := 12) (by decide +kernel))) (by decide +kernel))⟩
theorem stX1_nearest : Cond.static yX1_nearest ∈ gtb ∧ Cond.initialized yX1_nearest.cls ∈ gtb := ⟨(gtb_of (tb2 (List.mem_of_getElem? (i := 100) (by decide +kernel))) (by decide +kernel)), (gtb_of (tb1 (List.mem_of_getElem? (i := 12) (by decide +kernel))) (by decide +kernel))⟩
theorem stX1_stepsOf : Cond.static yX1_stepsOf ∈ gtb ∧ Cond.initialized yX1_stepsOf.cls ∈ gtb := ⟨(gtb_of (tb2 (List.mem_of_getElem? (i := 112) (by decide +kernel))) (by decide +kernel)), (gtb_of (tb1 (List.mem_of_getElem? (i := 12) (by decide +kernel))) (by decide +kernel))⟩
theorem stX5_combine : Cond.static yX5_combine ∈ gtb ∧ Cond.initialized yX5_combine.cls ∈ gtb := ⟨(gtb_of (tb2 (List.mem_of_getElem? (i := 0) (by decide +kernel))) (by decide +kernel)), (gtb_of (tb1 (List.mem_of_getElem? (i := 9) (by decide +kernel))) (by decide +kernel))⟩
theorem stX5_commonDivisor : Cond.static yX5_commonDivisor ∈ gtb ∧ Cond.initialized yX5_commonDivisor.cls ∈ gtb := ⟨(gtb_of (tb1 (List.mem_of_getElem? (i := 228) (by decide +kernel))) (by decide +kernel)), (gtb_of (tb1 (List.mem_of_getElem? (i := 9) (by decide +kernel))) (by decide +kernel))⟩
theorem stX5_copy : Cond.static yX5_copy ∈ gtb ∧ Cond.initialized yX5_copy.cls ∈ gtb := ⟨(gtb_of (tb1 (List.mem_of_getElem? (i := 210) (by decide +kernel))) (by decide +kernel)), (gtb_of (tb1 (List.mem_of_getElem? (i := 9) (by decide +kernel))) (by decide +kernel))⟩
theorem stX5_factor : Cond.static yX5_factor ∈ gtb ∧ Cond.initialized yX5_factor.cls ∈ gtb := ⟨(gtb_of (tb1 (List.mem_of_getElem? (i := 225) (by decide +kernel))) (by decide +kernel)), (gtb_of (tb1 (List.mem_of_getElem? (i := 9) (by decide +kernel))) (by decide +kernel))⟩
theorem stX5_isOne : Cond.static yX5_isOne ∈ gtb ∧ Cond.initialized yX5_isOne.cls ∈ gtb := ⟨(gtb_of (tb2 (List.mem_of_getElem? (i := 120) (by decide +kernel))) (by decide +kernel)), (gtb_of (tb1 (List.mem_of_getElem? (i := 9) (by decide +kernel))) (by decide +kernel))⟩
theorem stX5_isSame : Cond.static yX5_isSame ∈ gtb ∧ Cond.initialized yX5_isSame.cls ∈ gtb := ⟨(gtb_of (tb2 (List.mem_of_getElem? (i := 227) (by decide +kernel))) (by decide +kernel)), (gtb_of (tb1 (List.mem_of_getElem? (i := 9) (by decide +kernel))) (by decide +kernel))⟩
theorem stX5_isWithin : Cond.static yX5_isWithin ∈ gtb ∧ Cond.initialized yX5_isWithin.cls ∈ gtb := ⟨(gtb_of (tb1 (List.mem_of_getElem? (i := 207) (by decide +kernel))) (by decide +kernel)), (gtb_of (tb1 (List.mem_of_getElem? (i := 9) (by decide +kernel))) (by decide +kernel))⟩
theorem stX5_makeOne : Cond.static yX5_makeOne ∈ gtb ∧ Cond.initialized yX5_makeOne.cls ∈ gtb := ⟨(gtb_of (tb2 (List.mem_of_getElem? (i := 212) (by decide +kernel))) (by decide +kernel)), (gtb_of (tb1 (List.mem_of_getElem? (i := 9) (by decide +kernel))) (by decide +kernel))⟩
theorem stX8_isPrimeNumber : Cond.static yX8_isPrimeNumber ∈ gtb ∧ Cond.initialized yX8_isPrimeNumber.cls ∈ gtb := ⟨(gtb_of (tb2 (List.mem_of_getElem? (i := 61) (by decide +kernel))) (by decide +kernel)), (gtb_of (tb1 (List.mem_of_getElem? (i := 1) (by decide +kernel))) (by decide +kernel))⟩
theorem stX8_isShelf : Cond.static yX8_isShelf ∈ gtb ∧ Cond.initialized yX8_isShelf.cls ∈ gtb := ⟨(gtb_of (tb1 (List.mem_of_getElem? (i := 196) (by decide +kernel))) (by decide +kernel)), (gtb_of (tb1 (List.mem_of_getElem? (i := 1) (by decide +kernel))) (by decide +kernel))⟩
theorem stX9_bits : Cond.static yX9_bits ∈ gtb ∧ Cond.initialized yX9_bits.cls ∈ gtb := ⟨(gtb_of (tb4 (List.mem_of_getElem? (i := 128) (by decide +kernel))) (by decide +kernel)), (gtb_of (tb1 (List.mem_of_getElem? (i := 8) (by decide +kernel))) (by decide +kernel))⟩
theorem stX9_down : Cond.static yX9_down ∈ gtb ∧ Cond.initialized yX9_down.cls ∈ gtb := ⟨(gtb_of (tb4 (List.mem_of_getElem? (i := 33) (by decide +kernel))) (by decide +kernel)), (gtb_of (tb1 (List.mem_of_getElem? (i := 8) (by decide +kernel))) (by decide +kernel))⟩
theorem stX9_isDivision : Cond.static yX9_isDivision ∈ gtb ∧ Cond.initialized yX9_isDivision.cls ∈ gtb := ⟨(gtb_of (tb4 (List.mem_of_getElem? (i := 85) (by decide +kernel))) (by decide +kernel)), (gtb_of (tb1 (List.mem_of_getElem? (i := 8) (by decide +kernel))) (by decide +kernel))⟩
theorem stX9_isShelf : Cond.static yX9_isShelf ∈ gtb ∧ Cond.initialized yX9_isShelf.cls ∈ gtb := ⟨(gtb_of (tb3 (List.mem_of_getElem? (i := 210) (by decide +kernel))) (by decide +kernel)), (gtb_of (tb1 (List.mem_of_getElem? (i := 8) (by decide +kernel))) (by decide +kernel))⟩
theorem stX9_multiply : Cond.static yX9_multiply ∈ gtb ∧ Cond.initialized yX9_multiply.cls ∈ gtb := ⟨(gtb_of (tb4 (List.mem_of_getElem? (i := 21) (by decide +kernel))) (by decide +kernel)), (gtb_of (tb1 (List.mem_of_getElem? (i := 8) (by decide +kernel))) (by decide +kernel))⟩
theorem stX9_prime : Cond.static yX9_prime ∈ gtb ∧ Cond.initialized yX9_prime.cls ∈ gtb := ⟨(gtb_of (tb3 (List.mem_of_getElem? (i := 234) (by decide +kernel))) (by decide +kernel)), (gtb_of (tb1 (List.mem_of_getElem? (i := 8) (by decide +kernel))) (by decide +kernel))⟩
theorem viX0_add : Cond.instanceMethod yX0_add ∈ gtb ∧ Cond.selects yX0_add.cls yX0_add yX0_add ∈ gtb ∧ Cond.initialized yX0_add.cls ∈ gtb := ⟨(gtb_of (tb2 (List.mem_of_getElem? (i := 124) (by decide +kernel))) (by decide +kernel)), (gtb_of (tb2 (List.mem_of_getElem? (i := 125) (by decide +kernel))) (by decide +kernel)), (gtb_of (tb1 (List.mem_of_getElem? (i := 4) (by decide +kernel))) (by decide +kernel))⟩
theorem viX0_determinant : Cond.instanceMethod yX0_determinant ∈ gtb ∧ Cond.selects yX0_determinant.cls yX0_determinant yX0_determinant ∈ gtb ∧ Cond.initialized yX0_determinant.cls ∈ gtb := ⟨(gtb_of (tb2 (List.mem_of_getElem? (i := 173) (by decide +kernel))) (by decide +kernel)), (gtb_of (tb0 (List.mem_of_getElem? (i := 12) (by decide +kernel))) (by decide +kernel)), (gtb_of (tb1 (List.mem_of_getElem? (i := 4) (by decide +kernel))) (by decide +kernel))⟩
theorem viX0_eliminate : Cond.instanceMethod yX0_eliminate ∈ gtb ∧ Cond.selects yX0_eliminate.cls yX0_eliminate yX0_eliminate ∈ gtb ∧ Cond.initialized yX0_eliminate.cls ∈ gtb := ⟨(gtb_of (tb2 (List.mem_of_getElem? (i := 146) (by decide +kernel))) (by decide +kernel)), (gtb_of (tb0 (List.mem_of_getElem? (i := 9) (by decide +kernel))) (by decide +kernel)), (gtb_of (tb1 (List.mem_of_getElem? (i := 4) (by decide +kernel))) (by decide +kernel))⟩
theorem viX0_fillTable : Cond.instanceMethod yX0_fillTable ∈ gtb ∧ Cond.selects yX0_fillTable.cls yX0_fillTable yX0_fillTable ∈ gtb ∧ Cond.initialized yX0_fillTable.cls ∈ gtb := ⟨(gtb_of (tb2 (List.mem_of_getElem? (i := 142) (by decide +kernel))) (by decide +kernel)), (gtb_of (tb0 (List.mem_of_getElem? (i := 8) (by decide +kernel))) (by decide +kernel)), (gtb_of (tb1 (List.mem_of_getElem? (i := 4) (by decide +kernel))) (by decide +kernel))⟩
theorem viX0_findRank : Cond.instanceMethod yX0_findRank ∈ gtb ∧ Cond.selects yX0_findRank.cls yX0_findRank yX0_findRank ∈ gtb ∧ Cond.initialized yX0_findRank.cls ∈ gtb := ⟨(gtb_of (tb2 (List.mem_of_getElem? (i := 137) (by decide +kernel))) (by decide +kernel)), (gtb_of (tb2 (List.mem_of_getElem? (i := 138) (by decide +kernel))) (by decide +kernel)), (gtb_of (tb1 (List.mem_of_getElem? (i := 4) (by decide +kernel))) (by decide +kernel))⟩
theorem viX0_findTwist : Cond.instanceMethod yX0_findTwist ∈ gtb ∧ Cond.selects yX0_findTwist.cls yX0_findTwist yX0_findTwist ∈ gtb ∧ Cond.initialized yX0_findTwist.cls ∈ gtb := ⟨(gtb_of (tb2 (List.mem_of_getElem? (i := 161) (by decide +kernel))) (by decide +kernel)), (gtb_of (tb2 (List.mem_of_getElem? (i := 162) (by decide +kernel))) (by decide +kernel)), (gtb_of (tb1 (List.mem_of_getElem? (i := 4) (by decide +kernel))) (by decide +kernel))⟩
theorem viX0_firstSupport : Cond.instanceMethod yX0_firstSupport ∈ gtb ∧ Cond.selects yX0_firstSupport.cls yX0_firstSupport yX0_firstSupport ∈ gtb ∧ Cond.initialized yX0_firstSupport.cls ∈ gtb := ⟨(gtb_of (tb2 (List.mem_of_getElem? (i := 190) (by decide +kernel))) (by decide +kernel)), (gtb_of (tb2 (List.mem_of_getElem? (i := 191) (by decide +kernel))) (by decide +kernel)), (gtb_of (tb1 (List.mem_of_getElem? (i := 4) (by decide +kernel))) (by decide +kernel))⟩
theorem viX0_isSupportedBy : Cond.instanceMethod yX0_isSupportedBy ∈ gtb ∧ Cond.selects yX0_isSupportedBy.cls yX0_isSupportedBy yX0_isSupportedBy ∈ gtb ∧ Cond.initialized yX0_isSupportedBy.cls ∈ gtb := ⟨(gtb_of (tb2 (List.mem_of_getElem? (i := 195) (by decide +kernel))) (by decide +kernel)), (gtb_of (tb0 (List.mem_of_getElem? (i := 13) (by decide +kernel))) (by decide +kernel)), (gtb_of (tb1 (List.mem_of_getElem? (i := 4) (by decide +kernel))) (by decide +kernel))⟩
theorem viX0_raisePivot : Cond.instanceMethod yX0_raisePivot ∈ gtb ∧ Cond.selects yX0_raisePivot.cls yX0_raisePivot yX0_raisePivot ∈ gtb ∧ Cond.initialized yX0_raisePivot.cls ∈ gtb := ⟨(gtb_of (tb2 (List.mem_of_getElem? (i := 150) (by decide +kernel))) (by decide +kernel)), (gtb_of (tb0 (List.mem_of_getElem? (i := 10) (by decide +kernel))) (by decide +kernel)), (gtb_of (tb1 (List.mem_of_getElem? (i := 4) (by decide +kernel))) (by decide +kernel))⟩
theorem viX0_reduceLine : Cond.instanceMethod yX0_reduceLine ∈ gtb ∧ Cond.selects yX0_reduceLine.cls yX0_reduceLine yX0_reduceLine ∈ gtb ∧ Cond.initialized yX0_reduceLine.cls ∈ gtb := ⟨(gtb_of (tb2 (List.mem_of_getElem? (i := 154) (by decide +kernel))) (by decide +kernel)), (gtb_of (tb0 (List.mem_of_getElem? (i := 11) (by decide +kernel))) (by decide +kernel)), (gtb_of (tb1 (List.mem_of_getElem? (i := 4) (by decide +kernel))) (by decide +kernel))⟩
theorem viX0_spans : Cond.instanceMethod yX0_spans ∈ gtb ∧ Cond.selects yX0_spans.cls yX0_spans yX0_spans ∈ gtb ∧ Cond.initialized yX0_spans.cls ∈ gtb := ⟨(gtb_of (tb2 (List.mem_of_getElem? (i := 182) (by decide +kernel))) (by decide +kernel)), (gtb_of (tb2 (List.mem_of_getElem? (i := 183) (by decide +kernel))) (by decide +kernel)), (gtb_of (tb1 (List.mem_of_getElem? (i := 4) (by decide +kernel))) (by decide +kernel))⟩
theorem viX2_firstBelowOne : Cond.instanceMethod yX2_firstBelowOne ∈ gtb ∧ Cond.selects yX2_firstBelowOne.cls yX2_firstBelowOne yX2_firstBelowOne ∈ gtb ∧ Cond.initialized yX2_firstBelowOne.cls ∈ gtb := ⟨(gtb_of (tb3 (List.mem_of_getElem? (i := 109) (by decide +kernel))) (by decide +kernel)), (gtb_of (tb0 (List.mem_of_getElem? (i := 19) (by decide +kernel))) (by decide +kernel)), (gtb_of (tb1 (List.mem_of_getElem? (i := 7) (by decide +kernel))) (by decide +kernel))⟩
theorem viX2_stays : Cond.instanceMethod yX2_stays ∈ gtb ∧ Cond.selects yX2_stays.cls yX2_stays yX2_stays ∈ gtb ∧ Cond.initialized yX2_stays.cls ∈ gtb := ⟨(gtb_of (tb3 (List.mem_of_getElem? (i := 113) (by decide +kernel))) (by decide +kernel)), (gtb_of (tb0 (List.mem_of_getElem? (i := 20) (by decide +kernel))) (by decide +kernel)), (gtb_of (tb1 (List.mem_of_getElem? (i := 7) (by decide +kernel))) (by decide +kernel))⟩
theorem viX2_tell : Cond.instanceMethod yX2_tell ∈ gtb ∧ Cond.selects yX2_tell.cls yX2_tell yX2_tell ∈ gtb ∧ Cond.initialized yX2_tell.cls ∈ gtb := ⟨(gtb_of (tb3 (List.mem_of_getElem? (i := 103) (by decide +kernel))) (by decide +kernel)), (gtb_of (tb3 (List.mem_of_getElem? (i := 104) (by decide +kernel))) (by decide +kernel)), (gtb_of (tb1 (List.mem_of_getElem? (i := 7) (by decide +kernel))) (by decide +kernel))⟩
theorem viX3_against : Cond.instanceMethod yX3_against ∈ gtb ∧ Cond.selects yX3_against.cls yX3_against yX3_against ∈ gtb ∧ Cond.initialized yX3_against.cls ∈ gtb := ⟨(gtb_of (tb2 (List.mem_of_getElem? (i := 22) (by decide +kernel))) (by decide +kernel)), (gtb_of (tb2 (List.mem_of_getElem? (i := 23) (by decide +kernel))) (by decide +kernel)), (gtb_of (tb1 (List.mem_of_getElem? (i := 3) (by decide +kernel))) (by decide +kernel))⟩
theorem viX3_build : Cond.instanceMethod yX3_build ∈ gtb ∧ Cond.selects yX3_build.cls yX3_build yX3_build ∈ gtb ∧ Cond.initialized yX3_build.cls ∈ gtb := ⟨(gtb_of (tb2 (List.mem_of_getElem? (i := 11) (by decide +kernel))) (by decide +kernel)), (gtb_of (tb2 (List.mem_of_getElem? (i := 12) (by decide +kernel))) (by decide +kernel)), (gtb_of (tb1 (List.mem_of_getElem? (i := 3) (by decide +kernel))) (by decide +kernel))⟩
theorem viX3_settle : Cond.instanceMethod yX3_settle ∈ gtb ∧ Cond.selects yX3_settle.cls yX3_settle yX3_settle ∈ gtb ∧ Cond.initialized yX3_settle.cls ∈ gtb := ⟨(gtb_of (tb2 (List.mem_of_getElem? (i := 17) (by decide +kernel))) (by decide +kernel)), (gtb_of (tb0 (List.mem_of_getElem? (i := 3) (by decide +kernel))) (by decide +kernel)), (gtb_of (tb1 (List.mem_of_getElem? (i := 3) (by decide +kernel))) (by decide +kernel))⟩
theorem viX3_write : Cond.instanceMethod yX3_write ∈ gtb ∧ Cond.selects yX3_write.cls yX3_write yX3_write ∈ gtb ∧ Cond.initialized yX3_write.cls ∈ gtb := ⟨(gtb_of (tb2 (List.mem_of_getElem? (i := 84) (by decide +kernel))) (by decide +kernel)), (gtb_of (tb2 (List.mem_of_getElem? (i := 85) (by decide +kernel))) (by decide +kernel)), (gtb_of (tb1 (List.mem_of_getElem? (i := 3) (by decide +kernel))) (by decide +kernel))⟩
theorem viX4_has : Cond.instanceMethod yX4_has ∈ gtb ∧ Cond.selects yX4_has.cls yX4_has yX4_has ∈ gtb ∧ Cond.initialized yX4_has.cls ∈ gtb := ⟨(gtb_of (tb2 (List.mem_of_getElem? (i := 223) (by decide +kernel))) (by decide +kernel)), (gtb_of (tb2 (List.mem_of_getElem? (i := 224) (by decide +kernel))) (by decide +kernel)), (gtb_of (tb1 (List.mem_of_getElem? (i := 6) (by decide +kernel))) (by decide +kernel))⟩
theorem viX4_insert : Cond.instanceMethod yX4_insert ∈ gtb ∧ Cond.selects yX4_insert.cls yX4_insert yX4_insert ∈ gtb ∧ Cond.initialized yX4_insert.cls ∈ gtb := ⟨(gtb_of (tb2 (List.mem_of_getElem? (i := 239) (by decide +kernel))) (by decide +kernel)), (gtb_of (tb3 (List.mem_of_getElem? (i := 0) (by decide +kernel))) (by decide +kernel)), (gtb_of (tb1 (List.mem_of_getElem? (i := 6) (by decide +kernel))) (by decide +kernel))⟩
theorem viX4_isFull : Cond.instanceMethod yX4_isFull ∈ gtb ∧ Cond.selects yX4_isFull.cls yX4_isFull yX4_isFull ∈ gtb ∧ Cond.initialized yX4_isFull.cls ∈ gtb := ⟨(gtb_of (tb2 (List.mem_of_getElem? (i := 230) (by decide +kernel))) (by decide +kernel)), (gtb_of (tb2 (List.mem_of_getElem? (i := 231) (by decide +kernel))) (by decide +kernel)), (gtb_of (tb1 (List.mem_of_getElem? (i := 6) (by decide +kernel))) (by decide +kernel))⟩
theorem viX4_placeOf : Cond.instanceMethod yX4_placeOf ∈ gtb ∧ Cond.selects yX4_placeOf.cls yX4_placeOf yX4_placeOf ∈ gtb ∧ Cond.initialized yX4_placeOf.cls ∈ gtb := ⟨(gtb_of (tb2 (List.mem_of_getElem? (i := 234) (by decide +kernel))) (by decide +kernel)), (gtb_of (tb2 (List.mem_of_getElem? (i := 235) (by decide +kernel))) (by decide +kernel)), (gtb_of (tb1 (List.mem_of_getElem? (i := 6) (by decide +kernel))) (by decide +kernel))⟩
theorem viX4_restart : Cond.instanceMethod yX4_restart ∈ gtb ∧ Cond.selects yX4_restart.cls yX4_restart yX4_restart ∈ gtb ∧ Cond.initialized yX4_restart.cls ∈ gtb := ⟨(gtb_of (tb2 (List.mem_of_getElem? (i := 208) (by decide +kernel))) (by decide +kernel)), (gtb_of (tb2 (List.mem_of_getElem? (i := 209) (by decide +kernel))) (by decide +kernel)), (gtb_of (tb1 (List.mem_of_getElem? (i := 6) (by decide +kernel))) (by decide +kernel))⟩
theorem viX6_agreesWith : Cond.instanceMethod yX6_agreesWith ∈ gtb ∧ Cond.selects yX6_agreesWith.cls yX6_agreesWith yX6_agreesWith ∈ gtb ∧ Cond.initialized yX6_agreesWith.cls ∈ gtb := ⟨(gtb_of (tb3 (List.mem_of_getElem? (i := 94) (by decide +kernel))) (by decide +kernel)), (gtb_of (tb3 (List.mem_of_getElem? (i := 95) (by decide +kernel))) (by decide +kernel)), (gtb_of (tb1 (List.mem_of_getElem? (i := 5) (by decide +kernel))) (by decide +kernel))⟩
theorem viX6_allReach : Cond.instanceMethod yX6_allReach ∈ gtb ∧ Cond.selects yX6_allReach.cls yX6_allReach yX6_allReach ∈ gtb ∧ Cond.initialized yX6_allReach.cls ∈ gtb := ⟨(gtb_of (tb3 (List.mem_of_getElem? (i := 56) (by decide +kernel))) (by decide +kernel)), (gtb_of (tb0 (List.mem_of_getElem? (i := 16) (by decide +kernel))) (by decide +kernel)), (gtb_of (tb1 (List.mem_of_getElem? (i := 5) (by decide +kernel))) (by decide +kernel))⟩
theorem viX6_exists : Cond.instanceMethod yX6_exists ∈ gtb ∧ Cond.selects yX6_exists.cls yX6_exists yX6_exists ∈ gtb ∧ Cond.initialized yX6_exists.cls ∈ gtb := ⟨(gtb_of (tb2 (List.mem_of_getElem? (i := 219) (by decide +kernel))) (by decide +kernel)), (gtb_of (tb2 (List.mem_of_getElem? (i := 220) (by decide +kernel))) (by decide +kernel)), (gtb_of (tb1 (List.mem_of_getElem? (i := 5) (by decide +kernel))) (by decide +kernel))⟩
theorem viX6_findHighest : Cond.instanceMethod yX6_findHighest ∈ gtb ∧ Cond.selects yX6_findHighest.cls yX6_findHighest yX6_findHighest ∈ gtb ∧ Cond.initialized yX6_findHighest.cls ∈ gtb := ⟨(gtb_of (tb3 (List.mem_of_getElem? (i := 61) (by decide +kernel))) (by decide +kernel)), (gtb_of (tb0 (List.mem_of_getElem? (i := 17) (by decide +kernel))) (by decide +kernel)), (gtb_of (tb1 (List.mem_of_getElem? (i := 5) (by decide +kernel))) (by decide +kernel))⟩
theorem viX6_gatherKinds : Cond.instanceMethod yX6_gatherKinds ∈ gtb ∧ Cond.selects yX6_gatherKinds.cls yX6_gatherKinds yX6_gatherKinds ∈ gtb ∧ Cond.initialized yX6_gatherKinds.cls ∈ gtb := ⟨(gtb_of (tb3 (List.mem_of_getElem? (i := 37) (by decide +kernel))) (by decide +kernel)), (gtb_of (tb3 (List.mem_of_getElem? (i := 38) (by decide +kernel))) (by decide +kernel)), (gtb_of (tb1 (List.mem_of_getElem? (i := 5) (by decide +kernel))) (by decide +kernel))⟩
theorem viX6_isMoment : Cond.instanceMethod yX6_isMoment ∈ gtb ∧ Cond.selects yX6_isMoment.cls yX6_isMoment yX6_isMoment ∈ gtb ∧ Cond.initialized yX6_isMoment.cls ∈ gtb := ⟨(gtb_of (tb3 (List.mem_of_getElem? (i := 33) (by decide +kernel))) (by decide +kernel)), (gtb_of (tb3 (List.mem_of_getElem? (i := 34) (by decide +kernel))) (by decide +kernel)), (gtb_of (tb1 (List.mem_of_getElem? (i := 5) (by decide +kernel))) (by decide +kernel))⟩
theorem viX6_isMyth : Cond.instanceMethod yX6_isMyth ∈ gtb ∧ Cond.selects yX6_isMyth.cls yX6_isMyth yX6_isMyth ∈ gtb ∧ Cond.initialized yX6_isMyth.cls ∈ gtb := ⟨(gtb_of (tb3 (List.mem_of_getElem? (i := 47) (by decide +kernel))) (by decide +kernel)), (gtb_of (tb3 (List.mem_of_getElem? (i := 48) (by decide +kernel))) (by decide +kernel)), (gtb_of (tb1 (List.mem_of_getElem? (i := 5) (by decide +kernel))) (by decide +kernel))⟩
theorem viX6_isOrderly : Cond.instanceMethod yX6_isOrderly ∈ gtb ∧ Cond.selects yX6_isOrderly.cls yX6_isOrderly yX6_isOrderly ∈ gtb ∧ Cond.initialized yX6_isOrderly.cls ∈ gtb := ⟨(gtb_of (tb3 (List.mem_of_getElem? (i := 51) (by decide +kernel))) (by decide +kernel)), (gtb_of (tb3 (List.mem_of_getElem? (i := 52) (by decide +kernel))) (by decide +kernel)), (gtb_of (tb1 (List.mem_of_getElem? (i := 5) (by decide +kernel))) (by decide +kernel))⟩
theorem viX6_readKind : Cond.instanceMethod yX6_readKind ∈ gtb ∧ Cond.selects yX6_readKind.cls yX6_readKind yX6_readKind ∈ gtb ∧ Cond.initialized yX6_readKind.cls ∈ gtb := ⟨(gtb_of (tb3 (List.mem_of_getElem? (i := 73) (by decide +kernel))) (by decide +kernel)), (gtb_of (tb3 (List.mem_of_getElem? (i := 74) (by decide +kernel))) (by decide +kernel)), (gtb_of (tb1 (List.mem_of_getElem? (i := 5) (by decide +kernel))) (by decide +kernel))⟩
theorem viX6_readNote : Cond.instanceMethod yX6_readNote ∈ gtb ∧ Cond.selects yX6_readNote.cls yX6_readNote yX6_readNote ∈ gtb ∧ Cond.initialized yX6_readNote.cls ∈ gtb := ⟨(gtb_of (tb3 (List.mem_of_getElem? (i := 25) (by decide +kernel))) (by decide +kernel)), (gtb_of (tb3 (List.mem_of_getElem? (i := 26) (by decide +kernel))) (by decide +kernel)), (gtb_of (tb1 (List.mem_of_getElem? (i := 5) (by decide +kernel))) (by decide +kernel))⟩
theorem viX6_readStep : Cond.instanceMethod yX6_readStep ∈ gtb ∧ Cond.selects yX6_readStep.cls yX6_readStep yX6_readStep ∈ gtb ∧ Cond.initialized yX6_readStep.cls ∈ gtb := ⟨(gtb_of (tb3 (List.mem_of_getElem? (i := 42) (by decide +kernel))) (by decide +kernel)), (gtb_of (tb0 (List.mem_of_getElem? (i := 15) (by decide +kernel))) (by decide +kernel)), (gtb_of (tb1 (List.mem_of_getElem? (i := 5) (by decide +kernel))) (by decide +kernel))⟩
theorem viX6_stack : Cond.instanceMethod yX6_stack ∈ gtb ∧ Cond.selects yX6_stack.cls yX6_stack yX6_stack ∈ gtb ∧ Cond.initialized yX6_stack.cls ∈ gtb := ⟨(gtb_of (tb3 (List.mem_of_getElem? (i := 8) (by decide +kernel))) (by decide +kernel)), (gtb_of (tb3 (List.mem_of_getElem? (i := 9) (by decide +kernel))) (by decide +kernel)), (gtb_of (tb1 (List.mem_of_getElem? (i := 5) (by decide +kernel))) (by decide +kernel))⟩
theorem viX6_start : Cond.instanceMethod yX6_start ∈ gtb ∧ Cond.selects yX6_start.cls yX6_start yX6_start ∈ gtb ∧ Cond.initialized yX6_start.cls ∈ gtb := ⟨(gtb_of (tb2 (List.mem_of_getElem? (i := 203) (by decide +kernel))) (by decide +kernel)), (gtb_of (tb2 (List.mem_of_getElem? (i := 204) (by decide +kernel))) (by decide +kernel)), (gtb_of (tb1 (List.mem_of_getElem? (i := 5) (by decide +kernel))) (by decide +kernel))⟩
theorem viX6_swapKinds : Cond.instanceMethod yX6_swapKinds ∈ gtb ∧ Cond.selects yX6_swapKinds.cls yX6_swapKinds yX6_swapKinds ∈ gtb ∧ Cond.initialized yX6_swapKinds.cls ∈ gtb := ⟨(gtb_of (tb3 (List.mem_of_getElem? (i := 78) (by decide +kernel))) (by decide +kernel)), (gtb_of (tb0 (List.mem_of_getElem? (i := 18) (by decide +kernel))) (by decide +kernel)), (gtb_of (tb1 (List.mem_of_getElem? (i := 5) (by decide +kernel))) (by decide +kernel))⟩
theorem viX6_takeComing : Cond.instanceMethod yX6_takeComing ∈ gtb ∧ Cond.selects yX6_takeComing.cls yX6_takeComing yX6_takeComing ∈ gtb ∧ Cond.initialized yX6_takeComing.cls ∈ gtb := ⟨(gtb_of (tb3 (List.mem_of_getElem? (i := 18) (by decide +kernel))) (by decide +kernel)), (gtb_of (tb0 (List.mem_of_getElem? (i := 14) (by decide +kernel))) (by decide +kernel)), (gtb_of (tb1 (List.mem_of_getElem? (i := 5) (by decide +kernel))) (by decide +kernel))⟩
theorem viX6_turn : Cond.instanceMethod yX6_turn ∈ gtb ∧ Cond.selects yX6_turn.cls yX6_turn yX6_turn ∈ gtb ∧ Cond.initialized yX6_turn.cls ∈ gtb := ⟨(gtb_of (tb3 (List.mem_of_getElem? (i := 85) (by decide +kernel))) (by decide +kernel)), (gtb_of (tb3 (List.mem_of_getElem? (i := 86) (by decide +kernel))) (by decide +kernel)), (gtb_of (tb1 (List.mem_of_getElem? (i := 5) (by decide +kernel))) (by decide +kernel))⟩
theorem viX7_compareSizes : Cond.instanceMethod yX7_compareSizes ∈ gtb ∧ Cond.selects yX7_compareSizes.cls yX7_compareSizes yX7_compareSizes ∈ gtb ∧ Cond.initialized yX7_compareSizes.cls ∈ gtb := ⟨(gtb_of (tb2 (List.mem_of_getElem? (i := 72) (by decide +kernel))) (by decide +kernel)), (gtb_of (tb2 (List.mem_of_getElem? (i := 73) (by decide +kernel))) (by decide +kernel)), (gtb_of (tb1 (List.mem_of_getElem? (i := 2) (by decide +kernel))) (by decide +kernel))⟩
theorem viX7_foldBetween : Cond.instanceMethod yX7_foldBetween ∈ gtb ∧ Cond.selects yX7_foldBetween.cls yX7_foldBetween yX7_foldBetween ∈ gtb ∧ Cond.initialized yX7_foldBetween.cls ∈ gtb := ⟨(gtb_of (tb2 (List.mem_of_getElem? (i := 40) (by decide +kernel))) (by decide +kernel)), (gtb_of (tb0 (List.mem_of_getElem? (i := 4) (by decide +kernel))) (by decide +kernel)), (gtb_of (tb1 (List.mem_of_getElem? (i := 2) (by decide +kernel))) (by decide +kernel))⟩
theorem viX7_foldInto : Cond.instanceMethod yX7_foldInto ∈ gtb ∧ Cond.selects yX7_foldInto.cls yX7_foldInto yX7_foldInto ∈ gtb ∧ Cond.initialized yX7_foldInto.cls ∈ gtb := ⟨(gtb_of (tb2 (List.mem_of_getElem? (i := 26) (by decide +kernel))) (by decide +kernel)), (gtb_of (tb2 (List.mem_of_getElem? (i := 27) (by decide +kernel))) (by decide +kernel)), (gtb_of (tb1 (List.mem_of_getElem? (i := 2) (by decide +kernel))) (by decide +kernel))⟩
theorem viX7_sign : Cond.instanceMethod yX7_sign ∈ gtb ∧ Cond.selects yX7_sign.cls yX7_sign yX7_sign ∈ gtb ∧ Cond.initialized yX7_sign.cls ∈ gtb := ⟨(gtb_of (tb2 (List.mem_of_getElem? (i := 7) (by decide +kernel))) (by decide +kernel)), (gtb_of (tb2 (List.mem_of_getElem? (i := 8) (by decide +kernel))) (by decide +kernel)), (gtb_of (tb1 (List.mem_of_getElem? (i := 2) (by decide +kernel))) (by decide +kernel))⟩
theorem viX7_writeRatio : Cond.instanceMethod yX7_writeRatio ∈ gtb ∧ Cond.selects yX7_writeRatio.cls yX7_writeRatio yX7_writeRatio ∈ gtb ∧ Cond.initialized yX7_writeRatio.cls ∈ gtb := ⟨(gtb_of (tb2 (List.mem_of_getElem? (i := 80) (by decide +kernel))) (by decide +kernel)), (gtb_of (tb2 (List.mem_of_getElem? (i := 81) (by decide +kernel))) (by decide +kernel)), (gtb_of (tb1 (List.mem_of_getElem? (i := 2) (by decide +kernel))) (by decide +kernel))⟩
theorem viX8_accept : Cond.instanceMethod yX8_accept ∈ gtb ∧ Cond.selects yX8_accept.cls yX8_accept yX8_accept ∈ gtb ∧ Cond.initialized yX8_accept.cls ∈ gtb := ⟨(gtb_of (tb1 (List.mem_of_getElem? (i := 217) (by decide +kernel))) (by decide +kernel)), (gtb_of (tb0 (List.mem_of_getElem? (i := 2) (by decide +kernel))) (by decide +kernel)), (gtb_of (tb1 (List.mem_of_getElem? (i := 1) (by decide +kernel))) (by decide +kernel))⟩
theorem viX8_answer : Cond.instanceMethod yX8_answer ∈ gtb ∧ Cond.selects yX8_answer.cls yX8_answer yX8_answer ∈ gtb ∧ Cond.initialized yX8_answer.cls ∈ gtb := ⟨(gtb_of (tb2 (List.mem_of_getElem? (i := 65) (by decide +kernel))) (by decide +kernel)), (gtb_of (tb0 (List.mem_of_getElem? (i := 7) (by decide +kernel))) (by decide +kernel)), (gtb_of (tb1 (List.mem_of_getElem? (i := 1) (by decide +kernel))) (by decide +kernel))⟩
theorem viX8_begin : Cond.instanceMethod yX8_begin ∈ gtb ∧ Cond.selects yX8_begin.cls yX8_begin yX8_begin ∈ gtb ∧ Cond.initialized yX8_begin.cls ∈ gtb := ⟨(gtb_of (tb2 (List.mem_of_getElem? (i := 199) (by decide +kernel))) (by decide +kernel)), (gtb_of (tb2 (List.mem_of_getElem? (i := 200) (by decide +kernel))) (by decide +kernel)), (gtb_of (tb1 (List.mem_of_getElem? (i := 1) (by decide +kernel))) (by decide +kernel))⟩
theorem viX8_clear : Cond.instanceMethod yX8_clear ∈ gtb ∧ Cond.selects yX8_clear.cls yX8_clear yX8_clear ∈ gtb ∧ Cond.initialized yX8_clear.cls ∈ gtb := ⟨(gtb_of (tb2 (List.mem_of_getElem? (i := 129) (by decide +kernel))) (by decide +kernel)), (gtb_of (tb2 (List.mem_of_getElem? (i := 130) (by decide +kernel))) (by decide +kernel)), (gtb_of (tb1 (List.mem_of_getElem? (i := 1) (by decide +kernel))) (by decide +kernel))⟩
theorem viX8_comma : Cond.instanceMethod yX8_comma ∈ gtb ∧ Cond.selects yX8_comma.cls yX8_comma yX8_comma ∈ gtb ∧ Cond.initialized yX8_comma.cls ∈ gtb := ⟨(gtb_of (tb2 (List.mem_of_getElem? (i := 116) (by decide +kernel))) (by decide +kernel)), (gtb_of (tb2 (List.mem_of_getElem? (i := 117) (by decide +kernel))) (by decide +kernel)), (gtb_of (tb1 (List.mem_of_getElem? (i := 1) (by decide +kernel))) (by decide +kernel))⟩
theorem viX8_drop : Cond.instanceMethod yX8_drop ∈ gtb ∧ Cond.selects yX8_drop.cls yX8_drop yX8_drop ∈ gtb ∧ Cond.initialized yX8_drop.cls ∈ gtb := ⟨(gtb_of (tb2 (List.mem_of_getElem? (i := 45) (by decide +kernel))) (by decide +kernel)), (gtb_of (tb2 (List.mem_of_getElem? (i := 46) (by decide +kernel))) (by decide +kernel)), (gtb_of (tb1 (List.mem_of_getElem? (i := 1) (by decide +kernel))) (by decide +kernel))⟩
theorem viX8_exponent : Cond.instanceMethod yX8_exponent ∈ gtb ∧ Cond.selects yX8_exponent.cls yX8_exponent yX8_exponent ∈ gtb ∧ Cond.initialized yX8_exponent.cls ∈ gtb := ⟨(gtb_of (tb2 (List.mem_of_getElem? (i := 53) (by decide +kernel))) (by decide +kernel)), (gtb_of (tb2 (List.mem_of_getElem? (i := 54) (by decide +kernel))) (by decide +kernel)), (gtb_of (tb1 (List.mem_of_getElem? (i := 1) (by decide +kernel))) (by decide +kernel))⟩
theorem viX8_faultOf : Cond.instanceMethod yX8_faultOf ∈ gtb ∧ Cond.selects yX8_faultOf.cls yX8_faultOf yX8_faultOf ∈ gtb ∧ Cond.initialized yX8_faultOf.cls ∈ gtb := ⟨(gtb_of (tb2 (List.mem_of_getElem? (i := 50) (by decide +kernel))) (by decide +kernel)), (gtb_of (tb0 (List.mem_of_getElem? (i := 5) (by decide +kernel))) (by decide +kernel)), (gtb_of (tb1 (List.mem_of_getElem? (i := 1) (by decide +kernel))) (by decide +kernel))⟩
theorem viX8_fold : Cond.instanceMethod yX8_fold ∈ gtb ∧ Cond.selects yX8_fold.cls yX8_fold yX8_fold ∈ gtb ∧ Cond.initialized yX8_fold.cls ∈ gtb := ⟨(gtb_of (tb2 (List.mem_of_getElem? (i := 3) (by decide +kernel))) (by decide +kernel)), (gtb_of (tb2 (List.mem_of_getElem? (i := 4) (by decide +kernel))) (by decide +kernel)), (gtb_of (tb1 (List.mem_of_getElem? (i := 1) (by decide +kernel))) (by decide +kernel))⟩
theorem viX8_follows : Cond.instanceMethod yX8_follows ∈ gtb ∧ Cond.selects yX8_follows.cls yX8_follows yX8_follows ∈ gtb ∧ Cond.initialized yX8_follows.cls ∈ gtb := ⟨(gtb_of (tb3 (List.mem_of_getElem? (i := 90) (by decide +kernel))) (by decide +kernel)), (gtb_of (tb3 (List.mem_of_getElem? (i := 91) (by decide +kernel))) (by decide +kernel)), (gtb_of (tb1 (List.mem_of_getElem? (i := 1) (by decide +kernel))) (by decide +kernel))⟩
theorem viX8_kinds : Cond.instanceMethod yX8_kinds ∈ gtb ∧ Cond.selects yX8_kinds.cls yX8_kinds yX8_kinds ∈ gtb ∧ Cond.initialized yX8_kinds.cls ∈ gtb := ⟨(gtb_of (tb3 (List.mem_of_getElem? (i := 64) (by decide +kernel))) (by decide +kernel)), (gtb_of (tb3 (List.mem_of_getElem? (i := 65) (by decide +kernel))) (by decide +kernel)), (gtb_of (tb1 (List.mem_of_getElem? (i := 1) (by decide +kernel))) (by decide +kernel))⟩
theorem viX8_lay : Cond.instanceMethod yX8_lay ∈ gtb ∧ Cond.selects yX8_lay.cls yX8_lay yX8_lay ∈ gtb ∧ Cond.initialized yX8_lay.cls ∈ gtb := ⟨(gtb_of (tb3 (List.mem_of_getElem? (i := 4) (by decide +kernel))) (by decide +kernel)), (gtb_of (tb3 (List.mem_of_getElem? (i := 5) (by decide +kernel))) (by decide +kernel)), (gtb_of (tb1 (List.mem_of_getElem? (i := 1) (by decide +kernel))) (by decide +kernel))⟩
theorem viX8_map : Cond.instanceMethod yX8_map ∈ gtb ∧ Cond.selects yX8_map.cls yX8_map yX8_map ∈ gtb ∧ Cond.initialized yX8_map.cls ∈ gtb := ⟨(gtb_of (tb2 (List.mem_of_getElem? (i := 93) (by decide +kernel))) (by decide +kernel)), (gtb_of (tb2 (List.mem_of_getElem? (i := 94) (by decide +kernel))) (by decide +kernel)), (gtb_of (tb1 (List.mem_of_getElem? (i := 1) (by decide +kernel))) (by decide +kernel))⟩
theorem viX8_mode : Cond.instanceMethod yX8_mode ∈ gtb ∧ Cond.selects yX8_mode.cls yX8_mode yX8_mode ∈ gtb ∧ Cond.initialized yX8_mode.cls ∈ gtb := ⟨(gtb_of (tb3 (List.mem_of_getElem? (i := 81) (by decide +kernel))) (by decide +kernel)), (gtb_of (tb3 (List.mem_of_getElem? (i := 82) (by decide +kernel))) (by decide +kernel)), (gtb_of (tb1 (List.mem_of_getElem? (i := 1) (by decide +kernel))) (by decide +kernel))⟩
theorem viX8_none : Cond.instanceMethod yX8_none ∈ gtb ∧ Cond.selects yX8_none.cls yX8_none yX8_none ∈ gtb ∧ Cond.initialized yX8_none.cls ∈ gtb := ⟨(gtb_of (tb2 (List.mem_of_getElem? (i := 58) (by decide +kernel))) (by decide +kernel)), (gtb_of (tb0 (List.mem_of_getElem? (i := 6) (by decide +kernel))) (by decide +kernel)), (gtb_of (tb1 (List.mem_of_getElem? (i := 1) (by decide +kernel))) (by decide +kernel))⟩
theorem viX8_note : Cond.instanceMethod yX8_note ∈ gtb ∧ Cond.selects yX8_note.cls yX8_note yX8_note ∈ gtb ∧ Cond.initialized yX8_note.cls ∈ gtb := ⟨(gtb_of (tb2 (List.mem_of_getElem? (i := 215) (by decide +kernel))) (by decide +kernel)), (gtb_of (tb2 (List.mem_of_getElem? (i := 216) (by decide +kernel))) (by decide +kernel)), (gtb_of (tb1 (List.mem_of_getElem? (i := 1) (by decide +kernel))) (by decide +kernel))⟩
theorem viX8_order : Cond.instanceMethod yX8_order ∈ gtb ∧ Cond.selects yX8_order.cls yX8_order yX8_order ∈ gtb ∧ Cond.initialized yX8_order.cls ∈ gtb := ⟨(gtb_of (tb2 (List.mem_of_getElem? (i := 68) (by decide +kernel))) (by decide +kernel)), (gtb_of (tb2 (List.mem_of_getElem? (i := 69) (by decide +kernel))) (by decide +kernel)), (gtb_of (tb1 (List.mem_of_getElem? (i := 1) (by decide +kernel))) (by decide +kernel))⟩
theorem viX8_out : Cond.instanceMethod yX8_out ∈ gtb ∧ Cond.selects yX8_out.cls yX8_out yX8_out ∈ gtb ∧ Cond.initialized yX8_out.cls ∈ gtb := ⟨(gtb_of (tb2 (List.mem_of_getElem? (i := 89) (by decide +kernel))) (by decide +kernel)), (gtb_of (tb2 (List.mem_of_getElem? (i := 90) (by decide +kernel))) (by decide +kernel)), (gtb_of (tb1 (List.mem_of_getElem? (i := 1) (by decide +kernel))) (by decide +kernel))⟩
theorem viX8_putMade : Cond.instanceMethod yX8_putMade ∈ gtb ∧ Cond.selects yX8_putMade.cls yX8_putMade yX8_putMade ∈ gtb ∧ Cond.initialized yX8_putMade.cls ∈ gtb := ⟨(gtb_of (tb1 (List.mem_of_getElem? (i := 204) (by decide +kernel))) (by decide +kernel)), (gtb_of (tb0 (List.mem_of_getElem? (i := 1) (by decide +kernel))) (by decide +kernel)), (gtb_of (tb1 (List.mem_of_getElem? (i := 1) (by decide +kernel))) (by decide +kernel))⟩
theorem viX8_quotient : Cond.instanceMethod yX8_quotient ∈ gtb ∧ Cond.selects yX8_quotient.cls yX8_quotient yX8_quotient ∈ gtb ∧ Cond.initialized yX8_quotient.cls ∈ gtb := ⟨(gtb_of (tb3 (List.mem_of_getElem? (i := 99) (by decide +kernel))) (by decide +kernel)), (gtb_of (tb3 (List.mem_of_getElem? (i := 100) (by decide +kernel))) (by decide +kernel)), (gtb_of (tb1 (List.mem_of_getElem? (i := 1) (by decide +kernel))) (by decide +kernel))⟩
theorem viX8_rank : Cond.instanceMethod yX8_rank ∈ gtb ∧ Cond.selects yX8_rank.cls yX8_rank yX8_rank ∈ gtb ∧ Cond.initialized yX8_rank.cls ∈ gtb := ⟨(gtb_of (tb2 (List.mem_of_getElem? (i := 133) (by decide +kernel))) (by decide +kernel)), (gtb_of (tb2 (List.mem_of_getElem? (i := 134) (by decide +kernel))) (by decide +kernel)), (gtb_of (tb1 (List.mem_of_getElem? (i := 1) (by decide +kernel))) (by decide +kernel))⟩
theorem viX8_ratio : Cond.instanceMethod yX8_ratio ∈ gtb ∧ Cond.selects yX8_ratio.cls yX8_ratio yX8_ratio ∈ gtb ∧ Cond.initialized yX8_ratio.cls ∈ gtb := ⟨(gtb_of (tb1 (List.mem_of_getElem? (i := 220) (by decide +kernel))) (by decide +kernel)), (gtb_of (tb1 (List.mem_of_getElem? (i := 221) (by decide +kernel))) (by decide +kernel)), (gtb_of (tb1 (List.mem_of_getElem? (i := 1) (by decide +kernel))) (by decide +kernel))⟩
theorem viX8_refuse : Cond.instanceMethod yX8_refuse ∈ gtb ∧ Cond.selects yX8_refuse.cls yX8_refuse yX8_refuse ∈ gtb ∧ Cond.initialized yX8_refuse.cls ∈ gtb := ⟨(gtb_of (tb1 (List.mem_of_getElem? (i := 200) (by decide +kernel))) (by decide +kernel)), (gtb_of (tb0 (List.mem_of_getElem? (i := 0) (by decide +kernel))) (by decide +kernel)), (gtb_of (tb1 (List.mem_of_getElem? (i := 1) (by decide +kernel))) (by decide +kernel))⟩
theorem viX8_scale : Cond.instanceMethod yX8_scale ∈ gtb ∧ Cond.selects yX8_scale.cls yX8_scale yX8_scale ∈ gtb ∧ Cond.initialized yX8_scale.cls ∈ gtb := ⟨(gtb_of (tb3 (List.mem_of_getElem? (i := 29) (by decide +kernel))) (by decide +kernel)), (gtb_of (tb3 (List.mem_of_getElem? (i := 30) (by decide +kernel))) (by decide +kernel)), (gtb_of (tb1 (List.mem_of_getElem? (i := 1) (by decide +kernel))) (by decide +kernel))⟩
theorem viX8_set : Cond.instanceMethod yX8_set ∈ gtb ∧ Cond.selects yX8_set.cls yX8_set yX8_set ∈ gtb ∧ Cond.initialized yX8_set.cls ∈ gtb := ⟨(gtb_of (tb1 (List.mem_of_getElem? (i := 192) (by decide +kernel))) (by decide +kernel)), (gtb_of (tb1 (List.mem_of_getElem? (i := 193) (by decide +kernel))) (by decide +kernel)), (gtb_of (tb1 (List.mem_of_getElem? (i := 1) (by decide +kernel))) (by decide +kernel))⟩
theorem viX8_show : Cond.instanceMethod yX8_show ∈ gtb ∧ Cond.selects yX8_show.cls yX8_show yX8_show ∈ gtb ∧ Cond.initialized yX8_show.cls ∈ gtb := ⟨(gtb_of (tb2 (List.mem_of_getElem? (i := 76) (by decide +kernel))) (by decide +kernel)), (gtb_of (tb2 (List.mem_of_getElem? (i := 77) (by decide +kernel))) (by decide +kernel)), (gtb_of (tb1 (List.mem_of_getElem? (i := 1) (by decide +kernel))) (by decide +kernel))⟩
theorem viX8_status : Cond.instanceMethod yX8_status ∈ gtb ∧ Cond.selects yX8_status.cls yX8_status yX8_status ∈ gtb ∧ Cond.initialized yX8_status.cls ∈ gtb := ⟨(gtb_of (tb1 (List.mem_of_getElem? (i := 188) (by decide +kernel))) (by decide +kernel)), (gtb_of (tb1 (List.mem_of_getElem? (i := 189) (by decide +kernel))) (by decide +kernel)), (gtb_of (tb1 (List.mem_of_getElem? (i := 1) (by decide +kernel))) (by decide +kernel))⟩
theorem viX8_step : Cond.instanceMethod yX8_step ∈ gtb ∧ Cond.selects yX8_step.cls yX8_step yX8_step ∈ gtb ∧ Cond.initialized yX8_step.cls ∈ gtb := ⟨(gtb_of (tb3 (List.mem_of_getElem? (i := 69) (by decide +kernel))) (by decide +kernel)), (gtb_of (tb3 (List.mem_of_getElem? (i := 70) (by decide +kernel))) (by decide +kernel)), (gtb_of (tb1 (List.mem_of_getElem? (i := 1) (by decide +kernel))) (by decide +kernel))⟩
theorem viX8_steps : Cond.instanceMethod yX8_steps ∈ gtb ∧ Cond.selects yX8_steps.cls yX8_steps yX8_steps ∈ gtb ∧ Cond.initialized yX8_steps.cls ∈ gtb := ⟨(gtb_of (tb2 (List.mem_of_getElem? (i := 108) (by decide +kernel))) (by decide +kernel)), (gtb_of (tb2 (List.mem_of_getElem? (i := 109) (by decide +kernel))) (by decide +kernel)), (gtb_of (tb1 (List.mem_of_getElem? (i := 1) (by decide +kernel))) (by decide +kernel))⟩
theorem viX8_supports : Cond.instanceMethod yX8_supports ∈ gtb ∧ Cond.selects yX8_supports.cls yX8_supports yX8_supports ∈ gtb ∧ Cond.initialized yX8_supports.cls ∈ gtb := ⟨(gtb_of (tb2 (List.mem_of_getElem? (i := 186) (by decide +kernel))) (by decide +kernel)), (gtb_of (tb2 (List.mem_of_getElem? (i := 187) (by decide +kernel))) (by decide +kernel)), (gtb_of (tb1 (List.mem_of_getElem? (i := 1) (by decide +kernel))) (by decide +kernel))⟩
theorem viX8_take : Cond.instanceMethod yX8_take ∈ gtb ∧ Cond.selects yX8_take.cls yX8_take yX8_take ∈ gtb ∧ Cond.initialized yX8_take.cls ∈ gtb := ⟨(gtb_of (tb3 (List.mem_of_getElem? (i := 21) (by decide +kernel))) (by decide +kernel)), (gtb_of (tb3 (List.mem_of_getElem? (i := 22) (by decide +kernel))) (by decide +kernel)), (gtb_of (tb1 (List.mem_of_getElem? (i := 1) (by decide +kernel))) (by decide +kernel))⟩
theorem viX8_times : Cond.instanceMethod yX8_times ∈ gtb ∧ Cond.selects yX8_times.cls yX8_times yX8_times ∈ gtb ∧ Cond.initialized yX8_times.cls ∈ gtb := ⟨(gtb_of (tb1 (List.mem_of_getElem? (i := 236) (by decide +kernel))) (by decide +kernel)), (gtb_of (tb1 (List.mem_of_getElem? (i := 237) (by decide +kernel))) (by decide +kernel)), (gtb_of (tb1 (List.mem_of_getElem? (i := 1) (by decide +kernel))) (by decide +kernel))⟩
theorem viX8_twist : Cond.instanceMethod yX8_twist ∈ gtb ∧ Cond.selects yX8_twist.cls yX8_twist yX8_twist ∈ gtb ∧ Cond.initialized yX8_twist.cls ∈ gtb := ⟨(gtb_of (tb2 (List.mem_of_getElem? (i := 157) (by decide +kernel))) (by decide +kernel)), (gtb_of (tb2 (List.mem_of_getElem? (i := 158) (by decide +kernel))) (by decide +kernel)), (gtb_of (tb1 (List.mem_of_getElem? (i := 1) (by decide +kernel))) (by decide +kernel))⟩
theorem viX8_vanishes : Cond.instanceMethod yX8_vanishes ∈ gtb ∧ Cond.selects yX8_vanishes.cls yX8_vanishes yX8_vanishes ∈ gtb ∧ Cond.initialized yX8_vanishes.cls ∈ gtb := ⟨(gtb_of (tb2 (List.mem_of_getElem? (i := 178) (by decide +kernel))) (by decide +kernel)), (gtb_of (tb2 (List.mem_of_getElem? (i := 179) (by decide +kernel))) (by decide +kernel)), (gtb_of (tb1 (List.mem_of_getElem? (i := 1) (by decide +kernel))) (by decide +kernel))⟩
theorem viX9_begin : Cond.instanceMethod yX9_begin ∈ gtb ∧ Cond.selects yX9_begin.cls yX9_begin yX9_begin ∈ gtb ∧ Cond.initialized yX9_begin.cls ∈ gtb := ⟨(gtb_of (tb4 (List.mem_of_getElem? (i := 143) (by decide +kernel))) (by decide +kernel)), (gtb_of (tb4 (List.mem_of_getElem? (i := 144) (by decide +kernel))) (by decide +kernel)), (gtb_of (tb1 (List.mem_of_getElem? (i := 8) (by decide +kernel))) (by decide +kernel))⟩
theorem viX9_change : Cond.instanceMethod yX9_change ∈ gtb ∧ Cond.selects yX9_change.cls yX9_change yX9_change ∈ gtb ∧ Cond.initialized yX9_change.cls ∈ gtb := ⟨(gtb_of (tb4 (List.mem_of_getElem? (i := 121) (by decide +kernel))) (by decide +kernel)), (gtb_of (tb0 (List.mem_of_getElem? (i := 41) (by decide +kernel))) (by decide +kernel)), (gtb_of (tb1 (List.mem_of_getElem? (i := 8) (by decide +kernel))) (by decide +kernel))⟩
theorem viX9_clear : Cond.instanceMethod yX9_clear ∈ gtb ∧ Cond.selects yX9_clear.cls yX9_clear yX9_clear ∈ gtb ∧ Cond.initialized yX9_clear.cls ∈ gtb := ⟨(gtb_of (tb4 (List.mem_of_getElem? (i := 104) (by decide +kernel))) (by decide +kernel)), (gtb_of (tb4 (List.mem_of_getElem? (i := 105) (by decide +kernel))) (by decide +kernel)), (gtb_of (tb1 (List.mem_of_getElem? (i := 8) (by decide +kernel))) (by decide +kernel))⟩
theorem viX9_comes : Cond.instanceMethod yX9_comes ∈ gtb ∧ Cond.selects yX9_comes.cls yX9_comes yX9_comes ∈ gtb ∧ Cond.initialized yX9_comes.cls ∈ gtb := ⟨(gtb_of (tb3 (List.mem_of_getElem? (i := 218) (by decide +kernel))) (by decide +kernel)), (gtb_of (tb0 (List.mem_of_getElem? (i := 22) (by decide +kernel))) (by decide +kernel)), (gtb_of (tb1 (List.mem_of_getElem? (i := 8) (by decide +kernel))) (by decide +kernel))⟩
theorem viX9_comma : Cond.instanceMethod yX9_comma ∈ gtb ∧ Cond.selects yX9_comma.cls yX9_comma yX9_comma ∈ gtb ∧ Cond.initialized yX9_comma.cls ∈ gtb := ⟨(gtb_of (tb4 (List.mem_of_getElem? (i := 100) (by decide +kernel))) (by decide +kernel)), (gtb_of (tb4 (List.mem_of_getElem? (i := 101) (by decide +kernel))) (by decide +kernel)), (gtb_of (tb1 (List.mem_of_getElem? (i := 8) (by decide +kernel))) (by decide +kernel))⟩
theorem viX9_commaRank : Cond.instanceMethod yX9_commaRank ∈ gtb ∧ Cond.selects yX9_commaRank.cls yX9_commaRank yX9_commaRank ∈ gtb ∧ Cond.initialized yX9_commaRank.cls ∈ gtb := ⟨(gtb_of (tb4 (List.mem_of_getElem? (i := 113) (by decide +kernel))) (by decide +kernel)), (gtb_of (tb0 (List.mem_of_getElem? (i := 39) (by decide +kernel))) (by decide +kernel)), (gtb_of (tb1 (List.mem_of_getElem? (i := 8) (by decide +kernel))) (by decide +kernel))⟩
theorem viX9_compare : Cond.instanceMethod yX9_compare ∈ gtb ∧ Cond.selects yX9_compare.cls yX9_compare yX9_compare ∈ gtb ∧ Cond.initialized yX9_compare.cls ∈ gtb := ⟨(gtb_of (tb4 (List.mem_of_getElem? (i := 61) (by decide +kernel))) (by decide +kernel)), (gtb_of (tb0 (List.mem_of_getElem? (i := 34) (by decide +kernel))) (by decide +kernel)), (gtb_of (tb1 (List.mem_of_getElem? (i := 8) (by decide +kernel))) (by decide +kernel))⟩
theorem viX9_drop : Cond.instanceMethod yX9_drop ∈ gtb ∧ Cond.selects yX9_drop.cls yX9_drop yX9_drop ∈ gtb ∧ Cond.initialized yX9_drop.cls ∈ gtb := ⟨(gtb_of (tb4 (List.mem_of_getElem? (i := 44) (by decide +kernel))) (by decide +kernel)), (gtb_of (tb4 (List.mem_of_getElem? (i := 45) (by decide +kernel))) (by decide +kernel)), (gtb_of (tb1 (List.mem_of_getElem? (i := 8) (by decide +kernel))) (by decide +kernel))⟩
theorem viX9_exponent : Cond.instanceMethod yX9_exponent ∈ gtb ∧ Cond.selects yX9_exponent.cls yX9_exponent yX9_exponent ∈ gtb ∧ Cond.initialized yX9_exponent.cls ∈ gtb := ⟨(gtb_of (tb4 (List.mem_of_getElem? (i := 48) (by decide +kernel))) (by decide +kernel)), (gtb_of (tb4 (List.mem_of_getElem? (i := 49) (by decide +kernel))) (by decide +kernel)), (gtb_of (tb1 (List.mem_of_getElem? (i := 8) (by decide +kernel))) (by decide +kernel))⟩
theorem viX9_fold : Cond.instanceMethod yX9_fold ∈ gtb ∧ Cond.selects yX9_fold.cls yX9_fold yX9_fold ∈ gtb ∧ Cond.initialized yX9_fold.cls ∈ gtb := ⟨(gtb_of (tb4 (List.mem_of_getElem? (i := 5) (by decide +kernel))) (by decide +kernel)), (gtb_of (tb4 (List.mem_of_getElem? (i := 6) (by decide +kernel))) (by decide +kernel)), (gtb_of (tb1 (List.mem_of_getElem? (i := 8) (by decide +kernel))) (by decide +kernel))⟩
theorem viX9_folds : Cond.instanceMethod yX9_folds ∈ gtb ∧ Cond.selects yX9_folds.cls yX9_folds yX9_folds ∈ gtb ∧ Cond.initialized yX9_folds.cls ∈ gtb := ⟨(gtb_of (tb4 (List.mem_of_getElem? (i := 30) (by decide +kernel))) (by decide +kernel)), (gtb_of (tb0 (List.mem_of_getElem? (i := 30) (by decide +kernel))) (by decide +kernel)), (gtb_of (tb1 (List.mem_of_getElem? (i := 8) (by decide +kernel))) (by decide +kernel))⟩
theorem viX9_follows : Cond.instanceMethod yX9_follows ∈ gtb ∧ Cond.selects yX9_follows.cls yX9_follows yX9_follows ∈ gtb ∧ Cond.initialized yX9_follows.cls ∈ gtb := ⟨(gtb_of (tb4 (List.mem_of_getElem? (i := 199) (by decide +kernel))) (by decide +kernel)), (gtb_of (tb4 (List.mem_of_getElem? (i := 200) (by decide +kernel))) (by decide +kernel)), (gtb_of (tb1 (List.mem_of_getElem? (i := 8) (by decide +kernel))) (by decide +kernel))⟩
theorem viX9_give : Cond.instanceMethod yX9_give ∈ gtb ∧ Cond.selects yX9_give.cls yX9_give yX9_give ∈ gtb ∧ Cond.initialized yX9_give.cls ∈ gtb := ⟨(gtb_of (tb3 (List.mem_of_getElem? (i := 226) (by decide +kernel))) (by decide +kernel)), (gtb_of (tb0 (List.mem_of_getElem? (i := 24) (by decide +kernel))) (by decide +kernel)), (gtb_of (tb1 (List.mem_of_getElem? (i := 8) (by decide +kernel))) (by decide +kernel))⟩
theorem viX9_hold : Cond.instanceMethod yX9_hold ∈ gtb ∧ Cond.selects yX9_hold.cls yX9_hold yX9_hold ∈ gtb ∧ Cond.initialized yX9_hold.cls ∈ gtb := ⟨(gtb_of (tb4 (List.mem_of_getElem? (i := 2) (by decide +kernel))) (by decide +kernel)), (gtb_of (tb0 (List.mem_of_getElem? (i := 25) (by decide +kernel))) (by decide +kernel)), (gtb_of (tb1 (List.mem_of_getElem? (i := 8) (by decide +kernel))) (by decide +kernel))⟩
theorem viX9_insert : Cond.instanceMethod yX9_insert ∈ gtb ∧ Cond.selects yX9_insert.cls yX9_insert yX9_insert ∈ gtb ∧ Cond.initialized yX9_insert.cls ∈ gtb := ⟨(gtb_of (tb4 (List.mem_of_getElem? (i := 156) (by decide +kernel))) (by decide +kernel)), (gtb_of (tb0 (List.mem_of_getElem? (i := 44) (by decide +kernel))) (by decide +kernel)), (gtb_of (tb1 (List.mem_of_getElem? (i := 8) (by decide +kernel))) (by decide +kernel))⟩
theorem viX9_isDim : Cond.instanceMethod yX9_isDim ∈ gtb ∧ Cond.selects yX9_isDim.cls yX9_isDim yX9_isDim ∈ gtb ∧ Cond.initialized yX9_isDim.cls ∈ gtb := ⟨(gtb_of (tb4 (List.mem_of_getElem? (i := 208) (by decide +kernel))) (by decide +kernel)), (gtb_of (tb0 (List.mem_of_getElem? (i := 49) (by decide +kernel))) (by decide +kernel)), (gtb_of (tb1 (List.mem_of_getElem? (i := 8) (by decide +kernel))) (by decide +kernel))⟩
theorem viX9_isFar : Cond.instanceMethod yX9_isFar ∈ gtb ∧ Cond.selects yX9_isFar.cls yX9_isFar yX9_isFar ∈ gtb ∧ Cond.initialized yX9_isFar.cls ∈ gtb := ⟨(gtb_of (tb3 (List.mem_of_getElem? (i := 222) (by decide +kernel))) (by decide +kernel)), (gtb_of (tb0 (List.mem_of_getElem? (i := 23) (by decide +kernel))) (by decide +kernel)), (gtb_of (tb1 (List.mem_of_getElem? (i := 8) (by decide +kernel))) (by decide +kernel))⟩
theorem viX9_isMyth : Cond.instanceMethod yX9_isMyth ∈ gtb ∧ Cond.selects yX9_isMyth.cls yX9_isMyth yX9_isMyth ∈ gtb ∧ Cond.initialized yX9_isMyth.cls ∈ gtb := ⟨(gtb_of (tb4 (List.mem_of_getElem? (i := 176) (by decide +kernel))) (by decide +kernel)), (gtb_of (tb0 (List.mem_of_getElem? (i := 46) (by decide +kernel))) (by decide +kernel)), (gtb_of (tb1 (List.mem_of_getElem? (i := 8) (by decide +kernel))) (by decide +kernel))⟩
theorem viX9_isPeriod : Cond.instanceMethod yX9_isPeriod ∈ gtb ∧ Cond.selects yX9_isPeriod.cls yX9_isPeriod yX9_isPeriod ∈ gtb ∧ Cond.initialized yX9_isPeriod.cls ∈ gtb := ⟨(gtb_of (tb4 (List.mem_of_getElem? (i := 10) (by decide +kernel))) (by decide +kernel)), (gtb_of (tb0 (List.mem_of_getElem? (i := 26) (by decide +kernel))) (by decide +kernel)), (gtb_of (tb1 (List.mem_of_getElem? (i := 8) (by decide +kernel))) (by decide +kernel))⟩
theorem viX9_isProper : Cond.instanceMethod yX9_isProper ∈ gtb ∧ Cond.selects yX9_isProper.cls yX9_isProper yX9_isProper ∈ gtb ∧ Cond.initialized yX9_isProper.cls ∈ gtb := ⟨(gtb_of (tb4 (List.mem_of_getElem? (i := 184) (by decide +kernel))) (by decide +kernel)), (gtb_of (tb0 (List.mem_of_getElem? (i := 48) (by decide +kernel))) (by decide +kernel)), (gtb_of (tb1 (List.mem_of_getElem? (i := 8) (by decide +kernel))) (by decide +kernel))⟩
theorem viX9_kinds : Cond.instanceMethod yX9_kinds ∈ gtb ∧ Cond.selects yX9_kinds.cls yX9_kinds yX9_kinds ∈ gtb ∧ Cond.initialized yX9_kinds.cls ∈ gtb := ⟨(gtb_of (tb4 (List.mem_of_getElem? (i := 187) (by decide +kernel))) (by decide +kernel)), (gtb_of (tb4 (List.mem_of_getElem? (i := 188) (by decide +kernel))) (by decide +kernel)), (gtb_of (tb1 (List.mem_of_getElem? (i := 8) (by decide +kernel))) (by decide +kernel))⟩
theorem viX9_lay : Cond.instanceMethod yX9_lay ∈ gtb ∧ Cond.selects yX9_lay.cls yX9_lay yX9_lay ∈ gtb ∧ Cond.initialized yX9_lay.cls ∈ gtb := ⟨(gtb_of (tb4 (List.mem_of_getElem? (i := 159) (by decide +kernel))) (by decide +kernel)), (gtb_of (tb4 (List.mem_of_getElem? (i := 160) (by decide +kernel))) (by decide +kernel)), (gtb_of (tb1 (List.mem_of_getElem? (i := 8) (by decide +kernel))) (by decide +kernel))⟩
theorem viX9_less : Cond.instanceMethod yX9_less ∈ gtb ∧ Cond.selects yX9_less.cls yX9_less yX9_less ∈ gtb ∧ Cond.initialized yX9_less.cls ∈ gtb := ⟨(gtb_of (tb4 (List.mem_of_getElem? (i := 41) (by decide +kernel))) (by decide +kernel)), (gtb_of (tb0 (List.mem_of_getElem? (i := 32) (by decide +kernel))) (by decide +kernel)), (gtb_of (tb1 (List.mem_of_getElem? (i := 8) (by decide +kernel))) (by decide +kernel))⟩
theorem viX9_map : Cond.instanceMethod yX9_map ∈ gtb ∧ Cond.selects yX9_map.cls yX9_map yX9_map ∈ gtb ∧ Cond.initialized yX9_map.cls ∈ gtb := ⟨(gtb_of (tb4 (List.mem_of_getElem? (i := 81) (by decide +kernel))) (by decide +kernel)), (gtb_of (tb4 (List.mem_of_getElem? (i := 82) (by decide +kernel))) (by decide +kernel)), (gtb_of (tb1 (List.mem_of_getElem? (i := 8) (by decide +kernel))) (by decide +kernel))⟩
theorem viX9_mapOf : Cond.instanceMethod yX9_mapOf ∈ gtb ∧ Cond.selects yX9_mapOf.cls yX9_mapOf yX9_mapOf ∈ gtb ∧ Cond.initialized yX9_mapOf.cls ∈ gtb := ⟨(gtb_of (tb4 (List.mem_of_getElem? (i := 89) (by decide +kernel))) (by decide +kernel)), (gtb_of (tb0 (List.mem_of_getElem? (i := 37) (by decide +kernel))) (by decide +kernel)), (gtb_of (tb1 (List.mem_of_getElem? (i := 8) (by decide +kernel))) (by decide +kernel))⟩
theorem viX9_minor : Cond.instanceMethod yX9_minor ∈ gtb ∧ Cond.selects yX9_minor.cls yX9_minor yX9_minor ∈ gtb ∧ Cond.initialized yX9_minor.cls ∈ gtb := ⟨(gtb_of (tb4 (List.mem_of_getElem? (i := 132) (by decide +kernel))) (by decide +kernel)), (gtb_of (tb0 (List.mem_of_getElem? (i := 42) (by decide +kernel))) (by decide +kernel)), (gtb_of (tb1 (List.mem_of_getElem? (i := 8) (by decide +kernel))) (by decide +kernel))⟩
theorem viX9_mode : Cond.instanceMethod yX9_mode ∈ gtb ∧ Cond.selects yX9_mode.cls yX9_mode yX9_mode ∈ gtb ∧ Cond.initialized yX9_mode.cls ∈ gtb := ⟨(gtb_of (tb4 (List.mem_of_getElem? (i := 195) (by decide +kernel))) (by decide +kernel)), (gtb_of (tb4 (List.mem_of_getElem? (i := 196) (by decide +kernel))) (by decide +kernel)), (gtb_of (tb1 (List.mem_of_getElem? (i := 8) (by decide +kernel))) (by decide +kernel))⟩
theorem viX9_none : Cond.instanceMethod yX9_none ∈ gtb ∧ Cond.selects yX9_none.cls yX9_none yX9_none ∈ gtb ∧ Cond.initialized yX9_none.cls ∈ gtb := ⟨(gtb_of (tb4 (List.mem_of_getElem? (i := 53) (by decide +kernel))) (by decide +kernel)), (gtb_of (tb0 (List.mem_of_getElem? (i := 33) (by decide +kernel))) (by decide +kernel)), (gtb_of (tb1 (List.mem_of_getElem? (i := 8) (by decide +kernel))) (by decide +kernel))⟩
theorem viX9_note : Cond.instanceMethod yX9_note ∈ gtb ∧ Cond.selects yX9_note.cls yX9_note yX9_note ∈ gtb ∧ Cond.initialized yX9_note.cls ∈ gtb := ⟨(gtb_of (tb4 (List.mem_of_getElem? (i := 147) (by decide +kernel))) (by decide +kernel)), (gtb_of (tb4 (List.mem_of_getElem? (i := 148) (by decide +kernel))) (by decide +kernel)), (gtb_of (tb1 (List.mem_of_getElem? (i := 8) (by decide +kernel))) (by decide +kernel))⟩
theorem viX9_noteAt : Cond.instanceMethod yX9_noteAt ∈ gtb ∧ Cond.selects yX9_noteAt.cls yX9_noteAt yX9_noteAt ∈ gtb ∧ Cond.initialized yX9_noteAt.cls ∈ gtb := ⟨(gtb_of (tb4 (List.mem_of_getElem? (i := 168) (by decide +kernel))) (by decide +kernel)), (gtb_of (tb0 (List.mem_of_getElem? (i := 45) (by decide +kernel))) (by decide +kernel)), (gtb_of (tb1 (List.mem_of_getElem? (i := 8) (by decide +kernel))) (by decide +kernel))⟩
theorem viX9_order : Cond.instanceMethod yX9_order ∈ gtb ∧ Cond.selects yX9_order.cls yX9_order yX9_order ∈ gtb ∧ Cond.initialized yX9_order.cls ∈ gtb := ⟨(gtb_of (tb4 (List.mem_of_getElem? (i := 56) (by decide +kernel))) (by decide +kernel)), (gtb_of (tb4 (List.mem_of_getElem? (i := 57) (by decide +kernel))) (by decide +kernel)), (gtb_of (tb1 (List.mem_of_getElem? (i := 8) (by decide +kernel))) (by decide +kernel))⟩
theorem viX9_out : Cond.instanceMethod yX9_out ∈ gtb ∧ Cond.selects yX9_out.cls yX9_out yX9_out ∈ gtb ∧ Cond.initialized yX9_out.cls ∈ gtb := ⟨(gtb_of (tb4 (List.mem_of_getElem? (i := 77) (by decide +kernel))) (by decide +kernel)), (gtb_of (tb4 (List.mem_of_getElem? (i := 78) (by decide +kernel))) (by decide +kernel)), (gtb_of (tb1 (List.mem_of_getElem? (i := 8) (by decide +kernel))) (by decide +kernel))⟩
theorem viX9_placeIn : Cond.instanceMethod yX9_placeIn ∈ gtb ∧ Cond.selects yX9_placeIn.cls yX9_placeIn yX9_placeIn ∈ gtb ∧ Cond.initialized yX9_placeIn.cls ∈ gtb := ⟨(gtb_of (tb4 (List.mem_of_getElem? (i := 152) (by decide +kernel))) (by decide +kernel)), (gtb_of (tb0 (List.mem_of_getElem? (i := 43) (by decide +kernel))) (by decide +kernel)), (gtb_of (tb1 (List.mem_of_getElem? (i := 8) (by decide +kernel))) (by decide +kernel))⟩
theorem viX9_powered : Cond.instanceMethod yX9_powered ∈ gtb ∧ Cond.selects yX9_powered.cls yX9_powered yX9_powered ∈ gtb ∧ Cond.initialized yX9_powered.cls ∈ gtb := ⟨(gtb_of (tb4 (List.mem_of_getElem? (i := 37) (by decide +kernel))) (by decide +kernel)), (gtb_of (tb0 (List.mem_of_getElem? (i := 31) (by decide +kernel))) (by decide +kernel)), (gtb_of (tb1 (List.mem_of_getElem? (i := 8) (by decide +kernel))) (by decide +kernel))⟩
theorem viX9_products : Cond.instanceMethod yX9_products ∈ gtb ∧ Cond.selects yX9_products.cls yX9_products yX9_products ∈ gtb ∧ Cond.initialized yX9_products.cls ∈ gtb := ⟨(gtb_of (tb4 (List.mem_of_getElem? (i := 18) (by decide +kernel))) (by decide +kernel)), (gtb_of (tb0 (List.mem_of_getElem? (i := 28) (by decide +kernel))) (by decide +kernel)), (gtb_of (tb1 (List.mem_of_getElem? (i := 8) (by decide +kernel))) (by decide +kernel))⟩
theorem viX9_quotient : Cond.instanceMethod yX9_quotient ∈ gtb ∧ Cond.selects yX9_quotient.cls yX9_quotient yX9_quotient ∈ gtb ∧ Cond.initialized yX9_quotient.cls ∈ gtb := ⟨(gtb_of (tb4 (List.mem_of_getElem? (i := 203) (by decide +kernel))) (by decide +kernel)), (gtb_of (tb4 (List.mem_of_getElem? (i := 204) (by decide +kernel))) (by decide +kernel)), (gtb_of (tb1 (List.mem_of_getElem? (i := 8) (by decide +kernel))) (by decide +kernel))⟩
theorem viX9_rank : Cond.instanceMethod yX9_rank ∈ gtb ∧ Cond.selects yX9_rank.cls yX9_rank yX9_rank ∈ gtb ∧ Cond.initialized yX9_rank.cls ∈ gtb := ⟨(gtb_of (tb4 (List.mem_of_getElem? (i := 108) (by decide +kernel))) (by decide +kernel)), (gtb_of (tb4 (List.mem_of_getElem? (i := 109) (by decide +kernel))) (by decide +kernel)), (gtb_of (tb1 (List.mem_of_getElem? (i := 8) (by decide +kernel))) (by decide +kernel))⟩
theorem viX9_rankOf : Cond.instanceMethod yX9_rankOf ∈ gtb ∧ Cond.selects yX9_rankOf.cls yX9_rankOf yX9_rankOf ∈ gtb ∧ Cond.initialized yX9_rankOf.cls ∈ gtb := ⟨(gtb_of (tb4 (List.mem_of_getElem? (i := 117) (by decide +kernel))) (by decide +kernel)), (gtb_of (tb0 (List.mem_of_getElem? (i := 40) (by decide +kernel))) (by decide +kernel)), (gtb_of (tb1 (List.mem_of_getElem? (i := 8) (by decide +kernel))) (by decide +kernel))⟩
theorem viX9_ratio : Cond.instanceMethod yX9_ratio ∈ gtb ∧ Cond.selects yX9_ratio.cls yX9_ratio yX9_ratio ∈ gtb ∧ Cond.initialized yX9_ratio.cls ∈ gtb := ⟨(gtb_of (tb3 (List.mem_of_getElem? (i := 229) (by decide +kernel))) (by decide +kernel)), (gtb_of (tb3 (List.mem_of_getElem? (i := 230) (by decide +kernel))) (by decide +kernel)), (gtb_of (tb1 (List.mem_of_getElem? (i := 8) (by decide +kernel))) (by decide +kernel))⟩
theorem viX9_refuse : Cond.instanceMethod yX9_refuse ∈ gtb ∧ Cond.selects yX9_refuse.cls yX9_refuse yX9_refuse ∈ gtb ∧ Cond.initialized yX9_refuse.cls ∈ gtb := ⟨(gtb_of (tb3 (List.mem_of_getElem? (i := 214) (by decide +kernel))) (by decide +kernel)), (gtb_of (tb0 (List.mem_of_getElem? (i := 21) (by decide +kernel))) (by decide +kernel)), (gtb_of (tb1 (List.mem_of_getElem? (i := 8) (by decide +kernel))) (by decide +kernel))⟩
theorem viX9_scale : Cond.instanceMethod yX9_scale ∈ gtb ∧ Cond.selects yX9_scale.cls yX9_scale yX9_scale ∈ gtb ∧ Cond.initialized yX9_scale.cls ∈ gtb := ⟨(gtb_of (tb4 (List.mem_of_getElem? (i := 171) (by decide +kernel))) (by decide +kernel)), (gtb_of (tb4 (List.mem_of_getElem? (i := 172) (by decide +kernel))) (by decide +kernel)), (gtb_of (tb1 (List.mem_of_getElem? (i := 8) (by decide +kernel))) (by decide +kernel))⟩
theorem viX9_set : Cond.instanceMethod yX9_set ∈ gtb ∧ Cond.selects yX9_set.cls yX9_set yX9_set ∈ gtb ∧ Cond.initialized yX9_set.cls ∈ gtb := ⟨(gtb_of (tb3 (List.mem_of_getElem? (i := 206) (by decide +kernel))) (by decide +kernel)), (gtb_of (tb3 (List.mem_of_getElem? (i := 207) (by decide +kernel))) (by decide +kernel)), (gtb_of (tb1 (List.mem_of_getElem? (i := 8) (by decide +kernel))) (by decide +kernel))⟩
theorem viX9_set6 : Cond.instanceMethod yX9_set6 ∈ gtb ∧ Cond.selects yX9_set6.cls yX9_set6 yX9_set6 ∈ gtb ∧ Cond.initialized yX9_set6.cls ∈ gtb := ⟨(gtb_of (tb4 (List.mem_of_getElem? (i := 26) (by decide +kernel))) (by decide +kernel)), (gtb_of (tb0 (List.mem_of_getElem? (i := 29) (by decide +kernel))) (by decide +kernel)), (gtb_of (tb1 (List.mem_of_getElem? (i := 8) (by decide +kernel))) (by decide +kernel))⟩
theorem viX9_show : Cond.instanceMethod yX9_show ∈ gtb ∧ Cond.selects yX9_show.cls yX9_show yX9_show ∈ gtb ∧ Cond.initialized yX9_show.cls ∈ gtb := ⟨(gtb_of (tb4 (List.mem_of_getElem? (i := 64) (by decide +kernel))) (by decide +kernel)), (gtb_of (tb4 (List.mem_of_getElem? (i := 65) (by decide +kernel))) (by decide +kernel)), (gtb_of (tb1 (List.mem_of_getElem? (i := 8) (by decide +kernel))) (by decide +kernel))⟩
theorem viX9_sign : Cond.instanceMethod yX9_sign ∈ gtb ∧ Cond.selects yX9_sign.cls yX9_sign yX9_sign ∈ gtb ∧ Cond.initialized yX9_sign.cls ∈ gtb := ⟨(gtb_of (tb4 (List.mem_of_getElem? (i := 14) (by decide +kernel))) (by decide +kernel)), (gtb_of (tb0 (List.mem_of_getElem? (i := 27) (by decide +kernel))) (by decide +kernel)), (gtb_of (tb1 (List.mem_of_getElem? (i := 8) (by decide +kernel))) (by decide +kernel))⟩
theorem viX9_status : Cond.instanceMethod yX9_status ∈ gtb ∧ Cond.selects yX9_status.cls yX9_status yX9_status ∈ gtb ∧ Cond.initialized yX9_status.cls ∈ gtb := ⟨(gtb_of (tb3 (List.mem_of_getElem? (i := 202) (by decide +kernel))) (by decide +kernel)), (gtb_of (tb3 (List.mem_of_getElem? (i := 203) (by decide +kernel))) (by decide +kernel)), (gtb_of (tb1 (List.mem_of_getElem? (i := 8) (by decide +kernel))) (by decide +kernel))⟩
theorem viX9_step : Cond.instanceMethod yX9_step ∈ gtb ∧ Cond.selects yX9_step.cls yX9_step yX9_step ∈ gtb ∧ Cond.initialized yX9_step.cls ∈ gtb := ⟨(gtb_of (tb4 (List.mem_of_getElem? (i := 191) (by decide +kernel))) (by decide +kernel)), (gtb_of (tb4 (List.mem_of_getElem? (i := 192) (by decide +kernel))) (by decide +kernel)), (gtb_of (tb1 (List.mem_of_getElem? (i := 8) (by decide +kernel))) (by decide +kernel))⟩
theorem viX9_steps : Cond.instanceMethod yX9_steps ∈ gtb ∧ Cond.selects yX9_steps.cls yX9_steps yX9_steps ∈ gtb ∧ Cond.initialized yX9_steps.cls ∈ gtb := ⟨(gtb_of (tb4 (List.mem_of_getElem? (i := 92) (by decide +kernel))) (by decide +kernel)), (gtb_of (tb4 (List.mem_of_getElem? (i := 93) (by decide +kernel))) (by decide +kernel)), (gtb_of (tb1 (List.mem_of_getElem? (i := 8) (by decide +kernel))) (by decide +kernel))⟩
theorem viX9_stepsBy : Cond.instanceMethod yX9_stepsBy ∈ gtb ∧ Cond.selects yX9_stepsBy.cls yX9_stepsBy yX9_stepsBy ∈ gtb ∧ Cond.initialized yX9_stepsBy.cls ∈ gtb := ⟨(gtb_of (tb4 (List.mem_of_getElem? (i := 180) (by decide +kernel))) (by decide +kernel)), (gtb_of (tb0 (List.mem_of_getElem? (i := 47) (by decide +kernel))) (by decide +kernel)), (gtb_of (tb1 (List.mem_of_getElem? (i := 8) (by decide +kernel))) (by decide +kernel))⟩
theorem viX9_stepsOf : Cond.instanceMethod yX9_stepsOf ∈ gtb ∧ Cond.selects yX9_stepsOf.cls yX9_stepsOf yX9_stepsOf ∈ gtb ∧ Cond.initialized yX9_stepsOf.cls ∈ gtb := ⟨(gtb_of (tb4 (List.mem_of_getElem? (i := 97) (by decide +kernel))) (by decide +kernel)), (gtb_of (tb0 (List.mem_of_getElem? (i := 38) (by decide +kernel))) (by decide +kernel)), (gtb_of (tb1 (List.mem_of_getElem? (i := 8) (by decide +kernel))) (by decide +kernel))⟩
theorem viX9_supports : Cond.instanceMethod yX9_supports ∈ gtb ∧ Cond.selects yX9_supports.cls yX9_supports yX9_supports ∈ gtb ∧ Cond.initialized yX9_supports.cls ∈ gtb := ⟨(gtb_of (tb4 (List.mem_of_getElem? (i := 139) (by decide +kernel))) (by decide +kernel)), (gtb_of (tb4 (List.mem_of_getElem? (i := 140) (by decide +kernel))) (by decide +kernel)), (gtb_of (tb1 (List.mem_of_getElem? (i := 8) (by decide +kernel))) (by decide +kernel))⟩
theorem viX9_take : Cond.instanceMethod yX9_take ∈ gtb ∧ Cond.selects yX9_take.cls yX9_take yX9_take ∈ gtb ∧ Cond.initialized yX9_take.cls ∈ gtb := ⟨(gtb_of (tb4 (List.mem_of_getElem? (i := 163) (by decide +kernel))) (by decide +kernel)), (gtb_of (tb4 (List.mem_of_getElem? (i := 164) (by decide +kernel))) (by decide +kernel)), (gtb_of (tb1 (List.mem_of_getElem? (i := 8) (by decide +kernel))) (by decide +kernel))⟩
theorem viX9_tell : Cond.instanceMethod yX9_tell ∈ gtb ∧ Cond.selects yX9_tell.cls yX9_tell yX9_tell ∈ gtb ∧ Cond.initialized yX9_tell.cls ∈ gtb := ⟨(gtb_of (tb4 (List.mem_of_getElem? (i := 74) (by decide +kernel))) (by decide +kernel)), (gtb_of (tb0 (List.mem_of_getElem? (i := 36) (by decide +kernel))) (by decide +kernel)), (gtb_of (tb1 (List.mem_of_getElem? (i := 8) (by decide +kernel))) (by decide +kernel))⟩
theorem viX9_tellNumber : Cond.instanceMethod yX9_tellNumber ∈ gtb ∧ Cond.selects yX9_tellNumber.cls yX9_tellNumber yX9_tellNumber ∈ gtb ∧ Cond.initialized yX9_tellNumber.cls ∈ gtb := ⟨(gtb_of (tb4 (List.mem_of_getElem? (i := 69) (by decide +kernel))) (by decide +kernel)), (gtb_of (tb0 (List.mem_of_getElem? (i := 35) (by decide +kernel))) (by decide +kernel)), (gtb_of (tb1 (List.mem_of_getElem? (i := 8) (by decide +kernel))) (by decide +kernel))⟩
theorem viX9_times : Cond.instanceMethod yX9_times ∈ gtb ∧ Cond.selects yX9_times.cls yX9_times yX9_times ∈ gtb ∧ Cond.initialized yX9_times.cls ∈ gtb := ⟨(gtb_of (tb3 (List.mem_of_getElem? (i := 237) (by decide +kernel))) (by decide +kernel)), (gtb_of (tb3 (List.mem_of_getElem? (i := 238) (by decide +kernel))) (by decide +kernel)), (gtb_of (tb1 (List.mem_of_getElem? (i := 8) (by decide +kernel))) (by decide +kernel))⟩
theorem viX9_twist : Cond.instanceMethod yX9_twist ∈ gtb ∧ Cond.selects yX9_twist.cls yX9_twist yX9_twist ∈ gtb ∧ Cond.initialized yX9_twist.cls ∈ gtb := ⟨(gtb_of (tb4 (List.mem_of_getElem? (i := 124) (by decide +kernel))) (by decide +kernel)), (gtb_of (tb4 (List.mem_of_getElem? (i := 125) (by decide +kernel))) (by decide +kernel)), (gtb_of (tb1 (List.mem_of_getElem? (i := 8) (by decide +kernel))) (by decide +kernel))⟩
theorem viX9_vanishes : Cond.instanceMethod yX9_vanishes ∈ gtb ∧ Cond.selects yX9_vanishes.cls yX9_vanishes yX9_vanishes ∈ gtb ∧ Cond.initialized yX9_vanishes.cls ∈ gtb := ⟨(gtb_of (tb4 (List.mem_of_getElem? (i := 135) (by decide +kernel))) (by decide +kernel)), (gtb_of (tb4 (List.mem_of_getElem? (i := 136) (by decide +kernel))) (by decide +kernel)), (gtb_of (tb1 (List.mem_of_getElem? (i := 8) (by decide +kernel))) (by decide +kernel))⟩
theorem lL_13 : VL RL 13 yX8_status 0 6 := ⟨(gtb_of (tb1 (List.mem_of_getElem? (i := 187) (by decide +kernel))) (by decide +kernel)), viX8_status.1, viX8_status.2.1, viX8_status.2.2, ⟨by decide +kernel, by decide +kernel, by decide +kernel⟩, TX8, 10, rfl⟩
theorem lL_17 : VL RL 17 yX9_status 0 7 := ⟨(gtb_of (tb3 (List.mem_of_getElem? (i := 201) (by decide +kernel))) (by decide +kernel)), viX9_status.1, viX9_status.2.1, viX9_status.2.2, ⟨by decide +kernel, by decide +kernel, by decide +kernel⟩, TX9, 25, rfl⟩
theorem lL_18 : VL RL 18 yX8_set 7 6 := ⟨(gtb_of (tb1 (List.mem_of_getElem? (i := 191) (by decide +kernel))) (by decide +kernel)), viX8_set.1, viX8_set.2.1, viX8_set.2.2, ⟨by decide +kernel, by decide +kernel, by decide +kernel⟩, TX8, 10, rfl⟩
theorem lL_22 : VL RL 22 yX9_set 7 7 := ⟨(gtb_of (tb3 (List.mem_of_getElem? (i := 205) (by decide +kernel))) (by decide +kernel)), viX9_set.1, viX9_set.2.1, viX9_set.2.2, ⟨by decide +kernel, by decide +kernel, by decide +kernel⟩, TX9, 25, rfl⟩
theorem lL_23 : VL RL 23 yX8_ratio 3 6 := ⟨(gtb_of (tb1 (List.mem_of_getElem? (i := 219) (by decide +kernel))) (by decide +kernel)), viX8_ratio.1, viX8_ratio.2.1, viX8_ratio.2.2, ⟨by decide +kernel, by decide +kernel, by decide +kernel⟩, TX8, 10, rfl⟩
theorem lL_27 : VL RL 27 yX9_ratio 3 7 := ⟨(gtb_of (tb3 (List.mem_of_getElem? (i := 228) (by decide +kernel))) (by decide +kernel)), viX9_ratio.1, viX9_ratio.2.1, viX9_ratio.2.2, ⟨by decide +kernel, by decide +kernel, by decide +kernel⟩, TX9, 25, rfl⟩
theorem lL_28 : VL RL 28 yX8_times 4 6 := ⟨(gtb_of (tb1 (List.mem_of_getElem? (i := 235) (by decide +kernel))) (by decide +kernel)), viX8_times.1, viX8_times.2.1, viX8_times.2.2, ⟨by decide +kernel, by decide +kernel, by decide +kernel⟩, TX8, 10, rfl⟩
theorem lL_32 : VL RL 32 yX9_times 4 7 := ⟨(gtb_of (tb3 (List.mem_of_getElem? (i := 236) (by decide +kernel))) (by decide +kernel)), viX9_times.1, viX9_times.2.1, viX9_times.2.2, ⟨by decide +kernel, by decide +kernel, by decide +kernel⟩, TX9, 25, rfl⟩
theorem lL_33 : VL RL 33 yX8_fold 3 6 := ⟨(gtb_of (tb2 (List.mem_of_getElem? (i := 2) (by decide +kernel))) (by decide +kernel)), viX8_fold.1, viX8_fold.2.1, viX8_fold.2.2, ⟨by decide +kernel, by decide +kernel, by decide +kernel⟩, TX8, 10, rfl⟩
theorem lL_36 : VL RL 36 yX9_fold 3 7 := ⟨(gtb_of (tb4 (List.mem_of_getElem? (i := 4) (by decide +kernel))) (by decide +kernel)), viX9_fold.1, viX9_fold.2.1, viX9_fold.2.2, ⟨by decide +kernel, by decide +kernel, by decide +kernel⟩, TX9, 25, rfl⟩
theorem lL_37 : VL RL 37 yX8_drop 1 6 := ⟨(gtb_of (tb2 (List.mem_of_getElem? (i := 44) (by decide +kernel))) (by decide +kernel)), viX8_drop.1, viX8_drop.2.1, viX8_drop.2.2, ⟨by decide +kernel, by decide +kernel, by decide +kernel⟩, TX8, 10, rfl⟩
theorem lL_41 : VL RL 41 yX9_drop 1 7 := ⟨(gtb_of (tb4 (List.mem_of_getElem? (i := 43) (by decide +kernel))) (by decide +kernel)), viX9_drop.1, viX9_drop.2.1, viX9_drop.2.2, ⟨by decide +kernel, by decide +kernel, by decide +kernel⟩, TX9, 25, rfl⟩
theorem lL_42 : VL RL 42 yX8_exponent 2 6 := ⟨(gtb_of (tb2 (List.mem_of_getElem? (i := 52) (by decide +kernel))) (by decide +kernel)), viX8_exponent.1, viX8_exponent.2.1, viX8_exponent.2.2, ⟨by decide +kernel, by decide +kernel, by decide +kernel⟩, TX8, 10, rfl⟩
theorem lL_46 : VL RL 46 yX9_exponent 2 7 := ⟨(gtb_of (tb4 (List.mem_of_getElem? (i := 47) (by decide +kernel))) (by decide +kernel)), viX9_exponent.1, viX9_exponent.2.1, viX9_exponent.2.2, ⟨by decide +kernel, by decide +kernel, by decide +kernel⟩, TX9, 25, rfl⟩
theorem lL_47 : VL RL 47 yX8_order 2 6 := ⟨(gtb_of (tb2 (List.mem_of_getElem? (i := 67) (by decide +kernel))) (by decide +kernel)), viX8_order.1, viX8_order.2.1, viX8_order.2.2, ⟨by decide +kernel, by decide +kernel, by decide +kernel⟩, TX8, 10, rfl⟩
theorem lL_50 : VL RL 50 yX9_order 2 7 := ⟨(gtb_of (tb4 (List.mem_of_getElem? (i := 55) (by decide +kernel))) (by decide +kernel)), viX9_order.1, viX9_order.2.1, viX9_order.2.2, ⟨by decide +kernel, by decide +kernel, by decide +kernel⟩, TX9, 25, rfl⟩
theorem lL_51 : VL RL 51 yX8_show 1 6 := ⟨(gtb_of (tb2 (List.mem_of_getElem? (i := 75) (by decide +kernel))) (by decide +kernel)), viX8_show.1, viX8_show.2.1, viX8_show.2.2, ⟨by decide +kernel, by decide +kernel, by decide +kernel⟩, TX8, 10, rfl⟩
theorem lL_55 : VL RL 55 yX9_show 1 7 := ⟨(gtb_of (tb4 (List.mem_of_getElem? (i := 63) (by decide +kernel))) (by decide +kernel)), viX9_show.1, viX9_show.2.1, viX9_show.2.2, ⟨by decide +kernel, by decide +kernel, by decide +kernel⟩, TX9, 25, rfl⟩
theorem lL_56 : VL RL 56 yX8_out 1 6 := ⟨(gtb_of (tb2 (List.mem_of_getElem? (i := 88) (by decide +kernel))) (by decide +kernel)), viX8_out.1, viX8_out.2.1, viX8_out.2.2, ⟨by decide +kernel, by decide +kernel, by decide +kernel⟩, TX8, 10, rfl⟩
theorem lL_59 : VL RL 59 yX9_out 1 7 := ⟨(gtb_of (tb4 (List.mem_of_getElem? (i := 76) (by decide +kernel))) (by decide +kernel)), viX9_out.1, viX9_out.2.1, viX9_out.2.2, ⟨by decide +kernel, by decide +kernel, by decide +kernel⟩, TX9, 25, rfl⟩
theorem lL_60 : VL RL 60 yX8_map 2 6 := ⟨(gtb_of (tb2 (List.mem_of_getElem? (i := 92) (by decide +kernel))) (by decide +kernel)), viX8_map.1, viX8_map.2.1, viX8_map.2.2, ⟨by decide +kernel, by decide +kernel, by decide +kernel⟩, TX8, 10, rfl⟩
theorem lL_63 : VL RL 63 yX9_map 2 7 := ⟨(gtb_of (tb4 (List.mem_of_getElem? (i := 80) (by decide +kernel))) (by decide +kernel)), viX9_map.1, viX9_map.2.1, viX9_map.2.2, ⟨by decide +kernel, by decide +kernel, by decide +kernel⟩, TX9, 25, rfl⟩
theorem lL_64 : VL RL 64 yX8_steps 2 6 := ⟨(gtb_of (tb2 (List.mem_of_getElem? (i := 107) (by decide +kernel))) (by decide +kernel)), viX8_steps.1, viX8_steps.2.1, viX8_steps.2.2, ⟨by decide +kernel, by decide +kernel, by decide +kernel⟩, TX8, 10, rfl⟩
theorem lL_67 : VL RL 67 yX9_steps 2 7 := ⟨(gtb_of (tb4 (List.mem_of_getElem? (i := 91) (by decide +kernel))) (by decide +kernel)), viX9_steps.1, viX9_steps.2.1, viX9_steps.2.2, ⟨by decide +kernel, by decide +kernel, by decide +kernel⟩, TX9, 25, rfl⟩
theorem lL_68 : VL RL 68 yX8_comma 1 6 := ⟨(gtb_of (tb2 (List.mem_of_getElem? (i := 115) (by decide +kernel))) (by decide +kernel)), viX8_comma.1, viX8_comma.2.1, viX8_comma.2.2, ⟨by decide +kernel, by decide +kernel, by decide +kernel⟩, TX8, 10, rfl⟩
theorem lL_71 : VL RL 71 yX9_comma 1 7 := ⟨(gtb_of (tb4 (List.mem_of_getElem? (i := 99) (by decide +kernel))) (by decide +kernel)), viX9_comma.1, viX9_comma.2.1, viX9_comma.2.2, ⟨by decide +kernel, by decide +kernel, by decide +kernel⟩, TX9, 25, rfl⟩
theorem lL_72 : VL RL 72 yX8_clear 0 6 := ⟨(gtb_of (tb2 (List.mem_of_getElem? (i := 128) (by decide +kernel))) (by decide +kernel)), viX8_clear.1, viX8_clear.2.1, viX8_clear.2.2, ⟨by decide +kernel, by decide +kernel, by decide +kernel⟩, TX8, 10, rfl⟩
theorem lL_75 : VL RL 75 yX9_clear 0 7 := ⟨(gtb_of (tb4 (List.mem_of_getElem? (i := 103) (by decide +kernel))) (by decide +kernel)), viX9_clear.1, viX9_clear.2.1, viX9_clear.2.2, ⟨by decide +kernel, by decide +kernel, by decide +kernel⟩, TX9, 25, rfl⟩
theorem lL_76 : VL RL 76 yX8_rank 0 6 := ⟨(gtb_of (tb2 (List.mem_of_getElem? (i := 132) (by decide +kernel))) (by decide +kernel)), viX8_rank.1, viX8_rank.2.1, viX8_rank.2.2, ⟨by decide +kernel, by decide +kernel, by decide +kernel⟩, TX8, 10, rfl⟩
theorem lL_79 : VL RL 79 yX9_rank 0 7 := ⟨(gtb_of (tb4 (List.mem_of_getElem? (i := 107) (by decide +kernel))) (by decide +kernel)), viX9_rank.1, viX9_rank.2.1, viX9_rank.2.2, ⟨by decide +kernel, by decide +kernel, by decide +kernel⟩, TX9, 25, rfl⟩
theorem lL_80 : VL RL 80 yX8_twist 0 6 := ⟨(gtb_of (tb2 (List.mem_of_getElem? (i := 156) (by decide +kernel))) (by decide +kernel)), viX8_twist.1, viX8_twist.2.1, viX8_twist.2.2, ⟨by decide +kernel, by decide +kernel, by decide +kernel⟩, TX8, 10, rfl⟩
theorem lL_84 : VL RL 84 yX9_twist 0 7 := ⟨(gtb_of (tb4 (List.mem_of_getElem? (i := 123) (by decide +kernel))) (by decide +kernel)), viX9_twist.1, viX9_twist.2.1, viX9_twist.2.2, ⟨by decide +kernel, by decide +kernel, by decide +kernel⟩, TX9, 25, rfl⟩
theorem lL_85 : VL RL 85 yX8_vanishes 1 6 := ⟨(gtb_of (tb2 (List.mem_of_getElem? (i := 177) (by decide +kernel))) (by decide +kernel)), viX8_vanishes.1, viX8_vanishes.2.1, viX8_vanishes.2.2, ⟨by decide +kernel, by decide +kernel, by decide +kernel⟩, TX8, 10, rfl⟩
theorem lL_88 : VL RL 88 yX9_vanishes 1 7 := ⟨(gtb_of (tb4 (List.mem_of_getElem? (i := 134) (by decide +kernel))) (by decide +kernel)), viX9_vanishes.1, viX9_vanishes.2.1, viX9_vanishes.2.2, ⟨by decide +kernel, by decide +kernel, by decide +kernel⟩, TX9, 25, rfl⟩
theorem lL_89 : VL RL 89 yX8_supports 1 6 := ⟨(gtb_of (tb2 (List.mem_of_getElem? (i := 185) (by decide +kernel))) (by decide +kernel)), viX8_supports.1, viX8_supports.2.1, viX8_supports.2.2, ⟨by decide +kernel, by decide +kernel, by decide +kernel⟩, TX8, 10, rfl⟩
theorem lL_92 : VL RL 92 yX9_supports 1 7 := ⟨(gtb_of (tb4 (List.mem_of_getElem? (i := 138) (by decide +kernel))) (by decide +kernel)), viX9_supports.1, viX9_supports.2.1, viX9_supports.2.2, ⟨by decide +kernel, by decide +kernel, by decide +kernel⟩, TX9, 25, rfl⟩
theorem lL_93 : VL RL 93 yX8_begin 1 6 := ⟨(gtb_of (tb2 (List.mem_of_getElem? (i := 198) (by decide +kernel))) (by decide +kernel)), viX8_begin.1, viX8_begin.2.1, viX8_begin.2.2, ⟨by decide +kernel, by decide +kernel, by decide +kernel⟩, TX8, 10, rfl⟩
theorem lL_96 : VL RL 96 yX9_begin 1 7 := ⟨(gtb_of (tb4 (List.mem_of_getElem? (i := 142) (by decide +kernel))) (by decide +kernel)), viX9_begin.1, viX9_begin.2.1, viX9_begin.2.2, ⟨by decide +kernel, by decide +kernel, by decide +kernel⟩, TX9, 25, rfl⟩
theorem lL_97 : VL RL 97 yX8_note 1 6 := ⟨(gtb_of (tb2 (List.mem_of_getElem? (i := 214) (by decide +kernel))) (by decide +kernel)), viX8_note.1, viX8_note.2.1, viX8_note.2.2, ⟨by decide +kernel, by decide +kernel, by decide +kernel⟩, TX8, 10, rfl⟩
theorem lL_100 : VL RL 100 yX9_note 1 7 := ⟨(gtb_of (tb4 (List.mem_of_getElem? (i := 146) (by decide +kernel))) (by decide +kernel)), viX9_note.1, viX9_note.2.1, viX9_note.2.2, ⟨by decide +kernel, by decide +kernel, by decide +kernel⟩, TX9, 25, rfl⟩
theorem lL_101 : VL RL 101 yX8_lay 3 6 := ⟨(gtb_of (tb3 (List.mem_of_getElem? (i := 3) (by decide +kernel))) (by decide +kernel)), viX8_lay.1, viX8_lay.2.1, viX8_lay.2.2, ⟨by decide +kernel, by decide +kernel, by decide +kernel⟩, TX8, 10, rfl⟩
theorem lL_104 : VL RL 104 yX9_lay 3 7 := ⟨(gtb_of (tb4 (List.mem_of_getElem? (i := 158) (by decide +kernel))) (by decide +kernel)), viX9_lay.1, viX9_lay.2.1, viX9_lay.2.2, ⟨by decide +kernel, by decide +kernel, by decide +kernel⟩, TX9, 25, rfl⟩
theorem lL_105 : VL RL 105 yX8_take 2 6 := ⟨(gtb_of (tb3 (List.mem_of_getElem? (i := 20) (by decide +kernel))) (by decide +kernel)), viX8_take.1, viX8_take.2.1, viX8_take.2.2, ⟨by decide +kernel, by decide +kernel, by decide +kernel⟩, TX8, 10, rfl⟩
theorem lL_109 : VL RL 109 yX9_take 2 7 := ⟨(gtb_of (tb4 (List.mem_of_getElem? (i := 162) (by decide +kernel))) (by decide +kernel)), viX9_take.1, viX9_take.2.1, viX9_take.2.2, ⟨by decide +kernel, by decide +kernel, by decide +kernel⟩, TX9, 25, rfl⟩
theorem lL_110 : VL RL 110 yX8_scale 1 6 := ⟨(gtb_of (tb3 (List.mem_of_getElem? (i := 28) (by decide +kernel))) (by decide +kernel)), viX8_scale.1, viX8_scale.2.1, viX8_scale.2.2, ⟨by decide +kernel, by decide +kernel, by decide +kernel⟩, TX8, 10, rfl⟩
theorem lL_113 : VL RL 113 yX9_scale 1 7 := ⟨(gtb_of (tb4 (List.mem_of_getElem? (i := 170) (by decide +kernel))) (by decide +kernel)), viX9_scale.1, viX9_scale.2.1, viX9_scale.2.2, ⟨by decide +kernel, by decide +kernel, by decide +kernel⟩, TX9, 25, rfl⟩
theorem lL_114 : VL RL 114 yX8_kinds 1 6 := ⟨(gtb_of (tb3 (List.mem_of_getElem? (i := 63) (by decide +kernel))) (by decide +kernel)), viX8_kinds.1, viX8_kinds.2.1, viX8_kinds.2.2, ⟨by decide +kernel, by decide +kernel, by decide +kernel⟩, TX8, 10, rfl⟩
theorem lL_117 : VL RL 117 yX9_kinds 1 7 := ⟨(gtb_of (tb4 (List.mem_of_getElem? (i := 186) (by decide +kernel))) (by decide +kernel)), viX9_kinds.1, viX9_kinds.2.1, viX9_kinds.2.2, ⟨by decide +kernel, by decide +kernel, by decide +kernel⟩, TX9, 25, rfl⟩
theorem lL_118 : VL RL 118 yX8_step 3 6 := ⟨(gtb_of (tb3 (List.mem_of_getElem? (i := 68) (by decide +kernel))) (by decide +kernel)), viX8_step.1, viX8_step.2.1, viX8_step.2.2, ⟨by decide +kernel, by decide +kernel, by decide +kernel⟩, TX8, 10, rfl⟩
theorem lL_122 : VL RL 122 yX9_step 3 7 := ⟨(gtb_of (tb4 (List.mem_of_getElem? (i := 190) (by decide +kernel))) (by decide +kernel)), viX9_step.1, viX9_step.2.1, viX9_step.2.2, ⟨by decide +kernel, by decide +kernel, by decide +kernel⟩, TX9, 25, rfl⟩
theorem lL_123 : VL RL 123 yX8_mode 1 6 := ⟨(gtb_of (tb3 (List.mem_of_getElem? (i := 80) (by decide +kernel))) (by decide +kernel)), viX8_mode.1, viX8_mode.2.1, viX8_mode.2.2, ⟨by decide +kernel, by decide +kernel, by decide +kernel⟩, TX8, 10, rfl⟩
theorem lL_126 : VL RL 126 yX9_mode 1 7 := ⟨(gtb_of (tb4 (List.mem_of_getElem? (i := 194) (by decide +kernel))) (by decide +kernel)), viX9_mode.1, viX9_mode.2.1, viX9_mode.2.2, ⟨by decide +kernel, by decide +kernel, by decide +kernel⟩, TX9, 25, rfl⟩
theorem lL_127 : VL RL 127 yX8_follows 1 6 := ⟨(gtb_of (tb3 (List.mem_of_getElem? (i := 89) (by decide +kernel))) (by decide +kernel)), viX8_follows.1, viX8_follows.2.1, viX8_follows.2.2, ⟨by decide +kernel, by decide +kernel, by decide +kernel⟩, TX8, 10, rfl⟩
theorem lL_130 : VL RL 130 yX9_follows 1 7 := ⟨(gtb_of (tb4 (List.mem_of_getElem? (i := 198) (by decide +kernel))) (by decide +kernel)), viX9_follows.1, viX9_follows.2.1, viX9_follows.2.2, ⟨by decide +kernel, by decide +kernel, by decide +kernel⟩, TX9, 25, rfl⟩
theorem lL_131 : VL RL 131 yX8_quotient 3 6 := ⟨(gtb_of (tb3 (List.mem_of_getElem? (i := 98) (by decide +kernel))) (by decide +kernel)), viX8_quotient.1, viX8_quotient.2.1, viX8_quotient.2.2, ⟨by decide +kernel, by decide +kernel, by decide +kernel⟩, TX8, 10, rfl⟩
theorem lL_134 : VL RL 134 yX9_quotient 3 7 := ⟨(gtb_of (tb4 (List.mem_of_getElem? (i := 202) (by decide +kernel))) (by decide +kernel)), viX9_quotient.1, viX9_quotient.2.1, viX9_quotient.2.2, ⟨by decide +kernel, by decide +kernel, by decide +kernel⟩, TX9, 25, rfl⟩
theorem lX0_29 : SL RX0 29 yX5_copy 2 := ⟨Or.inl (gtb_of (tb2 (List.mem_of_getElem? (i := 127) (by decide +kernel))) (by decide +kernel)), stX5_copy.1, stX5_copy.2, ⟨by decide +kernel, by decide +kernel, by decide +kernel⟩⟩
theorem lX0_35 : VL RX0 35 yX0_fillTable 0 0 := ⟨(gtb_of (tb2 (List.mem_of_getElem? (i := 140) (by decide +kernel))) (by decide +kernel)), viX0_fillTable.1, viX0_fillTable.2.1, viX0_fillTable.2.2, ⟨by decide +kernel, by decide +kernel, by decide +kernel⟩, TX0, 4, rfl⟩
theorem lX0_38 : VL RX0 38 yX0_eliminate 2 0 := ⟨(gtb_of (tb2 (List.mem_of_getElem? (i := 144) (by decide +kernel))) (by decide +kernel)), viX0_eliminate.1, viX0_eliminate.2.1, viX0_eliminate.2.2, ⟨by decide +kernel, by decide +kernel, by decide +kernel⟩, TX0, 4, rfl⟩
theorem lX0_42 : VL RX0 42 yX0_findRank 0 0 := ⟨(gtb_of (tb2 (List.mem_of_getElem? (i := 164) (by decide +kernel))) (by decide +kernel)), viX0_findRank.1, viX0_findRank.2.1, viX0_findRank.2.2, ⟨by decide +kernel, by decide +kernel, by decide +kernel⟩, TX0, 4, rfl⟩
theorem lX0_46 : SL RX0 46 yJ6_bitCount_0f7a4 1 := ⟨Or.inl (gtb_of (tb2 (List.mem_of_getElem? (i := 165) (by decide +kernel))) (by decide +kernel)), stJ6_bitCount_0f7a4.1, stJ6_bitCount_0f7a4.2, ⟨by decide +kernel, by decide +kernel, by decide +kernel⟩⟩
theorem lX0_52 : VL RX0 52 yX0_determinant 3 0 := ⟨(gtb_of (tb2 (List.mem_of_getElem? (i := 171) (by decide +kernel))) (by decide +kernel)), viX0_determinant.1, viX0_determinant.2.1, viX0_determinant.2.2, ⟨by decide +kernel, by decide +kernel, by decide +kernel⟩, TX0, 4, rfl⟩
theorem lX0_56 : SL RX0 56 yX5_commonDivisor 2 := ⟨Or.inl (gtb_of (tb2 (List.mem_of_getElem? (i := 176) (by decide +kernel))) (by decide +kernel)), stX5_commonDivisor.1, stX5_commonDivisor.2, ⟨by decide +kernel, by decide +kernel, by decide +kernel⟩⟩
theorem lX0_62 : VL RX0 62 yX0_isSupportedBy 1 0 := ⟨(gtb_of (tb2 (List.mem_of_getElem? (i := 193) (by decide +kernel))) (by decide +kernel)), viX0_isSupportedBy.1, viX0_isSupportedBy.2.1, viX0_isSupportedBy.2.2, ⟨by decide +kernel, by decide +kernel, by decide +kernel⟩, TX0, 4, rfl⟩
theorem lX0_66 : SL RX0 66 yX1_stepsOf 2 := ⟨Or.inl (gtb_of (tb2 (List.mem_of_getElem? (i := 197) (by decide +kernel))) (by decide +kernel)), stX1_stepsOf.1, stX1_stepsOf.2, ⟨by decide +kernel, by decide +kernel, by decide +kernel⟩⟩
theorem lX0_70 : SL RX0 70 yJ9_abs_067f4 1 := ⟨Or.inl (gtb_of (tb2 (List.mem_of_getElem? (i := 175) (by decide +kernel))) (by decide +kernel)), stJ9_abs_067f4.1, stJ9_abs_067f4.2, ⟨by decide +kernel, by decide +kernel, by decide +kernel⟩⟩
theorem lX0_76 : VL RX0 76 yX0_raisePivot 3 0 := ⟨(gtb_of (tb2 (List.mem_of_getElem? (i := 148) (by decide +kernel))) (by decide +kernel)), viX0_raisePivot.1, viX0_raisePivot.2.1, viX0_raisePivot.2.2, ⟨by decide +kernel, by decide +kernel, by decide +kernel⟩, TX0, 4, rfl⟩
theorem lX0_80 : VL RX0 80 yX0_reduceLine 4 0 := ⟨(gtb_of (tb2 (List.mem_of_getElem? (i := 152) (by decide +kernel))) (by decide +kernel)), viX0_reduceLine.1, viX0_reduceLine.2.1, viX0_reduceLine.2.2, ⟨by decide +kernel, by decide +kernel, by decide +kernel⟩, TX0, 4, rfl⟩
theorem lX1_11 : SL RX1 11 yX8_isPrimeNumber 1 := ⟨Or.inr ⟨_, (by decide +kernel : Cond.methodLinkNest RX1 11 yX8_isPrimeNumber "TuneBench" ∈ nsts)⟩, stX8_isPrimeNumber.1, stX8_isPrimeNumber.2, ⟨by decide +kernel, by decide +kernel, by decide +kernel⟩⟩
theorem lX1_23 : SL RX1 23 yX1_nearest 2 := ⟨Or.inl (gtb_of (tb2 (List.mem_of_getElem? (i := 114) (by decide +kernel))) (by decide +kernel)), stX1_nearest.1, stX1_nearest.2, ⟨by decide +kernel, by decide +kernel, by decide +kernel⟩⟩
theorem lX2_25 : SL RX2 25 yX5_copy 2 := ⟨Or.inl (gtb_of (tb3 (List.mem_of_getElem? (i := 106) (by decide +kernel))) (by decide +kernel)), stX5_copy.1, stX5_copy.2, ⟨by decide +kernel, by decide +kernel, by decide +kernel⟩⟩
theorem lX2_31 : VL RX2 31 yX2_firstBelowOne 0 1 := ⟨(gtb_of (tb3 (List.mem_of_getElem? (i := 107) (by decide +kernel))) (by decide +kernel)), viX2_firstBelowOne.1, viX2_firstBelowOne.2.1, viX2_firstBelowOne.2.2, ⟨by decide +kernel, by decide +kernel, by decide +kernel⟩, TX2, 4, rfl⟩
theorem lX2_35 : SL RX2 35 yX5_combine 4 := ⟨Or.inl (gtb_of (tb3 (List.mem_of_getElem? (i := 115) (by decide +kernel))) (by decide +kernel)), stX5_combine.1, stX5_combine.2, ⟨by decide +kernel, by decide +kernel, by decide +kernel⟩⟩
theorem lX2_39 : SL RX2 39 yX5_isOne 1 := ⟨Or.inl (gtb_of (tb3 (List.mem_of_getElem? (i := 118) (by decide +kernel))) (by decide +kernel)), stX5_isOne.1, stX5_isOne.2, ⟨by decide +kernel, by decide +kernel, by decide +kernel⟩⟩
theorem lX2_43 : VL RX2 43 yX2_stays 1 1 := ⟨(gtb_of (tb3 (List.mem_of_getElem? (i := 111) (by decide +kernel))) (by decide +kernel)), viX2_stays.1, viX2_stays.2.1, viX2_stays.2.2, ⟨by decide +kernel, by decide +kernel, by decide +kernel⟩, TX2, 4, rfl⟩
theorem lX2_47 : SL RX2 47 yX5_isWithin 2 := ⟨Or.inl (gtb_of (tb3 (List.mem_of_getElem? (i := 116) (by decide +kernel))) (by decide +kernel)), stX5_isWithin.1, stX5_isWithin.2, ⟨by decide +kernel, by decide +kernel, by decide +kernel⟩⟩
theorem lX2_51 : VL RX2 51 yX7_sign 1 5 := ⟨(gtb_of (tb3 (List.mem_of_getElem? (i := 117) (by decide +kernel))) (by decide +kernel)), viX7_sign.1, viX7_sign.2.1, viX7_sign.2.2, ⟨by decide +kernel, by decide +kernel, by decide +kernel⟩, TX7, 3, rfl⟩
theorem lX3_25 : VL RX3 25 yX3_settle 0 2 := ⟨(gtb_of (tb2 (List.mem_of_getElem? (i := 15) (by decide +kernel))) (by decide +kernel)), viX3_settle.1, viX3_settle.2.1, viX3_settle.2.2, ⟨by decide +kernel, by decide +kernel, by decide +kernel⟩, TX3, 3, rfl⟩
theorem lX4_20 : SL RX4 20 yX5_makeOne 1 := ⟨Or.inl (gtb_of (tb2 (List.mem_of_getElem? (i := 211) (by decide +kernel))) (by decide +kernel)), stX5_makeOne.1, stX5_makeOne.2, ⟨by decide +kernel, by decide +kernel, by decide +kernel⟩⟩
theorem lX4_26 : SL RX4 26 yX5_isSame 2 := ⟨Or.inl (gtb_of (tb2 (List.mem_of_getElem? (i := 226) (by decide +kernel))) (by decide +kernel)), stX5_isSame.1, stX5_isSame.2, ⟨by decide +kernel, by decide +kernel, by decide +kernel⟩⟩
theorem lX4_30 : SL RX4 30 yX5_copy 2 := ⟨Or.inl (gtb_of (tb3 (List.mem_of_getElem? (i := 2) (by decide +kernel))) (by decide +kernel)), stX5_copy.1, stX5_copy.2, ⟨by decide +kernel, by decide +kernel, by decide +kernel⟩⟩
theorem lX4_34 : VL RX4 34 yX7_compareSizes 2 5 := ⟨(gtb_of (tb2 (List.mem_of_getElem? (i := 237) (by decide +kernel))) (by decide +kernel)), viX7_compareSizes.1, viX7_compareSizes.2.1, viX7_compareSizes.2.2, ⟨by decide +kernel, by decide +kernel, by decide +kernel⟩, TX7, 3, rfl⟩
theorem lX5_15 : SL RX5 15 yX5_isWithin 2 := ⟨Or.inl (gtb_of (tb2 (List.mem_of_getElem? (i := 122) (by decide +kernel))) (by decide +kernel)), stX5_isWithin.1, stX5_isWithin.2, ⟨by decide +kernel, by decide +kernel, by decide +kernel⟩⟩
theorem lX5_21 : SL RX5 21 yX5_commonDivisor 2 := ⟨Or.inl (gtb_of (tb1 (List.mem_of_getElem? (i := 227) (by decide +kernel))) (by decide +kernel)), stX5_commonDivisor.1, stX5_commonDivisor.2, ⟨by decide +kernel, by decide +kernel, by decide +kernel⟩⟩
theorem lX5_29 : SL RX5 29 yJ9_abs_067f4 1 := ⟨Or.inl (gtb_of (tb1 (List.mem_of_getElem? (i := 230) (by decide +kernel))) (by decide +kernel)), stJ9_abs_067f4.1, stJ9_abs_067f4.2, ⟨by decide +kernel, by decide +kernel, by decide +kernel⟩⟩
theorem lX6_50 : SL RX6 50 yX5_copy 2 := ⟨Or.inl (gtb_of (tb2 (List.mem_of_getElem? (i := 206) (by decide +kernel))) (by decide +kernel)), stX5_copy.1, stX5_copy.2, ⟨by decide +kernel, by decide +kernel, by decide +kernel⟩⟩
theorem lX6_56 : VL RX6 56 yX4_restart 0 3 := ⟨(gtb_of (tb2 (List.mem_of_getElem? (i := 207) (by decide +kernel))) (by decide +kernel)), viX4_restart.1, viX4_restart.2.1, viX4_restart.2.2, ⟨by decide +kernel, by decide +kernel, by decide +kernel⟩, TX4, 2, rfl⟩
theorem lX6_59 : SL RX6 59 yX5_combine 4 := ⟨Or.inl (gtb_of (tb3 (List.mem_of_getElem? (i := 11) (by decide +kernel))) (by decide +kernel)), stX5_combine.1, stX5_combine.2, ⟨by decide +kernel, by decide +kernel, by decide +kernel⟩⟩
theorem lX6_63 : VL RX6 63 yX7_foldInto 3 5 := ⟨(gtb_of (tb3 (List.mem_of_getElem? (i := 12) (by decide +kernel))) (by decide +kernel)), viX7_foldInto.1, viX7_foldInto.2.1, viX7_foldInto.2.2, ⟨by decide +kernel, by decide +kernel, by decide +kernel⟩, TX7, 3, rfl⟩
theorem lX6_69 : VL RX6 69 yX4_has 1 3 := ⟨(gtb_of (tb3 (List.mem_of_getElem? (i := 13) (by decide +kernel))) (by decide +kernel)), viX4_has.1, viX4_has.2.1, viX4_has.2.2, ⟨by decide +kernel, by decide +kernel, by decide +kernel⟩, TX4, 2, rfl⟩
theorem lX6_73 : VL RX6 73 yX4_placeOf 2 3 := ⟨(gtb_of (tb3 (List.mem_of_getElem? (i := 14) (by decide +kernel))) (by decide +kernel)), viX4_placeOf.1, viX4_placeOf.2.1, viX4_placeOf.2.2, ⟨by decide +kernel, by decide +kernel, by decide +kernel⟩, TX4, 2, rfl⟩
theorem lX6_77 : VL RX6 77 yX4_insert 2 3 := ⟨(gtb_of (tb3 (List.mem_of_getElem? (i := 15) (by decide +kernel))) (by decide +kernel)), viX4_insert.1, viX4_insert.2.1, viX4_insert.2.2, ⟨by decide +kernel, by decide +kernel, by decide +kernel⟩, TX4, 2, rfl⟩
theorem lX6_81 : VL RX6 81 yX6_takeComing 0 4 := ⟨(gtb_of (tb3 (List.mem_of_getElem? (i := 16) (by decide +kernel))) (by decide +kernel)), viX6_takeComing.1, viX6_takeComing.2.1, viX6_takeComing.2.2, ⟨by decide +kernel, by decide +kernel, by decide +kernel⟩, TX6, 9, rfl⟩
theorem lX6_87 : VL RX6 87 yX6_readStep 3 4 := ⟨(gtb_of (tb3 (List.mem_of_getElem? (i := 40) (by decide +kernel))) (by decide +kernel)), viX6_readStep.1, viX6_readStep.2.1, viX6_readStep.2.2, ⟨by decide +kernel, by decide +kernel, by decide +kernel⟩, TX6, 9, rfl⟩
theorem lX6_91 : SL RX6 91 yX5_isWithin 2 := ⟨Or.inl (gtb_of (tb3 (List.mem_of_getElem? (i := 88) (by decide +kernel))) (by decide +kernel)), stX5_isWithin.1, stX5_isWithin.2, ⟨by decide +kernel, by decide +kernel, by decide +kernel⟩⟩
theorem lX6_95 : VL RX6 95 yX6_readNote 2 4 := ⟨(gtb_of (tb3 (List.mem_of_getElem? (i := 44) (by decide +kernel))) (by decide +kernel)), viX6_readNote.1, viX6_readNote.2.1, viX6_readNote.2.2, ⟨by decide +kernel, by decide +kernel, by decide +kernel⟩, TX6, 9, rfl⟩
theorem lX6_99 : SL RX6 99 yX5_isSame 2 := ⟨Or.inl (gtb_of (tb3 (List.mem_of_getElem? (i := 45) (by decide +kernel))) (by decide +kernel)), stX5_isSame.1, stX5_isSame.2, ⟨by decide +kernel, by decide +kernel, by decide +kernel⟩⟩
theorem lX6_103 : VL RX6 103 yX7_compareSizes 2 5 := ⟨(gtb_of (tb3 (List.mem_of_getElem? (i := 58) (by decide +kernel))) (by decide +kernel)), viX7_compareSizes.1, viX7_compareSizes.2.1, viX7_compareSizes.2.2, ⟨by decide +kernel, by decide +kernel, by decide +kernel⟩, TX7, 3, rfl⟩
theorem lX6_107 : VL RX6 107 yX6_swapKinds 2 4 := ⟨(gtb_of (tb3 (List.mem_of_getElem? (i := 76) (by decide +kernel))) (by decide +kernel)), viX6_swapKinds.1, viX6_swapKinds.2.1, viX6_swapKinds.2.2, ⟨by decide +kernel, by decide +kernel, by decide +kernel⟩, TX6, 9, rfl⟩
theorem lX6_111 : VL RX6 111 yX6_gatherKinds 1 4 := ⟨(gtb_of (tb3 (List.mem_of_getElem? (i := 36) (by decide +kernel))) (by decide +kernel)), viX6_gatherKinds.1, viX6_gatherKinds.2.1, viX6_gatherKinds.2.2, ⟨by decide +kernel, by decide +kernel, by decide +kernel⟩, TX6, 9, rfl⟩
theorem lX6_115 : VL RX6 115 yX6_allReach 2 4 := ⟨(gtb_of (tb3 (List.mem_of_getElem? (i := 54) (by decide +kernel))) (by decide +kernel)), viX6_allReach.1, viX6_allReach.2.1, viX6_allReach.2.2, ⟨by decide +kernel, by decide +kernel, by decide +kernel⟩, TX6, 9, rfl⟩
theorem lX6_119 : VL RX6 119 yX6_findHighest 1 4 := ⟨(gtb_of (tb3 (List.mem_of_getElem? (i := 59) (by decide +kernel))) (by decide +kernel)), viX6_findHighest.1, viX6_findHighest.2.1, viX6_findHighest.2.2, ⟨by decide +kernel, by decide +kernel, by decide +kernel⟩, TX6, 9, rfl⟩
theorem lX6_123 : SL RX6 123 yX1_stepsOf 2 := ⟨Or.inl (gtb_of (tb3 (List.mem_of_getElem? (i := 97) (by decide +kernel))) (by decide +kernel)), stX1_stepsOf.1, stX1_stepsOf.2, ⟨by decide +kernel, by decide +kernel, by decide +kernel⟩⟩
theorem lX7_25 : VL RX7 25 yX3_build 2 2 := ⟨(gtb_of (tb2 (List.mem_of_getElem? (i := 10) (by decide +kernel))) (by decide +kernel)), viX3_build.1, viX3_build.2.1, viX3_build.2.2, ⟨by decide +kernel, by decide +kernel, by decide +kernel⟩, TX3, 3, rfl⟩
theorem lX7_29 : VL RX7 29 yX3_against 1 2 := ⟨(gtb_of (tb2 (List.mem_of_getElem? (i := 21) (by decide +kernel))) (by decide +kernel)), viX3_against.1, viX3_against.2.1, viX3_against.2.2, ⟨by decide +kernel, by decide +kernel, by decide +kernel⟩, TX3, 3, rfl⟩
theorem lX7_33 : SL RX7 33 yX5_combine 4 := ⟨Or.inl (gtb_of (tb2 (List.mem_of_getElem? (i := 42) (by decide +kernel))) (by decide +kernel)), stX5_combine.1, stX5_combine.2, ⟨by decide +kernel, by decide +kernel, by decide +kernel⟩⟩
theorem lX7_39 : VL RX7 39 yX7_sign 1 5 := ⟨(gtb_of (tb2 (List.mem_of_getElem? (i := 43) (by decide +kernel))) (by decide +kernel)), viX7_sign.1, viX7_sign.2.1, viX7_sign.2.2, ⟨by decide +kernel, by decide +kernel, by decide +kernel⟩, TX7, 3, rfl⟩
theorem lX7_43 : VL RX7 43 yX3_write 2 2 := ⟨(gtb_of (tb2 (List.mem_of_getElem? (i := 83) (by decide +kernel))) (by decide +kernel)), viX3_write.1, viX3_write.2.1, viX3_write.2.2, ⟨by decide +kernel, by decide +kernel, by decide +kernel⟩, TX3, 3, rfl⟩
theorem lX7_47 : SL RX7 47 yJ9_floorDiv_7cf53 2 := ⟨Or.inl (gtb_of (tb2 (List.mem_of_getElem? (i := 29) (by decide +kernel))) (by decide +kernel)), stJ9_floorDiv_7cf53.1, stJ9_floorDiv_7cf53.2, ⟨by decide +kernel, by decide +kernel, by decide +kernel⟩⟩
theorem lX7_53 : SL RX7 53 yJ9_max_7cf53 2 := ⟨Or.inl (gtb_of (tb2 (List.mem_of_getElem? (i := 32) (by decide +kernel))) (by decide +kernel)), stJ9_max_7cf53.1, stJ9_max_7cf53.2, ⟨by decide +kernel, by decide +kernel, by decide +kernel⟩⟩
theorem lX7_56 : SL RX7 56 yJ9_min_7cf53 2 := ⟨Or.inl (gtb_of (tb2 (List.mem_of_getElem? (i := 35) (by decide +kernel))) (by decide +kernel)), stJ9_min_7cf53.1, stJ9_min_7cf53.2, ⟨by decide +kernel, by decide +kernel, by decide +kernel⟩⟩
theorem lX7_59 : VL RX7 59 yX7_foldBetween 5 5 := ⟨(gtb_of (tb2 (List.mem_of_getElem? (i := 38) (by decide +kernel))) (by decide +kernel)), viX7_foldBetween.1, viX7_foldBetween.2.1, viX7_foldBetween.2.2, ⟨by decide +kernel, by decide +kernel, by decide +kernel⟩, TX7, 3, rfl⟩
theorem lX8_63 : SL RX8 63 yX8_isShelf 1 := ⟨Or.inl (gtb_of (tb1 (List.mem_of_getElem? (i := 195) (by decide +kernel))) (by decide +kernel)), stX8_isShelf.1, stX8_isShelf.2, ⟨by decide +kernel, by decide +kernel, by decide +kernel⟩⟩
theorem lX8_67 : VL RX8 67 yX8_refuse 1 6 := ⟨(gtb_of (tb1 (List.mem_of_getElem? (i := 198) (by decide +kernel))) (by decide +kernel)), viX8_refuse.1, viX8_refuse.2.1, viX8_refuse.2.2, ⟨by decide +kernel, by decide +kernel, by decide +kernel⟩, TX8, 10, rfl⟩
theorem lX8_70 : VL RX8 70 yX8_putMade 1 6 := ⟨(gtb_of (tb1 (List.mem_of_getElem? (i := 202) (by decide +kernel))) (by decide +kernel)), viX8_putMade.1, viX8_putMade.2.1, viX8_putMade.2.2, ⟨by decide +kernel, by decide +kernel, by decide +kernel⟩, TX8, 10, rfl⟩
theorem lX8_74 : SL RX8 74 yX5_factor 3 := ⟨Or.inl (gtb_of (tb1 (List.mem_of_getElem? (i := 224) (by decide +kernel))) (by decide +kernel)), stX5_factor.1, stX5_factor.2, ⟨by decide +kernel, by decide +kernel, by decide +kernel⟩⟩
theorem lX8_80 : SL RX8 80 yX5_combine 4 := ⟨Or.inl (gtb_of (tb1 (List.mem_of_getElem? (i := 239) (by decide +kernel))) (by decide +kernel)), stX5_combine.1, stX5_combine.2, ⟨by decide +kernel, by decide +kernel, by decide +kernel⟩⟩
theorem lX8_84 : VL RX8 84 yX7_sign 1 5 := ⟨(gtb_of (tb2 (List.mem_of_getElem? (i := 6) (by decide +kernel))) (by decide +kernel)), viX7_sign.1, viX7_sign.2.1, viX7_sign.2.2, ⟨by decide +kernel, by decide +kernel, by decide +kernel⟩, TX7, 3, rfl⟩
theorem lX8_88 : VL RX8 88 yX7_foldInto 3 5 := ⟨(gtb_of (tb2 (List.mem_of_getElem? (i := 25) (by decide +kernel))) (by decide +kernel)), viX7_foldInto.1, viX7_foldInto.2.1, viX7_foldInto.2.2, ⟨by decide +kernel, by decide +kernel, by decide +kernel⟩, TX7, 3, rfl⟩
theorem lX8_92 : VL RX8 92 yX8_faultOf 1 6 := ⟨(gtb_of (tb2 (List.mem_of_getElem? (i := 48) (by decide +kernel))) (by decide +kernel)), viX8_faultOf.1, viX8_faultOf.2.1, viX8_faultOf.2.2, ⟨by decide +kernel, by decide +kernel, by decide +kernel⟩, TX8, 10, rfl⟩
theorem lX8_96 : VL RX8 96 yX8_accept 0 6 := ⟨(gtb_of (tb1 (List.mem_of_getElem? (i := 215) (by decide +kernel))) (by decide +kernel)), viX8_accept.1, viX8_accept.2.1, viX8_accept.2.2, ⟨by decide +kernel, by decide +kernel, by decide +kernel⟩, TX8, 10, rfl⟩
theorem lX8_100 : VL RX8 100 yX8_none 1 6 := ⟨(gtb_of (tb2 (List.mem_of_getElem? (i := 56) (by decide +kernel))) (by decide +kernel)), viX8_none.1, viX8_none.2.1, viX8_none.2.2, ⟨by decide +kernel, by decide +kernel, by decide +kernel⟩, TX8, 10, rfl⟩
theorem lX8_103 : SL RX8 103 yX8_isPrimeNumber 1 := ⟨Or.inl (gtb_of (tb2 (List.mem_of_getElem? (i := 60) (by decide +kernel))) (by decide +kernel)), stX8_isPrimeNumber.1, stX8_isPrimeNumber.2, ⟨by decide +kernel, by decide +kernel, by decide +kernel⟩⟩
theorem lX8_106 : VL RX8 106 yX8_answer 1 6 := ⟨(gtb_of (tb2 (List.mem_of_getElem? (i := 63) (by decide +kernel))) (by decide +kernel)), viX8_answer.1, viX8_answer.2.1, viX8_answer.2.2, ⟨by decide +kernel, by decide +kernel, by decide +kernel⟩, TX8, 10, rfl⟩
theorem lX8_109 : VL RX8 109 yX7_compareSizes 2 5 := ⟨(gtb_of (tb2 (List.mem_of_getElem? (i := 71) (by decide +kernel))) (by decide +kernel)), viX7_compareSizes.1, viX7_compareSizes.2.1, viX7_compareSizes.2.2, ⟨by decide +kernel, by decide +kernel, by decide +kernel⟩, TX7, 3, rfl⟩
theorem lX8_113 : VL RX8 113 yX7_writeRatio 2 5 := ⟨(gtb_of (tb2 (List.mem_of_getElem? (i := 79) (by decide +kernel))) (by decide +kernel)), viX7_writeRatio.1, viX7_writeRatio.2.1, viX7_writeRatio.2.2, ⟨by decide +kernel, by decide +kernel, by decide +kernel⟩, TX7, 3, rfl⟩
theorem lX8_117 : SL RX8 117 yX1_isDivision 1 := ⟨Or.inl (gtb_of (tb2 (List.mem_of_getElem? (i := 96) (by decide +kernel))) (by decide +kernel)), stX1_isDivision.1, stX1_isDivision.2, ⟨by decide +kernel, by decide +kernel, by decide +kernel⟩⟩
theorem lX8_122 : SL RX8 122 yX1_nearest 2 := ⟨Or.inl (gtb_of (tb2 (List.mem_of_getElem? (i := 99) (by decide +kernel))) (by decide +kernel)), stX1_nearest.1, stX1_nearest.2, ⟨by decide +kernel, by decide +kernel, by decide +kernel⟩⟩
theorem lX8_126 : SL RX8 126 yX1_stepsOf 2 := ⟨Or.inl (gtb_of (tb2 (List.mem_of_getElem? (i := 111) (by decide +kernel))) (by decide +kernel)), stX1_stepsOf.1, stX1_stepsOf.2, ⟨by decide +kernel, by decide +kernel, by decide +kernel⟩⟩
theorem lX8_130 : SL RX8 130 yX5_isOne 1 := ⟨Or.inl (gtb_of (tb2 (List.mem_of_getElem? (i := 119) (by decide +kernel))) (by decide +kernel)), stX5_isOne.1, stX5_isOne.2, ⟨by decide +kernel, by decide +kernel, by decide +kernel⟩⟩
theorem lX8_134 : VL RX8 134 yX0_add 1 0 := ⟨(gtb_of (tb2 (List.mem_of_getElem? (i := 123) (by decide +kernel))) (by decide +kernel)), viX0_add.1, viX0_add.2.1, viX0_add.2.2, ⟨by decide +kernel, by decide +kernel, by decide +kernel⟩, TX0, 4, rfl⟩
theorem lX8_140 : VL RX8 140 yX0_findRank 0 0 := ⟨(gtb_of (tb2 (List.mem_of_getElem? (i := 136) (by decide +kernel))) (by decide +kernel)), viX0_findRank.1, viX0_findRank.2.1, viX0_findRank.2.2, ⟨by decide +kernel, by decide +kernel, by decide +kernel⟩, TX0, 4, rfl⟩
theorem lX8_144 : VL RX8 144 yX0_findTwist 0 0 := ⟨(gtb_of (tb2 (List.mem_of_getElem? (i := 160) (by decide +kernel))) (by decide +kernel)), viX0_findTwist.1, viX0_findTwist.2.1, viX0_findTwist.2.2, ⟨by decide +kernel, by decide +kernel, by decide +kernel⟩, TX0, 4, rfl⟩
theorem lX8_148 : VL RX8 148 yX0_spans 1 0 := ⟨(gtb_of (tb2 (List.mem_of_getElem? (i := 181) (by decide +kernel))) (by decide +kernel)), viX0_spans.1, viX0_spans.2.1, viX0_spans.2.2, ⟨by decide +kernel, by decide +kernel, by decide +kernel⟩, TX0, 4, rfl⟩
theorem lX8_151 : VL RX8 151 yX0_firstSupport 1 0 := ⟨(gtb_of (tb2 (List.mem_of_getElem? (i := 189) (by decide +kernel))) (by decide +kernel)), viX0_firstSupport.1, viX0_firstSupport.2.1, viX0_firstSupport.2.2, ⟨by decide +kernel, by decide +kernel, by decide +kernel⟩, TX0, 4, rfl⟩
theorem lX8_154 : VL RX8 154 yX6_start 1 4 := ⟨(gtb_of (tb2 (List.mem_of_getElem? (i := 202) (by decide +kernel))) (by decide +kernel)), viX6_start.1, viX6_start.2.1, viX6_start.2.2, ⟨by decide +kernel, by decide +kernel, by decide +kernel⟩, TX6, 9, rfl⟩
theorem lX8_158 : VL RX8 158 yX6_exists 0 4 := ⟨(gtb_of (tb2 (List.mem_of_getElem? (i := 218) (by decide +kernel))) (by decide +kernel)), viX6_exists.1, viX6_exists.2.1, viX6_exists.2.2, ⟨by decide +kernel, by decide +kernel, by decide +kernel⟩, TX6, 9, rfl⟩
theorem lX8_168 : VL RX8 168 yX4_has 1 3 := ⟨(gtb_of (tb2 (List.mem_of_getElem? (i := 222) (by decide +kernel))) (by decide +kernel)), viX4_has.1, viX4_has.2.1, viX4_has.2.2, ⟨by decide +kernel, by decide +kernel, by decide +kernel⟩, TX4, 2, rfl⟩
theorem lX8_173 : VL RX8 173 yX4_isFull 0 3 := ⟨(gtb_of (tb2 (List.mem_of_getElem? (i := 229) (by decide +kernel))) (by decide +kernel)), viX4_isFull.1, viX4_isFull.2.1, viX4_isFull.2.2, ⟨by decide +kernel, by decide +kernel, by decide +kernel⟩, TX4, 2, rfl⟩
theorem lX8_176 : VL RX8 176 yX4_placeOf 2 3 := ⟨(gtb_of (tb2 (List.mem_of_getElem? (i := 233) (by decide +kernel))) (by decide +kernel)), viX4_placeOf.1, viX4_placeOf.2.1, viX4_placeOf.2.2, ⟨by decide +kernel, by decide +kernel, by decide +kernel⟩, TX4, 2, rfl⟩
theorem lX8_180 : VL RX8 180 yX4_insert 2 3 := ⟨(gtb_of (tb2 (List.mem_of_getElem? (i := 238) (by decide +kernel))) (by decide +kernel)), viX4_insert.1, viX4_insert.2.1, viX4_insert.2.2, ⟨by decide +kernel, by decide +kernel, by decide +kernel⟩, TX4, 2, rfl⟩
theorem lX8_184 : VL RX8 184 yX6_stack 3 4 := ⟨(gtb_of (tb3 (List.mem_of_getElem? (i := 7) (by decide +kernel))) (by decide +kernel)), viX6_stack.1, viX6_stack.2.1, viX6_stack.2.2, ⟨by decide +kernel, by decide +kernel, by decide +kernel⟩, TX6, 9, rfl⟩
theorem lX8_189 : VL RX8 189 yX6_readNote 2 4 := ⟨(gtb_of (tb3 (List.mem_of_getElem? (i := 24) (by decide +kernel))) (by decide +kernel)), viX6_readNote.1, viX6_readNote.2.1, viX6_readNote.2.2, ⟨by decide +kernel, by decide +kernel, by decide +kernel⟩, TX6, 9, rfl⟩
theorem lX8_193 : VL RX8 193 yX6_isMoment 0 4 := ⟨(gtb_of (tb3 (List.mem_of_getElem? (i := 32) (by decide +kernel))) (by decide +kernel)), viX6_isMoment.1, viX6_isMoment.2.1, viX6_isMoment.2.2, ⟨by decide +kernel, by decide +kernel, by decide +kernel⟩, TX6, 9, rfl⟩
theorem lX8_196 : VL RX8 196 yX6_isMyth 0 4 := ⟨(gtb_of (tb3 (List.mem_of_getElem? (i := 46) (by decide +kernel))) (by decide +kernel)), viX6_isMyth.1, viX6_isMyth.2.1, viX6_isMyth.2.2, ⟨by decide +kernel, by decide +kernel, by decide +kernel⟩, TX6, 9, rfl⟩
theorem lX8_199 : VL RX8 199 yX6_isOrderly 1 4 := ⟨(gtb_of (tb3 (List.mem_of_getElem? (i := 50) (by decide +kernel))) (by decide +kernel)), viX6_isOrderly.1, viX6_isOrderly.2.1, viX6_isOrderly.2.2, ⟨by decide +kernel, by decide +kernel, by decide +kernel⟩, TX6, 9, rfl⟩
theorem lX8_203 : VL RX8 203 yX6_gatherKinds 1 4 := ⟨(gtb_of (tb3 (List.mem_of_getElem? (i := 67) (by decide +kernel))) (by decide +kernel)), viX6_gatherKinds.1, viX6_gatherKinds.2.1, viX6_gatherKinds.2.2, ⟨by decide +kernel, by decide +kernel, by decide +kernel⟩, TX6, 9, rfl⟩
theorem lX8_206 : VL RX8 206 yX6_readKind 3 4 := ⟨(gtb_of (tb3 (List.mem_of_getElem? (i := 72) (by decide +kernel))) (by decide +kernel)), viX6_readKind.1, viX6_readKind.2.1, viX6_readKind.2.2, ⟨by decide +kernel, by decide +kernel, by decide +kernel⟩, TX6, 9, rfl⟩
theorem lX8_210 : VL RX8 210 yX6_turn 1 4 := ⟨(gtb_of (tb3 (List.mem_of_getElem? (i := 84) (by decide +kernel))) (by decide +kernel)), viX6_turn.1, viX6_turn.2.1, viX6_turn.2.2, ⟨by decide +kernel, by decide +kernel, by decide +kernel⟩, TX6, 9, rfl⟩
theorem lX8_213 : VL RX8 213 yX6_agreesWith 1 4 := ⟨(gtb_of (tb3 (List.mem_of_getElem? (i := 93) (by decide +kernel))) (by decide +kernel)), viX6_agreesWith.1, viX6_agreesWith.2.1, viX6_agreesWith.2.2, ⟨by decide +kernel, by decide +kernel, by decide +kernel⟩, TX6, 9, rfl⟩
theorem lX8_216 : VL RX8 216 yX2_tell 3 1 := ⟨(gtb_of (tb3 (List.mem_of_getElem? (i := 102) (by decide +kernel))) (by decide +kernel)), viX2_tell.1, viX2_tell.2.1, viX2_tell.2.2, ⟨by decide +kernel, by decide +kernel, by decide +kernel⟩, TX2, 4, rfl⟩
theorem lX8_219 : SL RX8 219 yX5_isWithin 2 := ⟨Or.inl (gtb_of (tb1 (List.mem_of_getElem? (i := 206) (by decide +kernel))) (by decide +kernel)), stX5_isWithin.1, stX5_isWithin.2, ⟨by decide +kernel, by decide +kernel, by decide +kernel⟩⟩
theorem lX8_223 : SL RX8 223 yX5_copy 2 := ⟨Or.inl (gtb_of (tb1 (List.mem_of_getElem? (i := 209) (by decide +kernel))) (by decide +kernel)), stX5_copy.1, stX5_copy.2, ⟨by decide +kernel, by decide +kernel, by decide +kernel⟩⟩
theorem lX9_78 : SL RX9 78 yX9_prime 1 := ⟨Or.inl (gtb_of (tb3 (List.mem_of_getElem? (i := 233) (by decide +kernel))) (by decide +kernel)), stX9_prime.1, stX9_prime.2, ⟨by decide +kernel, by decide +kernel, by decide +kernel⟩⟩
theorem lX9_82 : SL RX9 82 yX9_multiply 3 := ⟨Or.inl (gtb_of (tb4 (List.mem_of_getElem? (i := 20) (by decide +kernel))) (by decide +kernel)), stX9_multiply.1, stX9_multiply.2, ⟨by decide +kernel, by decide +kernel, by decide +kernel⟩⟩
theorem lX9_86 : VL RX9 86 yX9_products 0 7 := ⟨(gtb_of (tb4 (List.mem_of_getElem? (i := 16) (by decide +kernel))) (by decide +kernel)), viX9_products.1, viX9_products.2.1, viX9_products.2.2, ⟨by decide +kernel, by decide +kernel, by decide +kernel⟩, TX9, 25, rfl⟩
theorem lX9_89 : VL RX9 89 yX9_hold 2 7 := ⟨(gtb_of (tb4 (List.mem_of_getElem? (i := 0) (by decide +kernel))) (by decide +kernel)), viX9_hold.1, viX9_hold.2.1, viX9_hold.2.2, ⟨by decide +kernel, by decide +kernel, by decide +kernel⟩, TX9, 25, rfl⟩
theorem lX9_93 : VL RX9 93 yX9_less 2 7 := ⟨(gtb_of (tb4 (List.mem_of_getElem? (i := 39) (by decide +kernel))) (by decide +kernel)), viX9_less.1, viX9_less.2.1, viX9_less.2.2, ⟨by decide +kernel, by decide +kernel, by decide +kernel⟩, TX9, 25, rfl⟩
theorem lX9_96 : VL RX9 96 yX9_sign 0 7 := ⟨(gtb_of (tb4 (List.mem_of_getElem? (i := 12) (by decide +kernel))) (by decide +kernel)), viX9_sign.1, viX9_sign.2.1, viX9_sign.2.2, ⟨by decide +kernel, by decide +kernel, by decide +kernel⟩, TX9, 25, rfl⟩
theorem lX9_100 : VL RX9 100 yX9_isFar 0 7 := ⟨(gtb_of (tb3 (List.mem_of_getElem? (i := 220) (by decide +kernel))) (by decide +kernel)), viX9_isFar.1, viX9_isFar.2.1, viX9_isFar.2.2, ⟨by decide +kernel, by decide +kernel, by decide +kernel⟩, TX9, 25, rfl⟩
theorem lX9_104 : VL RX9 104 yX9_refuse 1 7 := ⟨(gtb_of (tb3 (List.mem_of_getElem? (i := 212) (by decide +kernel))) (by decide +kernel)), viX9_refuse.1, viX9_refuse.2.1, viX9_refuse.2.2, ⟨by decide +kernel, by decide +kernel, by decide +kernel⟩, TX9, 25, rfl⟩
theorem lX9_108 : VL RX9 108 yX9_give 2 7 := ⟨(gtb_of (tb3 (List.mem_of_getElem? (i := 224) (by decide +kernel))) (by decide +kernel)), viX9_give.1, viX9_give.2.1, viX9_give.2.2, ⟨by decide +kernel, by decide +kernel, by decide +kernel⟩, TX9, 25, rfl⟩
theorem lX9_111 : SL RX9 111 yX9_isShelf 1 := ⟨Or.inl (gtb_of (tb3 (List.mem_of_getElem? (i := 209) (by decide +kernel))) (by decide +kernel)), stX9_isShelf.1, stX9_isShelf.2, ⟨by decide +kernel, by decide +kernel, by decide +kernel⟩⟩
theorem lX9_114 : VL RX9 114 yX9_comes 1 7 := ⟨(gtb_of (tb3 (List.mem_of_getElem? (i := 216) (by decide +kernel))) (by decide +kernel)), viX9_comes.1, viX9_comes.2.1, viX9_comes.2.2, ⟨by decide +kernel, by decide +kernel, by decide +kernel⟩, TX9, 25, rfl⟩
theorem lX9_118 : SL RX9 118 yX9_down 2 := ⟨Or.inl (gtb_of (tb4 (List.mem_of_getElem? (i := 32) (by decide +kernel))) (by decide +kernel)), stX9_down.1, stX9_down.2, ⟨by decide +kernel, by decide +kernel, by decide +kernel⟩⟩
theorem lX9_122 : VL RX9 122 yX9_powered 1 7 := ⟨(gtb_of (tb4 (List.mem_of_getElem? (i := 35) (by decide +kernel))) (by decide +kernel)), viX9_powered.1, viX9_powered.2.1, viX9_powered.2.2, ⟨by decide +kernel, by decide +kernel, by decide +kernel⟩, TX9, 25, rfl⟩
theorem lX9_126 : VL RX9 126 yX9_isPeriod 1 7 := ⟨(gtb_of (tb4 (List.mem_of_getElem? (i := 8) (by decide +kernel))) (by decide +kernel)), viX9_isPeriod.1, viX9_isPeriod.2.1, viX9_isPeriod.2.2, ⟨by decide +kernel, by decide +kernel, by decide +kernel⟩, TX9, 25, rfl⟩
theorem lX9_129 : VL RX9 129 yX9_set6 3 7 := ⟨(gtb_of (tb4 (List.mem_of_getElem? (i := 24) (by decide +kernel))) (by decide +kernel)), viX9_set6.1, viX9_set6.2.1, viX9_set6.2.2, ⟨by decide +kernel, by decide +kernel, by decide +kernel⟩, TX9, 25, rfl⟩
theorem lX9_133 : VL RX9 133 yX9_folds 0 7 := ⟨(gtb_of (tb4 (List.mem_of_getElem? (i := 28) (by decide +kernel))) (by decide +kernel)), viX9_folds.1, viX9_folds.2.1, viX9_folds.2.2, ⟨by decide +kernel, by decide +kernel, by decide +kernel⟩, TX9, 25, rfl⟩
theorem lX9_136 : VL RX9 136 yX9_none 1 7 := ⟨(gtb_of (tb4 (List.mem_of_getElem? (i := 51) (by decide +kernel))) (by decide +kernel)), viX9_none.1, viX9_none.2.1, viX9_none.2.2, ⟨by decide +kernel, by decide +kernel, by decide +kernel⟩, TX9, 25, rfl⟩
theorem lX9_139 : VL RX9 139 yX9_compare 4 7 := ⟨(gtb_of (tb4 (List.mem_of_getElem? (i := 59) (by decide +kernel))) (by decide +kernel)), viX9_compare.1, viX9_compare.2.1, viX9_compare.2.2, ⟨by decide +kernel, by decide +kernel, by decide +kernel⟩, TX9, 25, rfl⟩
theorem lX9_147 : VL RX9 147 yX9_tell 1 7 := ⟨(gtb_of (tb4 (List.mem_of_getElem? (i := 72) (by decide +kernel))) (by decide +kernel)), viX9_tell.1, viX9_tell.2.1, viX9_tell.2.2, ⟨by decide +kernel, by decide +kernel, by decide +kernel⟩, TX9, 25, rfl⟩
theorem lX9_150 : VL RX9 150 yX9_tellNumber 2 7 := ⟨(gtb_of (tb4 (List.mem_of_getElem? (i := 67) (by decide +kernel))) (by decide +kernel)), viX9_tellNumber.1, viX9_tellNumber.2.1, viX9_tellNumber.2.2, ⟨by decide +kernel, by decide +kernel, by decide +kernel⟩, TX9, 25, rfl⟩
theorem lX9_153 : SL RX9 153 yX9_isDivision 1 := ⟨Or.inl (gtb_of (tb4 (List.mem_of_getElem? (i := 84) (by decide +kernel))) (by decide +kernel)), stX9_isDivision.1, stX9_isDivision.2, ⟨by decide +kernel, by decide +kernel, by decide +kernel⟩⟩
theorem lX9_156 : VL RX9 156 yX9_mapOf 2 7 := ⟨(gtb_of (tb4 (List.mem_of_getElem? (i := 87) (by decide +kernel))) (by decide +kernel)), viX9_mapOf.1, viX9_mapOf.2.1, viX9_mapOf.2.2, ⟨by decide +kernel, by decide +kernel, by decide +kernel⟩, TX9, 25, rfl⟩
theorem lX9_159 : VL RX9 159 yX9_stepsOf 3 7 := ⟨(gtb_of (tb4 (List.mem_of_getElem? (i := 95) (by decide +kernel))) (by decide +kernel)), viX9_stepsOf.1, viX9_stepsOf.2.1, viX9_stepsOf.2.2, ⟨by decide +kernel, by decide +kernel, by decide +kernel⟩, TX9, 25, rfl⟩
theorem lX9_165 : VL RX9 165 yX9_change 2 7 := ⟨(gtb_of (tb4 (List.mem_of_getElem? (i := 119) (by decide +kernel))) (by decide +kernel)), viX9_change.1, viX9_change.2.1, viX9_change.2.2, ⟨by decide +kernel, by decide +kernel, by decide +kernel⟩, TX9, 25, rfl⟩
theorem lX9_169 : VL RX9 169 yX9_rankOf 1 7 := ⟨(gtb_of (tb4 (List.mem_of_getElem? (i := 115) (by decide +kernel))) (by decide +kernel)), viX9_rankOf.1, viX9_rankOf.2.1, viX9_rankOf.2.2, ⟨by decide +kernel, by decide +kernel, by decide +kernel⟩, TX9, 25, rfl⟩
theorem lX9_172 : VL RX9 172 yX9_commaRank 0 7 := ⟨(gtb_of (tb4 (List.mem_of_getElem? (i := 111) (by decide +kernel))) (by decide +kernel)), viX9_commaRank.1, viX9_commaRank.2.1, viX9_commaRank.2.2, ⟨by decide +kernel, by decide +kernel, by decide +kernel⟩, TX9, 25, rfl⟩
theorem lX9_175 : SL RX9 175 yX9_bits 1 := ⟨Or.inl (gtb_of (tb4 (List.mem_of_getElem? (i := 127) (by decide +kernel))) (by decide +kernel)), stX9_bits.1, stX9_bits.2, ⟨by decide +kernel, by decide +kernel, by decide +kernel⟩⟩
theorem lX9_178 : VL RX9 178 yX9_minor 3 7 := ⟨(gtb_of (tb4 (List.mem_of_getElem? (i := 130) (by decide +kernel))) (by decide +kernel)), viX9_minor.1, viX9_minor.2.1, viX9_minor.2.2, ⟨by decide +kernel, by decide +kernel, by decide +kernel⟩, TX9, 25, rfl⟩
theorem lX9_185 : VL RX9 185 yX9_placeIn 2 7 := ⟨(gtb_of (tb4 (List.mem_of_getElem? (i := 150) (by decide +kernel))) (by decide +kernel)), viX9_placeIn.1, viX9_placeIn.2.1, viX9_placeIn.2.2, ⟨by decide +kernel, by decide +kernel, by decide +kernel⟩, TX9, 25, rfl⟩
theorem lX9_189 : VL RX9 189 yX9_insert 3 7 := ⟨(gtb_of (tb4 (List.mem_of_getElem? (i := 154) (by decide +kernel))) (by decide +kernel)), viX9_insert.1, viX9_insert.2.1, viX9_insert.2.2, ⟨by decide +kernel, by decide +kernel, by decide +kernel⟩, TX9, 25, rfl⟩
theorem lX9_193 : VL RX9 193 yX9_noteAt 1 7 := ⟨(gtb_of (tb4 (List.mem_of_getElem? (i := 166) (by decide +kernel))) (by decide +kernel)), viX9_noteAt.1, viX9_noteAt.2.1, viX9_noteAt.2.2, ⟨by decide +kernel, by decide +kernel, by decide +kernel⟩, TX9, 25, rfl⟩
theorem lX9_199 : VL RX9 199 yX9_stepsBy 1 7 := ⟨(gtb_of (tb4 (List.mem_of_getElem? (i := 178) (by decide +kernel))) (by decide +kernel)), viX9_stepsBy.1, viX9_stepsBy.2.1, viX9_stepsBy.2.2, ⟨by decide +kernel, by decide +kernel, by decide +kernel⟩, TX9, 25, rfl⟩
theorem lX9_202 : VL RX9 202 yX9_isMyth 0 7 := ⟨(gtb_of (tb4 (List.mem_of_getElem? (i := 174) (by decide +kernel))) (by decide +kernel)), viX9_isMyth.1, viX9_isMyth.2.1, viX9_isMyth.2.2, ⟨by decide +kernel, by decide +kernel, by decide +kernel⟩, TX9, 25, rfl⟩
theorem lX9_205 : VL RX9 205 yX9_isProper 1 7 := ⟨(gtb_of (tb4 (List.mem_of_getElem? (i := 182) (by decide +kernel))) (by decide +kernel)), viX9_isProper.1, viX9_isProper.2.1, viX9_isProper.2.2, ⟨by decide +kernel, by decide +kernel, by decide +kernel⟩, TX9, 25, rfl⟩
theorem lX9_209 : VL RX9 209 yX9_isDim 0 7 := ⟨(gtb_of (tb4 (List.mem_of_getElem? (i := 206) (by decide +kernel))) (by decide +kernel)), viX9_isDim.1, viX9_isDim.2.1, viX9_isDim.2.2, ⟨by decide +kernel, by decide +kernel, by decide +kernel⟩, TX9, 25, rfl⟩
theorem wJ6_bitCount_0f7a4 : Cond.code yJ6_bitCount_0f7a4 cJ6_bitCount_0f7a4 1 (some .int) ∈ gtb := (gtb_of (tb2 (List.mem_of_getElem? (i := 167) (by decide +kernel))) (by decide +kernel))
theorem wJ9_abs_067f4 : Cond.code yJ9_abs_067f4 cJ9_abs_067f4 2 (some .long) ∈ gtb := (gtb_of (tb1 (List.mem_of_getElem? (i := 232) (by decide +kernel))) (by decide +kernel))
theorem wJ9_floorDiv_7cf53 : Cond.code yJ9_floorDiv_7cf53 cJ9_floorDiv_7cf53 3 (some .int) ∈ gtb := (gtb_of (tb2 (List.mem_of_getElem? (i := 31) (by decide +kernel))) (by decide +kernel))
theorem wJ9_max_7cf53 : Cond.code yJ9_max_7cf53 cJ9_max_7cf53 2 (some .int) ∈ gtb := (gtb_of (tb2 (List.mem_of_getElem? (i := 34) (by decide +kernel))) (by decide +kernel))
theorem wJ9_min_7cf53 : Cond.code yJ9_min_7cf53 cJ9_min_7cf53 2 (some .int) ∈ gtb := (gtb_of (tb2 (List.mem_of_getElem? (i := 37) (by decide +kernel))) (by decide +kernel))
theorem wX0_add : Cond.code yX0_add cX0_add 2 (some .boolean) ∈ gtb := (gtb_of (tb2 (List.mem_of_getElem? (i := 126) (by decide +kernel))) (by decide +kernel))
theorem wX0_determinant : Cond.code yX0_determinant cX0_determinant 8 (some .long) ∈ gtb := (gtb_of (tb2 (List.mem_of_getElem? (i := 174) (by decide +kernel))) (by decide +kernel))
theorem wX0_eliminate : Cond.code yX0_eliminate cX0_eliminate 8 (some .int) ∈ gtb := (gtb_of (tb2 (List.mem_of_getElem? (i := 147) (by decide +kernel))) (by decide +kernel))
theorem wX0_fillTable : Cond.code yX0_fillTable cX0_fillTable 3 none ∈ gtb := (gtb_of (tb2 (List.mem_of_getElem? (i := 143) (by decide +kernel))) (by decide +kernel))
theorem wX0_findRank : Cond.code yX0_findRank cX0_findRank 1 (some .int) ∈ gtb := (gtb_of (tb2 (List.mem_of_getElem? (i := 139) (by decide +kernel))) (by decide +kernel))
theorem wX0_findTwist : Cond.code yX0_findTwist cX0_findTwist 6 (some .long) ∈ gtb := (gtb_of (tb2 (List.mem_of_getElem? (i := 163) (by decide +kernel))) (by decide +kernel))
theorem wX0_firstSupport : Cond.code yX0_firstSupport cX0_firstSupport 3 (some .int) ∈ gtb := (gtb_of (tb2 (List.mem_of_getElem? (i := 192) (by decide +kernel))) (by decide +kernel))
theorem wX0_init : Cond.code yX0_init cX0_init 1 none ∈ gtb := (gtb_of (tb1 (List.mem_of_getElem? (i := 63) (by decide +kernel))) (by decide +kernel))
theorem wX0_isSupportedBy : Cond.code yX0_isSupportedBy cX0_isSupportedBy 3 (some .boolean) ∈ gtb := (gtb_of (tb2 (List.mem_of_getElem? (i := 196) (by decide +kernel))) (by decide +kernel))
theorem wX0_raisePivot : Cond.code yX0_raisePivot cX0_raisePivot 6 (some .boolean) ∈ gtb := (gtb_of (tb2 (List.mem_of_getElem? (i := 151) (by decide +kernel))) (by decide +kernel))
theorem wX0_reduceLine : Cond.code yX0_reduceLine cX0_reduceLine 8 none ∈ gtb := (gtb_of (tb2 (List.mem_of_getElem? (i := 155) (by decide +kernel))) (by decide +kernel))
theorem wX0_spans : Cond.code yX0_spans cX0_spans 4 (some .boolean) ∈ gtb := (gtb_of (tb2 (List.mem_of_getElem? (i := 184) (by decide +kernel))) (by decide +kernel))
theorem wX1_isDivision : Cond.code yX1_isDivision cX1_isDivision 1 (some .boolean) ∈ gtb := (gtb_of (tb2 (List.mem_of_getElem? (i := 98) (by decide +kernel))) (by decide +kernel))
theorem wX1_nearest : Cond.code yX1_nearest cX1_nearest 2 (some .int) ∈ gtb := (gtb_of (tb2 (List.mem_of_getElem? (i := 101) (by decide +kernel))) (by decide +kernel))
theorem wX1_stepsOf : Cond.code yX1_stepsOf cX1_stepsOf 4 (some .int) ∈ gtb := (gtb_of (tb2 (List.mem_of_getElem? (i := 113) (by decide +kernel))) (by decide +kernel))
theorem wX2_firstBelowOne : Cond.code yX2_firstBelowOne cX2_firstBelowOne 5 (some .int) ∈ gtb := (gtb_of (tb3 (List.mem_of_getElem? (i := 110) (by decide +kernel))) (by decide +kernel))
theorem wX2_init : Cond.code yX2_init cX2_init 2 none ∈ gtb := (gtb_of (tb1 (List.mem_of_getElem? (i := 141) (by decide +kernel))) (by decide +kernel))
theorem wX2_stays : Cond.code yX2_stays cX2_stays 2 (some .boolean) ∈ gtb := (gtb_of (tb3 (List.mem_of_getElem? (i := 114) (by decide +kernel))) (by decide +kernel))
theorem wX2_tell : Cond.code yX2_tell cX2_tell 7 (some .int) ∈ gtb := (gtb_of (tb3 (List.mem_of_getElem? (i := 105) (by decide +kernel))) (by decide +kernel))
theorem wX3_against : Cond.code yX3_against cX3_against 3 (some .int) ∈ gtb := (gtb_of (tb2 (List.mem_of_getElem? (i := 24) (by decide +kernel))) (by decide +kernel))
theorem wX3_build : Cond.code yX3_build cX3_build 6 none ∈ gtb := (gtb_of (tb2 (List.mem_of_getElem? (i := 13) (by decide +kernel))) (by decide +kernel))
theorem wX3_init : Cond.code yX3_init cX3_init 1 none ∈ gtb := (gtb_of (tb1 (List.mem_of_getElem? (i := 34) (by decide +kernel))) (by decide +kernel))
theorem wX3_settle : Cond.code yX3_settle cX3_settle 6 none ∈ gtb := (gtb_of (tb2 (List.mem_of_getElem? (i := 18) (by decide +kernel))) (by decide +kernel))
theorem wX3_write : Cond.code yX3_write cX3_write 9 (some .int) ∈ gtb := (gtb_of (tb2 (List.mem_of_getElem? (i := 86) (by decide +kernel))) (by decide +kernel))
theorem wX4_has : Cond.code yX4_has cX4_has 3 (some .boolean) ∈ gtb := (gtb_of (tb2 (List.mem_of_getElem? (i := 225) (by decide +kernel))) (by decide +kernel))
theorem wX4_init : Cond.code yX4_init cX4_init 1 none ∈ gtb := (gtb_of (tb1 (List.mem_of_getElem? (i := 94) (by decide +kernel))) (by decide +kernel))
theorem wX4_insert : Cond.code yX4_insert cX4_insert 5 (some .int) ∈ gtb := (gtb_of (tb3 (List.mem_of_getElem? (i := 1) (by decide +kernel))) (by decide +kernel))
theorem wX4_isFull : Cond.code yX4_isFull cX4_isFull 1 (some .boolean) ∈ gtb := (gtb_of (tb2 (List.mem_of_getElem? (i := 232) (by decide +kernel))) (by decide +kernel))
theorem wX4_placeOf : Cond.code yX4_placeOf cX4_placeOf 7 (some .int) ∈ gtb := (gtb_of (tb2 (List.mem_of_getElem? (i := 236) (by decide +kernel))) (by decide +kernel))
theorem wX4_restart : Cond.code yX4_restart cX4_restart 1 none ∈ gtb := (gtb_of (tb2 (List.mem_of_getElem? (i := 210) (by decide +kernel))) (by decide +kernel))
theorem wX5_combine : Cond.code yX5_combine cX5_combine 5 none ∈ gtb := (gtb_of (tb2 (List.mem_of_getElem? (i := 1) (by decide +kernel))) (by decide +kernel))
theorem wX5_commonDivisor : Cond.code yX5_commonDivisor cX5_commonDivisor 11 (some .long) ∈ gtb := (gtb_of (tb1 (List.mem_of_getElem? (i := 229) (by decide +kernel))) (by decide +kernel))
theorem wX5_copy : Cond.code yX5_copy cX5_copy 2 none ∈ gtb := (gtb_of (tb1 (List.mem_of_getElem? (i := 211) (by decide +kernel))) (by decide +kernel))
theorem wX5_factor : Cond.code yX5_factor cX5_factor 12 (some .boolean) ∈ gtb := (gtb_of (tb1 (List.mem_of_getElem? (i := 226) (by decide +kernel))) (by decide +kernel))
theorem wX5_isOne : Cond.code yX5_isOne cX5_isOne 1 (some .boolean) ∈ gtb := (gtb_of (tb2 (List.mem_of_getElem? (i := 121) (by decide +kernel))) (by decide +kernel))
theorem wX5_isSame : Cond.code yX5_isSame cX5_isSame 3 (some .boolean) ∈ gtb := (gtb_of (tb2 (List.mem_of_getElem? (i := 228) (by decide +kernel))) (by decide +kernel))
theorem wX5_isWithin : Cond.code yX5_isWithin cX5_isWithin 3 (some .boolean) ∈ gtb := (gtb_of (tb1 (List.mem_of_getElem? (i := 208) (by decide +kernel))) (by decide +kernel))
theorem wX5_makeOne : Cond.code yX5_makeOne cX5_makeOne 2 none ∈ gtb := (gtb_of (tb2 (List.mem_of_getElem? (i := 213) (by decide +kernel))) (by decide +kernel))
theorem wX6_agreesWith : Cond.code yX6_agreesWith cX6_agreesWith 3 (some .boolean) ∈ gtb := (gtb_of (tb3 (List.mem_of_getElem? (i := 96) (by decide +kernel))) (by decide +kernel))
theorem wX6_allReach : Cond.code yX6_allReach cX6_allReach 4 (some .boolean) ∈ gtb := (gtb_of (tb3 (List.mem_of_getElem? (i := 57) (by decide +kernel))) (by decide +kernel))
theorem wX6_exists : Cond.code yX6_exists cX6_exists 1 (some .boolean) ∈ gtb := (gtb_of (tb2 (List.mem_of_getElem? (i := 221) (by decide +kernel))) (by decide +kernel))
theorem wX6_findHighest : Cond.code yX6_findHighest cX6_findHighest 3 none ∈ gtb := (gtb_of (tb3 (List.mem_of_getElem? (i := 62) (by decide +kernel))) (by decide +kernel))
theorem wX6_gatherKinds : Cond.code yX6_gatherKinds cX6_gatherKinds 5 (some .int) ∈ gtb := (gtb_of (tb3 (List.mem_of_getElem? (i := 39) (by decide +kernel))) (by decide +kernel))
theorem wX6_init : Cond.code yX6_init cX6_init 2 none ∈ gtb := (gtb_of (tb1 (List.mem_of_getElem? (i := 87) (by decide +kernel))) (by decide +kernel))
theorem wX6_isMoment : Cond.code yX6_isMoment cX6_isMoment 1 (some .boolean) ∈ gtb := (gtb_of (tb3 (List.mem_of_getElem? (i := 35) (by decide +kernel))) (by decide +kernel))
theorem wX6_isMyth : Cond.code yX6_isMyth cX6_isMyth 2 (some .boolean) ∈ gtb := (gtb_of (tb3 (List.mem_of_getElem? (i := 49) (by decide +kernel))) (by decide +kernel))
theorem wX6_isOrderly : Cond.code yX6_isOrderly cX6_isOrderly 5 (some .boolean) ∈ gtb := (gtb_of (tb3 (List.mem_of_getElem? (i := 53) (by decide +kernel))) (by decide +kernel))
theorem wX6_readKind : Cond.code yX6_readKind cX6_readKind 7 (some .int) ∈ gtb := (gtb_of (tb3 (List.mem_of_getElem? (i := 75) (by decide +kernel))) (by decide +kernel))
theorem wX6_readNote : Cond.code yX6_readNote cX6_readNote 4 none ∈ gtb := (gtb_of (tb3 (List.mem_of_getElem? (i := 27) (by decide +kernel))) (by decide +kernel))
theorem wX6_readStep : Cond.code yX6_readStep cX6_readStep 4 none ∈ gtb := (gtb_of (tb3 (List.mem_of_getElem? (i := 43) (by decide +kernel))) (by decide +kernel))
theorem wX6_stack : Cond.code yX6_stack cX6_stack 6 (some .int) ∈ gtb := (gtb_of (tb3 (List.mem_of_getElem? (i := 10) (by decide +kernel))) (by decide +kernel))
theorem wX6_start : Cond.code yX6_start cX6_start 2 none ∈ gtb := (gtb_of (tb2 (List.mem_of_getElem? (i := 205) (by decide +kernel))) (by decide +kernel))
theorem wX6_swapKinds : Cond.code yX6_swapKinds cX6_swapKinds 5 none ∈ gtb := (gtb_of (tb3 (List.mem_of_getElem? (i := 79) (by decide +kernel))) (by decide +kernel))
theorem wX6_takeComing : Cond.code yX6_takeComing cX6_takeComing 2 none ∈ gtb := (gtb_of (tb3 (List.mem_of_getElem? (i := 19) (by decide +kernel))) (by decide +kernel))
theorem wX6_turn : Cond.code yX6_turn cX6_turn 3 (some .boolean) ∈ gtb := (gtb_of (tb3 (List.mem_of_getElem? (i := 87) (by decide +kernel))) (by decide +kernel))
theorem wX7_compareSizes : Cond.code yX7_compareSizes cX7_compareSizes 3 (some .int) ∈ gtb := (gtb_of (tb2 (List.mem_of_getElem? (i := 74) (by decide +kernel))) (by decide +kernel))
theorem wX7_foldBetween : Cond.code yX7_foldBetween cX7_foldBetween 10 (some .boolean) ∈ gtb := (gtb_of (tb2 (List.mem_of_getElem? (i := 41) (by decide +kernel))) (by decide +kernel))
theorem wX7_foldInto : Cond.code yX7_foldInto cX7_foldInto 9 (some .boolean) ∈ gtb := (gtb_of (tb2 (List.mem_of_getElem? (i := 28) (by decide +kernel))) (by decide +kernel))
theorem wX7_init : Cond.code yX7_init cX7_init 1 none ∈ gtb := (gtb_of (tb1 (List.mem_of_getElem? (i := 28) (by decide +kernel))) (by decide +kernel))
theorem wX7_sign : Cond.code yX7_sign cX7_sign 5 (some .int) ∈ gtb := (gtb_of (tb2 (List.mem_of_getElem? (i := 9) (by decide +kernel))) (by decide +kernel))
theorem wX7_writeRatio : Cond.code yX7_writeRatio cX7_writeRatio 4 (some .int) ∈ gtb := (gtb_of (tb2 (List.mem_of_getElem? (i := 82) (by decide +kernel))) (by decide +kernel))
theorem wX8_accept : Cond.code yX8_accept cX8_accept 1 (some .boolean) ∈ gtb := (gtb_of (tb1 (List.mem_of_getElem? (i := 218) (by decide +kernel))) (by decide +kernel))
theorem wX8_answer : Cond.code yX8_answer cX8_answer 2 (some .int) ∈ gtb := (gtb_of (tb2 (List.mem_of_getElem? (i := 66) (by decide +kernel))) (by decide +kernel))
theorem wX8_begin : Cond.code yX8_begin cX8_begin 3 (some .boolean) ∈ gtb := (gtb_of (tb2 (List.mem_of_getElem? (i := 201) (by decide +kernel))) (by decide +kernel))
theorem wX8_clear : Cond.code yX8_clear cX8_clear 2 (some .int) ∈ gtb := (gtb_of (tb2 (List.mem_of_getElem? (i := 131) (by decide +kernel))) (by decide +kernel))
theorem wX8_comma : Cond.code yX8_comma cX8_comma 3 (some .int) ∈ gtb := (gtb_of (tb2 (List.mem_of_getElem? (i := 118) (by decide +kernel))) (by decide +kernel))
theorem wX8_drop : Cond.code yX8_drop cX8_drop 3 (some .boolean) ∈ gtb := (gtb_of (tb2 (List.mem_of_getElem? (i := 47) (by decide +kernel))) (by decide +kernel))
theorem wX8_exponent : Cond.code yX8_exponent cX8_exponent 4 (some .int) ∈ gtb := (gtb_of (tb2 (List.mem_of_getElem? (i := 55) (by decide +kernel))) (by decide +kernel))
theorem wX8_faultOf : Cond.code yX8_faultOf cX8_faultOf 2 (some .int) ∈ gtb := (gtb_of (tb2 (List.mem_of_getElem? (i := 51) (by decide +kernel))) (by decide +kernel))
theorem wX8_fold : Cond.code yX8_fold cX8_fold 4 (some .boolean) ∈ gtb := (gtb_of (tb2 (List.mem_of_getElem? (i := 5) (by decide +kernel))) (by decide +kernel))
theorem wX8_follows : Cond.code yX8_follows cX8_follows 2 (some .int) ∈ gtb := (gtb_of (tb3 (List.mem_of_getElem? (i := 92) (by decide +kernel))) (by decide +kernel))
theorem wX8_init : Cond.code yX8_init cX8_init 2 none ∈ gtb := (gtb_of (tb1 (List.mem_of_getElem? (i := 18) (by decide +kernel))) (by decide +kernel))
theorem wX8_isPrimeNumber : Cond.code yX8_isPrimeNumber cX8_isPrimeNumber 1 (some .boolean) ∈ gtb := (gtb_of (tb2 (List.mem_of_getElem? (i := 62) (by decide +kernel))) (by decide +kernel))
theorem wX8_isShelf : Cond.code yX8_isShelf cX8_isShelf 1 (some .boolean) ∈ gtb := (gtb_of (tb1 (List.mem_of_getElem? (i := 197) (by decide +kernel))) (by decide +kernel))
theorem wX8_kinds : Cond.code yX8_kinds cX8_kinds 2 (some .int) ∈ gtb := (gtb_of (tb3 (List.mem_of_getElem? (i := 66) (by decide +kernel))) (by decide +kernel))
theorem wX8_lay : Cond.code yX8_lay cX8_lay 5 (some .boolean) ∈ gtb := (gtb_of (tb3 (List.mem_of_getElem? (i := 6) (by decide +kernel))) (by decide +kernel))
theorem wX8_map : Cond.code yX8_map cX8_map 3 (some .int) ∈ gtb := (gtb_of (tb2 (List.mem_of_getElem? (i := 95) (by decide +kernel))) (by decide +kernel))
theorem wX8_mode : Cond.code yX8_mode cX8_mode 2 (some .boolean) ∈ gtb := (gtb_of (tb3 (List.mem_of_getElem? (i := 83) (by decide +kernel))) (by decide +kernel))
theorem wX8_none : Cond.code yX8_none cX8_none 2 (some .int) ∈ gtb := (gtb_of (tb2 (List.mem_of_getElem? (i := 59) (by decide +kernel))) (by decide +kernel))
theorem wX8_note : Cond.code yX8_note cX8_note 3 (some .int) ∈ gtb := (gtb_of (tb2 (List.mem_of_getElem? (i := 217) (by decide +kernel))) (by decide +kernel))
theorem wX8_order : Cond.code yX8_order cX8_order 4 (some .int) ∈ gtb := (gtb_of (tb2 (List.mem_of_getElem? (i := 70) (by decide +kernel))) (by decide +kernel))
theorem wX8_out : Cond.code yX8_out cX8_out 2 (some .int) ∈ gtb := (gtb_of (tb2 (List.mem_of_getElem? (i := 91) (by decide +kernel))) (by decide +kernel))
theorem wX8_putMade : Cond.code yX8_putMade cX8_putMade 2 (some .boolean) ∈ gtb := (gtb_of (tb1 (List.mem_of_getElem? (i := 205) (by decide +kernel))) (by decide +kernel))
theorem wX8_quotient : Cond.code yX8_quotient cX8_quotient 5 (some .int) ∈ gtb := (gtb_of (tb3 (List.mem_of_getElem? (i := 101) (by decide +kernel))) (by decide +kernel))
theorem wX8_rank : Cond.code yX8_rank cX8_rank 1 (some .int) ∈ gtb := (gtb_of (tb2 (List.mem_of_getElem? (i := 135) (by decide +kernel))) (by decide +kernel))
theorem wX8_ratio : Cond.code yX8_ratio cX8_ratio 4 (some .boolean) ∈ gtb := (gtb_of (tb1 (List.mem_of_getElem? (i := 222) (by decide +kernel))) (by decide +kernel))
theorem wX8_refuse : Cond.code yX8_refuse cX8_refuse 2 (some .boolean) ∈ gtb := (gtb_of (tb1 (List.mem_of_getElem? (i := 201) (by decide +kernel))) (by decide +kernel))
theorem wX8_scale : Cond.code yX8_scale cX8_scale 2 (some .int) ∈ gtb := (gtb_of (tb3 (List.mem_of_getElem? (i := 31) (by decide +kernel))) (by decide +kernel))
theorem wX8_set : Cond.code yX8_set cX8_set 8 (some .boolean) ∈ gtb := (gtb_of (tb1 (List.mem_of_getElem? (i := 194) (by decide +kernel))) (by decide +kernel))
theorem wX8_show : Cond.code yX8_show cX8_show 3 (some .int) ∈ gtb := (gtb_of (tb2 (List.mem_of_getElem? (i := 78) (by decide +kernel))) (by decide +kernel))
theorem wX8_status : Cond.code yX8_status cX8_status 1 (some .int) ∈ gtb := (gtb_of (tb1 (List.mem_of_getElem? (i := 190) (by decide +kernel))) (by decide +kernel))
theorem wX8_step : Cond.code yX8_step cX8_step 6 (some .int) ∈ gtb := (gtb_of (tb3 (List.mem_of_getElem? (i := 71) (by decide +kernel))) (by decide +kernel))
theorem wX8_steps : Cond.code yX8_steps cX8_steps 4 (some .int) ∈ gtb := (gtb_of (tb2 (List.mem_of_getElem? (i := 110) (by decide +kernel))) (by decide +kernel))
theorem wX8_supports : Cond.code yX8_supports cX8_supports 2 (some .int) ∈ gtb := (gtb_of (tb2 (List.mem_of_getElem? (i := 188) (by decide +kernel))) (by decide +kernel))
theorem wX8_take : Cond.code yX8_take cX8_take 3 (some .boolean) ∈ gtb := (gtb_of (tb3 (List.mem_of_getElem? (i := 23) (by decide +kernel))) (by decide +kernel))
theorem wX8_times : Cond.code yX8_times cX8_times 5 (some .boolean) ∈ gtb := (gtb_of (tb1 (List.mem_of_getElem? (i := 238) (by decide +kernel))) (by decide +kernel))
theorem wX8_twist : Cond.code yX8_twist cX8_twist 1 (some .long) ∈ gtb := (gtb_of (tb2 (List.mem_of_getElem? (i := 159) (by decide +kernel))) (by decide +kernel))
theorem wX8_vanishes : Cond.code yX8_vanishes cX8_vanishes 3 (some .int) ∈ gtb := (gtb_of (tb2 (List.mem_of_getElem? (i := 180) (by decide +kernel))) (by decide +kernel))
theorem wX9_begin : Cond.code yX9_begin cX9_begin 3 (some .boolean) ∈ gtb := (gtb_of (tb4 (List.mem_of_getElem? (i := 145) (by decide +kernel))) (by decide +kernel))
theorem wX9_bits : Cond.code yX9_bits cX9_bits 3 (some .int) ∈ gtb := (gtb_of (tb4 (List.mem_of_getElem? (i := 129) (by decide +kernel))) (by decide +kernel))
theorem wX9_change : Cond.code yX9_change cX9_change 6 none ∈ gtb := (gtb_of (tb4 (List.mem_of_getElem? (i := 122) (by decide +kernel))) (by decide +kernel))
theorem wX9_clear : Cond.code yX9_clear cX9_clear 2 (some .int) ∈ gtb := (gtb_of (tb4 (List.mem_of_getElem? (i := 106) (by decide +kernel))) (by decide +kernel))
theorem wX9_comes : Cond.code yX9_comes cX9_comes 2 (some .boolean) ∈ gtb := (gtb_of (tb3 (List.mem_of_getElem? (i := 219) (by decide +kernel))) (by decide +kernel))
theorem wX9_comma : Cond.code yX9_comma cX9_comma 2 (some .int) ∈ gtb := (gtb_of (tb4 (List.mem_of_getElem? (i := 102) (by decide +kernel))) (by decide +kernel))
theorem wX9_commaRank : Cond.code yX9_commaRank cX9_commaRank 2 (some .int) ∈ gtb := (gtb_of (tb4 (List.mem_of_getElem? (i := 114) (by decide +kernel))) (by decide +kernel))
theorem wX9_compare : Cond.code yX9_compare cX9_compare 5 (some .int) ∈ gtb := (gtb_of (tb4 (List.mem_of_getElem? (i := 62) (by decide +kernel))) (by decide +kernel))
theorem wX9_down : Cond.code yX9_down cX9_down 2 (some .int) ∈ gtb := (gtb_of (tb4 (List.mem_of_getElem? (i := 34) (by decide +kernel))) (by decide +kernel))
theorem wX9_drop : Cond.code yX9_drop cX9_drop 2 (some .boolean) ∈ gtb := (gtb_of (tb4 (List.mem_of_getElem? (i := 46) (by decide +kernel))) (by decide +kernel))
theorem wX9_exponent : Cond.code yX9_exponent cX9_exponent 3 (some .int) ∈ gtb := (gtb_of (tb4 (List.mem_of_getElem? (i := 50) (by decide +kernel))) (by decide +kernel))
theorem wX9_fold : Cond.code yX9_fold cX9_fold 4 (some .boolean) ∈ gtb := (gtb_of (tb4 (List.mem_of_getElem? (i := 7) (by decide +kernel))) (by decide +kernel))
theorem wX9_folds : Cond.code yX9_folds cX9_folds 6 (some .boolean) ∈ gtb := (gtb_of (tb4 (List.mem_of_getElem? (i := 31) (by decide +kernel))) (by decide +kernel))
theorem wX9_follows : Cond.code yX9_follows cX9_follows 3 (some .int) ∈ gtb := (gtb_of (tb4 (List.mem_of_getElem? (i := 201) (by decide +kernel))) (by decide +kernel))
theorem wX9_give : Cond.code yX9_give cX9_give 4 none ∈ gtb := (gtb_of (tb3 (List.mem_of_getElem? (i := 227) (by decide +kernel))) (by decide +kernel))
theorem wX9_hold : Cond.code yX9_hold cX9_hold 4 none ∈ gtb := (gtb_of (tb4 (List.mem_of_getElem? (i := 3) (by decide +kernel))) (by decide +kernel))
theorem wX9_init : Cond.code yX9_init cX9_init 1 none ∈ gtb := (gtb_of (tb3 (List.mem_of_getElem? (i := 123) (by decide +kernel))) (by decide +kernel))
theorem wX9_insert : Cond.code yX9_insert cX9_insert 5 none ∈ gtb := (gtb_of (tb4 (List.mem_of_getElem? (i := 157) (by decide +kernel))) (by decide +kernel))
theorem wX9_isDim : Cond.code yX9_isDim cX9_isDim 3 (some .boolean) ∈ gtb := (gtb_of (tb4 (List.mem_of_getElem? (i := 209) (by decide +kernel))) (by decide +kernel))
theorem wX9_isDivision : Cond.code yX9_isDivision cX9_isDivision 1 (some .boolean) ∈ gtb := (gtb_of (tb4 (List.mem_of_getElem? (i := 86) (by decide +kernel))) (by decide +kernel))
theorem wX9_isFar : Cond.code yX9_isFar cX9_isFar 3 (some .boolean) ∈ gtb := (gtb_of (tb3 (List.mem_of_getElem? (i := 223) (by decide +kernel))) (by decide +kernel))
theorem wX9_isMyth : Cond.code yX9_isMyth cX9_isMyth 3 (some .boolean) ∈ gtb := (gtb_of (tb4 (List.mem_of_getElem? (i := 177) (by decide +kernel))) (by decide +kernel))
theorem wX9_isPeriod : Cond.code yX9_isPeriod cX9_isPeriod 2 (some .boolean) ∈ gtb := (gtb_of (tb4 (List.mem_of_getElem? (i := 11) (by decide +kernel))) (by decide +kernel))
theorem wX9_isProper : Cond.code yX9_isProper cX9_isProper 4 (some .boolean) ∈ gtb := (gtb_of (tb4 (List.mem_of_getElem? (i := 185) (by decide +kernel))) (by decide +kernel))
theorem wX9_isShelf : Cond.code yX9_isShelf cX9_isShelf 1 (some .boolean) ∈ gtb := (gtb_of (tb3 (List.mem_of_getElem? (i := 211) (by decide +kernel))) (by decide +kernel))
theorem wX9_kinds : Cond.code yX9_kinds cX9_kinds 2 (some .int) ∈ gtb := (gtb_of (tb4 (List.mem_of_getElem? (i := 189) (by decide +kernel))) (by decide +kernel))
theorem wX9_lay : Cond.code yX9_lay cX9_lay 8 (some .boolean) ∈ gtb := (gtb_of (tb4 (List.mem_of_getElem? (i := 161) (by decide +kernel))) (by decide +kernel))
theorem wX9_less : Cond.code yX9_less cX9_less 4 none ∈ gtb := (gtb_of (tb4 (List.mem_of_getElem? (i := 42) (by decide +kernel))) (by decide +kernel))
theorem wX9_map : Cond.code yX9_map cX9_map 3 (some .int) ∈ gtb := (gtb_of (tb4 (List.mem_of_getElem? (i := 83) (by decide +kernel))) (by decide +kernel))
theorem wX9_mapOf : Cond.code yX9_mapOf cX9_mapOf 7 (some .int) ∈ gtb := (gtb_of (tb4 (List.mem_of_getElem? (i := 90) (by decide +kernel))) (by decide +kernel))
theorem wX9_minor : Cond.code yX9_minor cX9_minor 8 (some .long) ∈ gtb := (gtb_of (tb4 (List.mem_of_getElem? (i := 133) (by decide +kernel))) (by decide +kernel))
theorem wX9_mode : Cond.code yX9_mode cX9_mode 3 (some .boolean) ∈ gtb := (gtb_of (tb4 (List.mem_of_getElem? (i := 197) (by decide +kernel))) (by decide +kernel))
theorem wX9_multiply : Cond.code yX9_multiply cX9_multiply 8 (some .int) ∈ gtb := (gtb_of (tb4 (List.mem_of_getElem? (i := 22) (by decide +kernel))) (by decide +kernel))
theorem wX9_none : Cond.code yX9_none cX9_none 2 (some .int) ∈ gtb := (gtb_of (tb4 (List.mem_of_getElem? (i := 54) (by decide +kernel))) (by decide +kernel))
theorem wX9_note : Cond.code yX9_note cX9_note 3 (some .int) ∈ gtb := (gtb_of (tb4 (List.mem_of_getElem? (i := 149) (by decide +kernel))) (by decide +kernel))
theorem wX9_noteAt : Cond.code yX9_noteAt cX9_noteAt 3 none ∈ gtb := (gtb_of (tb4 (List.mem_of_getElem? (i := 169) (by decide +kernel))) (by decide +kernel))
theorem wX9_order : Cond.code yX9_order cX9_order 4 (some .int) ∈ gtb := (gtb_of (tb4 (List.mem_of_getElem? (i := 58) (by decide +kernel))) (by decide +kernel))
theorem wX9_out : Cond.code yX9_out cX9_out 2 (some .int) ∈ gtb := (gtb_of (tb4 (List.mem_of_getElem? (i := 79) (by decide +kernel))) (by decide +kernel))
theorem wX9_placeIn : Cond.code yX9_placeIn cX9_placeIn 5 (some .int) ∈ gtb := (gtb_of (tb4 (List.mem_of_getElem? (i := 153) (by decide +kernel))) (by decide +kernel))
theorem wX9_powered : Cond.code yX9_powered cX9_powered 3 none ∈ gtb := (gtb_of (tb4 (List.mem_of_getElem? (i := 38) (by decide +kernel))) (by decide +kernel))
theorem wX9_prime : Cond.code yX9_prime cX9_prime 1 (some .int) ∈ gtb := (gtb_of (tb3 (List.mem_of_getElem? (i := 235) (by decide +kernel))) (by decide +kernel))
theorem wX9_products : Cond.code yX9_products cX9_products 3 none ∈ gtb := (gtb_of (tb4 (List.mem_of_getElem? (i := 19) (by decide +kernel))) (by decide +kernel))
theorem wX9_quotient : Cond.code yX9_quotient cX9_quotient 10 (some .int) ∈ gtb := (gtb_of (tb4 (List.mem_of_getElem? (i := 205) (by decide +kernel))) (by decide +kernel))
theorem wX9_rank : Cond.code yX9_rank cX9_rank 1 (some .int) ∈ gtb := (gtb_of (tb4 (List.mem_of_getElem? (i := 110) (by decide +kernel))) (by decide +kernel))
theorem wX9_rankOf : Cond.code yX9_rankOf cX9_rankOf 13 (some .int) ∈ gtb := (gtb_of (tb4 (List.mem_of_getElem? (i := 118) (by decide +kernel))) (by decide +kernel))
theorem wX9_ratio : Cond.code yX9_ratio cX9_ratio 9 (some .boolean) ∈ gtb := (gtb_of (tb3 (List.mem_of_getElem? (i := 231) (by decide +kernel))) (by decide +kernel))
theorem wX9_refuse : Cond.code yX9_refuse cX9_refuse 2 (some .boolean) ∈ gtb := (gtb_of (tb3 (List.mem_of_getElem? (i := 215) (by decide +kernel))) (by decide +kernel))
theorem wX9_scale : Cond.code yX9_scale cX9_scale 2 (some .int) ∈ gtb := (gtb_of (tb4 (List.mem_of_getElem? (i := 173) (by decide +kernel))) (by decide +kernel))
theorem wX9_set : Cond.code yX9_set cX9_set 8 (some .boolean) ∈ gtb := (gtb_of (tb3 (List.mem_of_getElem? (i := 208) (by decide +kernel))) (by decide +kernel))
theorem wX9_set6 : Cond.code yX9_set6 cX9_set6 5 none ∈ gtb := (gtb_of (tb4 (List.mem_of_getElem? (i := 27) (by decide +kernel))) (by decide +kernel))
theorem wX9_show : Cond.code yX9_show cX9_show 2 (some .int) ∈ gtb := (gtb_of (tb4 (List.mem_of_getElem? (i := 66) (by decide +kernel))) (by decide +kernel))
theorem wX9_sign : Cond.code yX9_sign cX9_sign 3 (some .int) ∈ gtb := (gtb_of (tb4 (List.mem_of_getElem? (i := 15) (by decide +kernel))) (by decide +kernel))
theorem wX9_status : Cond.code yX9_status cX9_status 1 (some .int) ∈ gtb := (gtb_of (tb3 (List.mem_of_getElem? (i := 204) (by decide +kernel))) (by decide +kernel))
theorem wX9_step : Cond.code yX9_step cX9_step 4 (some .int) ∈ gtb := (gtb_of (tb4 (List.mem_of_getElem? (i := 193) (by decide +kernel))) (by decide +kernel))
theorem wX9_steps : Cond.code yX9_steps cX9_steps 3 (some .int) ∈ gtb := (gtb_of (tb4 (List.mem_of_getElem? (i := 94) (by decide +kernel))) (by decide +kernel))
theorem wX9_stepsBy : Cond.code yX9_stepsBy cX9_stepsBy 5 none ∈ gtb := (gtb_of (tb4 (List.mem_of_getElem? (i := 181) (by decide +kernel))) (by decide +kernel))
theorem wX9_stepsOf : Cond.code yX9_stepsOf cX9_stepsOf 6 (some .int) ∈ gtb := (gtb_of (tb4 (List.mem_of_getElem? (i := 98) (by decide +kernel))) (by decide +kernel))
theorem wX9_supports : Cond.code yX9_supports cX9_supports 5 (some .int) ∈ gtb := (gtb_of (tb4 (List.mem_of_getElem? (i := 141) (by decide +kernel))) (by decide +kernel))
theorem wX9_take : Cond.code yX9_take cX9_take 3 (some .boolean) ∈ gtb := (gtb_of (tb4 (List.mem_of_getElem? (i := 165) (by decide +kernel))) (by decide +kernel))
theorem wX9_tell : Cond.code yX9_tell cX9_tell 2 none ∈ gtb := (gtb_of (tb4 (List.mem_of_getElem? (i := 75) (by decide +kernel))) (by decide +kernel))
theorem wX9_tellNumber : Cond.code yX9_tellNumber cX9_tellNumber 5 none ∈ gtb := (gtb_of (tb4 (List.mem_of_getElem? (i := 70) (by decide +kernel))) (by decide +kernel))
theorem wX9_times : Cond.code yX9_times cX9_times 6 (some .boolean) ∈ gtb := (gtb_of (tb3 (List.mem_of_getElem? (i := 239) (by decide +kernel))) (by decide +kernel))
theorem wX9_twist : Cond.code yX9_twist cX9_twist 10 (some .long) ∈ gtb := (gtb_of (tb4 (List.mem_of_getElem? (i := 126) (by decide +kernel))) (by decide +kernel))
theorem wX9_vanishes : Cond.code yX9_vanishes cX9_vanishes 4 (some .int) ∈ gtb := (gtb_of (tb4 (List.mem_of_getElem? (i := 137) (by decide +kernel))) (by decide +kernel))
theorem nX1_19 : Cond.constantLong RX1 19 (1000000000000) ∈ gtb := (gtb_of (tb2 (List.mem_of_getElem? (i := 105) (by decide +kernel))) (by decide +kernel))
theorem nX1_21 : Cond.constantLong RX1 21 (2000000000000) ∈ gtb := (gtb_of (tb2 (List.mem_of_getElem? (i := 106) (by decide +kernel))) (by decide +kernel))
theorem nX3_23 : Cond.constantLong RX3 23 (600000000) ∈ gtb := (gtb_of (tb2 (List.mem_of_getElem? (i := 14) (by decide +kernel))) (by decide +kernel))
theorem nX3_31 : Cond.constantLong RX3 31 (1000000000) ∈ gtb := (gtb_of (tb2 (List.mem_of_getElem? (i := 19) (by decide +kernel))) (by decide +kernel))
theorem nX3_33 : Cond.constant RX3 33 (100000000) ∈ gtb := (gtb_of (tb2 (List.mem_of_getElem? (i := 87) (by decide +kernel))) (by decide +kernel))
theorem nX8_73 : Cond.constant RX8 73 (1000000000) ∈ gtb := (gtb_of (tb1 (List.mem_of_getElem? (i := 223) (by decide +kernel))) (by decide +kernel))
theorem nX9_70 : Cond.constantLong RX9 70 (1000000000) ∈ gtb := (gtb_of (tb4 (List.mem_of_getElem? (i := 23) (by decide +kernel))) (by decide +kernel))
theorem nX9_117 : Cond.constant RX9 117 (1000000000) ∈ gtb := (gtb_of (tb3 (List.mem_of_getElem? (i := 232) (by decide +kernel))) (by decide +kernel))
theorem nX9_146 : Cond.constant RX9 146 (100000000) ∈ gtb := (gtb_of (tb4 (List.mem_of_getElem? (i := 71) (by decide +kernel))) (by decide +kernel))
end
section

-- ===== memories
def mlen (n : Nat) : Nat := match n with
  | 1 => 96
  | 3 => 130
  | 4 => 130
  | 8 => 400
  | 9 => 600
  | 10 => 36
  | 12 => 150
  | 13 => 150
  | 14 => 150
  | 15 => 25
  | 16 => 150
  | _ => 6
def mI (n : Nat) : Bool := decide (1 ≤ n) && decide (n ≤ 18) && !(n == 2) && !(n == 11)
theorem mlen_lt (n : Nat) : mlen n < 2 ^ 31 := by
  unfold mlen
  split <;> decide
abbrev mO (X : Cx) (Z : Nat → Int32) : va_E := .inr (7, [.int (Z 0), rf X 1, rf X 2, rf X 3, rf X 4, .int (Z 5), .int (Z 6), rf X 5, rf X 6, rf X 7, rf X 8, .int (Z 11), rf X 9, rf X 10, .int (Z 14), rf X 11, rf X 12, rf X 13, .int (Z 18), rf X 14, rf X 15, rf X 16, .int (Z 22), rf X 17, rf X 18])
def MM (X : Cx) (Z : Nat → Int32) (F : Nat → Nat → Int32) (L : Nat → Int64) (g : Mem) : Mem := fun i => if i = 0 then mO X Z else if i = 2 then aZ X 16 (F 2) else if i = 11 then aJ X 36 L else if i ≤ 18 then aI X (mlen i) (F i) else g i
theorem MM_I {X : Cx} {Z : Nat → Int32} {F : Nat → Nat → Int32} {L : Nat → Int64} {g : Mem} {n : Nat} (h : mI n = true) : MM X Z F L g n = aI X (mlen n) (F n) := by
  simp only [mI, Bool.and_eq_true, decide_eq_true_eq, Bool.not_eq_true', beq_eq_false_iff_ne, ne_eq] at h
  obtain ⟨⟨⟨h1, h2⟩, h3⟩, h4⟩ := h
  simp [MM, show n ≠ 0 by omega, h3, h4, h2]
theorem mI_lt {n : Nat} (h : mI n = true) : n < 147 := by
  simp only [mI, Bool.and_eq_true, decide_eq_true_eq] at h
  omega
theorem MM_setI {X : Cx} {Z : Nat → Int32} {F : Nat → Nat → Int32} {L : Nat → Int64} {g : Mem} {n : Nat} {f : Nat → Int32} (h : mI n = true) : va_up (MM X Z F L g) n (aI X (mlen n) f) = MM X Z (va_up F n f) L g := by
  simp only [mI, Bool.and_eq_true, decide_eq_true_eq, Bool.not_eq_true', beq_eq_false_iff_ne, ne_eq] at h
  obtain ⟨⟨⟨h1, h2⟩, h3⟩, h4⟩ := h
  funext i
  by_cases hi : i = n
  · subst hi
    simp [va_up, MM, show i ≠ 0 by omega, h3, h4, h2]
  · have h5 : va_up F n f i = F i := by simp [va_up, hi]
    have h6 : va_up F n f 2 = F 2 := by simp [va_up, Ne.symm h3]
    simp only [va_up, hi, if_false, MM]
    split
    · rfl
    · split
      · simp [Ne.symm h3]
      · rfl
theorem MM_set2 {X : Cx} {Z : Nat → Int32} {F : Nat → Nat → Int32} {L : Nat → Int64} {g : Mem} {f : Nat → Int32} : va_up (MM X Z F L g) 2 (aZ X 16 f) = MM X Z (va_up F 2 f) L g := by
  funext i
  by_cases hi : i = 2
  · subst hi
    simp [va_up, MM]
  · simp [va_up, MM, hi]
theorem MM_setL {X : Cx} {Z : Nat → Int32} {F : Nat → Nat → Int32} {L : Nat → Int64} {g : Mem} {f : Nat → Int64} : va_up (MM X Z F L g) 11 (aJ X 36 f) = MM X Z F f g := by
  funext i
  by_cases hi : i = 11
  · subst hi
    simp [va_up, MM]
  · simp [va_up, MM, hi]
theorem MM_setO {X : Cx} {Z Z' : Nat → Int32} {F : Nat → Nat → Int32} {L : Nat → Int64} {g : Mem} {e : va_E} (he : e = mO X Z') : va_up (MM X Z F L g) 0 e = MM X Z' F L g := by
  subst he
  funext i
  by_cases hi : i = 0
  · subst hi
    simp [va_up, MM]
  · simp [va_up, MM, hi]
-- rows over the reference's memory
section QM
variable {X : Cx} {own : String} {cc : ByteArray} {nL d : Nat} {K : KT} {Z : Nat → Int32} {F : Nat → Nat → Int32} {L : Nat → Int64} {g : Mem} {pc : Nat} {vs : Lv} {st : List Value}
theorem qm_iald (hK : Cl X own cc nL d K) {n k : Nat} {i : Int32} (hd : decode cc pc = .ok (.iaload, 1)) (hn : mI n = true) (hi : i = nI k) (hk : k < mlen n) (h : K (MM X Z F L g) (pc + 1) vs (.int (F n k) :: st)) : K (MM X Z F L g) pc vs (.int i :: rf X n :: st) := by
  subst hi
  have h2 : k < 2 ^ 31 := Nat.lt_trans hk (mlen_lt n)
  exact q_iald hK hd (mI_lt hn) (MM_I hn) (vp_in_nI hk (mlen_lt n)) (by rw [nI_clamp h2]; exact h)
theorem qm_iast (hK : Cl X own cc nL d K) {n k : Nat} {i x : Int32} (hd : decode cc pc = .ok (.iastore, 1)) (hn : mI n = true) (hi : i = nI k) (hk : k < mlen n) (h : K (MM X Z (va_up F n (upd (F n) k x)) L g) (pc + 1) vs st) : K (MM X Z F L g) pc vs (.int x :: .int i :: rf X n :: st) := by
  subst hi
  have h2 : k < 2 ^ 31 := Nat.lt_trans hk (mlen_lt n)
  exact q_iast hK hd (mI_lt hn) (MM_I hn) (vp_in_nI hk (mlen_lt n)) (by rw [nI_clamp h2, MM_setI hn]; exact h)
theorem qm_zald (hK : Cl X own cc nL d K) {k : Nat} {i : Int32} (hd : decode cc pc = .ok (.baload, 1)) (hi : i = nI k) (hk : k < 16) (h : K (MM X Z F L g) (pc + 1) vs (.int (F 2 k) :: st)) : K (MM X Z F L g) pc vs (.int i :: rf X 2 :: st) := by
  subst hi
  have h2 : k < 2 ^ 31 := by omega
  exact q_zald hK hd (by decide) rfl (vp_in_nI hk (by decide)) (by rw [nI_clamp h2]; exact h)
theorem qm_zast (hK : Cl X own cc nL d K) {k : Nat} {i x : Int32} (hd : decode cc pc = .ok (.bastore, 1)) (hi : i = nI k) (hk : k < 16) (hx : vp_nar .boolean x = x) (h : K (MM X Z (va_up F 2 (upd (F 2) k x)) L g) (pc + 1) vs st) : K (MM X Z F L g) pc vs (.int x :: .int i :: rf X 2 :: st) := by
  subst hi
  have h2 : k < 2 ^ 31 := by omega
  exact q_zast hK hd (by decide) rfl (vp_in_nI hk (by decide)) (by rw [nI_clamp h2, hx, MM_set2]; exact h)
theorem qm_lald (hK : Cl X own cc nL d K) {k : Nat} {i : Int32} (hd : decode cc pc = .ok (.laload, 1)) (hi : i = nI k) (hk : k < 36) (h : K (MM X Z F L g) (pc + 1) vs (.long (L k) :: st)) : K (MM X Z F L g) pc vs (.int i :: rf X 11 :: st) := by
  subst hi
  have h2 : k < 2 ^ 31 := by omega
  exact q_lald hK hd (by decide) rfl (vp_in_nI hk (by decide)) (by rw [nI_clamp h2]; exact h)
theorem qm_last (hK : Cl X own cc nL d K) {k : Nat} {i : Int32} {x : Int64} (hd : decode cc pc = .ok (.lastore, 1)) (hi : i = nI k) (hk : k < 36) (h : K (MM X Z F (vp_updL L k x) g) (pc + 1) vs st) : K (MM X Z F L g) pc vs (.long x :: .int i :: rf X 11 :: st) := by
  subst hi
  have h2 : k < 2 ^ 31 := by omega
  exact q_last hK hd (by decide) rfl (vp_in_nI hk (by decide)) (by rw [nI_clamp h2, MM_setL]; exact h)
theorem qm_put0 (hK : Cl X own cc nL d K) {v : Int32} {idx : Nat} (hd : decode cc pc = .ok (.putfield idx, 3)) (hF : FP own idx 7 0 .int) (h : K (MM X (va_up Z 0 v) F L g) (pc + 3) vs st) : K (MM X Z F L g) pc vs (.int v :: rf X 0 :: st) := q_putf hK hd hF (by decide) rfl rfl rfl (Nat.le_of_ble_eq_true rfl) ((congrArg (fun q => K q (pc + 3) vs st) (MM_setO (Z' := va_up Z 0 v) rfl)).mpr h)
theorem qm_put5 (hK : Cl X own cc nL d K) {v : Int32} {idx : Nat} (hd : decode cc pc = .ok (.putfield idx, 3)) (hF : FP own idx 7 5 .int) (h : K (MM X (va_up Z 5 v) F L g) (pc + 3) vs st) : K (MM X Z F L g) pc vs (.int v :: rf X 0 :: st) := q_putf hK hd hF (by decide) rfl rfl rfl (Nat.le_of_ble_eq_true rfl) ((congrArg (fun q => K q (pc + 3) vs st) (MM_setO (Z' := va_up Z 5 v) rfl)).mpr h)
theorem qm_put6 (hK : Cl X own cc nL d K) {v : Int32} {idx : Nat} (hd : decode cc pc = .ok (.putfield idx, 3)) (hF : FP own idx 7 6 .int) (h : K (MM X (va_up Z 6 v) F L g) (pc + 3) vs st) : K (MM X Z F L g) pc vs (.int v :: rf X 0 :: st) := q_putf hK hd hF (by decide) rfl rfl rfl (Nat.le_of_ble_eq_true rfl) ((congrArg (fun q => K q (pc + 3) vs st) (MM_setO (Z' := va_up Z 6 v) rfl)).mpr h)
theorem qm_put11 (hK : Cl X own cc nL d K) {v : Int32} {idx : Nat} (hd : decode cc pc = .ok (.putfield idx, 3)) (hF : FP own idx 7 11 .int) (h : K (MM X (va_up Z 11 v) F L g) (pc + 3) vs st) : K (MM X Z F L g) pc vs (.int v :: rf X 0 :: st) := q_putf hK hd hF (by decide) rfl rfl rfl (Nat.le_of_ble_eq_true rfl) ((congrArg (fun q => K q (pc + 3) vs st) (MM_setO (Z' := va_up Z 11 v) rfl)).mpr h)
theorem qm_put14 (hK : Cl X own cc nL d K) {v : Int32} {idx : Nat} (hd : decode cc pc = .ok (.putfield idx, 3)) (hF : FP own idx 7 14 .int) (h : K (MM X (va_up Z 14 v) F L g) (pc + 3) vs st) : K (MM X Z F L g) pc vs (.int v :: rf X 0 :: st) := q_putf hK hd hF (by decide) rfl rfl rfl (Nat.le_of_ble_eq_true rfl) ((congrArg (fun q => K q (pc + 3) vs st) (MM_setO (Z' := va_up Z 14 v) rfl)).mpr h)
theorem qm_put18 (hK : Cl X own cc nL d K) {v : Int32} {idx : Nat} (hd : decode cc pc = .ok (.putfield idx, 3)) (hF : FP own idx 7 18 .int) (h : K (MM X (va_up Z 18 v) F L g) (pc + 3) vs st) : K (MM X Z F L g) pc vs (.int v :: rf X 0 :: st) := q_putf hK hd hF (by decide) rfl rfl rfl (Nat.le_of_ble_eq_true rfl) ((congrArg (fun q => K q (pc + 3) vs st) (MM_setO (Z' := va_up Z 18 v) rfl)).mpr h)
theorem qm_put22 (hK : Cl X own cc nL d K) {v : Int32} {idx : Nat} (hd : decode cc pc = .ok (.putfield idx, 3)) (hF : FP own idx 7 22 .int) (h : K (MM X (va_up Z 22 v) F L g) (pc + 3) vs st) : K (MM X Z F L g) pc vs (.int v :: rf X 0 :: st) := q_putf hK hd hF (by decide) rfl rfl rfl (Nat.le_of_ble_eq_true rfl) ((congrArg (fun q => K q (pc + 3) vs st) (MM_setO (Z' := va_up Z 22 v) rfl)).mpr h)
end QM

-- ===== the class's memory: Z int fields, V long fields, P pointers, F int arrays, L long arrays
def bR (n : Nat) : Bool := (n == 22) || (n == 29) || (decide (34 ≤ n) && decide (n ≤ 37)) || (decide (45 ≤ n) && decide (n ≤ 68)) || (decide (75 ≤ n) && decide (n ≤ 146))
def blen (n : Nat) : Nat := match n with
  | 26 => 104
  | 28 => 104
  | 39 => 24
  | _ => 6
def bI (n : Nat) : Bool := (n == 26) || (n == 28) || (n == 39) || bR n
theorem blen_lt (n : Nat) : blen n < 2 ^ 31 := by
  unfold blen
  split <;> decide
def BB (X : Cx) (Z : Nat → Int32) (V : Nat → Int64) (P : Nat → Nat → Nat) (F : Nat → Nat → Int32) (L : Nat → Nat → Int64) (g : Mem) : Mem := fun i => match i with
  | 19 => .inr (6, [rf X 20, rf X 21, rf X 22, rf X 23, rf X 24, rf X 30, rf X 33, rf X 44, .int (Z 0), .int (Z 1)])
  | 20 => aRI X 16 (fun k => 48 + k)
  | 21 => aZ X 16 (F 21)
  | 23 => aB X 256 (F 23)
  | 24 => .inr (5, [rf X 25, rf X 27, rf X 29])
  | 25 => .inr (2, [rf X 26, .int (Z 2), .long (V 0)])
  | 27 => .inr (2, [rf X 28, .int (Z 3), .long (V 1)])
  | 30 => .inr (0, [rf X 31, rf X 32, .int (Z 4), .long (V 2)])
  | 31 => aRI X 5 (fun k => 64 + k)
  | 32 => aRJ X 6 (P 32)
  | 33 => .inr (4, [rf X 24, rf X 34, rf X 35, rf X 36, rf X 37, rf X 38, rf X 39, rf X (P 33 7), rf X (P 33 8)])
  | 38 => aRI X 24 (P 38)
  | 40 => .inr (3, [rf X 41, .int (Z 5)])
  | 41 => aRI X 24 (P 41)
  | 42 => .inr (3, [rf X 43, .int (Z 6)])
  | 43 => aRI X 24 (P 43)
  | 44 => .inr (1, [rf X 24, rf X 45, rf X (P 44 2), rf X (P 44 3)])
  | n => if bI n = true then aI X (blen n) (F n) else if 69 ≤ n ∧ n ≤ 74 then aJ X 6 (L n) else g n

theorem BB_I {X : Cx} {Z : Nat → Int32} {V : Nat → Int64} {P : Nat → Nat → Nat} {F : Nat → Nat → Int32} {L : Nat → Nat → Int64} {g : Mem} {n : Nat} (h : bI n = true) : BB X Z V P F L g n = aI X (blen n) (F n) := by
  unfold BB
  split <;> first | exact absurd h (by decide) | simp [h]
theorem bI_lt {n : Nat} (h : bI n = true) : n < 147 := by
  simp only [bI, bR, Bool.or_eq_true, beq_iff_eq, Bool.and_eq_true, decide_eq_true_eq] at h
  omega
theorem bR_I {n : Nat} (h : bR n = true) : bI n = true := by simp [bI, h]
theorem bR_len {n : Nat} (h : bR n = true) : blen n = 6 := by
  unfold blen
  split <;> first | exact absurd h (by decide) | rfl
theorem BB_R {X : Cx} {Z : Nat → Int32} {V : Nat → Int64} {P : Nat → Nat → Nat} {F : Nat → Nat → Int32} {L : Nat → Nat → Int64} {g : Mem} {n : Nat} (h : bR n = true) : BB X Z V P F L g n = aI X 6 (F n) := by
  rw [BB_I (bR_I h), bR_len h]
theorem up_of {b b' : Mem} {o : Nat} {e : va_E} (h1 : b' o = e) (h2 : ∀ i, i ≠ o → b' i = b i) : va_up b o e = b' := by
  funext i
  by_cases hi : i = o
  · subst hi
    simp [va_up, h1]
  · simp [va_up, hi, h2 i hi]
theorem BB_setI {X : Cx} {Z : Nat → Int32} {V : Nat → Int64} {P : Nat → Nat → Nat} {F : Nat → Nat → Int32} {L : Nat → Nat → Int64} {g : Mem} {n : Nat} {f : Nat → Int32} (h : bI n = true) : va_up (BB X Z V P F L g) n (aI X (blen n) f) = BB X Z V P (va_up F n f) L g := by
  refine up_of (by rw [BB_I h]; simp [va_up]) (fun i hi => ?_)
  have h21 : n ≠ 21 := fun q => by subst q; exact absurd h (by decide)
  have h23 : n ≠ 23 := fun q => by subst q; exact absurd h (by decide)
  unfold BB
  split <;> first | rfl | simp [va_up, Ne.symm h21, Ne.symm h23, hi]
theorem BB_setR {X : Cx} {Z : Nat → Int32} {V : Nat → Int64} {P : Nat → Nat → Nat} {F : Nat → Nat → Int32} {L : Nat → Nat → Int64} {g : Mem} {n : Nat} {f : Nat → Int32} (h : bR n = true) : va_up (BB X Z V P F L g) n (aI X 6 f) = BB X Z V P (va_up F n f) L g := by
  have := BB_setI (X := X) (Z := Z) (V := V) (P := P) (F := F) (L := L) (g := g) (f := f) (bR_I h)
  rwa [bR_len h] at this
theorem BB_set21 {X : Cx} {Z : Nat → Int32} {V : Nat → Int64} {P : Nat → Nat → Nat} {F : Nat → Nat → Int32} {L : Nat → Nat → Int64} {g : Mem} {f : Nat → Int32} : va_up (BB X Z V P F L g) 21 (aZ X 16 f) = BB X Z V P (va_up F 21 f) L g := by
  refine up_of rfl (fun i hi => ?_)
  unfold BB
  split <;> first | rfl | exact absurd rfl hi | simp [va_up, hi]
theorem BB_set23 {X : Cx} {Z : Nat → Int32} {V : Nat → Int64} {P : Nat → Nat → Nat} {F : Nat → Nat → Int32} {L : Nat → Nat → Int64} {g : Mem} {f : Nat → Int32} : va_up (BB X Z V P F L g) 23 (aB X 256 f) = BB X Z V P (va_up F 23 f) L g := by
  refine up_of rfl (fun i hi => ?_)
  unfold BB
  split <;> first | rfl | exact absurd rfl hi | simp [va_up, hi]
theorem BB_J {X : Cx} {Z : Nat → Int32} {V : Nat → Int64} {P : Nat → Nat → Nat} {F : Nat → Nat → Int32} {L : Nat → Nat → Int64} {g : Mem} {n : Nat} (h1 : 69 ≤ n) (h2 : n ≤ 74) : BB X Z V P F L g n = aJ X 6 (L n) := by
  have hb : bI n = false := by
    cases hb : bI n
    · rfl
    · simp only [bI, bR, Bool.or_eq_true, beq_iff_eq, Bool.and_eq_true, decide_eq_true_eq] at hb
      omega
  unfold BB
  split <;> first | omega | simp [hb, h1, h2]
theorem BB_setJ {X : Cx} {Z : Nat → Int32} {V : Nat → Int64} {P : Nat → Nat → Nat} {F : Nat → Nat → Int32} {L : Nat → Nat → Int64} {g : Mem} {n : Nat} {f : Nat → Int64} (h1 : 69 ≤ n) (h2 : n ≤ 74) : va_up (BB X Z V P F L g) n (aJ X 6 f) = BB X Z V P F (va_up L n f) g := by
  refine up_of (by rw [BB_J h1 h2]; simp [va_up]) (fun i hi => ?_)
  unfold BB
  split <;> first | rfl | simp [va_up, hi]
theorem BB_setP32 {X : Cx} {Z : Nat → Int32} {V : Nat → Int64} {P : Nat → Nat → Nat} {F : Nat → Nat → Int32} {L : Nat → Nat → Int64} {g : Mem} {r : Nat → Nat} : va_up (BB X Z V P F L g) 32 (aRJ X 6 r) = BB X Z V (va_up P 32 r) F L g := by
  refine up_of rfl (fun i hi => ?_)
  unfold BB
  split <;> first | rfl | exact absurd rfl hi | simp [va_up, hi]
theorem BB_setP38 {X : Cx} {Z : Nat → Int32} {V : Nat → Int64} {P : Nat → Nat → Nat} {F : Nat → Nat → Int32} {L : Nat → Nat → Int64} {g : Mem} {r : Nat → Nat} : va_up (BB X Z V P F L g) 38 (aRI X 24 r) = BB X Z V (va_up P 38 r) F L g := by
  refine up_of rfl (fun i hi => ?_)
  unfold BB
  split <;> first | rfl | exact absurd rfl hi | simp [va_up, hi]
theorem BB_setP41 {X : Cx} {Z : Nat → Int32} {V : Nat → Int64} {P : Nat → Nat → Nat} {F : Nat → Nat → Int32} {L : Nat → Nat → Int64} {g : Mem} {r : Nat → Nat} : va_up (BB X Z V P F L g) 41 (aRI X 24 r) = BB X Z V (va_up P 41 r) F L g := by
  refine up_of rfl (fun i hi => ?_)
  unfold BB
  split <;> first | rfl | exact absurd rfl hi | simp [va_up, hi]
theorem BB_setP43 {X : Cx} {Z : Nat → Int32} {V : Nat → Int64} {P : Nat → Nat → Nat} {F : Nat → Nat → Int32} {L : Nat → Nat → Int64} {g : Mem} {r : Nat → Nat} : va_up (BB X Z V P F L g) 43 (aRI X 24 r) = BB X Z V (va_up P 43 r) F L g := by
  refine up_of rfl (fun i hi => ?_)
  unfold BB
  split <;> first | rfl | exact absurd rfl hi | simp [va_up, hi]
section QB
variable {X : Cx} {own : String} {cc : ByteArray} {nL d : Nat} {K : KT} {Z : Nat → Int32} {V : Nat → Int64} {P : Nat → Nat → Nat} {F : Nat → Nat → Int32} {L : Nat → Nat → Int64} {g : Mem} {pc : Nat} {vs : Lv} {st : List Value}
theorem qb_put19_8 (hK : Cl X own cc nL d K) {v : Int32} {idx : Nat} (hd : decode cc pc = .ok (.putfield idx, 3)) (hF : FP own idx 6 8 .int) (h : K (BB X (va_up Z 0 v) V P F L g) (pc + 3) vs st) : K (BB X Z V P F L g) pc vs (.int v :: rf X 19 :: st) := by
  refine q_putf hK hd hF (by decide) rfl rfl rfl (Nat.le_of_ble_eq_true rfl) ((congrArg (fun q => K q (pc + 3) vs st) (up_of (b' := BB X (va_up Z 0 v) V P F L g) rfl (fun i hi => ?_))).mpr h)
  unfold BB
  split <;> first | rfl | exact absurd rfl hi | simp [va_up]
theorem qb_put19_9 (hK : Cl X own cc nL d K) {v : Int32} {idx : Nat} (hd : decode cc pc = .ok (.putfield idx, 3)) (hF : FP own idx 6 9 .int) (h : K (BB X (va_up Z 1 v) V P F L g) (pc + 3) vs st) : K (BB X Z V P F L g) pc vs (.int v :: rf X 19 :: st) := by
  refine q_putf hK hd hF (by decide) rfl rfl rfl (Nat.le_of_ble_eq_true rfl) ((congrArg (fun q => K q (pc + 3) vs st) (up_of (b' := BB X (va_up Z 1 v) V P F L g) rfl (fun i hi => ?_))).mpr h)
  unfold BB
  split <;> first | rfl | exact absurd rfl hi | simp [va_up]
theorem qb_put25_1 (hK : Cl X own cc nL d K) {v : Int32} {idx : Nat} (hd : decode cc pc = .ok (.putfield idx, 3)) (hF : FP own idx 2 1 .int) (h : K (BB X (va_up Z 2 v) V P F L g) (pc + 3) vs st) : K (BB X Z V P F L g) pc vs (.int v :: rf X 25 :: st) := by
  refine q_putf hK hd hF (by decide) rfl rfl rfl (Nat.le_of_ble_eq_true rfl) ((congrArg (fun q => K q (pc + 3) vs st) (up_of (b' := BB X (va_up Z 2 v) V P F L g) rfl (fun i hi => ?_))).mpr h)
  unfold BB
  split <;> first | rfl | exact absurd rfl hi | simp [va_up]
theorem qb_put25_2 (hK : Cl X own cc nL d K) {v : Int64} {idx : Nat} (hd : decode cc pc = .ok (.putfield idx, 3)) (hF : FP own idx 2 2 .long) (h : K (BB X Z (va_up V 0 v) P F L g) (pc + 3) vs st) : K (BB X Z V P F L g) pc vs (.long v :: rf X 25 :: st) := by
  refine q_putf hK hd hF (by decide) rfl rfl rfl (Nat.le_of_ble_eq_true rfl) ((congrArg (fun q => K q (pc + 3) vs st) (up_of (b' := BB X Z (va_up V 0 v) P F L g) rfl (fun i hi => ?_))).mpr h)
  unfold BB
  split <;> first | rfl | exact absurd rfl hi | simp [va_up]
theorem qb_put27_1 (hK : Cl X own cc nL d K) {v : Int32} {idx : Nat} (hd : decode cc pc = .ok (.putfield idx, 3)) (hF : FP own idx 2 1 .int) (h : K (BB X (va_up Z 3 v) V P F L g) (pc + 3) vs st) : K (BB X Z V P F L g) pc vs (.int v :: rf X 27 :: st) := by
  refine q_putf hK hd hF (by decide) rfl rfl rfl (Nat.le_of_ble_eq_true rfl) ((congrArg (fun q => K q (pc + 3) vs st) (up_of (b' := BB X (va_up Z 3 v) V P F L g) rfl (fun i hi => ?_))).mpr h)
  unfold BB
  split <;> first | rfl | exact absurd rfl hi | simp [va_up]
theorem qb_put27_2 (hK : Cl X own cc nL d K) {v : Int64} {idx : Nat} (hd : decode cc pc = .ok (.putfield idx, 3)) (hF : FP own idx 2 2 .long) (h : K (BB X Z (va_up V 1 v) P F L g) (pc + 3) vs st) : K (BB X Z V P F L g) pc vs (.long v :: rf X 27 :: st) := by
  refine q_putf hK hd hF (by decide) rfl rfl rfl (Nat.le_of_ble_eq_true rfl) ((congrArg (fun q => K q (pc + 3) vs st) (up_of (b' := BB X Z (va_up V 1 v) P F L g) rfl (fun i hi => ?_))).mpr h)
  unfold BB
  split <;> first | rfl | exact absurd rfl hi | simp [va_up]
theorem qb_put30_2 (hK : Cl X own cc nL d K) {v : Int32} {idx : Nat} (hd : decode cc pc = .ok (.putfield idx, 3)) (hF : FP own idx 0 2 .int) (h : K (BB X (va_up Z 4 v) V P F L g) (pc + 3) vs st) : K (BB X Z V P F L g) pc vs (.int v :: rf X 30 :: st) := by
  refine q_putf hK hd hF (by decide) rfl rfl rfl (Nat.le_of_ble_eq_true rfl) ((congrArg (fun q => K q (pc + 3) vs st) (up_of (b' := BB X (va_up Z 4 v) V P F L g) rfl (fun i hi => ?_))).mpr h)
  unfold BB
  split <;> first | rfl | exact absurd rfl hi | simp [va_up]
theorem qb_put30_3 (hK : Cl X own cc nL d K) {v : Int64} {idx : Nat} (hd : decode cc pc = .ok (.putfield idx, 3)) (hF : FP own idx 0 3 .long) (h : K (BB X Z (va_up V 2 v) P F L g) (pc + 3) vs st) : K (BB X Z V P F L g) pc vs (.long v :: rf X 30 :: st) := by
  refine q_putf hK hd hF (by decide) rfl rfl rfl (Nat.le_of_ble_eq_true rfl) ((congrArg (fun q => K q (pc + 3) vs st) (up_of (b' := BB X Z (va_up V 2 v) P F L g) rfl (fun i hi => ?_))).mpr h)
  unfold BB
  split <;> first | rfl | exact absurd rfl hi | simp [va_up]
theorem qb_put40_1 (hK : Cl X own cc nL d K) {v : Int32} {idx : Nat} (hd : decode cc pc = .ok (.putfield idx, 3)) (hF : FP own idx 3 1 .int) (h : K (BB X (va_up Z 5 v) V P F L g) (pc + 3) vs st) : K (BB X Z V P F L g) pc vs (.int v :: rf X 40 :: st) := by
  refine q_putf hK hd hF (by decide) rfl rfl rfl (Nat.le_of_ble_eq_true rfl) ((congrArg (fun q => K q (pc + 3) vs st) (up_of (b' := BB X (va_up Z 5 v) V P F L g) rfl (fun i hi => ?_))).mpr h)
  unfold BB
  split <;> first | rfl | exact absurd rfl hi | simp [va_up]
theorem qb_put42_1 (hK : Cl X own cc nL d K) {v : Int32} {idx : Nat} (hd : decode cc pc = .ok (.putfield idx, 3)) (hF : FP own idx 3 1 .int) (h : K (BB X (va_up Z 6 v) V P F L g) (pc + 3) vs st) : K (BB X Z V P F L g) pc vs (.int v :: rf X 42 :: st) := by
  refine q_putf hK hd hF (by decide) rfl rfl rfl (Nat.le_of_ble_eq_true rfl) ((congrArg (fun q => K q (pc + 3) vs st) (up_of (b' := BB X (va_up Z 6 v) V P F L g) rfl (fun i hi => ?_))).mpr h)
  unfold BB
  split <;> first | rfl | exact absurd rfl hi | simp [va_up]
theorem qb_put33_7 (hK : Cl X own cc nL d K) {v : Nat} {idx : Nat} (hd : decode cc pc = .ok (.putfield idx, 3)) (hF : FP own idx 4 7 (.object "TuneBench$NoteList")) (h : K (BB X Z V (va_up P 33 (va_up (P 33) 7 v)) F L g) (pc + 3) vs st) : K (BB X Z V P F L g) pc vs (rf X v :: rf X 33 :: st) := by
  refine q_putf hK hd hF (by decide) rfl rfl rfl (Nat.le_of_ble_eq_true rfl) ((congrArg (fun q => K q (pc + 3) vs st) (up_of (b' := BB X Z V (va_up P 33 (va_up (P 33) 7 v)) F L g) rfl (fun i hi => ?_))).mpr h)
  unfold BB
  split <;> first | rfl | exact absurd rfl hi | simp [va_up]
theorem qb_put33_8 (hK : Cl X own cc nL d K) {v : Nat} {idx : Nat} (hd : decode cc pc = .ok (.putfield idx, 3)) (hF : FP own idx 4 8 (.object "TuneBench$NoteList")) (h : K (BB X Z V (va_up P 33 (va_up (P 33) 8 v)) F L g) (pc + 3) vs st) : K (BB X Z V P F L g) pc vs (rf X v :: rf X 33 :: st) := by
  refine q_putf hK hd hF (by decide) rfl rfl rfl (Nat.le_of_ble_eq_true rfl) ((congrArg (fun q => K q (pc + 3) vs st) (up_of (b' := BB X Z V (va_up P 33 (va_up (P 33) 8 v)) F L g) rfl (fun i hi => ?_))).mpr h)
  unfold BB
  split <;> first | rfl | exact absurd rfl hi | simp [va_up]
theorem qb_put44_2 (hK : Cl X own cc nL d K) {v : Nat} {idx : Nat} (hd : decode cc pc = .ok (.putfield idx, 3)) (hF : FP own idx 1 2 (.array .int)) (h : K (BB X Z V (va_up P 44 (va_up (P 44) 2 v)) F L g) (pc + 3) vs st) : K (BB X Z V P F L g) pc vs (rf X v :: rf X 44 :: st) := by
  refine q_putf hK hd hF (by decide) rfl rfl rfl (Nat.le_of_ble_eq_true rfl) ((congrArg (fun q => K q (pc + 3) vs st) (up_of (b' := BB X Z V (va_up P 44 (va_up (P 44) 2 v)) F L g) rfl (fun i hi => ?_))).mpr h)
  unfold BB
  split <;> first | rfl | exact absurd rfl hi | simp [va_up]
theorem qb_put44_3 (hK : Cl X own cc nL d K) {v : Nat} {idx : Nat} (hd : decode cc pc = .ok (.putfield idx, 3)) (hF : FP own idx 1 3 (.array .int)) (h : K (BB X Z V (va_up P 44 (va_up (P 44) 3 v)) F L g) (pc + 3) vs st) : K (BB X Z V P F L g) pc vs (rf X v :: rf X 44 :: st) := by
  refine q_putf hK hd hF (by decide) rfl rfl rfl (Nat.le_of_ble_eq_true rfl) ((congrArg (fun q => K q (pc + 3) vs st) (up_of (b' := BB X Z V (va_up P 44 (va_up (P 44) 3 v)) F L g) rfl (fun i hi => ?_))).mpr h)
  unfold BB
  split <;> first | rfl | exact absurd rfl hi | simp [va_up]

theorem qb_iald (hK : Cl X own cc nL d K) {n k : Nat} {i : Int32} (hd : decode cc pc = .ok (.iaload, 1)) (hn : bI n = true) (hi : i = nI k) (hk : k < blen n) (h : K (BB X Z V P F L g) (pc + 1) vs (.int (F n k) :: st)) : K (BB X Z V P F L g) pc vs (.int i :: rf X n :: st) := by
  subst hi
  have h2 : k < 2 ^ 31 := Nat.lt_trans hk (blen_lt n)
  exact q_iald hK hd (bI_lt hn) (BB_I hn) (vp_in_nI hk (blen_lt n)) (by rw [nI_clamp h2]; exact h)
theorem qb_iast (hK : Cl X own cc nL d K) {n k : Nat} {i x : Int32} (hd : decode cc pc = .ok (.iastore, 1)) (hn : bI n = true) (hi : i = nI k) (hk : k < blen n) (h : K (BB X Z V P (va_up F n (upd (F n) k x)) L g) (pc + 1) vs st) : K (BB X Z V P F L g) pc vs (.int x :: .int i :: rf X n :: st) := by
  subst hi
  have h2 : k < 2 ^ 31 := Nat.lt_trans hk (blen_lt n)
  exact q_iast hK hd (bI_lt hn) (BB_I hn) (vp_in_nI hk (blen_lt n)) (by rw [nI_clamp h2, BB_setI hn]; exact h)
theorem qb_ialdR (hK : Cl X own cc nL d K) {n k : Nat} {i : Int32} (hd : decode cc pc = .ok (.iaload, 1)) (hn : bR n = true) (hi : i = nI k) (hk : k < 6) (h : K (BB X Z V P F L g) (pc + 1) vs (.int (F n k) :: st)) : K (BB X Z V P F L g) pc vs (.int i :: rf X n :: st) := qb_iald hK hd (bR_I hn) hi (by rw [bR_len hn]; exact hk) h
theorem qb_iastR (hK : Cl X own cc nL d K) {n k : Nat} {i x : Int32} (hd : decode cc pc = .ok (.iastore, 1)) (hn : bR n = true) (hi : i = nI k) (hk : k < 6) (h : K (BB X Z V P (va_up F n (upd (F n) k x)) L g) (pc + 1) vs st) : K (BB X Z V P F L g) pc vs (.int x :: .int i :: rf X n :: st) := qb_iast hK hd (bR_I hn) hi (by rw [bR_len hn]; exact hk) h
theorem qb_zald (hK : Cl X own cc nL d K) {k : Nat} {i : Int32} (hd : decode cc pc = .ok (.baload, 1)) (hi : i = nI k) (hk : k < 16) (h : K (BB X Z V P F L g) (pc + 1) vs (.int (F 21 k) :: st)) : K (BB X Z V P F L g) pc vs (.int i :: rf X 21 :: st) := by
  subst hi
  have h2 : k < 2 ^ 31 := by omega
  exact q_zald hK hd (by decide) rfl (vp_in_nI hk (by decide)) (by rw [nI_clamp h2]; exact h)
theorem qb_zast (hK : Cl X own cc nL d K) {k : Nat} {i x : Int32} (hd : decode cc pc = .ok (.bastore, 1)) (hi : i = nI k) (hk : k < 16) (hx : vp_nar .boolean x = x) (h : K (BB X Z V P (va_up F 21 (upd (F 21) k x)) L g) (pc + 1) vs st) : K (BB X Z V P F L g) pc vs (.int x :: .int i :: rf X 21 :: st) := by
  subst hi
  have h2 : k < 2 ^ 31 := by omega
  exact q_zast hK hd (by decide) rfl (vp_in_nI hk (by decide)) (by rw [nI_clamp h2, hx, BB_set21]; exact h)
theorem qb_bald (hK : Cl X own cc nL d K) {k : Nat} {i : Int32} (hd : decode cc pc = .ok (.baload, 1)) (hi : i = nI k) (hk : k < 256) (h : K (BB X Z V P F L g) (pc + 1) vs (.int (F 23 k) :: st)) : K (BB X Z V P F L g) pc vs (.int i :: rf X 23 :: st) := by
  subst hi
  have h2 : k < 2 ^ 31 := by omega
  exact q_bald hK hd (by decide) rfl (vp_in_nI hk (by decide)) (by rw [nI_clamp h2]; exact h)
theorem qb_bast (hK : Cl X own cc nL d K) {k : Nat} {i x : Int32} (hd : decode cc pc = .ok (.bastore, 1)) (hi : i = nI k) (hk : k < 256) (h : K (BB X Z V P (va_up F 23 (upd (F 23) k (vp_nar .byte x))) L g) (pc + 1) vs st) : K (BB X Z V P F L g) pc vs (.int x :: .int i :: rf X 23 :: st) := by
  subst hi
  have h2 : k < 2 ^ 31 := by omega
  exact q_bast hK hd (by decide) rfl (vp_in_nI hk (by decide)) (by rw [nI_clamp h2, BB_set23]; exact h)
theorem qb_lald (hK : Cl X own cc nL d K) {n k : Nat} {i : Int32} (hd : decode cc pc = .ok (.laload, 1)) (h1 : 69 ≤ n) (h2 : n ≤ 74) (hi : i = nI k) (hk : k < 6) (h : K (BB X Z V P F L g) (pc + 1) vs (.long (L n k) :: st)) : K (BB X Z V P F L g) pc vs (.int i :: rf X n :: st) := by
  subst hi
  have h3 : k < 2 ^ 31 := by omega
  exact q_lald hK hd (by omega) (BB_J h1 h2) (vp_in_nI hk (by decide)) (by rw [nI_clamp h3]; exact h)
theorem qb_last (hK : Cl X own cc nL d K) {n k : Nat} {i : Int32} {x : Int64} (hd : decode cc pc = .ok (.lastore, 1)) (h1 : 69 ≤ n) (h2 : n ≤ 74) (hi : i = nI k) (hk : k < 6) (h : K (BB X Z V P F (va_up L n (vp_updL (L n) k x)) g) (pc + 1) vs st) : K (BB X Z V P F L g) pc vs (.long x :: .int i :: rf X n :: st) := by
  subst hi
  have h3 : k < 2 ^ 31 := by omega
  exact q_last hK hd (by omega) (BB_J h1 h2) (vp_in_nI hk (by decide)) (by rw [nI_clamp h3, BB_setJ h1 h2]; exact h)
theorem qb_aald20 (hK : Cl X own cc nL d K) {k : Nat} {i : Int32} (hd : decode cc pc = .ok (.aaload, 1)) (hi : i = nI k) (hk : k < 16) (h : K (BB X Z V P F L g) (pc + 1) vs (rf X (48 + k) :: st)) : K (BB X Z V P F L g) pc vs (.int i :: rf X 20 :: st) := by
  subst hi
  have h2 : k < 2 ^ 31 := by omega
  exact q_aaldI (r := fun k => 48 + k) hK hd (by decide) rfl (vp_in_nI hk (by decide)) (by rw [nI_clamp h2]; exact h)
theorem qb_aald31 (hK : Cl X own cc nL d K) {k : Nat} {i : Int32} (hd : decode cc pc = .ok (.aaload, 1)) (hi : i = nI k) (hk : k < 5) (h : K (BB X Z V P F L g) (pc + 1) vs (rf X (64 + k) :: st)) : K (BB X Z V P F L g) pc vs (.int i :: rf X 31 :: st) := by
  subst hi
  have h2 : k < 2 ^ 31 := by omega
  exact q_aaldI (r := fun k => 64 + k) hK hd (by decide) rfl (vp_in_nI hk (by decide)) (by rw [nI_clamp h2]; exact h)
theorem qb_aald32 (hK : Cl X own cc nL d K) {k : Nat} {i : Int32} (hd : decode cc pc = .ok (.aaload, 1)) (hi : i = nI k) (hk : k < 6) (h : K (BB X Z V P F L g) (pc + 1) vs (rf X (P 32 k) :: st)) : K (BB X Z V P F L g) pc vs (.int i :: rf X 32 :: st) := by
  subst hi
  have h2 : k < 2 ^ 31 := by omega
  exact q_aaldJ (r := P 32) hK hd (by decide) rfl (vp_in_nI hk (by decide)) (by rw [nI_clamp h2]; exact h)
theorem qb_aast32 (hK : Cl X own cc nL d K) {k q : Nat} {i : Int32} (hd : decode cc pc = .ok (.aastore, 1)) (hi : i = nI k) (hk : k < 6) (h1 : 69 ≤ q) (h2 : q ≤ 74) (h : K (BB X Z V (va_up P 32 (va_up (P 32) k q)) F L g) (pc + 1) vs st) : K (BB X Z V P F L g) pc vs (rf X q :: .int i :: rf X 32 :: st) := by
  subst hi
  have h3 : k < 2 ^ 31 := by omega
  exact q_aastJ (r := P 32) hK hd (by decide) rfl (vp_in_nI hk (by decide)) (by omega) (BB_J h1 h2) (by rw [nI_clamp h3, BB_setP32]; exact h)
theorem qb_aald38 (hK : Cl X own cc nL d K) {k : Nat} {i : Int32} (hd : decode cc pc = .ok (.aaload, 1)) (hi : i = nI k) (hk : k < 24) (h : K (BB X Z V P F L g) (pc + 1) vs (rf X (P 38 k) :: st)) : K (BB X Z V P F L g) pc vs (.int i :: rf X 38 :: st) := by
  subst hi
  have h2 : k < 2 ^ 31 := by omega
  exact q_aaldI (r := P 38) hK hd (by decide) rfl (vp_in_nI hk (by decide)) (by rw [nI_clamp h2]; exact h)
theorem qb_aast38 (hK : Cl X own cc nL d K) {k q : Nat} {i : Int32} (hd : decode cc pc = .ok (.aastore, 1)) (hi : i = nI k) (hk : k < 24) (hq : bR q = true) (h : K (BB X Z V (va_up P 38 (va_up (P 38) k q)) F L g) (pc + 1) vs st) : K (BB X Z V P F L g) pc vs (rf X q :: .int i :: rf X 38 :: st) := by
  subst hi
  have h3 : k < 2 ^ 31 := by omega
  exact q_aastI (r := P 38) hK hd (by decide) rfl (vp_in_nI hk (by decide)) (bI_lt (bR_I hq)) (BB_R hq) (by rw [nI_clamp h3, BB_setP38]; exact h)
theorem qb_aald41 (hK : Cl X own cc nL d K) {k : Nat} {i : Int32} (hd : decode cc pc = .ok (.aaload, 1)) (hi : i = nI k) (hk : k < 24) (h : K (BB X Z V P F L g) (pc + 1) vs (rf X (P 41 k) :: st)) : K (BB X Z V P F L g) pc vs (.int i :: rf X 41 :: st) := by
  subst hi
  have h2 : k < 2 ^ 31 := by omega
  exact q_aaldI (r := P 41) hK hd (by decide) rfl (vp_in_nI hk (by decide)) (by rw [nI_clamp h2]; exact h)
theorem qb_aast41 (hK : Cl X own cc nL d K) {k q : Nat} {i : Int32} (hd : decode cc pc = .ok (.aastore, 1)) (hi : i = nI k) (hk : k < 24) (hq : bR q = true) (h : K (BB X Z V (va_up P 41 (va_up (P 41) k q)) F L g) (pc + 1) vs st) : K (BB X Z V P F L g) pc vs (rf X q :: .int i :: rf X 41 :: st) := by
  subst hi
  have h3 : k < 2 ^ 31 := by omega
  exact q_aastI (r := P 41) hK hd (by decide) rfl (vp_in_nI hk (by decide)) (bI_lt (bR_I hq)) (BB_R hq) (by rw [nI_clamp h3, BB_setP41]; exact h)
theorem qb_aald43 (hK : Cl X own cc nL d K) {k : Nat} {i : Int32} (hd : decode cc pc = .ok (.aaload, 1)) (hi : i = nI k) (hk : k < 24) (h : K (BB X Z V P F L g) (pc + 1) vs (rf X (P 43 k) :: st)) : K (BB X Z V P F L g) pc vs (.int i :: rf X 43 :: st) := by
  subst hi
  have h2 : k < 2 ^ 31 := by omega
  exact q_aaldI (r := P 43) hK hd (by decide) rfl (vp_in_nI hk (by decide)) (by rw [nI_clamp h2]; exact h)
theorem qb_aast43 (hK : Cl X own cc nL d K) {k q : Nat} {i : Int32} (hd : decode cc pc = .ok (.aastore, 1)) (hi : i = nI k) (hk : k < 24) (hq : bR q = true) (h : K (BB X Z V (va_up P 43 (va_up (P 43) k q)) F L g) (pc + 1) vs st) : K (BB X Z V P F L g) pc vs (rf X q :: .int i :: rf X 43 :: st) := by
  subst hi
  have h3 : k < 2 ^ 31 := by omega
  exact q_aastI (r := P 43) hK hd (by decide) rfl (vp_in_nI hk (by decide)) (bI_lt (bR_I hq)) (BB_R hq) (by rw [nI_clamp h3, BB_setP43]; exact h)
end QB
section QC
variable {X : Cx} {own : String} {cc : ByteArray} {nL d : Nat} {K : KT} {g : Mem} {pc : Nat} {vs : Lv} {r : List Value} {idx d1 : Nat} {y : MethodName}
theorem q_cVi0 (hK : Cl X own cc nL d K) {ob ci : Nat} {fs : List Value}  (hd : decode cc pc = .ok (.invokevirtual idx, 3)) (hL : VL own idx y 0 ci) (hd1 : d1 + 1 ≤ d) (ho : ob < 147) (hg : g ob = .inr (ci, fs)) (hr8 : (r.map fun v => v.category).sum ≤ 8) (hC : CallI X d1 y (rf X ob :: []) g (fun v g9 => K g9 (pc + 3) vs (.int v :: r))) : K g pc vs (rf X ob :: r) := q_callVi hK hd hL rfl hd1 ho hg hC rfl hr8 (fun v g9 h => h)
theorem q_cVl0 (hK : Cl X own cc nL d K) {ob ci : Nat} {fs : List Value}  (hd : decode cc pc = .ok (.invokevirtual idx, 3)) (hL : VL own idx y 0 ci) (hd1 : d1 + 1 ≤ d) (ho : ob < 147) (hg : g ob = .inr (ci, fs)) (hr8 : (r.map fun v => v.category).sum ≤ 8) (hC : CallL X d1 y (rf X ob :: []) g (fun v g9 => K g9 (pc + 3) vs (.long v :: r))) : K g pc vs (rf X ob :: r) := q_callVl hK hd hL rfl hd1 ho hg hC rfl hr8 (fun v g9 h => h)
theorem q_cVv0 (hK : Cl X own cc nL d K) {ob ci : Nat} {fs : List Value}  (hd : decode cc pc = .ok (.invokevirtual idx, 3)) (hL : VL own idx y 0 ci) (hd1 : d1 + 1 ≤ d) (ho : ob < 147) (hg : g ob = .inr (ci, fs)) (hr8 : (r.map fun v => v.category).sum ≤ 8) (hC : CallV X d1 y (rf X ob :: []) g (fun g9 => K g9 (pc + 3) vs r)) : K g pc vs (rf X ob :: r) := q_callVv hK hd hL rfl hd1 ho hg hC rfl hr8 (fun g9 h => h)
theorem q_cSi1 (hK : Cl X own cc nL d K) {a1 : Value} (hd : decode cc pc = .ok (.invokestatic idx, 3)) (hL : SL own idx y 1) (hd1 : d1 + 1 ≤ d) (hr8 : (r.map fun v => v.category).sum ≤ 8) (hC : CallI X d1 y [a1] g (fun v g9 => K g9 (pc + 3) vs (.int v :: r))) : K g pc vs (a1 :: r) := q_callSi hK hd hL rfl hd1 hC rfl hr8 (fun v g9 h => h)
theorem q_cVi1 (hK : Cl X own cc nL d K) {ob ci : Nat} {fs : List Value} {a1 : Value} (hd : decode cc pc = .ok (.invokevirtual idx, 3)) (hL : VL own idx y 1 ci) (hd1 : d1 + 1 ≤ d) (ho : ob < 147) (hg : g ob = .inr (ci, fs)) (hr8 : (r.map fun v => v.category).sum ≤ 8) (hC : CallI X d1 y (rf X ob :: [a1]) g (fun v g9 => K g9 (pc + 3) vs (.int v :: r))) : K g pc vs (a1 :: rf X ob :: r) := q_callVi hK hd hL rfl hd1 ho hg hC rfl hr8 (fun v g9 h => h)
theorem q_cSl1 (hK : Cl X own cc nL d K) {a1 : Value} (hd : decode cc pc = .ok (.invokestatic idx, 3)) (hL : SL own idx y 1) (hd1 : d1 + 1 ≤ d) (hr8 : (r.map fun v => v.category).sum ≤ 8) (hC : CallL X d1 y [a1] g (fun v g9 => K g9 (pc + 3) vs (.long v :: r))) : K g pc vs (a1 :: r) := q_callSl hK hd hL rfl hd1 hC rfl hr8 (fun v g9 h => h)
theorem q_cVl1 (hK : Cl X own cc nL d K) {ob ci : Nat} {fs : List Value} {a1 : Value} (hd : decode cc pc = .ok (.invokevirtual idx, 3)) (hL : VL own idx y 1 ci) (hd1 : d1 + 1 ≤ d) (ho : ob < 147) (hg : g ob = .inr (ci, fs)) (hr8 : (r.map fun v => v.category).sum ≤ 8) (hC : CallL X d1 y (rf X ob :: [a1]) g (fun v g9 => K g9 (pc + 3) vs (.long v :: r))) : K g pc vs (a1 :: rf X ob :: r) := q_callVl hK hd hL rfl hd1 ho hg hC rfl hr8 (fun v g9 h => h)
theorem q_cSv1 (hK : Cl X own cc nL d K) {a1 : Value} (hd : decode cc pc = .ok (.invokestatic idx, 3)) (hL : SL own idx y 1) (hd1 : d1 + 1 ≤ d) (hr8 : (r.map fun v => v.category).sum ≤ 8) (hC : CallV X d1 y [a1] g (fun g9 => K g9 (pc + 3) vs r)) : K g pc vs (a1 :: r) := q_callSv hK hd hL rfl hd1 hC rfl hr8 (fun g9 h => h)
theorem q_cVv1 (hK : Cl X own cc nL d K) {ob ci : Nat} {fs : List Value} {a1 : Value} (hd : decode cc pc = .ok (.invokevirtual idx, 3)) (hL : VL own idx y 1 ci) (hd1 : d1 + 1 ≤ d) (ho : ob < 147) (hg : g ob = .inr (ci, fs)) (hr8 : (r.map fun v => v.category).sum ≤ 8) (hC : CallV X d1 y (rf X ob :: [a1]) g (fun g9 => K g9 (pc + 3) vs r)) : K g pc vs (a1 :: rf X ob :: r) := q_callVv hK hd hL rfl hd1 ho hg hC rfl hr8 (fun g9 h => h)
theorem q_cSi2 (hK : Cl X own cc nL d K) {a1 a2 : Value} (hd : decode cc pc = .ok (.invokestatic idx, 3)) (hL : SL own idx y 2) (hd1 : d1 + 1 ≤ d) (hr8 : (r.map fun v => v.category).sum ≤ 8) (hC : CallI X d1 y [a1, a2] g (fun v g9 => K g9 (pc + 3) vs (.int v :: r))) : K g pc vs (a2 :: a1 :: r) := q_callSi hK hd hL rfl hd1 hC rfl hr8 (fun v g9 h => h)
theorem q_cVi2 (hK : Cl X own cc nL d K) {ob ci : Nat} {fs : List Value} {a1 a2 : Value} (hd : decode cc pc = .ok (.invokevirtual idx, 3)) (hL : VL own idx y 2 ci) (hd1 : d1 + 1 ≤ d) (ho : ob < 147) (hg : g ob = .inr (ci, fs)) (hr8 : (r.map fun v => v.category).sum ≤ 8) (hC : CallI X d1 y (rf X ob :: [a1, a2]) g (fun v g9 => K g9 (pc + 3) vs (.int v :: r))) : K g pc vs (a2 :: a1 :: rf X ob :: r) := q_callVi hK hd hL rfl hd1 ho hg hC rfl hr8 (fun v g9 h => h)
theorem q_cSl2 (hK : Cl X own cc nL d K) {a1 a2 : Value} (hd : decode cc pc = .ok (.invokestatic idx, 3)) (hL : SL own idx y 2) (hd1 : d1 + 1 ≤ d) (hr8 : (r.map fun v => v.category).sum ≤ 8) (hC : CallL X d1 y [a1, a2] g (fun v g9 => K g9 (pc + 3) vs (.long v :: r))) : K g pc vs (a2 :: a1 :: r) := q_callSl hK hd hL rfl hd1 hC rfl hr8 (fun v g9 h => h)
theorem q_cVl2 (hK : Cl X own cc nL d K) {ob ci : Nat} {fs : List Value} {a1 a2 : Value} (hd : decode cc pc = .ok (.invokevirtual idx, 3)) (hL : VL own idx y 2 ci) (hd1 : d1 + 1 ≤ d) (ho : ob < 147) (hg : g ob = .inr (ci, fs)) (hr8 : (r.map fun v => v.category).sum ≤ 8) (hC : CallL X d1 y (rf X ob :: [a1, a2]) g (fun v g9 => K g9 (pc + 3) vs (.long v :: r))) : K g pc vs (a2 :: a1 :: rf X ob :: r) := q_callVl hK hd hL rfl hd1 ho hg hC rfl hr8 (fun v g9 h => h)
theorem q_cSv2 (hK : Cl X own cc nL d K) {a1 a2 : Value} (hd : decode cc pc = .ok (.invokestatic idx, 3)) (hL : SL own idx y 2) (hd1 : d1 + 1 ≤ d) (hr8 : (r.map fun v => v.category).sum ≤ 8) (hC : CallV X d1 y [a1, a2] g (fun g9 => K g9 (pc + 3) vs r)) : K g pc vs (a2 :: a1 :: r) := q_callSv hK hd hL rfl hd1 hC rfl hr8 (fun g9 h => h)
theorem q_cVv2 (hK : Cl X own cc nL d K) {ob ci : Nat} {fs : List Value} {a1 a2 : Value} (hd : decode cc pc = .ok (.invokevirtual idx, 3)) (hL : VL own idx y 2 ci) (hd1 : d1 + 1 ≤ d) (ho : ob < 147) (hg : g ob = .inr (ci, fs)) (hr8 : (r.map fun v => v.category).sum ≤ 8) (hC : CallV X d1 y (rf X ob :: [a1, a2]) g (fun g9 => K g9 (pc + 3) vs r)) : K g pc vs (a2 :: a1 :: rf X ob :: r) := q_callVv hK hd hL rfl hd1 ho hg hC rfl hr8 (fun g9 h => h)
theorem q_cSi3 (hK : Cl X own cc nL d K) {a1 a2 a3 : Value} (hd : decode cc pc = .ok (.invokestatic idx, 3)) (hL : SL own idx y 3) (hd1 : d1 + 1 ≤ d) (hr8 : (r.map fun v => v.category).sum ≤ 8) (hC : CallI X d1 y [a1, a2, a3] g (fun v g9 => K g9 (pc + 3) vs (.int v :: r))) : K g pc vs (a3 :: a2 :: a1 :: r) := q_callSi hK hd hL rfl hd1 hC rfl hr8 (fun v g9 h => h)
theorem q_cVi3 (hK : Cl X own cc nL d K) {ob ci : Nat} {fs : List Value} {a1 a2 a3 : Value} (hd : decode cc pc = .ok (.invokevirtual idx, 3)) (hL : VL own idx y 3 ci) (hd1 : d1 + 1 ≤ d) (ho : ob < 147) (hg : g ob = .inr (ci, fs)) (hr8 : (r.map fun v => v.category).sum ≤ 8) (hC : CallI X d1 y (rf X ob :: [a1, a2, a3]) g (fun v g9 => K g9 (pc + 3) vs (.int v :: r))) : K g pc vs (a3 :: a2 :: a1 :: rf X ob :: r) := q_callVi hK hd hL rfl hd1 ho hg hC rfl hr8 (fun v g9 h => h)
theorem q_cSl3 (hK : Cl X own cc nL d K) {a1 a2 a3 : Value} (hd : decode cc pc = .ok (.invokestatic idx, 3)) (hL : SL own idx y 3) (hd1 : d1 + 1 ≤ d) (hr8 : (r.map fun v => v.category).sum ≤ 8) (hC : CallL X d1 y [a1, a2, a3] g (fun v g9 => K g9 (pc + 3) vs (.long v :: r))) : K g pc vs (a3 :: a2 :: a1 :: r) := q_callSl hK hd hL rfl hd1 hC rfl hr8 (fun v g9 h => h)
theorem q_cVl3 (hK : Cl X own cc nL d K) {ob ci : Nat} {fs : List Value} {a1 a2 a3 : Value} (hd : decode cc pc = .ok (.invokevirtual idx, 3)) (hL : VL own idx y 3 ci) (hd1 : d1 + 1 ≤ d) (ho : ob < 147) (hg : g ob = .inr (ci, fs)) (hr8 : (r.map fun v => v.category).sum ≤ 8) (hC : CallL X d1 y (rf X ob :: [a1, a2, a3]) g (fun v g9 => K g9 (pc + 3) vs (.long v :: r))) : K g pc vs (a3 :: a2 :: a1 :: rf X ob :: r) := q_callVl hK hd hL rfl hd1 ho hg hC rfl hr8 (fun v g9 h => h)
theorem q_cSv3 (hK : Cl X own cc nL d K) {a1 a2 a3 : Value} (hd : decode cc pc = .ok (.invokestatic idx, 3)) (hL : SL own idx y 3) (hd1 : d1 + 1 ≤ d) (hr8 : (r.map fun v => v.category).sum ≤ 8) (hC : CallV X d1 y [a1, a2, a3] g (fun g9 => K g9 (pc + 3) vs r)) : K g pc vs (a3 :: a2 :: a1 :: r) := q_callSv hK hd hL rfl hd1 hC rfl hr8 (fun g9 h => h)
theorem q_cVv3 (hK : Cl X own cc nL d K) {ob ci : Nat} {fs : List Value} {a1 a2 a3 : Value} (hd : decode cc pc = .ok (.invokevirtual idx, 3)) (hL : VL own idx y 3 ci) (hd1 : d1 + 1 ≤ d) (ho : ob < 147) (hg : g ob = .inr (ci, fs)) (hr8 : (r.map fun v => v.category).sum ≤ 8) (hC : CallV X d1 y (rf X ob :: [a1, a2, a3]) g (fun g9 => K g9 (pc + 3) vs r)) : K g pc vs (a3 :: a2 :: a1 :: rf X ob :: r) := q_callVv hK hd hL rfl hd1 ho hg hC rfl hr8 (fun g9 h => h)
theorem q_cSi4 (hK : Cl X own cc nL d K) {a1 a2 a3 a4 : Value} (hd : decode cc pc = .ok (.invokestatic idx, 3)) (hL : SL own idx y 4) (hd1 : d1 + 1 ≤ d) (hr8 : (r.map fun v => v.category).sum ≤ 8) (hC : CallI X d1 y [a1, a2, a3, a4] g (fun v g9 => K g9 (pc + 3) vs (.int v :: r))) : K g pc vs (a4 :: a3 :: a2 :: a1 :: r) := q_callSi hK hd hL rfl hd1 hC rfl hr8 (fun v g9 h => h)
theorem q_cVi4 (hK : Cl X own cc nL d K) {ob ci : Nat} {fs : List Value} {a1 a2 a3 a4 : Value} (hd : decode cc pc = .ok (.invokevirtual idx, 3)) (hL : VL own idx y 4 ci) (hd1 : d1 + 1 ≤ d) (ho : ob < 147) (hg : g ob = .inr (ci, fs)) (hr8 : (r.map fun v => v.category).sum ≤ 8) (hC : CallI X d1 y (rf X ob :: [a1, a2, a3, a4]) g (fun v g9 => K g9 (pc + 3) vs (.int v :: r))) : K g pc vs (a4 :: a3 :: a2 :: a1 :: rf X ob :: r) := q_callVi hK hd hL rfl hd1 ho hg hC rfl hr8 (fun v g9 h => h)
theorem q_cSl4 (hK : Cl X own cc nL d K) {a1 a2 a3 a4 : Value} (hd : decode cc pc = .ok (.invokestatic idx, 3)) (hL : SL own idx y 4) (hd1 : d1 + 1 ≤ d) (hr8 : (r.map fun v => v.category).sum ≤ 8) (hC : CallL X d1 y [a1, a2, a3, a4] g (fun v g9 => K g9 (pc + 3) vs (.long v :: r))) : K g pc vs (a4 :: a3 :: a2 :: a1 :: r) := q_callSl hK hd hL rfl hd1 hC rfl hr8 (fun v g9 h => h)
theorem q_cVl4 (hK : Cl X own cc nL d K) {ob ci : Nat} {fs : List Value} {a1 a2 a3 a4 : Value} (hd : decode cc pc = .ok (.invokevirtual idx, 3)) (hL : VL own idx y 4 ci) (hd1 : d1 + 1 ≤ d) (ho : ob < 147) (hg : g ob = .inr (ci, fs)) (hr8 : (r.map fun v => v.category).sum ≤ 8) (hC : CallL X d1 y (rf X ob :: [a1, a2, a3, a4]) g (fun v g9 => K g9 (pc + 3) vs (.long v :: r))) : K g pc vs (a4 :: a3 :: a2 :: a1 :: rf X ob :: r) := q_callVl hK hd hL rfl hd1 ho hg hC rfl hr8 (fun v g9 h => h)
theorem q_cSv4 (hK : Cl X own cc nL d K) {a1 a2 a3 a4 : Value} (hd : decode cc pc = .ok (.invokestatic idx, 3)) (hL : SL own idx y 4) (hd1 : d1 + 1 ≤ d) (hr8 : (r.map fun v => v.category).sum ≤ 8) (hC : CallV X d1 y [a1, a2, a3, a4] g (fun g9 => K g9 (pc + 3) vs r)) : K g pc vs (a4 :: a3 :: a2 :: a1 :: r) := q_callSv hK hd hL rfl hd1 hC rfl hr8 (fun g9 h => h)
theorem q_cVv4 (hK : Cl X own cc nL d K) {ob ci : Nat} {fs : List Value} {a1 a2 a3 a4 : Value} (hd : decode cc pc = .ok (.invokevirtual idx, 3)) (hL : VL own idx y 4 ci) (hd1 : d1 + 1 ≤ d) (ho : ob < 147) (hg : g ob = .inr (ci, fs)) (hr8 : (r.map fun v => v.category).sum ≤ 8) (hC : CallV X d1 y (rf X ob :: [a1, a2, a3, a4]) g (fun g9 => K g9 (pc + 3) vs r)) : K g pc vs (a4 :: a3 :: a2 :: a1 :: rf X ob :: r) := q_callVv hK hd hL rfl hd1 ho hg hC rfl hr8 (fun g9 h => h)
theorem q_cSi5 (hK : Cl X own cc nL d K) {a1 a2 a3 a4 a5 : Value} (hd : decode cc pc = .ok (.invokestatic idx, 3)) (hL : SL own idx y 5) (hd1 : d1 + 1 ≤ d) (hr8 : (r.map fun v => v.category).sum ≤ 8) (hC : CallI X d1 y [a1, a2, a3, a4, a5] g (fun v g9 => K g9 (pc + 3) vs (.int v :: r))) : K g pc vs (a5 :: a4 :: a3 :: a2 :: a1 :: r) := q_callSi hK hd hL rfl hd1 hC rfl hr8 (fun v g9 h => h)
theorem q_cVi5 (hK : Cl X own cc nL d K) {ob ci : Nat} {fs : List Value} {a1 a2 a3 a4 a5 : Value} (hd : decode cc pc = .ok (.invokevirtual idx, 3)) (hL : VL own idx y 5 ci) (hd1 : d1 + 1 ≤ d) (ho : ob < 147) (hg : g ob = .inr (ci, fs)) (hr8 : (r.map fun v => v.category).sum ≤ 8) (hC : CallI X d1 y (rf X ob :: [a1, a2, a3, a4, a5]) g (fun v g9 => K g9 (pc + 3) vs (.int v :: r))) : K g pc vs (a5 :: a4 :: a3 :: a2 :: a1 :: rf X ob :: r) := q_callVi hK hd hL rfl hd1 ho hg hC rfl hr8 (fun v g9 h => h)
theorem q_cSl5 (hK : Cl X own cc nL d K) {a1 a2 a3 a4 a5 : Value} (hd : decode cc pc = .ok (.invokestatic idx, 3)) (hL : SL own idx y 5) (hd1 : d1 + 1 ≤ d) (hr8 : (r.map fun v => v.category).sum ≤ 8) (hC : CallL X d1 y [a1, a2, a3, a4, a5] g (fun v g9 => K g9 (pc + 3) vs (.long v :: r))) : K g pc vs (a5 :: a4 :: a3 :: a2 :: a1 :: r) := q_callSl hK hd hL rfl hd1 hC rfl hr8 (fun v g9 h => h)
theorem q_cVl5 (hK : Cl X own cc nL d K) {ob ci : Nat} {fs : List Value} {a1 a2 a3 a4 a5 : Value} (hd : decode cc pc = .ok (.invokevirtual idx, 3)) (hL : VL own idx y 5 ci) (hd1 : d1 + 1 ≤ d) (ho : ob < 147) (hg : g ob = .inr (ci, fs)) (hr8 : (r.map fun v => v.category).sum ≤ 8) (hC : CallL X d1 y (rf X ob :: [a1, a2, a3, a4, a5]) g (fun v g9 => K g9 (pc + 3) vs (.long v :: r))) : K g pc vs (a5 :: a4 :: a3 :: a2 :: a1 :: rf X ob :: r) := q_callVl hK hd hL rfl hd1 ho hg hC rfl hr8 (fun v g9 h => h)
theorem q_cSv5 (hK : Cl X own cc nL d K) {a1 a2 a3 a4 a5 : Value} (hd : decode cc pc = .ok (.invokestatic idx, 3)) (hL : SL own idx y 5) (hd1 : d1 + 1 ≤ d) (hr8 : (r.map fun v => v.category).sum ≤ 8) (hC : CallV X d1 y [a1, a2, a3, a4, a5] g (fun g9 => K g9 (pc + 3) vs r)) : K g pc vs (a5 :: a4 :: a3 :: a2 :: a1 :: r) := q_callSv hK hd hL rfl hd1 hC rfl hr8 (fun g9 h => h)
theorem q_cVv5 (hK : Cl X own cc nL d K) {ob ci : Nat} {fs : List Value} {a1 a2 a3 a4 a5 : Value} (hd : decode cc pc = .ok (.invokevirtual idx, 3)) (hL : VL own idx y 5 ci) (hd1 : d1 + 1 ≤ d) (ho : ob < 147) (hg : g ob = .inr (ci, fs)) (hr8 : (r.map fun v => v.category).sum ≤ 8) (hC : CallV X d1 y (rf X ob :: [a1, a2, a3, a4, a5]) g (fun g9 => K g9 (pc + 3) vs r)) : K g pc vs (a5 :: a4 :: a3 :: a2 :: a1 :: rf X ob :: r) := q_callVv hK hd hL rfl hd1 ho hg hC rfl hr8 (fun g9 h => h)
theorem q_cSi6 (hK : Cl X own cc nL d K) {a1 a2 a3 a4 a5 a6 : Value} (hd : decode cc pc = .ok (.invokestatic idx, 3)) (hL : SL own idx y 6) (hd1 : d1 + 1 ≤ d) (hr8 : (r.map fun v => v.category).sum ≤ 8) (hC : CallI X d1 y [a1, a2, a3, a4, a5, a6] g (fun v g9 => K g9 (pc + 3) vs (.int v :: r))) : K g pc vs (a6 :: a5 :: a4 :: a3 :: a2 :: a1 :: r) := q_callSi hK hd hL rfl hd1 hC rfl hr8 (fun v g9 h => h)
theorem q_cVi6 (hK : Cl X own cc nL d K) {ob ci : Nat} {fs : List Value} {a1 a2 a3 a4 a5 a6 : Value} (hd : decode cc pc = .ok (.invokevirtual idx, 3)) (hL : VL own idx y 6 ci) (hd1 : d1 + 1 ≤ d) (ho : ob < 147) (hg : g ob = .inr (ci, fs)) (hr8 : (r.map fun v => v.category).sum ≤ 8) (hC : CallI X d1 y (rf X ob :: [a1, a2, a3, a4, a5, a6]) g (fun v g9 => K g9 (pc + 3) vs (.int v :: r))) : K g pc vs (a6 :: a5 :: a4 :: a3 :: a2 :: a1 :: rf X ob :: r) := q_callVi hK hd hL rfl hd1 ho hg hC rfl hr8 (fun v g9 h => h)
theorem q_cSl6 (hK : Cl X own cc nL d K) {a1 a2 a3 a4 a5 a6 : Value} (hd : decode cc pc = .ok (.invokestatic idx, 3)) (hL : SL own idx y 6) (hd1 : d1 + 1 ≤ d) (hr8 : (r.map fun v => v.category).sum ≤ 8) (hC : CallL X d1 y [a1, a2, a3, a4, a5, a6] g (fun v g9 => K g9 (pc + 3) vs (.long v :: r))) : K g pc vs (a6 :: a5 :: a4 :: a3 :: a2 :: a1 :: r) := q_callSl hK hd hL rfl hd1 hC rfl hr8 (fun v g9 h => h)
theorem q_cVl6 (hK : Cl X own cc nL d K) {ob ci : Nat} {fs : List Value} {a1 a2 a3 a4 a5 a6 : Value} (hd : decode cc pc = .ok (.invokevirtual idx, 3)) (hL : VL own idx y 6 ci) (hd1 : d1 + 1 ≤ d) (ho : ob < 147) (hg : g ob = .inr (ci, fs)) (hr8 : (r.map fun v => v.category).sum ≤ 8) (hC : CallL X d1 y (rf X ob :: [a1, a2, a3, a4, a5, a6]) g (fun v g9 => K g9 (pc + 3) vs (.long v :: r))) : K g pc vs (a6 :: a5 :: a4 :: a3 :: a2 :: a1 :: rf X ob :: r) := q_callVl hK hd hL rfl hd1 ho hg hC rfl hr8 (fun v g9 h => h)
theorem q_cSv6 (hK : Cl X own cc nL d K) {a1 a2 a3 a4 a5 a6 : Value} (hd : decode cc pc = .ok (.invokestatic idx, 3)) (hL : SL own idx y 6) (hd1 : d1 + 1 ≤ d) (hr8 : (r.map fun v => v.category).sum ≤ 8) (hC : CallV X d1 y [a1, a2, a3, a4, a5, a6] g (fun g9 => K g9 (pc + 3) vs r)) : K g pc vs (a6 :: a5 :: a4 :: a3 :: a2 :: a1 :: r) := q_callSv hK hd hL rfl hd1 hC rfl hr8 (fun g9 h => h)
theorem q_cVv6 (hK : Cl X own cc nL d K) {ob ci : Nat} {fs : List Value} {a1 a2 a3 a4 a5 a6 : Value} (hd : decode cc pc = .ok (.invokevirtual idx, 3)) (hL : VL own idx y 6 ci) (hd1 : d1 + 1 ≤ d) (ho : ob < 147) (hg : g ob = .inr (ci, fs)) (hr8 : (r.map fun v => v.category).sum ≤ 8) (hC : CallV X d1 y (rf X ob :: [a1, a2, a3, a4, a5, a6]) g (fun g9 => K g9 (pc + 3) vs r)) : K g pc vs (a6 :: a5 :: a4 :: a3 :: a2 :: a1 :: rf X ob :: r) := q_callVv hK hd hL rfl hd1 ho hg hC rfl hr8 (fun g9 h => h)
theorem q_cSi7 (hK : Cl X own cc nL d K) {a1 a2 a3 a4 a5 a6 a7 : Value} (hd : decode cc pc = .ok (.invokestatic idx, 3)) (hL : SL own idx y 7) (hd1 : d1 + 1 ≤ d) (hr8 : (r.map fun v => v.category).sum ≤ 8) (hC : CallI X d1 y [a1, a2, a3, a4, a5, a6, a7] g (fun v g9 => K g9 (pc + 3) vs (.int v :: r))) : K g pc vs (a7 :: a6 :: a5 :: a4 :: a3 :: a2 :: a1 :: r) := q_callSi hK hd hL rfl hd1 hC rfl hr8 (fun v g9 h => h)
theorem q_cVi7 (hK : Cl X own cc nL d K) {ob ci : Nat} {fs : List Value} {a1 a2 a3 a4 a5 a6 a7 : Value} (hd : decode cc pc = .ok (.invokevirtual idx, 3)) (hL : VL own idx y 7 ci) (hd1 : d1 + 1 ≤ d) (ho : ob < 147) (hg : g ob = .inr (ci, fs)) (hr8 : (r.map fun v => v.category).sum ≤ 8) (hC : CallI X d1 y (rf X ob :: [a1, a2, a3, a4, a5, a6, a7]) g (fun v g9 => K g9 (pc + 3) vs (.int v :: r))) : K g pc vs (a7 :: a6 :: a5 :: a4 :: a3 :: a2 :: a1 :: rf X ob :: r) := q_callVi hK hd hL rfl hd1 ho hg hC rfl hr8 (fun v g9 h => h)
theorem q_cSl7 (hK : Cl X own cc nL d K) {a1 a2 a3 a4 a5 a6 a7 : Value} (hd : decode cc pc = .ok (.invokestatic idx, 3)) (hL : SL own idx y 7) (hd1 : d1 + 1 ≤ d) (hr8 : (r.map fun v => v.category).sum ≤ 8) (hC : CallL X d1 y [a1, a2, a3, a4, a5, a6, a7] g (fun v g9 => K g9 (pc + 3) vs (.long v :: r))) : K g pc vs (a7 :: a6 :: a5 :: a4 :: a3 :: a2 :: a1 :: r) := q_callSl hK hd hL rfl hd1 hC rfl hr8 (fun v g9 h => h)
theorem q_cVl7 (hK : Cl X own cc nL d K) {ob ci : Nat} {fs : List Value} {a1 a2 a3 a4 a5 a6 a7 : Value} (hd : decode cc pc = .ok (.invokevirtual idx, 3)) (hL : VL own idx y 7 ci) (hd1 : d1 + 1 ≤ d) (ho : ob < 147) (hg : g ob = .inr (ci, fs)) (hr8 : (r.map fun v => v.category).sum ≤ 8) (hC : CallL X d1 y (rf X ob :: [a1, a2, a3, a4, a5, a6, a7]) g (fun v g9 => K g9 (pc + 3) vs (.long v :: r))) : K g pc vs (a7 :: a6 :: a5 :: a4 :: a3 :: a2 :: a1 :: rf X ob :: r) := q_callVl hK hd hL rfl hd1 ho hg hC rfl hr8 (fun v g9 h => h)
theorem q_cSv7 (hK : Cl X own cc nL d K) {a1 a2 a3 a4 a5 a6 a7 : Value} (hd : decode cc pc = .ok (.invokestatic idx, 3)) (hL : SL own idx y 7) (hd1 : d1 + 1 ≤ d) (hr8 : (r.map fun v => v.category).sum ≤ 8) (hC : CallV X d1 y [a1, a2, a3, a4, a5, a6, a7] g (fun g9 => K g9 (pc + 3) vs r)) : K g pc vs (a7 :: a6 :: a5 :: a4 :: a3 :: a2 :: a1 :: r) := q_callSv hK hd hL rfl hd1 hC rfl hr8 (fun g9 h => h)
theorem q_cVv7 (hK : Cl X own cc nL d K) {ob ci : Nat} {fs : List Value} {a1 a2 a3 a4 a5 a6 a7 : Value} (hd : decode cc pc = .ok (.invokevirtual idx, 3)) (hL : VL own idx y 7 ci) (hd1 : d1 + 1 ≤ d) (ho : ob < 147) (hg : g ob = .inr (ci, fs)) (hr8 : (r.map fun v => v.category).sum ≤ 8) (hC : CallV X d1 y (rf X ob :: [a1, a2, a3, a4, a5, a6, a7]) g (fun g9 => K g9 (pc + 3) vs r)) : K g pc vs (a7 :: a6 :: a5 :: a4 :: a3 :: a2 :: a1 :: rf X ob :: r) := q_callVv hK hd hL rfl hd1 ho hg hC rfl hr8 (fun g9 h => h)
end QC
theorem q_inc1 {X : Cx} {own : String} {cc : ByteArray} {nL d : Nat} {K : KT} (hK : Cl X own cc nL d K) {g : Mem} {pc : Nat} {vs : Lv} {st : List Value} {i k : Nat} (hd : decode cc pc = .ok (.iinc i 1, 3)) (hx : lget vs i = some (.int (nI k))) (hn : i < nL) (h : K g (pc + 3) (lset vs i (.int (nI (k + 1)))) st) : K g pc vs st := q_iinc hK hd hx (nI_1 k) hn h
def b2i (b : Bool) : Int32 := if b then 1 else 0
theorem nar_b (b : Bool) : narrow .boolean (.int (b2i b)) = .int (b2i b) := by cases b <;> rfl
theorem vnar_b (b : Bool) : vp_nar .boolean (b2i b) = b2i b := by cases b <;> rfl
theorem b2i_eq0 (b : Bool) : b2i b = 0 ↔ b = false := by cases b <;> decide
theorem b2i_ne0 (b : Bool) : ¬ b2i b = 0 ↔ b = true := by cases b <;> decide
-- whole numbers as ints
abbrev jI (x : Int) : Int32 := Int32.ofInt x
theorem jI_add (a b : Int) : jI a + jI b = jI (a + b) := (Int32.ofInt_add a b).symm
theorem jI_mul (a b : Int) : jI a * jI b = jI (a * b) := (Int32.ofInt_mul a b).symm
theorem jI_neg (a : Int) : -jI a = jI (-a) := (Int32.ofInt_neg a).symm
theorem jI_sub (a b : Int) : jI a - jI b = jI (a - b) := (Int32.ofInt_sub a b).symm
theorem jI_nat (n : Nat) : nI n = jI (n : Int) := by unfold nI jI; exact (Int32.ofInt_eq_ofNat).symm
theorem jI_toInt {a : Int} (h1 : -2147483648 ≤ a) (h2 : a < 2147483648) : (jI a).toInt = a := Int32.toInt_ofInt_of_le h1 h2
theorem jI_lt {a b : Int} (h1 : -2147483648 ≤ a) (h2 : a < 2147483648) (h3 : -2147483648 ≤ b) (h4 : b < 2147483648) : jI a < jI b ↔ a < b := by rw [Int32.lt_iff_toInt_lt, jI_toInt h1 h2, jI_toInt h3 h4]
theorem jI_le {a b : Int} (h1 : -2147483648 ≤ a) (h2 : a < 2147483648) (h3 : -2147483648 ≤ b) (h4 : b < 2147483648) : jI a ≤ jI b ↔ a ≤ b := by rw [Int32.le_iff_toInt_le, jI_toInt h1 h2, jI_toInt h3 h4]
theorem jI_eq {a b : Int} (h1 : -2147483648 ≤ a) (h2 : a < 2147483648) (h3 : -2147483648 ≤ b) (h4 : b < 2147483648) : jI a = jI b ↔ a = b := by
  constructor
  · intro h
    have := congrArg Int32.toInt h
    rwa [jI_toInt h1 h2, jI_toInt h3 h4] at this
  · intro h
    rw [h]
theorem jI_of (x : Int32) : x = jI x.toInt := (Int32.ofInt_toInt x).symm
end
