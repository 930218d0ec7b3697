-- ===== PART A: goes FIRST, ahead of the names: the tables' words, and 'selects' of the private methods out of them =====
/-- a private method of a class that the tables say can be made, by its rows of tables_1 -/
def lw_okq (q : MethodName × Nat) : Prop := (q.1.cls ≠ "java/lang/invoke/MethodHandle" ∧ q.1.cls ≠ "java/lang/invoke/VarHandle") ∧ Cond.instantiable q.1.cls q.2 ∈ tables_1 ∧ Cond.privateMethod q.1 ∈ tables_1 ∧ Cond.instanceMethod q.1 ∈ tables_1
theorem lw_p0 : lw_okq (⟨"LearningPaid$Reader", "scan", "()V"⟩, 14) := ⟨⟨by decide +kernel, by decide +kernel⟩, List.mem_of_getElem? (i := 257) (by decide +kernel), List.mem_of_getElem? (i := 462) (by decide +kernel), List.mem_of_getElem? (i := 463) (by decide +kernel)⟩
theorem lw_p1 : lw_okq (⟨"LearningPaid$Reader", "takeWord", "()V"⟩, 14) := ⟨⟨by decide +kernel, by decide +kernel⟩, List.mem_of_getElem? (i := 257) (by decide +kernel), List.mem_of_getElem? (i := 472) (by decide +kernel), List.mem_of_getElem? (i := 473) (by decide +kernel)⟩
theorem lw_p2 : lw_okq (⟨"LearningPaid$Reader", "isSpelt", "(III)Z"⟩, 14) := ⟨⟨by decide +kernel, by decide +kernel⟩, List.mem_of_getElem? (i := 257) (by decide +kernel), List.mem_of_getElem? (i := 477) (by decide +kernel), List.mem_of_getElem? (i := 478) (by decide +kernel)⟩
theorem lw_p3 : lw_okq (⟨"LearningPaid$Reader", "takeNumber", "()V"⟩, 14) := ⟨⟨by decide +kernel, by decide +kernel⟩, List.mem_of_getElem? (i := 257) (by decide +kernel), List.mem_of_getElem? (i := 484) (by decide +kernel), List.mem_of_getElem? (i := 485) (by decide +kernel)⟩
theorem lw_p4 : lw_okq (⟨"LearningPaid$Reader", "takeSign", "()V"⟩, 14) := ⟨⟨by decide +kernel, by decide +kernel⟩, List.mem_of_getElem? (i := 257) (by decide +kernel), List.mem_of_getElem? (i := 491) (by decide +kernel), List.mem_of_getElem? (i := 492) (by decide +kernel)⟩
theorem lw_p5 : lw_okq (⟨"LearningPaid$Reader", "readClause", "()V"⟩, 14) := ⟨⟨by decide +kernel, by decide +kernel⟩, List.mem_of_getElem? (i := 257) (by decide +kernel), List.mem_of_getElem? (i := 558) (by decide +kernel), List.mem_of_getElem? (i := 559) (by decide +kernel)⟩
theorem lw_p6 : lw_okq (⟨"LearningPaid$Reader", "fail", "(I)V"⟩, 14) := ⟨⟨by decide +kernel, by decide +kernel⟩, List.mem_of_getElem? (i := 257) (by decide +kernel), List.mem_of_getElem? (i := 562) (by decide +kernel), List.mem_of_getElem? (i := 563) (by decide +kernel)⟩
theorem lw_p7 : lw_okq (⟨"LearningPaid$Reader", "step", "()V"⟩, 14) := ⟨⟨by decide +kernel, by decide +kernel⟩, List.mem_of_getElem? (i := 257) (by decide +kernel), List.mem_of_getElem? (i := 574) (by decide +kernel), List.mem_of_getElem? (i := 575) (by decide +kernel)⟩
theorem lw_p8 : lw_okq (⟨"LearningPaid$Reader", "readEither", "()V"⟩, 14) := ⟨⟨by decide +kernel, by decide +kernel⟩, List.mem_of_getElem? (i := 257) (by decide +kernel), List.mem_of_getElem? (i := 578) (by decide +kernel), List.mem_of_getElem? (i := 579) (by decide +kernel)⟩
theorem lw_p9 : lw_okq (⟨"LearningPaid$Reader", "readAsk", "()V"⟩, 14) := ⟨⟨by decide +kernel, by decide +kernel⟩, List.mem_of_getElem? (i := 257) (by decide +kernel), List.mem_of_getElem? (i := 582) (by decide +kernel), List.mem_of_getElem? (i := 583) (by decide +kernel)⟩
theorem lw_p10 : lw_okq (⟨"LearningPaid$Reader", "goDeeper", "()V"⟩, 14) := ⟨⟨by decide +kernel, by decide +kernel⟩, List.mem_of_getElem? (i := 257) (by decide +kernel), List.mem_of_getElem? (i := 586) (by decide +kernel), List.mem_of_getElem? (i := 587) (by decide +kernel)⟩
theorem lw_p11 : lw_okq (⟨"LearningPaid$Reader", "goOut", "(I)V"⟩, 14) := ⟨⟨by decide +kernel, by decide +kernel⟩, List.mem_of_getElem? (i := 257) (by decide +kernel), List.mem_of_getElem? (i := 590) (by decide +kernel), List.mem_of_getElem? (i := 591) (by decide +kernel)⟩
theorem lw_p12 : lw_okq (⟨"LearningPaid$Reader", "readSum", "()V"⟩, 14) := ⟨⟨by decide +kernel, by decide +kernel⟩, List.mem_of_getElem? (i := 257) (by decide +kernel), List.mem_of_getElem? (i := 598) (by decide +kernel), List.mem_of_getElem? (i := 599) (by decide +kernel)⟩
theorem lw_p13 : lw_okq (⟨"LearningPaid$Reader", "readProduct", "()V"⟩, 14) := ⟨⟨by decide +kernel, by decide +kernel⟩, List.mem_of_getElem? (i := 257) (by decide +kernel), List.mem_of_getElem? (i := 602) (by decide +kernel), List.mem_of_getElem? (i := 603) (by decide +kernel)⟩
theorem lw_p14 : lw_okq (⟨"LearningPaid$Reader", "readOne", "()V"⟩, 14) := ⟨⟨by decide +kernel, by decide +kernel⟩, List.mem_of_getElem? (i := 257) (by decide +kernel), List.mem_of_getElem? (i := 606) (by decide +kernel), List.mem_of_getElem? (i := 607) (by decide +kernel)⟩
theorem lw_p15 : lw_okq (⟨"LearningPaid$Reader", "readNumber", "(I)V"⟩, 14) := ⟨⟨by decide +kernel, by decide +kernel⟩, List.mem_of_getElem? (i := 257) (by decide +kernel), List.mem_of_getElem? (i := 610) (by decide +kernel), List.mem_of_getElem? (i := 611) (by decide +kernel)⟩
def lw_privs_1 : List (MethodName × Nat) := [(⟨"LearningPaid$Reader", "scan", "()V"⟩, 14), (⟨"LearningPaid$Reader", "takeWord", "()V"⟩, 14), (⟨"LearningPaid$Reader", "isSpelt", "(III)Z"⟩, 14), (⟨"LearningPaid$Reader", "takeNumber", "()V"⟩, 14), (⟨"LearningPaid$Reader", "takeSign", "()V"⟩, 14), (⟨"LearningPaid$Reader", "readClause", "()V"⟩, 14), (⟨"LearningPaid$Reader", "fail", "(I)V"⟩, 14), (⟨"LearningPaid$Reader", "step", "()V"⟩, 14), (⟨"LearningPaid$Reader", "readEither", "()V"⟩, 14), (⟨"LearningPaid$Reader", "readAsk", "()V"⟩, 14), (⟨"LearningPaid$Reader", "goDeeper", "()V"⟩, 14), (⟨"LearningPaid$Reader", "goOut", "(I)V"⟩, 14), (⟨"LearningPaid$Reader", "readSum", "()V"⟩, 14), (⟨"LearningPaid$Reader", "readProduct", "()V"⟩, 14), (⟨"LearningPaid$Reader", "readOne", "()V"⟩, 14), (⟨"LearningPaid$Reader", "readNumber", "(I)V"⟩, 14)]
theorem lw_r1 : ∀ q ∈ lw_privs_1, lw_okq q := List.forall_mem_cons.mpr ⟨lw_p0, List.forall_mem_cons.mpr ⟨lw_p1, List.forall_mem_cons.mpr ⟨lw_p2, List.forall_mem_cons.mpr ⟨lw_p3, List.forall_mem_cons.mpr ⟨lw_p4, List.forall_mem_cons.mpr ⟨lw_p5, List.forall_mem_cons.mpr ⟨lw_p6, List.forall_mem_cons.mpr ⟨lw_p7, List.forall_mem_cons.mpr ⟨lw_p8, List.forall_mem_cons.mpr ⟨lw_p9, List.forall_mem_cons.mpr ⟨lw_p10, List.forall_mem_cons.mpr ⟨lw_p11, List.forall_mem_cons.mpr ⟨lw_p12, List.forall_mem_cons.mpr ⟨lw_p13, List.forall_mem_cons.mpr ⟨lw_p14, List.forall_mem_cons.mpr ⟨lw_p15, fun _ h => absurd h List.not_mem_nil⟩⟩⟩⟩⟩⟩⟩⟩⟩⟩⟩⟩⟩⟩⟩⟩
theorem lw_p16 : lw_okq (⟨"LearningPaid$Reader", "readName", "(I)V"⟩, 14) := ⟨⟨by decide +kernel, by decide +kernel⟩, List.mem_of_getElem? (i := 257) (by decide +kernel), List.mem_of_getElem? (i := 614) (by decide +kernel), List.mem_of_getElem? (i := 615) (by decide +kernel)⟩
theorem lw_p17 : lw_okq (⟨"LearningPaid$Reader", "pass", "(I)V"⟩, 14) := ⟨⟨by decide +kernel, by decide +kernel⟩, List.mem_of_getElem? (i := 257) (by decide +kernel), List.mem_of_getElem? (i := 618) (by decide +kernel), List.mem_of_getElem? (i := 619) (by decide +kernel)⟩
theorem lw_p18 : lw_okq (⟨"LearningPaid$Reader", "readPair", "(I)V"⟩, 14) := ⟨⟨by decide +kernel, by decide +kernel⟩, List.mem_of_getElem? (i := 257) (by decide +kernel), List.mem_of_getElem? (i := 622) (by decide +kernel), List.mem_of_getElem? (i := 623) (by decide +kernel)⟩
theorem lw_p19 : lw_okq (⟨"LearningPaid$Reader", "addOperator", "(I)V"⟩, 14) := ⟨⟨by decide +kernel, by decide +kernel⟩, List.mem_of_getElem? (i := 257) (by decide +kernel), List.mem_of_getElem? (i := 626) (by decide +kernel), List.mem_of_getElem? (i := 627) (by decide +kernel)⟩
theorem lw_p20 : lw_okq (⟨"LearningPaid", "isFirmOrNone", "(I)Z"⟩, 13) := ⟨⟨by decide +kernel, by decide +kernel⟩, List.mem_of_getElem? (i := 24) (by decide +kernel), List.mem_of_getElem? (i := 687) (by decide +kernel), List.mem_of_getElem? (i := 688) (by decide +kernel)⟩
theorem lw_p21 : lw_okq (⟨"LearningPaid", "isFirm", "(I)Z"⟩, 13) := ⟨⟨by decide +kernel, by decide +kernel⟩, List.mem_of_getElem? (i := 24) (by decide +kernel), List.mem_of_getElem? (i := 691) (by decide +kernel), List.mem_of_getElem? (i := 692) (by decide +kernel)⟩
theorem lw_p22 : lw_okq (⟨"LearningPaid", "isHand", "(I)Z"⟩, 13) := ⟨⟨by decide +kernel, by decide +kernel⟩, List.mem_of_getElem? (i := 24) (by decide +kernel), List.mem_of_getElem? (i := 714) (by decide +kernel), List.mem_of_getElem? (i := 715) (by decide +kernel)⟩
theorem lw_p23 : lw_okq (⟨"LearningPaid", "dueIfLeft", "(I)I"⟩, 13) := ⟨⟨by decide +kernel, by decide +kernel⟩, List.mem_of_getElem? (i := 24) (by decide +kernel), List.mem_of_getElem? (i := 755) (by decide +kernel), List.mem_of_getElem? (i := 756) (by decide +kernel)⟩
theorem lw_p24 : lw_okq (⟨"LearningPaid", "isLeftBehind", "(II)Z"⟩, 13) := ⟨⟨by decide +kernel, by decide +kernel⟩, List.mem_of_getElem? (i := 24) (by decide +kernel), List.mem_of_getElem? (i := 759) (by decide +kernel), List.mem_of_getElem? (i := 760) (by decide +kernel)⟩
theorem lw_p25 : lw_okq (⟨"LearningPaid", "restDue", "(I)I"⟩, 13) := ⟨⟨by decide +kernel, by decide +kernel⟩, List.mem_of_getElem? (i := 24) (by decide +kernel), List.mem_of_getElem? (i := 763) (by decide +kernel), List.mem_of_getElem? (i := 764) (by decide +kernel)⟩
theorem lw_p26 : lw_okq (⟨"LearningPaid", "courseOf", "(I)LLearningPaid$Course;"⟩, 13) := ⟨⟨by decide +kernel, by decide +kernel⟩, List.mem_of_getElem? (i := 24) (by decide +kernel), List.mem_of_getElem? (i := 767) (by decide +kernel), List.mem_of_getElem? (i := 768) (by decide +kernel)⟩
theorem lw_p27 : lw_okq (⟨"LearningPaid", "putNamesOf", "(I)V"⟩, 13) := ⟨⟨by decide +kernel, by decide +kernel⟩, List.mem_of_getElem? (i := 24) (by decide +kernel), List.mem_of_getElem? (i := 771) (by decide +kernel), List.mem_of_getElem? (i := 772) (by decide +kernel)⟩
theorem lw_p28 : lw_okq (⟨"LearningPaid", "wagesOf", "(I)I"⟩, 13) := ⟨⟨by decide +kernel, by decide +kernel⟩, List.mem_of_getElem? (i := 24) (by decide +kernel), List.mem_of_getElem? (i := 775) (by decide +kernel), List.mem_of_getElem? (i := 776) (by decide +kernel)⟩
theorem lw_p29 : lw_okq (⟨"LearningPaid", "headsOf", "(I)I"⟩, 13) := ⟨⟨by decide +kernel, by decide +kernel⟩, List.mem_of_getElem? (i := 24) (by decide +kernel), List.mem_of_getElem? (i := 779) (by decide +kernel), List.mem_of_getElem? (i := 780) (by decide +kernel)⟩
theorem lw_p30 : lw_okq (⟨"LearningPaid", "paidIn", "(II)I"⟩, 13) := ⟨⟨by decide +kernel, by decide +kernel⟩, List.mem_of_getElem? (i := 24) (by decide +kernel), List.mem_of_getElem? (i := 783) (by decide +kernel), List.mem_of_getElem? (i := 784) (by decide +kernel)⟩
theorem lw_p31 : lw_okq (⟨"LearningPaid", "byRule", "(II)I"⟩, 13) := ⟨⟨by decide +kernel, by decide +kernel⟩, List.mem_of_getElem? (i := 24) (by decide +kernel), List.mem_of_getElem? (i := 796) (by decide +kernel), List.mem_of_getElem? (i := 797) (by decide +kernel)⟩
def lw_privs_2 : List (MethodName × Nat) := [(⟨"LearningPaid$Reader", "readName", "(I)V"⟩, 14), (⟨"LearningPaid$Reader", "pass", "(I)V"⟩, 14), (⟨"LearningPaid$Reader", "readPair", "(I)V"⟩, 14), (⟨"LearningPaid$Reader", "addOperator", "(I)V"⟩, 14), (⟨"LearningPaid", "isFirmOrNone", "(I)Z"⟩, 13), (⟨"LearningPaid", "isFirm", "(I)Z"⟩, 13), (⟨"LearningPaid", "isHand", "(I)Z"⟩, 13), (⟨"LearningPaid", "dueIfLeft", "(I)I"⟩, 13), (⟨"LearningPaid", "isLeftBehind", "(II)Z"⟩, 13), (⟨"LearningPaid", "restDue", "(I)I"⟩, 13), (⟨"LearningPaid", "courseOf", "(I)LLearningPaid$Course;"⟩, 13), (⟨"LearningPaid", "putNamesOf", "(I)V"⟩, 13), (⟨"LearningPaid", "wagesOf", "(I)I"⟩, 13), (⟨"LearningPaid", "headsOf", "(I)I"⟩, 13), (⟨"LearningPaid", "paidIn", "(II)I"⟩, 13), (⟨"LearningPaid", "byRule", "(II)I"⟩, 13)]
theorem lw_r2 : ∀ q ∈ lw_privs_2, lw_okq q := List.forall_mem_cons.mpr ⟨lw_p16, List.forall_mem_cons.mpr ⟨lw_p17, List.forall_mem_cons.mpr ⟨lw_p18, List.forall_mem_cons.mpr ⟨lw_p19, List.forall_mem_cons.mpr ⟨lw_p20, List.forall_mem_cons.mpr ⟨lw_p21, List.forall_mem_cons.mpr ⟨lw_p22, List.forall_mem_cons.mpr ⟨lw_p23, List.forall_mem_cons.mpr ⟨lw_p24, List.forall_mem_cons.mpr ⟨lw_p25, List.forall_mem_cons.mpr ⟨lw_p26, List.forall_mem_cons.mpr ⟨lw_p27, List.forall_mem_cons.mpr ⟨lw_p28, List.forall_mem_cons.mpr ⟨lw_p29, List.forall_mem_cons.mpr ⟨lw_p30, List.forall_mem_cons.mpr ⟨lw_p31, fun _ h => absurd h List.not_mem_nil⟩⟩⟩⟩⟩⟩⟩⟩⟩⟩⟩⟩⟩⟩⟩⟩
theorem lw_p32 : lw_okq (⟨"LearningPaid", "settle", "(I)V"⟩, 13) := ⟨⟨by decide +kernel, by decide +kernel⟩, List.mem_of_getElem? (i := 24) (by decide +kernel), List.mem_of_getElem? (i := 823) (by decide +kernel), List.mem_of_getElem? (i := 824) (by decide +kernel)⟩
theorem lw_p33 : lw_okq (⟨"LearningPaid", "isCourse", "(I)Z"⟩, 13) := ⟨⟨by decide +kernel, by decide +kernel⟩, List.mem_of_getElem? (i := 24) (by decide +kernel), List.mem_of_getElem? (i := 831) (by decide +kernel), List.mem_of_getElem? (i := 832) (by decide +kernel)⟩
theorem lw_p34 : lw_okq (⟨"LearningPaid", "seatsLeft", "(I)I"⟩, 13) := ⟨⟨by decide +kernel, by decide +kernel⟩, List.mem_of_getElem? (i := 24) (by decide +kernel), List.mem_of_getElem? (i := 835) (by decide +kernel), List.mem_of_getElem? (i := 836) (by decide +kernel)⟩
theorem lw_p35 : lw_okq (⟨"LearningPaid", "isBusy", "(ILLearningPaid$Course;)Z"⟩, 13) := ⟨⟨by decide +kernel, by decide +kernel⟩, List.mem_of_getElem? (i := 24) (by decide +kernel), List.mem_of_getElem? (i := 839) (by decide +kernel), List.mem_of_getElem? (i := 840) (by decide +kernel)⟩
theorem lw_p36 : lw_okq (⟨"LearningPaid", "papersOf", "(II)I"⟩, 13) := ⟨⟨by decide +kernel, by decide +kernel⟩, List.mem_of_getElem? (i := 24) (by decide +kernel), List.mem_of_getElem? (i := 843) (by decide +kernel), List.mem_of_getElem? (i := 844) (by decide +kernel)⟩
theorem lw_p37 : lw_okq (⟨"LearningPaid", "isStanding", "(I)Z"⟩, 13) := ⟨⟨by decide +kernel, by decide +kernel⟩, List.mem_of_getElem? (i := 24) (by decide +kernel), List.mem_of_getElem? (i := 851) (by decide +kernel), List.mem_of_getElem? (i := 852) (by decide +kernel)⟩
theorem lw_p38 : lw_okq (⟨"LearningPaid", "backDue", "(I)I"⟩, 13) := ⟨⟨by decide +kernel, by decide +kernel⟩, List.mem_of_getElem? (i := 24) (by decide +kernel), List.mem_of_getElem? (i := 863) (by decide +kernel), List.mem_of_getElem? (i := 864) (by decide +kernel)⟩
theorem lw_p39 : lw_okq (⟨"LearningPaid", "backIn", "(II)I"⟩, 13) := ⟨⟨by decide +kernel, by decide +kernel⟩, List.mem_of_getElem? (i := 24) (by decide +kernel), List.mem_of_getElem? (i := 868) (by decide +kernel), List.mem_of_getElem? (i := 869) (by decide +kernel)⟩
theorem lw_p40 : lw_okq (⟨"LearningPaid", "passMonth", "(I)V"⟩, 13) := ⟨⟨by decide +kernel, by decide +kernel⟩, List.mem_of_getElem? (i := 24) (by decide +kernel), List.mem_of_getElem? (i := 896) (by decide +kernel), List.mem_of_getElem? (i := 897) (by decide +kernel)⟩
theorem lw_p41 : lw_okq (⟨"LearningPaid", "orderClaimed", "()I"⟩, 13) := ⟨⟨by decide +kernel, by decide +kernel⟩, List.mem_of_getElem? (i := 24) (by decide +kernel), List.mem_of_getElem? (i := 935) (by decide +kernel), List.mem_of_getElem? (i := 936) (by decide +kernel)⟩
theorem lw_p42 : lw_okq (⟨"LearningPaid$Ways", "pick", "(I)V"⟩, 4) := ⟨⟨by decide +kernel, by decide +kernel⟩, List.mem_of_getElem? (i := 329) (by decide +kernel), List.mem_of_getElem? (i := 952) (by decide +kernel), List.mem_of_getElem? (i := 953) (by decide +kernel)⟩
theorem lw_p43 : lw_okq (⟨"LearningPaid$Ways", "goOn", "(ILLearningPaid$Course;I)V"⟩, 4) := ⟨⟨by decide +kernel, by decide +kernel⟩, List.mem_of_getElem? (i := 329) (by decide +kernel), List.mem_of_getElem? (i := 962) (by decide +kernel), List.mem_of_getElem? (i := 963) (by decide +kernel)⟩
theorem lw_p44 : lw_okq (⟨"LearningPaid$Places", "offerAll", "(IIIII)V"⟩, 2) := ⟨⟨by decide +kernel, by decide +kernel⟩, List.mem_of_getElem? (i := 351) (by decide +kernel), List.mem_of_getElem? (i := 978) (by decide +kernel), List.mem_of_getElem? (i := 979) (by decide +kernel)⟩
theorem lw_p45 : lw_okq (⟨"LearningPaid$Places", "offer", "(IIII)V"⟩, 2) := ⟨⟨by decide +kernel, by decide +kernel⟩, List.mem_of_getElem? (i := 351) (by decide +kernel), List.mem_of_getElem? (i := 983) (by decide +kernel), List.mem_of_getElem? (i := 984) (by decide +kernel)⟩
theorem lw_p46 : lw_okq (⟨"LearningPaid$Places", "fewest", "(IIIII)I"⟩, 2) := ⟨⟨by decide +kernel, by decide +kernel⟩, List.mem_of_getElem? (i := 351) (by decide +kernel), List.mem_of_getElem? (i := 988) (by decide +kernel), List.mem_of_getElem? (i := 989) (by decide +kernel)⟩
theorem lw_p47 : lw_okq (⟨"LearningPaid", "gatherTried", "(II)I"⟩, 13) := ⟨⟨by decide +kernel, by decide +kernel⟩, List.mem_of_getElem? (i := 24) (by decide +kernel), List.mem_of_getElem? (i := 1011) (by decide +kernel), List.mem_of_getElem? (i := 1012) (by decide +kernel)⟩
def lw_privs_3 : List (MethodName × Nat) := [(⟨"LearningPaid", "settle", "(I)V"⟩, 13), (⟨"LearningPaid", "isCourse", "(I)Z"⟩, 13), (⟨"LearningPaid", "seatsLeft", "(I)I"⟩, 13), (⟨"LearningPaid", "isBusy", "(ILLearningPaid$Course;)Z"⟩, 13), (⟨"LearningPaid", "papersOf", "(II)I"⟩, 13), (⟨"LearningPaid", "isStanding", "(I)Z"⟩, 13), (⟨"LearningPaid", "backDue", "(I)I"⟩, 13), (⟨"LearningPaid", "backIn", "(II)I"⟩, 13), (⟨"LearningPaid", "passMonth", "(I)V"⟩, 13), (⟨"LearningPaid", "orderClaimed", "()I"⟩, 13), (⟨"LearningPaid$Ways", "pick", "(I)V"⟩, 4), (⟨"LearningPaid$Ways", "goOn", "(ILLearningPaid$Course;I)V"⟩, 4), (⟨"LearningPaid$Places", "offerAll", "(IIIII)V"⟩, 2), (⟨"LearningPaid$Places", "offer", "(IIII)V"⟩, 2), (⟨"LearningPaid$Places", "fewest", "(IIIII)I"⟩, 2), (⟨"LearningPaid", "gatherTried", "(II)I"⟩, 13)]
theorem lw_r3 : ∀ q ∈ lw_privs_3, lw_okq q := List.forall_mem_cons.mpr ⟨lw_p32, List.forall_mem_cons.mpr ⟨lw_p33, List.forall_mem_cons.mpr ⟨lw_p34, List.forall_mem_cons.mpr ⟨lw_p35, List.forall_mem_cons.mpr ⟨lw_p36, List.forall_mem_cons.mpr ⟨lw_p37, List.forall_mem_cons.mpr ⟨lw_p38, List.forall_mem_cons.mpr ⟨lw_p39, List.forall_mem_cons.mpr ⟨lw_p40, List.forall_mem_cons.mpr ⟨lw_p41, List.forall_mem_cons.mpr ⟨lw_p42, List.forall_mem_cons.mpr ⟨lw_p43, List.forall_mem_cons.mpr ⟨lw_p44, List.forall_mem_cons.mpr ⟨lw_p45, List.forall_mem_cons.mpr ⟨lw_p46, List.forall_mem_cons.mpr ⟨lw_p47, fun _ h => absurd h List.not_mem_nil⟩⟩⟩⟩⟩⟩⟩⟩⟩⟩⟩⟩⟩⟩⟩⟩
theorem lw_p48 : lw_okq (⟨"LearningPaid", "effectOf", "(II)I"⟩, 13) := ⟨⟨by decide +kernel, by decide +kernel⟩, List.mem_of_getElem? (i := 24) (by decide +kernel), List.mem_of_getElem? (i := 1015) (by decide +kernel), List.mem_of_getElem? (i := 1016) (by decide +kernel)⟩
theorem lw_p49 : lw_okq (⟨"LearningPaid", "leviesBy", "(I)J"⟩, 13) := ⟨⟨by decide +kernel, by decide +kernel⟩, List.mem_of_getElem? (i := 24) (by decide +kernel), List.mem_of_getElem? (i := 1031) (by decide +kernel), List.mem_of_getElem? (i := 1032) (by decide +kernel)⟩
theorem lw_p50 : lw_okq (⟨"LearningPaid", "backBy", "(I)J"⟩, 13) := ⟨⟨by decide +kernel, by decide +kernel⟩, List.mem_of_getElem? (i := 24) (by decide +kernel), List.mem_of_getElem? (i := 1043) (by decide +kernel), List.mem_of_getElem? (i := 1044) (by decide +kernel)⟩
theorem lw_p51 : lw_okq (⟨"LearningPaidModel", "copies", "(Z)V"⟩, 45) := ⟨⟨by decide +kernel, by decide +kernel⟩, List.mem_of_getElem? (i := 1080) (by decide +kernel), List.mem_of_getElem? (i := 1088) (by decide +kernel), List.mem_of_getElem? (i := 1089) (by decide +kernel)⟩
theorem lw_p52 : lw_okq (⟨"LearningPaidModel", "isFirm", "(I)Z"⟩, 45) := ⟨⟨by decide +kernel, by decide +kernel⟩, List.mem_of_getElem? (i := 1080) (by decide +kernel), List.mem_of_getElem? (i := 1245) (by decide +kernel), List.mem_of_getElem? (i := 1246) (by decide +kernel)⟩
theorem lw_p53 : lw_okq (⟨"LearningPaidModel", "isHand", "(I)Z"⟩, 45) := ⟨⟨by decide +kernel, by decide +kernel⟩, List.mem_of_getElem? (i := 1080) (by decide +kernel), List.mem_of_getElem? (i := 1275) (by decide +kernel), List.mem_of_getElem? (i := 1276) (by decide +kernel)⟩
theorem lw_p54 : lw_okq (⟨"LearningPaidModel", "put", "(I)V"⟩, 45) := ⟨⟨by decide +kernel, by decide +kernel⟩, List.mem_of_getElem? (i := 1080) (by decide +kernel), List.mem_of_getElem? (i := 1283) (by decide +kernel), List.mem_of_getElem? (i := 1284) (by decide +kernel)⟩
theorem lw_p55 : lw_okq (⟨"LearningPaidModel", "next", "()V"⟩, 45) := ⟨⟨by decide +kernel, by decide +kernel⟩, List.mem_of_getElem? (i := 1080) (by decide +kernel), List.mem_of_getElem? (i := 1295) (by decide +kernel), List.mem_of_getElem? (i := 1296) (by decide +kernel)⟩
theorem lw_p56 : lw_okq (⟨"LearningPaidModel", "asks", "()V"⟩, 45) := ⟨⟨by decide +kernel, by decide +kernel⟩, List.mem_of_getElem? (i := 1080) (by decide +kernel), List.mem_of_getElem? (i := 1338) (by decide +kernel), List.mem_of_getElem? (i := 1339) (by decide +kernel)⟩
theorem lw_p57 : lw_okq (⟨"LearningPaidModel", "isWord", "(I)Z"⟩, 45) := ⟨⟨by decide +kernel, by decide +kernel⟩, List.mem_of_getElem? (i := 1080) (by decide +kernel), List.mem_of_getElem? (i := 1342) (by decide +kernel), List.mem_of_getElem? (i := 1343) (by decide +kernel)⟩
theorem lw_p58 : lw_okq (⟨"LearningPaidModel", "opensSign", "(I)Z"⟩, 45) := ⟨⟨by decide +kernel, by decide +kernel⟩, List.mem_of_getElem? (i := 1080) (by decide +kernel), List.mem_of_getElem? (i := 1346) (by decide +kernel), List.mem_of_getElem? (i := 1347) (by decide +kernel)⟩
theorem lw_p59 : lw_okq (⟨"LearningPaidModel", "errs", "(I)V"⟩, 45) := ⟨⟨by decide +kernel, by decide +kernel⟩, List.mem_of_getElem? (i := 1080) (by decide +kernel), List.mem_of_getElem? (i := 1350) (by decide +kernel), List.mem_of_getElem? (i := 1351) (by decide +kernel)⟩
theorem lw_p60 : lw_okq (⟨"LearningPaidModel", "opensFrame", "(I)V"⟩, 45) := ⟨⟨by decide +kernel, by decide +kernel⟩, List.mem_of_getElem? (i := 1080) (by decide +kernel), List.mem_of_getElem? (i := 1354) (by decide +kernel), List.mem_of_getElem? (i := 1355) (by decide +kernel)⟩
theorem lw_p61 : lw_okq (⟨"LearningPaidModel", "begins", "()V"⟩, 45) := ⟨⟨by decide +kernel, by decide +kernel⟩, List.mem_of_getElem? (i := 1080) (by decide +kernel), List.mem_of_getElem? (i := 1358) (by decide +kernel), List.mem_of_getElem? (i := 1359) (by decide +kernel)⟩
theorem lw_p62 : lw_okq (⟨"LearningPaidModel", "emits", "(II)V"⟩, 45) := ⟨⟨by decide +kernel, by decide +kernel⟩, List.mem_of_getElem? (i := 1080) (by decide +kernel), List.mem_of_getElem? (i := 1362) (by decide +kernel), List.mem_of_getElem? (i := 1363) (by decide +kernel)⟩
theorem lw_p63 : lw_okq (⟨"LearningPaidModel", "oneIsOver", "()V"⟩, 45) := ⟨⟨by decide +kernel, by decide +kernel⟩, List.mem_of_getElem? (i := 1080) (by decide +kernel), List.mem_of_getElem? (i := 1366) (by decide +kernel), List.mem_of_getElem? (i := 1367) (by decide +kernel)⟩
def lw_privs_4 : List (MethodName × Nat) := [(⟨"LearningPaid", "effectOf", "(II)I"⟩, 13), (⟨"LearningPaid", "leviesBy", "(I)J"⟩, 13), (⟨"LearningPaid", "backBy", "(I)J"⟩, 13), (⟨"LearningPaidModel", "copies", "(Z)V"⟩, 45), (⟨"LearningPaidModel", "isFirm", "(I)Z"⟩, 45), (⟨"LearningPaidModel", "isHand", "(I)Z"⟩, 45), (⟨"LearningPaidModel", "put", "(I)V"⟩, 45), (⟨"LearningPaidModel", "next", "()V"⟩, 45), (⟨"LearningPaidModel", "asks", "()V"⟩, 45), (⟨"LearningPaidModel", "isWord", "(I)Z"⟩, 45), (⟨"LearningPaidModel", "opensSign", "(I)Z"⟩, 45), (⟨"LearningPaidModel", "errs", "(I)V"⟩, 45), (⟨"LearningPaidModel", "opensFrame", "(I)V"⟩, 45), (⟨"LearningPaidModel", "begins", "()V"⟩, 45), (⟨"LearningPaidModel", "emits", "(II)V"⟩, 45), (⟨"LearningPaidModel", "oneIsOver", "()V"⟩, 45)]
theorem lw_r4 : ∀ q ∈ lw_privs_4, lw_okq q := List.forall_mem_cons.mpr ⟨lw_p48, List.forall_mem_cons.mpr ⟨lw_p49, List.forall_mem_cons.mpr ⟨lw_p50, List.forall_mem_cons.mpr ⟨lw_p51, List.forall_mem_cons.mpr ⟨lw_p52, List.forall_mem_cons.mpr ⟨lw_p53, List.forall_mem_cons.mpr ⟨lw_p54, List.forall_mem_cons.mpr ⟨lw_p55, List.forall_mem_cons.mpr ⟨lw_p56, List.forall_mem_cons.mpr ⟨lw_p57, List.forall_mem_cons.mpr ⟨lw_p58, List.forall_mem_cons.mpr ⟨lw_p59, List.forall_mem_cons.mpr ⟨lw_p60, List.forall_mem_cons.mpr ⟨lw_p61, List.forall_mem_cons.mpr ⟨lw_p62, List.forall_mem_cons.mpr ⟨lw_p63, fun _ h => absurd h List.not_mem_nil⟩⟩⟩⟩⟩⟩⟩⟩⟩⟩⟩⟩⟩⟩⟩⟩
theorem lw_p64 : lw_okq (⟨"LearningPaidModel", "top", "()I"⟩, 45) := ⟨⟨by decide +kernel, by decide +kernel⟩, List.mem_of_getElem? (i := 1080) (by decide +kernel), List.mem_of_getElem? (i := 1370) (by decide +kernel), List.mem_of_getElem? (i := 1371) (by decide +kernel)⟩
theorem lw_p65 : lw_okq (⟨"LearningPaidModel", "isSign", "(I)Z"⟩, 45) := ⟨⟨by decide +kernel, by decide +kernel⟩, List.mem_of_getElem? (i := 1080) (by decide +kernel), List.mem_of_getElem? (i := 1374) (by decide +kernel), List.mem_of_getElem? (i := 1375) (by decide +kernel)⟩
theorem lw_p66 : lw_okq (⟨"LearningPaidModel", "goesOn", "()V"⟩, 45) := ⟨⟨by decide +kernel, by decide +kernel⟩, List.mem_of_getElem? (i := 1080) (by decide +kernel), List.mem_of_getElem? (i := 1378) (by decide +kernel), List.mem_of_getElem? (i := 1379) (by decide +kernel)⟩
theorem lw_p67 : lw_okq (⟨"LearningPaidModel", "waitsFor", "(I)V"⟩, 45) := ⟨⟨by decide +kernel, by decide +kernel⟩, List.mem_of_getElem? (i := 1080) (by decide +kernel), List.mem_of_getElem? (i := 1382) (by decide +kernel), List.mem_of_getElem? (i := 1383) (by decide +kernel)⟩
theorem lw_p68 : lw_okq (⟨"LearningPaidModel", "works", "(I)V"⟩, 45) := ⟨⟨by decide +kernel, by decide +kernel⟩, List.mem_of_getElem? (i := 1080) (by decide +kernel), List.mem_of_getElem? (i := 1389) (by decide +kernel), List.mem_of_getElem? (i := 1390) (by decide +kernel)⟩
theorem lw_p69 : lw_okq (⟨"LearningPaidModel", "askIsOver", "()V"⟩, 45) := ⟨⟨by decide +kernel, by decide +kernel⟩, List.mem_of_getElem? (i := 1080) (by decide +kernel), List.mem_of_getElem? (i := 1396) (by decide +kernel), List.mem_of_getElem? (i := 1397) (by decide +kernel)⟩
theorem lw_p70 : lw_okq (⟨"LearningPaidModel", "clauseIsOver", "()V"⟩, 45) := ⟨⟨by decide +kernel, by decide +kernel⟩, List.mem_of_getElem? (i := 1080) (by decide +kernel), List.mem_of_getElem? (i := 1400) (by decide +kernel), List.mem_of_getElem? (i := 1401) (by decide +kernel)⟩
theorem lw_p71 : lw_okq (⟨"LearningPaidModel", "asksOn", "()V"⟩, 45) := ⟨⟨by decide +kernel, by decide +kernel⟩, List.mem_of_getElem? (i := 1080) (by decide +kernel), List.mem_of_getElem? (i := 1404) (by decide +kernel), List.mem_of_getElem? (i := 1405) (by decide +kernel)⟩
theorem lw_p72 : lw_okq (⟨"LearningPaidModel", "clause", "()V"⟩, 45) := ⟨⟨by decide +kernel, by decide +kernel⟩, List.mem_of_getElem? (i := 1080) (by decide +kernel), List.mem_of_getElem? (i := 1408) (by decide +kernel), List.mem_of_getElem? (i := 1409) (by decide +kernel)⟩
theorem lw_p73 : lw_okq (⟨"LearningPaidModel", "number", "(II)I"⟩, 45) := ⟨⟨by decide +kernel, by decide +kernel⟩, List.mem_of_getElem? (i := 1080) (by decide +kernel), List.mem_of_getElem? (i := 1412) (by decide +kernel), List.mem_of_getElem? (i := 1413) (by decide +kernel)⟩
theorem lw_p74 : lw_okq (⟨"LearningPaidModel", "ruleOf", "(III)I"⟩, 45) := ⟨⟨by decide +kernel, by decide +kernel⟩, List.mem_of_getElem? (i := 1080) (by decide +kernel), List.mem_of_getElem? (i := 1432) (by decide +kernel), List.mem_of_getElem? (i := 1433) (by decide +kernel)⟩
theorem lw_p75 : lw_okq (⟨"LearningPaidModel", "goes", "(I)V"⟩, 45) := ⟨⟨by decide +kernel, by decide +kernel⟩, List.mem_of_getElem? (i := 1080) (by decide +kernel), List.mem_of_getElem? (i := 1441) (by decide +kernel), List.mem_of_getElem? (i := 1442) (by decide +kernel)⟩
theorem lw_p76 : lw_okq (⟨"LearningPaidModel", "wagesOf", "(I)I"⟩, 45) := ⟨⟨by decide +kernel, by decide +kernel⟩, List.mem_of_getElem? (i := 1080) (by decide +kernel), List.mem_of_getElem? (i := 1445) (by decide +kernel), List.mem_of_getElem? (i := 1446) (by decide +kernel)⟩
theorem lw_p77 : lw_okq (⟨"LearningPaidModel", "handIs", "(II)I"⟩, 45) := ⟨⟨by decide +kernel, by decide +kernel⟩, List.mem_of_getElem? (i := 1080) (by decide +kernel), List.mem_of_getElem? (i := 1449) (by decide +kernel), List.mem_of_getElem? (i := 1450) (by decide +kernel)⟩
theorem lw_p78 : lw_okq (⟨"LearningPaidModel", "headsOf", "(I)I"⟩, 45) := ⟨⟨by decide +kernel, by decide +kernel⟩, List.mem_of_getElem? (i := 1080) (by decide +kernel), List.mem_of_getElem? (i := 1453) (by decide +kernel), List.mem_of_getElem? (i := 1454) (by decide +kernel)⟩
theorem lw_p79 : lw_okq (⟨"LearningPaidModel", "namesOf", "(IIII)V"⟩, 45) := ⟨⟨by decide +kernel, by decide +kernel⟩, List.mem_of_getElem? (i := 1080) (by decide +kernel), List.mem_of_getElem? (i := 1457) (by decide +kernel), List.mem_of_getElem? (i := 1458) (by decide +kernel)⟩
def lw_privs_5 : List (MethodName × Nat) := [(⟨"LearningPaidModel", "top", "()I"⟩, 45), (⟨"LearningPaidModel", "isSign", "(I)Z"⟩, 45), (⟨"LearningPaidModel", "goesOn", "()V"⟩, 45), (⟨"LearningPaidModel", "waitsFor", "(I)V"⟩, 45), (⟨"LearningPaidModel", "works", "(I)V"⟩, 45), (⟨"LearningPaidModel", "askIsOver", "()V"⟩, 45), (⟨"LearningPaidModel", "clauseIsOver", "()V"⟩, 45), (⟨"LearningPaidModel", "asksOn", "()V"⟩, 45), (⟨"LearningPaidModel", "clause", "()V"⟩, 45), (⟨"LearningPaidModel", "number", "(II)I"⟩, 45), (⟨"LearningPaidModel", "ruleOf", "(III)I"⟩, 45), (⟨"LearningPaidModel", "goes", "(I)V"⟩, 45), (⟨"LearningPaidModel", "wagesOf", "(I)I"⟩, 45), (⟨"LearningPaidModel", "handIs", "(II)I"⟩, 45), (⟨"LearningPaidModel", "headsOf", "(I)I"⟩, 45), (⟨"LearningPaidModel", "namesOf", "(IIII)V"⟩, 45)]
theorem lw_r5 : ∀ q ∈ lw_privs_5, lw_okq q := List.forall_mem_cons.mpr ⟨lw_p64, List.forall_mem_cons.mpr ⟨lw_p65, List.forall_mem_cons.mpr ⟨lw_p66, List.forall_mem_cons.mpr ⟨lw_p67, List.forall_mem_cons.mpr ⟨lw_p68, List.forall_mem_cons.mpr ⟨lw_p69, List.forall_mem_cons.mpr ⟨lw_p70, List.forall_mem_cons.mpr ⟨lw_p71, List.forall_mem_cons.mpr ⟨lw_p72, List.forall_mem_cons.mpr ⟨lw_p73, List.forall_mem_cons.mpr ⟨lw_p74, List.forall_mem_cons.mpr ⟨lw_p75, List.forall_mem_cons.mpr ⟨lw_p76, List.forall_mem_cons.mpr ⟨lw_p77, List.forall_mem_cons.mpr ⟨lw_p78, List.forall_mem_cons.mpr ⟨lw_p79, fun _ h => absurd h List.not_mem_nil⟩⟩⟩⟩⟩⟩⟩⟩⟩⟩⟩⟩⟩⟩⟩⟩
theorem lw_p80 : lw_okq (⟨"LearningPaidModel", "saysBy", "(II)J"⟩, 45) := ⟨⟨by decide +kernel, by decide +kernel⟩, List.mem_of_getElem? (i := 1080) (by decide +kernel), List.mem_of_getElem? (i := 1461) (by decide +kernel), List.mem_of_getElem? (i := 1462) (by decide +kernel)⟩
theorem lw_p81 : lw_okq (⟨"LearningPaidModel", "tells", "(I)J"⟩, 45) := ⟨⟨by decide +kernel, by decide +kernel⟩, List.mem_of_getElem? (i := 1080) (by decide +kernel), List.mem_of_getElem? (i := 1465) (by decide +kernel), List.mem_of_getElem? (i := 1466) (by decide +kernel)⟩
theorem lw_p82 : lw_okq (⟨"LearningPaidModel", "hasIt", "(III)Z"⟩, 45) := ⟨⟨by decide +kernel, by decide +kernel⟩, List.mem_of_getElem? (i := 1080) (by decide +kernel), List.mem_of_getElem? (i := 1485) (by decide +kernel), List.mem_of_getElem? (i := 1486) (by decide +kernel)⟩
theorem lw_p83 : lw_okq (⟨"LearningPaidModel", "joinOf", "(II)I"⟩, 45) := ⟨⟨by decide +kernel, by decide +kernel⟩, List.mem_of_getElem? (i := 1080) (by decide +kernel), List.mem_of_getElem? (i := 1489) (by decide +kernel), List.mem_of_getElem? (i := 1490) (by decide +kernel)⟩
theorem lw_p84 : lw_okq (⟨"LearningPaidModel", "courseOf", "(II)I"⟩, 45) := ⟨⟨by decide +kernel, by decide +kernel⟩, List.mem_of_getElem? (i := 1080) (by decide +kernel), List.mem_of_getElem? (i := 1493) (by decide +kernel), List.mem_of_getElem? (i := 1494) (by decide +kernel)⟩
theorem lw_p85 : lw_okq (⟨"LearningPaidModel", "left", "(I)I"⟩, 45) := ⟨⟨by decide +kernel, by decide +kernel⟩, List.mem_of_getElem? (i := 1080) (by decide +kernel), List.mem_of_getElem? (i := 1501) (by decide +kernel), List.mem_of_getElem? (i := 1502) (by decide +kernel)⟩
theorem lw_p86 : lw_okq (⟨"LearningPaidModel", "isFree", "(II)Z"⟩, 45) := ⟨⟨by decide +kernel, by decide +kernel⟩, List.mem_of_getElem? (i := 1080) (by decide +kernel), List.mem_of_getElem? (i := 1505) (by decide +kernel), List.mem_of_getElem? (i := 1506) (by decide +kernel)⟩
theorem lw_p87 : lw_okq (⟨"LearningPaidModel", "papersOf", "(II)I"⟩, 45) := ⟨⟨by decide +kernel, by decide +kernel⟩, List.mem_of_getElem? (i := 1080) (by decide +kernel), List.mem_of_getElem? (i := 1509) (by decide +kernel), List.mem_of_getElem? (i := 1510) (by decide +kernel)⟩
theorem lw_p88 : lw_okq (⟨"LearningPaidModel", "isJoined", "(I)Z"⟩, 45) := ⟨⟨by decide +kernel, by decide +kernel⟩, List.mem_of_getElem? (i := 1080) (by decide +kernel), List.mem_of_getElem? (i := 1517) (by decide +kernel), List.mem_of_getElem? (i := 1518) (by decide +kernel)⟩
theorem lw_p89 : lw_okq (⟨"LearningPaidModel", "numberOf", "(II)I"⟩, 45) := ⟨⟨by decide +kernel, by decide +kernel⟩, List.mem_of_getElem? (i := 1080) (by decide +kernel), List.mem_of_getElem? (i := 1525) (by decide +kernel), List.mem_of_getElem? (i := 1526) (by decide +kernel)⟩
theorem lw_p90 : lw_okq (⟨"LearningPaidModel", "namesFor", "(I)V"⟩, 45) := ⟨⟨by decide +kernel, by decide +kernel⟩, List.mem_of_getElem? (i := 1080) (by decide +kernel), List.mem_of_getElem? (i := 1533) (by decide +kernel), List.mem_of_getElem? (i := 1534) (by decide +kernel)⟩
theorem lw_p91 : lw_okq (⟨"LearningPaidModel", "backTo", "(II)I"⟩, 45) := ⟨⟨by decide +kernel, by decide +kernel⟩, List.mem_of_getElem? (i := 1080) (by decide +kernel), List.mem_of_getElem? (i := 1537) (by decide +kernel), List.mem_of_getElem? (i := 1538) (by decide +kernel)⟩
theorem lw_p92 : lw_okq (⟨"LearningPaidModel", "leaves", "(IZ)I"⟩, 45) := ⟨⟨by decide +kernel, by decide +kernel⟩, List.mem_of_getElem? (i := 1080) (by decide +kernel), List.mem_of_getElem? (i := 1553) (by decide +kernel), List.mem_of_getElem? (i := 1554) (by decide +kernel)⟩
theorem lw_p93 : lw_okq (⟨"LearningPaidModel", "owes", "(I)I"⟩, 45) := ⟨⟨by decide +kernel, by decide +kernel⟩, List.mem_of_getElem? (i := 1080) (by decide +kernel), List.mem_of_getElem? (i := 1557) (by decide +kernel), List.mem_of_getElem? (i := 1558) (by decide +kernel)⟩
theorem lw_p94 : lw_okq (⟨"LearningPaidModel", "wayTo", "(II)I"⟩, 45) := ⟨⟨by decide +kernel, by decide +kernel⟩, List.mem_of_getElem? (i := 1080) (by decide +kernel), List.mem_of_getElem? (i := 1588) (by decide +kernel), List.mem_of_getElem? (i := 1589) (by decide +kernel)⟩
theorem lw_p95 : lw_okq (⟨"LearningPaidModel", "stepsOn", "(II)V"⟩, 45) := ⟨⟨by decide +kernel, by decide +kernel⟩, List.mem_of_getElem? (i := 1080) (by decide +kernel), List.mem_of_getElem? (i := 1592) (by decide +kernel), List.mem_of_getElem? (i := 1593) (by decide +kernel)⟩
def lw_privs_6 : List (MethodName × Nat) := [(⟨"LearningPaidModel", "saysBy", "(II)J"⟩, 45), (⟨"LearningPaidModel", "tells", "(I)J"⟩, 45), (⟨"LearningPaidModel", "hasIt", "(III)Z"⟩, 45), (⟨"LearningPaidModel", "joinOf", "(II)I"⟩, 45), (⟨"LearningPaidModel", "courseOf", "(II)I"⟩, 45), (⟨"LearningPaidModel", "left", "(I)I"⟩, 45), (⟨"LearningPaidModel", "isFree", "(II)Z"⟩, 45), (⟨"LearningPaidModel", "papersOf", "(II)I"⟩, 45), (⟨"LearningPaidModel", "isJoined", "(I)Z"⟩, 45), (⟨"LearningPaidModel", "numberOf", "(II)I"⟩, 45), (⟨"LearningPaidModel", "namesFor", "(I)V"⟩, 45), (⟨"LearningPaidModel", "backTo", "(II)I"⟩, 45), (⟨"LearningPaidModel", "leaves", "(IZ)I"⟩, 45), (⟨"LearningPaidModel", "owes", "(I)I"⟩, 45), (⟨"LearningPaidModel", "wayTo", "(II)I"⟩, 45), (⟨"LearningPaidModel", "stepsOn", "(II)V"⟩, 45)]
theorem lw_r6 : ∀ q ∈ lw_privs_6, lw_okq q := List.forall_mem_cons.mpr ⟨lw_p80, List.forall_mem_cons.mpr ⟨lw_p81, List.forall_mem_cons.mpr ⟨lw_p82, List.forall_mem_cons.mpr ⟨lw_p83, List.forall_mem_cons.mpr ⟨lw_p84, List.forall_mem_cons.mpr ⟨lw_p85, List.forall_mem_cons.mpr ⟨lw_p86, List.forall_mem_cons.mpr ⟨lw_p87, List.forall_mem_cons.mpr ⟨lw_p88, List.forall_mem_cons.mpr ⟨lw_p89, List.forall_mem_cons.mpr ⟨lw_p90, List.forall_mem_cons.mpr ⟨lw_p91, List.forall_mem_cons.mpr ⟨lw_p92, List.forall_mem_cons.mpr ⟨lw_p93, List.forall_mem_cons.mpr ⟨lw_p94, List.forall_mem_cons.mpr ⟨lw_p95, fun _ h => absurd h List.not_mem_nil⟩⟩⟩⟩⟩⟩⟩⟩⟩⟩⟩⟩⟩⟩⟩⟩
theorem lw_p96 : lw_okq (⟨"LearningPaidModel", "fills", "(I)V"⟩, 45) := ⟨⟨by decide +kernel, by decide +kernel⟩, List.mem_of_getElem? (i := 1080) (by decide +kernel), List.mem_of_getElem? (i := 1602) (by decide +kernel), List.mem_of_getElem? (i := 1603) (by decide +kernel)⟩
theorem lw_p97 : lw_okq (⟨"LearningPaidModel", "better", "(III)V"⟩, 45) := ⟨⟨by decide +kernel, by decide +kernel⟩, List.mem_of_getElem? (i := 1080) (by decide +kernel), List.mem_of_getElem? (i := 1606) (by decide +kernel), List.mem_of_getElem? (i := 1607) (by decide +kernel)⟩
theorem lw_p98 : lw_okq (⟨"LearningPaidModel", "worthBy", "(III)I"⟩, 45) := ⟨⟨by decide +kernel, by decide +kernel⟩, List.mem_of_getElem? (i := 1080) (by decide +kernel), List.mem_of_getElem? (i := 1610) (by decide +kernel), List.mem_of_getElem? (i := 1611) (by decide +kernel)⟩
theorem lw_p99 : lw_okq (⟨"LearningPaidModel", "costBy", "(III)I"⟩, 45) := ⟨⟨by decide +kernel, by decide +kernel⟩, List.mem_of_getElem? (i := 1080) (by decide +kernel), List.mem_of_getElem? (i := 1614) (by decide +kernel), List.mem_of_getElem? (i := 1615) (by decide +kernel)⟩
theorem lw_p100 : lw_okq (⟨"LearningPaidModel", "effect", "(II)I"⟩, 45) := ⟨⟨by decide +kernel, by decide +kernel⟩, List.mem_of_getElem? (i := 1080) (by decide +kernel), List.mem_of_getElem? (i := 1639) (by decide +kernel), List.mem_of_getElem? (i := 1640) (by decide +kernel)⟩
theorem lw_p101 : lw_okq (⟨"LearningPaidModel", "claimed", "()I"⟩, 45) := ⟨⟨by decide +kernel, by decide +kernel⟩, List.mem_of_getElem? (i := 1080) (by decide +kernel), List.mem_of_getElem? (i := 1650) (by decide +kernel), List.mem_of_getElem? (i := 1651) (by decide +kernel)⟩
theorem lw_p102 : lw_okq (⟨"LearningPaidModel", "bookAt", "(I)I"⟩, 45) := ⟨⟨by decide +kernel, by decide +kernel⟩, List.mem_of_getElem? (i := 1080) (by decide +kernel), List.mem_of_getElem? (i := 1663) (by decide +kernel), List.mem_of_getElem? (i := 1664) (by decide +kernel)⟩
def lw_privs_7 : List (MethodName × Nat) := [(⟨"LearningPaidModel", "fills", "(I)V"⟩, 45), (⟨"LearningPaidModel", "better", "(III)V"⟩, 45), (⟨"LearningPaidModel", "worthBy", "(III)I"⟩, 45), (⟨"LearningPaidModel", "costBy", "(III)I"⟩, 45), (⟨"LearningPaidModel", "effect", "(II)I"⟩, 45), (⟨"LearningPaidModel", "claimed", "()I"⟩, 45), (⟨"LearningPaidModel", "bookAt", "(I)I"⟩, 45)]
theorem lw_r7 : ∀ q ∈ lw_privs_7, lw_okq q := List.forall_mem_cons.mpr ⟨lw_p96, List.forall_mem_cons.mpr ⟨lw_p97, List.forall_mem_cons.mpr ⟨lw_p98, List.forall_mem_cons.mpr ⟨lw_p99, List.forall_mem_cons.mpr ⟨lw_p100, List.forall_mem_cons.mpr ⟨lw_p101, List.forall_mem_cons.mpr ⟨lw_p102, fun _ h => absurd h List.not_mem_nil⟩⟩⟩⟩⟩⟩⟩
def lw_privs : List (MethodName × Nat) := lw_privs_1 ++ (lw_privs_2 ++ (lw_privs_3 ++ (lw_privs_4 ++ (lw_privs_5 ++ (lw_privs_6 ++ (lw_privs_7))))))
def lw_tbl : List Cond := k2_sels lw_privs ++ tables_1
theorem lw_privs_ok : ∀ q ∈ lw_privs, lw_okq q := by
  show ∀ q ∈ lw_privs_1 ++ (lw_privs_2 ++ (lw_privs_3 ++ (lw_privs_4 ++ (lw_privs_5 ++ (lw_privs_6 ++ (lw_privs_7)))))), lw_okq q
  exact List.forall_mem_append.mpr ⟨lw_r1, List.forall_mem_append.mpr ⟨lw_r2, List.forall_mem_append.mpr ⟨lw_r3, List.forall_mem_append.mpr ⟨lw_r4, List.forall_mem_append.mpr ⟨lw_r5, List.forall_mem_append.mpr ⟨lw_r6, lw_r7⟩⟩⟩⟩⟩⟩
-- names, printed by program
def RX0 : String := "LearningPaid$Board"
def TX0 : u_T := fun k => match k with
  | 0 => ("LearningPaid$Board", "clock", "I", false)
  | 1 => ("LearningPaid$Board", "firms", "I", false)
  | 2 => ("LearningPaid$Board", "hands", "I", false)
  | 3 => ("LearningPaid$Board", "courses", "I", false)
  | 4 => ("LearningPaid$Board", "texts", "I", false)
  | 5 => ("LearningPaid$Board", "rulings", "I", false)
  | 6 => ("LearningPaid$Board", "joins", "I", false)
  | 7 => ("LearningPaid$Board", "fund", "J", false)
  | 8 => ("LearningPaid$Board", "lack", "[I", true)
  | 9 => ("LearningPaid$Board", "cost", "[I", true)
  | 10 => ("LearningPaid$Board", "worth", "[I", true)
  | 11 => ("LearningPaid$Board", "life", "[I", true)
  | 12 => ("LearningPaid$Board", "result", "[I", true)
  | 13 => ("LearningPaid$Board", "owed", "[[I", true)
  | 14 => ("LearningPaid$Board", "hand", "[LLearningPaid$Hand;", true)
  | _ => ("LearningPaid$Board", "join", "[LLearningPaid$Join;", true)
def tyX0 : Nat → FieldType := fun k => match k with
  | 0 => .int
  | 1 => .int
  | 2 => .int
  | 3 => .int
  | 4 => .int
  | 5 => .int
  | 6 => .int
  | 7 => .long
  | 8 => .array .int
  | 9 => .array .int
  | 10 => .array .int
  | 11 => .array .int
  | 12 => .array .int
  | 13 => .array (.array .int)
  | 14 => .array (.object "LearningPaid$Hand")
  | _ => .array (.object "LearningPaid$Join")
abbrev wsX00 : List Cond := u_ws RX0 TX0 16
theorem nmX0 : ∀ a, a < 16 → ∀ b, b < 16 → a ≠ b → (TX0 a).2.1 ≠ (TX0 b).2.1 := by decide +kernel
theorem tyX0_ok : ∀ k, k < 16 → parseFieldDescriptor (TX0 k).2.2.1 = some (tyX0 k) := by decide +kernel
abbrev cX0_init : ByteArray := prog_2_method_1_code
def yX0_init : MethodName := ⟨RX0, "<init>", "()V"⟩
abbrev cX0_takeAll : ByteArray := prog_2_method_2_code
def yX0_takeAll : MethodName := ⟨RX0, "takeAll", "(LLearningPaid$Board;)V"⟩
def RX1 : String := "LearningPaid$Course"
def TX1 : u_T := fun k => match k with
  | 0 => ("LearningPaid$Course", "trainer", "I", false)
  | 1 => ("LearningPaid$Course", "trade", "I", false)
  | 2 => ("LearningPaid$Course", "hours", "I", false)
  | 3 => ("LearningPaid$Course", "seats", "I", false)
  | 4 => ("LearningPaid$Course", "price", "I", false)
  | 5 => ("LearningPaid$Course", "first", "I", false)
  | 6 => ("LearningPaid$Course", "last", "I", false)
  | 7 => ("LearningPaid$Course", "gives", "I", false)
  | _ => ("LearningPaid$Course", "wants", "I", false)
def tyX1 : Nat → FieldType := fun k => match k with
  | 0 => .int
  | 1 => .int
  | 2 => .int
  | 3 => .int
  | 4 => .int
  | 5 => .int
  | 6 => .int
  | 7 => .int
  | _ => .int
abbrev wsX10 : List Cond := u_ws RX1 TX1 9
theorem nmX1 : ∀ a, a < 9 → ∀ b, b < 9 → a ≠ b → (TX1 a).2.1 ≠ (TX1 b).2.1 := by decide +kernel
theorem tyX1_ok : ∀ k, k < 9 → parseFieldDescriptor (TX1 k).2.2.1 = some (tyX1 k) := by decide +kernel
abbrev cX1_init : ByteArray := prog_3_method_1_code
def yX1_init : MethodName := ⟨RX1, "<init>", "()V"⟩
def RX2 : String := "LearningPaid$Hand"
def TX2 : u_T := fun k => match k with
  | 0 => ("LearningPaid$Hand", "age", "I", false)
  | 1 => ("LearningPaid$Hand", "trade", "I", false)
  | 2 => ("LearningPaid$Hand", "wage", "I", false)
  | 3 => ("LearningPaid$Hand", "firm", "I", false)
  | _ => ("LearningPaid$Hand", "owes", "I", false)
def tyX2 : Nat → FieldType := fun k => match k with
  | 0 => .int
  | 1 => .int
  | 2 => .int
  | 3 => .int
  | _ => .int
abbrev wsX20 : List Cond := u_ws RX2 TX2 5
theorem nmX2 : ∀ a, a < 5 → ∀ b, b < 5 → a ≠ b → (TX2 a).2.1 ≠ (TX2 b).2.1 := by decide +kernel
theorem tyX2_ok : ∀ k, k < 5 → parseFieldDescriptor (TX2 k).2.2.1 = some (tyX2 k) := by decide +kernel
abbrev cX2_init : ByteArray := prog_4_method_1_code
def yX2_init : MethodName := ⟨RX2, "<init>", "()V"⟩
abbrev cX2_takeFrom : ByteArray := prog_4_method_2_code
def yX2_takeFrom : MethodName := ⟨RX2, "takeFrom", "(LLearningPaid$Hand;)V"⟩
def RX3 : String := "LearningPaid$Join"
def TX3 : u_T := fun k => match k with
  | 0 => ("LearningPaid$Join", "hand", "I", false)
  | 1 => ("LearningPaid$Join", "course", "I", false)
  | 2 => ("LearningPaid$Join", "firm", "I", false)
  | 3 => ("LearningPaid$Join", "lost", "I", false)
  | 4 => ("LearningPaid$Join", "mark", "I", false)
  | 5 => ("LearningPaid$Join", "passed", "Z", false)
  | 6 => ("LearningPaid$Join", "back", "I", false)
  | 7 => ("LearningPaid$Join", "givenUp", "Z", false)
  | _ => ("LearningPaid$Join", "settled", "Z", false)
def tyX3 : Nat → FieldType := fun k => match k with
  | 0 => .int
  | 1 => .int
  | 2 => .int
  | 3 => .int
  | 4 => .int
  | 5 => .boolean
  | 6 => .int
  | 7 => .boolean
  | _ => .boolean
abbrev wsX30 : List Cond := u_ws RX3 TX3 9
theorem nmX3 : ∀ a, a < 9 → ∀ b, b < 9 → a ≠ b → (TX3 a).2.1 ≠ (TX3 b).2.1 := by decide +kernel
theorem tyX3_ok : ∀ k, k < 9 → parseFieldDescriptor (TX3 k).2.2.1 = some (tyX3 k) := by decide +kernel
abbrev cX3_init : ByteArray := prog_5_method_1_code
def yX3_init : MethodName := ⟨RX3, "<init>", "()V"⟩
abbrev cX3_takeFrom : ByteArray := prog_5_method_2_code
def yX3_takeFrom : MethodName := ⟨RX3, "takeFrom", "(LLearningPaid$Join;)V"⟩
def RX4 : String := "LearningPaid$Law"
def TX4 : u_T := fun k => match k with
  | 0 => ("LearningPaid$Law", "texts", "[LLearningPaid$Text;", true)
  | 1 => ("LearningPaid$Law", "without", "LLearningPaid$Text;", true)
  | 2 => ("LearningPaid$Law", "text", "[I", true)
  | 3 => ("LearningPaid$Law", "from", "[I", true)
  | 4 => ("LearningPaid$Law", "told", "[I", true)
  | 5 => ("LearningPaid$Law", "names", "[I", true)
  | _ => ("LearningPaid$Law", "stack", "[I", true)
def tyX4 : Nat → FieldType := fun k => match k with
  | 0 => .array (.object "LearningPaid$Text")
  | 1 => .object "LearningPaid$Text"
  | 2 => .array .int
  | 3 => .array .int
  | 4 => .array .int
  | 5 => .array .int
  | _ => .array .int
abbrev wsX40 : List Cond := u_ws RX4 TX4 7
theorem nmX4 : ∀ a, a < 7 → ∀ b, b < 7 → a ≠ b → (TX4 a).2.1 ≠ (TX4 b).2.1 := by decide +kernel
theorem tyX4_ok : ∀ k, k < 7 → parseFieldDescriptor (TX4 k).2.2.1 = some (tyX4 k) := by decide +kernel
abbrev cX4_init : ByteArray := prog_6_method_1_code
def yX4_init : MethodName := ⟨RX4, "<init>", "()V"⟩
abbrev cX4_textFor : ByteArray := prog_6_method_2_code
def yX4_textFor : MethodName := ⟨RX4, "textFor", "(IIII)I"⟩
abbrev cX4_putFirm : ByteArray := prog_6_method_3_code
def yX4_putFirm : MethodName := ⟨RX4, "putFirm", "(IIII)V"⟩
abbrev cX4_answer : ByteArray := prog_6_method_4_code
def yX4_answer : MethodName := ⟨RX4, "answer", "(II)I"⟩
abbrev cX4_levyBy : ByteArray := prog_6_method_5_code
def yX4_levyBy : MethodName := ⟨RX4, "levyBy", "(II)I"⟩
def RX5 : String := "LearningPaid$Past"
def TX5 : u_T := fun k => match k with
  | 0 => ("LearningPaid$Past", "firms", "[I", true)
  | 1 => ("LearningPaid$Past", "wages", "[I", true)
  | 2 => ("LearningPaid$Past", "heads", "[I", true)
  | _ => ("LearningPaid$Past", "paid", "[I", true)
def tyX5 : Nat → FieldType := fun k => match k with
  | 0 => .array .int
  | 1 => .array .int
  | 2 => .array .int
  | _ => .array .int
abbrev wsX50 : List Cond := u_ws RX5 TX5 4
theorem nmX5 : ∀ a, a < 4 → ∀ b, b < 4 → a ≠ b → (TX5 a).2.1 ≠ (TX5 b).2.1 := by decide +kernel
theorem tyX5_ok : ∀ k, k < 4 → parseFieldDescriptor (TX5 k).2.2.1 = some (tyX5 k) := by decide +kernel
abbrev cX5_init : ByteArray := prog_7_method_1_code
def yX5_init : MethodName := ⟨RX5, "<init>", "()V"⟩
abbrev cX5_put : ByteArray := prog_7_method_2_code
def yX5_put : MethodName := ⟨RX5, "put", "(IIIII)V"⟩
abbrev cX5_wagesOf : ByteArray := prog_7_method_3_code
def yX5_wagesOf : MethodName := ⟨RX5, "wagesOf", "(II)I"⟩
abbrev cX5_headsOf : ByteArray := prog_7_method_4_code
def yX5_headsOf : MethodName := ⟨RX5, "headsOf", "(II)I"⟩
abbrev cX5_paidWith : ByteArray := prog_7_method_5_code
def yX5_paidWith : MethodName := ⟨RX5, "paidWith", "(II)I"⟩
abbrev cX5_paidAhead : ByteArray := prog_7_method_6_code
def yX5_paidAhead : MethodName := ⟨RX5, "paidAhead", "(II)I"⟩
def RX6 : String := "LearningPaid$Places"
def TX6 : u_T := fun k => match k with
  | 0 => ("LearningPaid$Places", "best", "[I", true)
  | _ => ("LearningPaid$Places", "chosen", "[I", true)
def tyX6 : Nat → FieldType := fun k => match k with
  | 0 => .array .int
  | _ => .array .int
abbrev wsX60 : List Cond := u_ws RX6 TX6 2
theorem nmX6 : ∀ a, a < 2 → ∀ b, b < 2 → a ≠ b → (TX6 a).2.1 ≠ (TX6 b).2.1 := by decide +kernel
theorem tyX6_ok : ∀ k, k < 2 → parseFieldDescriptor (TX6 k).2.2.1 = some (tyX6 k) := by decide +kernel
abbrev cX6_init : ByteArray := prog_8_method_1_code
def yX6_init : MethodName := ⟨RX6, "<init>", "()V"⟩
abbrev cX6_choose : ByteArray := prog_8_method_2_code
def yX6_choose : MethodName := ⟨RX6, "choose", "([I[I[II)V"⟩
abbrev cX6_offerAll : ByteArray := prog_8_method_3_code
def yX6_offerAll : MethodName := ⟨RX6, "offerAll", "(IIIII)V"⟩
abbrev cX6_offer : ByteArray := prog_8_method_4_code
def yX6_offer : MethodName := ⟨RX6, "offer", "(IIII)V"⟩
abbrev cX6_fewest : ByteArray := prog_8_method_5_code
def yX6_fewest : MethodName := ⟨RX6, "fewest", "(IIIII)I"⟩
abbrev cX6_together : ByteArray := prog_8_method_6_code
def yX6_together : MethodName := ⟨RX6, "together", "([I)I"⟩
def RX7 : String := "LearningPaid$Reader"
def TX7 : u_T := fun k => match k with
  | 0 => ("LearningPaid$Reader", "tape", "[B", true)
  | 1 => ("LearningPaid$Reader", "kinds", "[I", true)
  | 2 => ("LearningPaid$Reader", "starts", "[I", true)
  | 3 => ("LearningPaid$Reader", "numbers", "[I", true)
  | 4 => ("LearningPaid$Reader", "length", "I", false)
  | 5 => ("LearningPaid$Reader", "fault", "I", false)
  | 6 => ("LearningPaid$Reader", "place", "I", false)
  | 7 => ("LearningPaid$Reader", "at", "I", false)
  | 8 => ("LearningPaid$Reader", "tokens", "I", false)
  | 9 => ("LearningPaid$Reader", "token", "I", false)
  | 10 => ("LearningPaid$Reader", "kind", "I", false)
  | 11 => ("LearningPaid$Reader", "open", "I", false)
  | 12 => ("LearningPaid$Reader", "sort", "I", false)
  | _ => ("LearningPaid$Reader", "into", "LLearningPaid$Text;", false)
def tyX7 : Nat → FieldType := fun k => match k with
  | 0 => .array .byte
  | 1 => .array .int
  | 2 => .array .int
  | 3 => .array .int
  | 4 => .int
  | 5 => .int
  | 6 => .int
  | 7 => .int
  | 8 => .int
  | 9 => .int
  | 10 => .int
  | 11 => .int
  | 12 => .int
  | _ => .object "LearningPaid$Text"
abbrev wsX70 : List Cond := u_ws RX7 TX7 14
theorem nmX7 : ∀ a, a < 14 → ∀ b, b < 14 → a ≠ b → (TX7 a).2.1 ≠ (TX7 b).2.1 := by decide +kernel
theorem tyX7_ok : ∀ k, k < 14 → parseFieldDescriptor (TX7 k).2.2.1 = some (tyX7 k) := by decide +kernel
abbrev cX7_init : ByteArray := prog_9_method_1_code
def yX7_init : MethodName := ⟨RX7, "<init>", "()V"⟩
abbrev cX7_putByte : ByteArray := prog_9_method_2_code
def yX7_putByte : MethodName := ⟨RX7, "putByte", "(I)V"⟩
abbrev cX7_putWord : ByteArray := prog_9_method_3_code
def yX7_putWord : MethodName := ⟨RX7, "putWord", "(I)V"⟩
abbrev cX7_putLine : ByteArray := prog_9_method_4_code
def yX7_putLine : MethodName := ⟨RX7, "putLine", "(Ljava/lang/String;)V"⟩
abbrev cX7_forget : ByteArray := prog_9_method_5_code
def yX7_forget : MethodName := ⟨RX7, "forget", "()V"⟩
abbrev cX7_readInto : ByteArray := prog_9_method_6_code
def yX7_readInto : MethodName := ⟨RX7, "readInto", "(LLearningPaid$Text;)V"⟩
abbrev cX7_readClause : ByteArray := prog_9_method_7_code
def yX7_readClause : MethodName := ⟨RX7, "readClause", "()V"⟩
abbrev cX7_readEither : ByteArray := prog_9_method_8_code
def yX7_readEither : MethodName := ⟨RX7, "readEither", "()V"⟩
abbrev cX7_readAsk : ByteArray := prog_9_method_9_code
def yX7_readAsk : MethodName := ⟨RX7, "readAsk", "()V"⟩
abbrev cX7_readSum : ByteArray := prog_9_method_10_code
def yX7_readSum : MethodName := ⟨RX7, "readSum", "()V"⟩
abbrev cX7_readProduct : ByteArray := prog_9_method_11_code
def yX7_readProduct : MethodName := ⟨RX7, "readProduct", "()V"⟩
abbrev cX7_readOne : ByteArray := prog_9_method_12_code
def yX7_readOne : MethodName := ⟨RX7, "readOne", "()V"⟩
abbrev cX7_readPair : ByteArray := prog_9_method_13_code
def yX7_readPair : MethodName := ⟨RX7, "readPair", "(I)V"⟩
abbrev cX7_readNumber : ByteArray := prog_9_method_14_code
def yX7_readNumber : MethodName := ⟨RX7, "readNumber", "(I)V"⟩
abbrev cX7_readName : ByteArray := prog_9_method_15_code
def yX7_readName : MethodName := ⟨RX7, "readName", "(I)V"⟩
abbrev cX7_goDeeper : ByteArray := prog_9_method_16_code
def yX7_goDeeper : MethodName := ⟨RX7, "goDeeper", "()V"⟩
abbrev cX7_goOut : ByteArray := prog_9_method_17_code
def yX7_goOut : MethodName := ⟨RX7, "goOut", "(I)V"⟩
abbrev cX7_pass : ByteArray := prog_9_method_18_code
def yX7_pass : MethodName := ⟨RX7, "pass", "(I)V"⟩
abbrev cX7_addOperator : ByteArray := prog_9_method_19_code
def yX7_addOperator : MethodName := ⟨RX7, "addOperator", "(I)V"⟩
abbrev cX7_fail : ByteArray := prog_9_method_20_code
def yX7_fail : MethodName := ⟨RX7, "fail", "(I)V"⟩
abbrev cX7_step : ByteArray := prog_9_method_21_code
def yX7_step : MethodName := ⟨RX7, "step", "()V"⟩
abbrev cX7_scan : ByteArray := prog_9_method_22_code
def yX7_scan : MethodName := ⟨RX7, "scan", "()V"⟩
abbrev cX7_takeWord : ByteArray := prog_9_method_23_code
def yX7_takeWord : MethodName := ⟨RX7, "takeWord", "()V"⟩
abbrev cX7_isSpelt : ByteArray := prog_9_method_24_code
def yX7_isSpelt : MethodName := ⟨RX7, "isSpelt", "(III)Z"⟩
abbrev cX7_takeNumber : ByteArray := prog_9_method_25_code
def yX7_takeNumber : MethodName := ⟨RX7, "takeNumber", "()V"⟩
abbrev cX7_takeSign : ByteArray := prog_9_method_26_code
def yX7_takeSign : MethodName := ⟨RX7, "takeSign", "()V"⟩
abbrev cX7_isLetter : ByteArray := prog_9_method_27_code
def yX7_isLetter : MethodName := ⟨RX7, "isLetter", "(I)Z"⟩
abbrev cX7_isDigit : ByteArray := prog_9_method_28_code
def yX7_isDigit : MethodName := ⟨RX7, "isDigit", "(I)Z"⟩
def RX8 : String := "LearningPaid$Sheet"
def TX8 : u_T := fun k => match k with
  | 0 => ("LearningPaid$Sheet", "year", "I", false)
  | 1 => ("LearningPaid$Sheet", "paid", "[I", true)
  | _ => ("LearningPaid$Sheet", "back", "[I", true)
def tyX8 : Nat → FieldType := fun k => match k with
  | 0 => .int
  | 1 => .array .int
  | _ => .array .int
abbrev wsX80 : List Cond := u_ws RX8 TX8 3
theorem nmX8 : ∀ a, a < 3 → ∀ b, b < 3 → a ≠ b → (TX8 a).2.1 ≠ (TX8 b).2.1 := by decide +kernel
theorem tyX8_ok : ∀ k, k < 3 → parseFieldDescriptor (TX8 k).2.2.1 = some (tyX8 k) := by decide +kernel
abbrev cX8_init : ByteArray := prog_10_method_1_code
def yX8_init : MethodName := ⟨RX8, "<init>", "()V"⟩
def RX9 : String := "LearningPaid$Text"
def TX9 : u_T := fun k => match k with
  | 0 => ("LearningPaid$Text", "code", "[I", true)
  | 1 => ("LearningPaid$Text", "begin", "[I", true)
  | 2 => ("LearningPaid$Text", "stop", "[I", true)
  | _ => ("LearningPaid$Text", "used", "I", false)
def tyX9 : Nat → FieldType := fun k => match k with
  | 0 => .array .int
  | 1 => .array .int
  | 2 => .array .int
  | _ => .int
abbrev wsX90 : List Cond := u_ws RX9 TX9 4
theorem nmX9 : ∀ a, a < 4 → ∀ b, b < 4 → a ≠ b → (TX9 a).2.1 ≠ (TX9 b).2.1 := by decide +kernel
theorem tyX9_ok : ∀ k, k < 4 → parseFieldDescriptor (TX9 k).2.2.1 = some (tyX9 k) := by decide +kernel
abbrev cX9_init : ByteArray := prog_11_method_1_code
def yX9_init : MethodName := ⟨RX9, "<init>", "()V"⟩
abbrev cX9_clear : ByteArray := prog_11_method_2_code
def yX9_clear : MethodName := ⟨RX9, "clear", "()V"⟩
abbrev cX9_hasSort : ByteArray := prog_11_method_3_code
def yX9_hasSort : MethodName := ⟨RX9, "hasSort", "(I)Z"⟩
abbrev cX9_open : ByteArray := prog_11_method_4_code
def yX9_open : MethodName := ⟨RX9, "open", "(I)V"⟩
abbrev cX9_close : ByteArray := prog_11_method_5_code
def yX9_close : MethodName := ⟨RX9, "close", "(I)V"⟩
abbrev cX9_add : ByteArray := prog_11_method_6_code
def yX9_add : MethodName := ⟨RX9, "add", "(I)V"⟩
abbrev cX9_answer : ByteArray := prog_11_method_7_code
def yX9_answer : MethodName := ⟨RX9, "answer", "(I[I[I)I"⟩
abbrev cX9_joinTwo : ByteArray := prog_11_method_8_code
def yX9_joinTwo : MethodName := ⟨RX9, "joinTwo", "(IJJ)J"⟩
def RX10 : String := "LearningPaid$Ways"
def TX10 : u_T := fun k => match k with
  | 0 => ("LearningPaid$Ways", "lacked", "[I", true)
  | 1 => ("LearningPaid$Ways", "over", "[I", true)
  | 2 => ("LearningPaid$Ways", "last", "I", false)
  | _ => ("LearningPaid$Ways", "count", "I", false)
def tyX10 : Nat → FieldType := fun k => match k with
  | 0 => .array .int
  | 1 => .array .int
  | 2 => .int
  | _ => .int
abbrev wsX100 : List Cond := u_ws RX10 TX10 4
theorem nmX10 : ∀ a, a < 4 → ∀ b, b < 4 → a ≠ b → (TX10 a).2.1 ≠ (TX10 b).2.1 := by decide +kernel
theorem tyX10_ok : ∀ k, k < 4 → parseFieldDescriptor (TX10 k).2.2.1 = some (tyX10 k) := by decide +kernel
abbrev cX10_init : ByteArray := prog_12_method_1_code
def yX10_init : MethodName := ⟨RX10, "<init>", "()V"⟩
abbrev cX10_seek : ByteArray := prog_12_method_2_code
def yX10_seek : MethodName := ⟨RX10, "seek", "([LLearningPaid$Course;III)V"⟩
abbrev cX10_goOn : ByteArray := prog_12_method_3_code
def yX10_goOn : MethodName := ⟨RX10, "goOn", "(ILLearningPaid$Course;I)V"⟩
abbrev cX10_pick : ByteArray := prog_12_method_4_code
def yX10_pick : MethodName := ⟨RX10, "pick", "(I)V"⟩
def RX11 : String := "LearningPaid"
def TX11 : u_T := fun k => match k with
  | 0 => ("LearningPaid", "now", "LLearningPaid$Board;", true)
  | 1 => ("LearningPaid", "kept", "LLearningPaid$Board;", true)
  | 2 => ("LearningPaid", "courses", "[LLearningPaid$Course;", true)
  | 3 => ("LearningPaid", "law", "LLearningPaid$Law;", true)
  | 4 => ("LearningPaid", "past", "LLearningPaid$Past;", true)
  | 5 => ("LearningPaid", "reader", "LLearningPaid$Reader;", true)
  | 6 => ("LearningPaid", "taken", "LLearningPaid$Sheet;", true)
  | 7 => ("LearningPaid", "ways", "LLearningPaid$Ways;", true)
  | 8 => ("LearningPaid", "choice", "LLearningPaid$Places;", true)
  | 9 => ("LearningPaid", "wagesByFirm", "[I", true)
  | 10 => ("LearningPaid", "headsByFirm", "[I", true)
  | 11 => ("LearningPaid", "order", "[I", true)
  | _ => ("LearningPaid", "results", "[I", true)
def tyX11 : Nat → FieldType := fun k => match k with
  | 0 => .object "LearningPaid$Board"
  | 1 => .object "LearningPaid$Board"
  | 2 => .array (.object "LearningPaid$Course")
  | 3 => .object "LearningPaid$Law"
  | 4 => .object "LearningPaid$Past"
  | 5 => .object "LearningPaid$Reader"
  | 6 => .object "LearningPaid$Sheet"
  | 7 => .object "LearningPaid$Ways"
  | 8 => .object "LearningPaid$Places"
  | 9 => .array .int
  | 10 => .array .int
  | 11 => .array .int
  | _ => .array .int
abbrev wsX110 : List Cond := u_ws RX11 TX11 13
theorem nmX11 : ∀ a, a < 13 → ∀ b, b < 13 → a ≠ b → (TX11 a).2.1 ≠ (TX11 b).2.1 := by decide +kernel
theorem tyX11_ok : ∀ k, k < 13 → parseFieldDescriptor (TX11 k).2.2.1 = some (tyX11 k) := by decide +kernel
abbrev cX11_init : ByteArray := prog_1_method_1_code
def yX11_init : MethodName := ⟨RX11, "<init>", "()V"⟩
abbrev cX11_firm : ByteArray := prog_1_method_2_code
def yX11_firm : MethodName := ⟨RX11, "firm", "()I"⟩
abbrev cX11_hand : ByteArray := prog_1_method_3_code
def yX11_hand : MethodName := ⟨RX11, "hand", "(IIII)I"⟩
abbrev cX11_trade : ByteArray := prog_1_method_4_code
def yX11_trade : MethodName := ⟨RX11, "trade", "(IIII)Z"⟩
abbrev cX11_paper : ByteArray := prog_1_method_5_code
def yX11_paper : MethodName := ⟨RX11, "paper", "(II)Z"⟩
abbrev cX11_course : ByteArray := prog_1_method_6_code
def yX11_course : MethodName := ⟨RX11, "course", "(IIIIIIIII)I"⟩
abbrev cX11_wage : ByteArray := prog_1_method_7_code
def yX11_wage : MethodName := ⟨RX11, "wage", "(II)Z"⟩
abbrev cX11_feed : ByteArray := prog_1_method_8_code
def yX11_feed : MethodName := ⟨RX11, "feed", "(IIIII)I"⟩
abbrev cX11_end : ByteArray := prog_1_method_9_code
def yX11_end : MethodName := ⟨RX11, "end", "(I)I"⟩
abbrev cX11_text : ByteArray := prog_1_method_10_code
def yX11_text : MethodName := ⟨RX11, "text", "()I"⟩
abbrev cX11_fault : ByteArray := prog_1_method_11_code
def yX11_fault : MethodName := ⟨RX11, "fault", "(I)I"⟩
abbrev cX11_ruling : ByteArray := prog_1_method_12_code
def yX11_ruling : MethodName := ⟨RX11, "ruling", "(II)I"⟩
abbrev cX11_ruled : ByteArray := prog_1_method_13_code
def yX11_ruled : MethodName := ⟨RX11, "ruled", "(III)I"⟩
abbrev cX11_byRule : ByteArray := prog_1_method_14_code
def yX11_byRule : MethodName := ⟨RX11, "byRule", "(II)I"⟩
abbrev cX11_go : ByteArray := prog_1_method_15_code
def yX11_go : MethodName := ⟨RX11, "go", "(II)I"⟩
abbrev cX11_join : ByteArray := prog_1_method_16_code
def yX11_join : MethodName := ⟨RX11, "join", "(II)I"⟩
abbrev cX11_giveUp : ByteArray := prog_1_method_17_code
def yX11_giveUp : MethodName := ⟨RX11, "giveUp", "(I)Z"⟩
abbrev cX11_marked : ByteArray := prog_1_method_18_code
def yX11_marked : MethodName := ⟨RX11, "marked", "(II)I"⟩
abbrev cX11_claim : ByteArray := prog_1_method_19_code
def yX11_claim : MethodName := ⟨RX11, "claim", "(I)I"⟩
abbrev cX11_appeal : ByteArray := prog_1_method_20_code
def yX11_appeal : MethodName := ⟨RX11, "appeal", "(I)Z"⟩
abbrev cX11_joined : ByteArray := prog_1_method_21_code
def yX11_joined : MethodName := ⟨RX11, "joined", "(II)I"⟩
abbrev cX11_has : ByteArray := prog_1_method_22_code
def yX11_has : MethodName := ⟨RX11, "has", "(III)I"⟩
abbrev cX11_bound : ByteArray := prog_1_method_23_code
def yX11_bound : MethodName := ⟨RX11, "bound", "(I)I"⟩
abbrev cX11_owed : ByteArray := prog_1_method_24_code
def yX11_owed : MethodName := ⟨RX11, "owed", "(II)I"⟩
abbrev cX11_isBusy : ByteArray := prog_1_method_25_code
def yX11_isBusy : MethodName := ⟨RX11, "isBusy", "(ILLearningPaid$Course;)Z"⟩
abbrev cX11_seatsLeft : ByteArray := prog_1_method_26_code
def yX11_seatsLeft : MethodName := ⟨RX11, "seatsLeft", "(I)I"⟩
abbrev cX11_papersOf : ByteArray := prog_1_method_27_code
def yX11_papersOf : MethodName := ⟨RX11, "papersOf", "(II)I"⟩
abbrev cX11_backDue : ByteArray := prog_1_method_28_code
def yX11_backDue : MethodName := ⟨RX11, "backDue", "(I)I"⟩
abbrev cX11_dueIfLeft : ByteArray := prog_1_method_29_code
def yX11_dueIfLeft : MethodName := ⟨RX11, "dueIfLeft", "(I)I"⟩
abbrev cX11_settle : ByteArray := prog_1_method_30_code
def yX11_settle : MethodName := ⟨RX11, "settle", "(I)V"⟩
abbrev cX11_isLeftBehind : ByteArray := prog_1_method_31_code
def yX11_isLeftBehind : MethodName := ⟨RX11, "isLeftBehind", "(II)Z"⟩
abbrev cX11_restDue : ByteArray := prog_1_method_32_code
def yX11_restDue : MethodName := ⟨RX11, "restDue", "(I)I"⟩
abbrev cX11_putNamesOf : ByteArray := prog_1_method_33_code
def yX11_putNamesOf : MethodName := ⟨RX11, "putNamesOf", "(I)V"⟩
abbrev cX11_months : ByteArray := prog_1_method_34_code
def yX11_months : MethodName := ⟨RX11, "months", "(I)I"⟩
abbrev cX11_passMonth : ByteArray := prog_1_method_35_code
def yX11_passMonth : MethodName := ⟨RX11, "passMonth", "(I)V"⟩
abbrev cX11_firmOf : ByteArray := prog_1_method_36_code
def yX11_firmOf : MethodName := ⟨RX11, "firmOf", "(III)I"⟩
abbrev cX11_handOf : ByteArray := prog_1_method_37_code
def yX11_handOf : MethodName := ⟨RX11, "handOf", "(II)I"⟩
abbrev cX11_trainer : ByteArray := prog_1_method_38_code
def yX11_trainer : MethodName := ⟨RX11, "trainer", "(II)I"⟩
abbrev cX11_about : ByteArray := prog_1_method_39_code
def yX11_about : MethodName := ⟨RX11, "about", "(I)I"⟩
abbrev cX11_fund : ByteArray := prog_1_method_40_code
def yX11_fund : MethodName := ⟨RX11, "fund", "()J"⟩
abbrev cX11_wagesOf : ByteArray := prog_1_method_41_code
def yX11_wagesOf : MethodName := ⟨RX11, "wagesOf", "(I)I"⟩
abbrev cX11_headsOf : ByteArray := prog_1_method_42_code
def yX11_headsOf : MethodName := ⟨RX11, "headsOf", "(I)I"⟩
abbrev cX11_paidIn : ByteArray := prog_1_method_43_code
def yX11_paidIn : MethodName := ⟨RX11, "paidIn", "(II)I"⟩
abbrev cX11_backIn : ByteArray := prog_1_method_44_code
def yX11_backIn : MethodName := ⟨RX11, "backIn", "(II)I"⟩
abbrev cX11_way : ByteArray := prog_1_method_45_code
def yX11_way : MethodName := ⟨RX11, "way", "(III)I"⟩
abbrev cX11_places : ByteArray := prog_1_method_46_code
def yX11_places : MethodName := ⟨RX11, "places", "(II)I"⟩
abbrev cX11_proves : ByteArray := prog_1_method_47_code
def yX11_proves : MethodName := ⟨RX11, "proves", "(III)J"⟩
abbrev cX11_result : ByteArray := prog_1_method_48_code
def yX11_result : MethodName := ⟨RX11, "result", "(II)Z"⟩
abbrev cX11_trial : ByteArray := prog_1_method_49_code
def yX11_trial : MethodName := ⟨RX11, "trial", "(III)I"⟩
abbrev cX11_gatherTried : ByteArray := prog_1_method_50_code
def yX11_gatherTried : MethodName := ⟨RX11, "gatherTried", "(II)I"⟩
abbrev cX11_effectOf : ByteArray := prog_1_method_51_code
def yX11_effectOf : MethodName := ⟨RX11, "effectOf", "(II)I"⟩
abbrev cX11_drawn : ByteArray := prog_1_method_52_code
def yX11_drawn : MethodName := ⟨RX11, "drawn", "(III)I"⟩
abbrev cX11_orderClaimed : ByteArray := prog_1_method_53_code
def yX11_orderClaimed : MethodName := ⟨RX11, "orderClaimed", "()I"⟩
abbrev cX11_tried : ByteArray := prog_1_method_54_code
def yX11_tried : MethodName := ⟨RX11, "tried", "(II)J"⟩
abbrev cX11_leviesBy : ByteArray := prog_1_method_55_code
def yX11_leviesBy : MethodName := ⟨RX11, "leviesBy", "(I)J"⟩
abbrev cX11_backBy : ByteArray := prog_1_method_56_code
def yX11_backBy : MethodName := ⟨RX11, "backBy", "(I)J"⟩
abbrev cX11_sheet : ByteArray := prog_1_method_57_code
def yX11_sheet : MethodName := ⟨RX11, "sheet", "(I)Z"⟩
abbrev cX11_alter : ByteArray := prog_1_method_58_code
def yX11_alter : MethodName := ⟨RX11, "alter", "(IZI)Z"⟩
abbrev cX11_check : ByteArray := prog_1_method_59_code
def yX11_check : MethodName := ⟨RX11, "check", "(I)I"⟩
abbrev cX11_image : ByteArray := prog_1_method_60_code
def yX11_image : MethodName := ⟨RX11, "image", "()I"⟩
abbrev cX11_back : ByteArray := prog_1_method_61_code
def yX11_back : MethodName := ⟨RX11, "back", "()I"⟩
abbrev cX11_isWithin : ByteArray := prog_1_method_62_code
def yX11_isWithin : MethodName := ⟨RX11, "isWithin", "(III)Z"⟩
abbrev cX11_clipped : ByteArray := prog_1_method_63_code
def yX11_clipped : MethodName := ⟨RX11, "clipped", "(II)I"⟩
abbrev cX11_isMonth : ByteArray := prog_1_method_64_code
def yX11_isMonth : MethodName := ⟨RX11, "isMonth", "(I)Z"⟩
abbrev cX11_isYear : ByteArray := prog_1_method_65_code
def yX11_isYear : MethodName := ⟨RX11, "isYear", "(I)Z"⟩
abbrev cX11_isFirm : ByteArray := prog_1_method_66_code
def yX11_isFirm : MethodName := ⟨RX11, "isFirm", "(I)Z"⟩
abbrev cX11_isFirmOrNone : ByteArray := prog_1_method_67_code
def yX11_isFirmOrNone : MethodName := ⟨RX11, "isFirmOrNone", "(I)Z"⟩
abbrev cX11_isHand : ByteArray := prog_1_method_68_code
def yX11_isHand : MethodName := ⟨RX11, "isHand", "(I)Z"⟩
abbrev cX11_isCourse : ByteArray := prog_1_method_69_code
def yX11_isCourse : MethodName := ⟨RX11, "isCourse", "(I)Z"⟩
abbrev cX11_isStanding : ByteArray := prog_1_method_70_code
def yX11_isStanding : MethodName := ⟨RX11, "isStanding", "(I)Z"⟩
abbrev cX11_courseOf : ByteArray := prog_1_method_71_code
def yX11_courseOf : MethodName := ⟨RX11, "courseOf", "(I)LLearningPaid$Course;"⟩
def RX12 : String := "LearningPaidModel"
def TX12 : u_T := fun k => match k with
  | 0 => ("LearningPaidModel", "a", "[I", true)
  | 1 => ("LearningPaidModel", "image", "[I", true)
  | 2 => ("LearningPaidModel", "fund", "J", false)
  | 3 => ("LearningPaidModel", "imageFund", "J", false)
  | 4 => ("LearningPaidModel", "sheet", "[I", true)
  | 5 => ("LearningPaidModel", "sheetYear", "I", false)
  | 6 => ("LearningPaidModel", "tape", "[B", true)
  | 7 => ("LearningPaidModel", "taped", "I", false)
  | 8 => ("LearningPaidModel", "fault", "I", false)
  | 9 => ("LearningPaidModel", "faultAt", "I", false)
  | 10 => ("LearningPaidModel", "toldSort", "[I", true)
  | 11 => ("LearningPaidModel", "sortNumber", "[I", true)
  | 12 => ("LearningPaidModel", "sortAt", "[I", true)
  | 13 => ("LearningPaidModel", "order", "[I", true)
  | 14 => ("LearningPaidModel", "value", "[I", true)
  | 15 => ("LearningPaidModel", "length", "I", false)
  | 16 => ("LearningPaidModel", "at", "I", false)
  | 17 => ("LearningPaidModel", "token", "I", false)
  | 18 => ("LearningPaidModel", "sort", "I", false)
  | 19 => ("LearningPaidModel", "told", "I", false)
  | 20 => ("LearningPaidModel", "wrong", "I", false)
  | 21 => ("LearningPaidModel", "wrongAt", "I", false)
  | 22 => ("LearningPaidModel", "open", "I", false)
  | 23 => ("LearningPaidModel", "frames", "I", false)
  | 24 => ("LearningPaidModel", "frame", "[I", true)
  | 25 => ("LearningPaidModel", "minOrMax", "[I", true)
  | 26 => ("LearningPaidModel", "compare", "[I", true)
  | 27 => ("LearningPaidModel", "waits", "I", false)
  | 28 => ("LearningPaidModel", "wait", "[I", true)
  | 29 => ("LearningPaidModel", "waitFrame", "[I", true)
  | 30 => ("LearningPaidModel", "state", "I", false)
  | 31 => ("LearningPaidModel", "clauseSort", "I", false)
  | 32 => ("LearningPaidModel", "newTold", "[Z", true)
  | 33 => ("LearningPaidModel", "newNumber", "[I", true)
  | 34 => ("LearningPaidModel", "newAt", "[I", true)
  | 35 => ("LearningPaidModel", "newOrders", "I", false)
  | 36 => ("LearningPaidModel", "newOrder", "[I", true)
  | 37 => ("LearningPaidModel", "newValue", "[I", true)
  | 38 => ("LearningPaidModel", "name", "[I", true)
  | 39 => ("LearningPaidModel", "pile", "[J", true)
  | 40 => ("LearningPaidModel", "fewest", "[I", true)
  | 41 => ("LearningPaidModel", "worth", "[I", true)
  | 42 => ("LearningPaidModel", "cost", "[I", true)
  | 43 => ("LearningPaidModel", "of", "[I", true)
  | _ => ("LearningPaidModel", "row", "[I", true)
def tyX12 : Nat → FieldType := fun k => match k with
  | 0 => .array .int
  | 1 => .array .int
  | 2 => .long
  | 3 => .long
  | 4 => .array .int
  | 5 => .int
  | 6 => .array .byte
  | 7 => .int
  | 8 => .int
  | 9 => .int
  | 10 => .array .int
  | 11 => .array .int
  | 12 => .array .int
  | 13 => .array .int
  | 14 => .array .int
  | 15 => .int
  | 16 => .int
  | 17 => .int
  | 18 => .int
  | 19 => .int
  | 20 => .int
  | 21 => .int
  | 22 => .int
  | 23 => .int
  | 24 => .array .int
  | 25 => .array .int
  | 26 => .array .int
  | 27 => .int
  | 28 => .array .int
  | 29 => .array .int
  | 30 => .int
  | 31 => .int
  | 32 => .array .boolean
  | 33 => .array .int
  | 34 => .array .int
  | 35 => .int
  | 36 => .array .int
  | 37 => .array .int
  | 38 => .array .int
  | 39 => .array .long
  | 40 => .array .int
  | 41 => .array .int
  | 42 => .array .int
  | 43 => .array .int
  | _ => .array .int
abbrev wsX120 : List Cond := u_ws RX12 TX12 45
theorem nmX12 : ∀ a, a < 45 → ∀ b, b < 45 → a ≠ b → (TX12 a).2.1 ≠ (TX12 b).2.1 := by decide +kernel
theorem tyX12_ok : ∀ k, k < 45 → parseFieldDescriptor (TX12 k).2.2.1 = some (tyX12 k) := by decide +kernel
abbrev cX12_init : ByteArray := prog_14_method_1_code
def yX12_init : MethodName := ⟨RX12, "<init>", "()V"⟩
abbrev cX12_copies : ByteArray := prog_14_method_2_code
def yX12_copies : MethodName := ⟨RX12, "copies", "(Z)V"⟩
abbrev cX12_in : ByteArray := prog_14_method_3_code
def yX12_in : MethodName := ⟨RX12, "in", "(JJJ)Z"⟩
abbrev cX12_isFirm : ByteArray := prog_14_method_4_code
def yX12_isFirm : MethodName := ⟨RX12, "isFirm", "(I)Z"⟩
abbrev cX12_isHand : ByteArray := prog_14_method_5_code
def yX12_isHand : MethodName := ⟨RX12, "isHand", "(I)Z"⟩
abbrev cX12_isJoined : ByteArray := prog_14_method_6_code
def yX12_isJoined : MethodName := ⟨RX12, "isJoined", "(I)Z"⟩
abbrev cX12_isMonth : ByteArray := prog_14_method_7_code
def yX12_isMonth : MethodName := ⟨RX12, "isMonth", "(I)Z"⟩
abbrev cX12_handIs : ByteArray := prog_14_method_8_code
def yX12_handIs : MethodName := ⟨RX12, "handIs", "(II)I"⟩
abbrev cX12_courseOf : ByteArray := prog_14_method_9_code
def yX12_courseOf : MethodName := ⟨RX12, "courseOf", "(II)I"⟩
abbrev cX12_joinOf : ByteArray := prog_14_method_10_code
def yX12_joinOf : MethodName := ⟨RX12, "joinOf", "(II)I"⟩
abbrev cX12_firm : ByteArray := prog_14_method_11_code
def yX12_firm : MethodName := ⟨RX12, "firm", "()I"⟩
abbrev cX12_hand : ByteArray := prog_14_method_12_code
def yX12_hand : MethodName := ⟨RX12, "hand", "(IIII)I"⟩
abbrev cX12_trade : ByteArray := prog_14_method_13_code
def yX12_trade : MethodName := ⟨RX12, "trade", "(IIII)Z"⟩
abbrev cX12_paper : ByteArray := prog_14_method_14_code
def yX12_paper : MethodName := ⟨RX12, "paper", "(II)Z"⟩
abbrev cX12_course : ByteArray := prog_14_method_15_code
def yX12_course : MethodName := ⟨RX12, "course", "(IIIIIIIII)I"⟩
abbrev cX12_wage : ByteArray := prog_14_method_16_code
def yX12_wage : MethodName := ⟨RX12, "wage", "(II)Z"⟩
abbrev cX12_put : ByteArray := prog_14_method_17_code
def yX12_put : MethodName := ⟨RX12, "put", "(I)V"⟩
abbrev cX12_feed : ByteArray := prog_14_method_18_code
def yX12_feed : MethodName := ⟨RX12, "feed", "(IIIII)I"⟩
abbrev cX12_end : ByteArray := prog_14_method_19_code
def yX12_end : MethodName := ⟨RX12, "end", "(I)I"⟩
abbrev cX12_isLetter : ByteArray := prog_14_method_20_code
def yX12_isLetter : MethodName := ⟨RX12, "isLetter", "(I)Z"⟩
abbrev cX12_wordOf : ByteArray := prog_14_method_21_code
def yX12_wordOf : MethodName := ⟨RX12, "wordOf", "(J)I"⟩
abbrev cX12_next : ByteArray := prog_14_method_22_code
def yX12_next : MethodName := ⟨RX12, "next", "()V"⟩
abbrev cX12_isSign : ByteArray := prog_14_method_23_code
def yX12_isSign : MethodName := ⟨RX12, "isSign", "(I)Z"⟩
abbrev cX12_isWord : ByteArray := prog_14_method_24_code
def yX12_isWord : MethodName := ⟨RX12, "isWord", "(I)Z"⟩
abbrev cX12_errs : ByteArray := prog_14_method_25_code
def yX12_errs : MethodName := ⟨RX12, "errs", "(I)V"⟩
abbrev cX12_emits : ByteArray := prog_14_method_26_code
def yX12_emits : MethodName := ⟨RX12, "emits", "(II)V"⟩
abbrev cX12_opensFrame : ByteArray := prog_14_method_27_code
def yX12_opensFrame : MethodName := ⟨RX12, "opensFrame", "(I)V"⟩
abbrev cX12_top : ByteArray := prog_14_method_28_code
def yX12_top : MethodName := ⟨RX12, "top", "()I"⟩
abbrev cX12_opensSign : ByteArray := prog_14_method_29_code
def yX12_opensSign : MethodName := ⟨RX12, "opensSign", "(I)Z"⟩
abbrev cX12_rank : ByteArray := prog_14_method_30_code
def yX12_rank : MethodName := ⟨RX12, "rank", "(I)I"⟩
abbrev cX12_works : ByteArray := prog_14_method_31_code
def yX12_works : MethodName := ⟨RX12, "works", "(I)V"⟩
abbrev cX12_waitsFor : ByteArray := prog_14_method_32_code
def yX12_waitsFor : MethodName := ⟨RX12, "waitsFor", "(I)V"⟩
abbrev cX12_asks : ByteArray := prog_14_method_33_code
def yX12_asks : MethodName := ⟨RX12, "asks", "()V"⟩
abbrev cX12_begins : ByteArray := prog_14_method_34_code
def yX12_begins : MethodName := ⟨RX12, "begins", "()V"⟩
abbrev cX12_oneIsOver : ByteArray := prog_14_method_35_code
def yX12_oneIsOver : MethodName := ⟨RX12, "oneIsOver", "()V"⟩
abbrev cX12_askIsOver : ByteArray := prog_14_method_36_code
def yX12_askIsOver : MethodName := ⟨RX12, "askIsOver", "()V"⟩
abbrev cX12_isAsking : ByteArray := prog_14_method_37_code
def yX12_isAsking : MethodName := ⟨RX12, "isAsking", "(I)Z"⟩
abbrev cX12_goesOn : ByteArray := prog_14_method_38_code
def yX12_goesOn : MethodName := ⟨RX12, "goesOn", "()V"⟩
abbrev cX12_asksOn : ByteArray := prog_14_method_39_code
def yX12_asksOn : MethodName := ⟨RX12, "asksOn", "()V"⟩
abbrev cX12_clauseIsOver : ByteArray := prog_14_method_40_code
def yX12_clauseIsOver : MethodName := ⟨RX12, "clauseIsOver", "()V"⟩
abbrev cX12_number : ByteArray := prog_14_method_41_code
def yX12_number : MethodName := ⟨RX12, "number", "(II)I"⟩
abbrev cX12_clause : ByteArray := prog_14_method_42_code
def yX12_clause : MethodName := ⟨RX12, "clause", "()V"⟩
abbrev cX12_text : ByteArray := prog_14_method_43_code
def yX12_text : MethodName := ⟨RX12, "text", "()I"⟩
abbrev cX12_fault : ByteArray := prog_14_method_44_code
def yX12_fault : MethodName := ⟨RX12, "fault", "(I)I"⟩
abbrev cX12_clipped : ByteArray := prog_14_method_45_code
def yX12_clipped : MethodName := ⟨RX12, "clipped", "(J)J"⟩
abbrev cX12_worked : ByteArray := prog_14_method_46_code
def yX12_worked : MethodName := ⟨RX12, "worked", "(IJJ)J"⟩
abbrev cX12_tells : ByteArray := prog_14_method_47_code
def yX12_tells : MethodName := ⟨RX12, "tells", "(I)J"⟩
abbrev cX12_isSort : ByteArray := prog_14_method_48_code
def yX12_isSort : MethodName := ⟨RX12, "isSort", "(I)Z"⟩
abbrev cX12_ruleOf : ByteArray := prog_14_method_49_code
def yX12_ruleOf : MethodName := ⟨RX12, "ruleOf", "(III)I"⟩
abbrev cX12_ruling : ByteArray := prog_14_method_50_code
def yX12_ruling : MethodName := ⟨RX12, "ruling", "(II)I"⟩
abbrev cX12_ruled : ByteArray := prog_14_method_51_code
def yX12_ruled : MethodName := ⟨RX12, "ruled", "(III)I"⟩
abbrev cX12_saysBy : ByteArray := prog_14_method_52_code
def yX12_saysBy : MethodName := ⟨RX12, "saysBy", "(II)J"⟩
abbrev cX12_numberOf : ByteArray := prog_14_method_53_code
def yX12_numberOf : MethodName := ⟨RX12, "numberOf", "(II)I"⟩
abbrev cX12_within : ByteArray := prog_14_method_54_code
def yX12_within : MethodName := ⟨RX12, "within", "(JJ)J"⟩
abbrev cX12_wagesOf : ByteArray := prog_14_method_55_code
def yX12_wagesOf : MethodName := ⟨RX12, "wagesOf", "(I)I"⟩
abbrev cX12_headsOf : ByteArray := prog_14_method_56_code
def yX12_headsOf : MethodName := ⟨RX12, "headsOf", "(I)I"⟩
abbrev cX12_namesOf : ByteArray := prog_14_method_57_code
def yX12_namesOf : MethodName := ⟨RX12, "namesOf", "(IIII)V"⟩
abbrev cX12_namesFor : ByteArray := prog_14_method_58_code
def yX12_namesFor : MethodName := ⟨RX12, "namesFor", "(I)V"⟩
abbrev cX12_goes : ByteArray := prog_14_method_59_code
def yX12_goes : MethodName := ⟨RX12, "goes", "(I)V"⟩
abbrev cX12_months : ByteArray := prog_14_method_60_code
def yX12_months : MethodName := ⟨RX12, "months", "(I)I"⟩
abbrev cX12_left : ByteArray := prog_14_method_61_code
def yX12_left : MethodName := ⟨RX12, "left", "(I)I"⟩
abbrev cX12_hasIt : ByteArray := prog_14_method_62_code
def yX12_hasIt : MethodName := ⟨RX12, "hasIt", "(III)Z"⟩
abbrev cX12_papersOf : ByteArray := prog_14_method_63_code
def yX12_papersOf : MethodName := ⟨RX12, "papersOf", "(II)I"⟩
abbrev cX12_has : ByteArray := prog_14_method_64_code
def yX12_has : MethodName := ⟨RX12, "has", "(III)I"⟩
abbrev cX12_isFree : ByteArray := prog_14_method_65_code
def yX12_isFree : MethodName := ⟨RX12, "isFree", "(II)Z"⟩
abbrev cX12_join : ByteArray := prog_14_method_66_code
def yX12_join : MethodName := ⟨RX12, "join", "(II)I"⟩
abbrev cX12_giveUp : ByteArray := prog_14_method_67_code
def yX12_giveUp : MethodName := ⟨RX12, "giveUp", "(I)Z"⟩
abbrev cX12_marked : ByteArray := prog_14_method_68_code
def yX12_marked : MethodName := ⟨RX12, "marked", "(II)I"⟩
abbrev cX12_backTo : ByteArray := prog_14_method_69_code
def yX12_backTo : MethodName := ⟨RX12, "backTo", "(II)I"⟩
abbrev cX12_claim : ByteArray := prog_14_method_70_code
def yX12_claim : MethodName := ⟨RX12, "claim", "(I)I"⟩
abbrev cX12_appeal : ByteArray := prog_14_method_71_code
def yX12_appeal : MethodName := ⟨RX12, "appeal", "(I)Z"⟩
abbrev cX12_joined : ByteArray := prog_14_method_72_code
def yX12_joined : MethodName := ⟨RX12, "joined", "(II)I"⟩
abbrev cX12_owes : ByteArray := prog_14_method_73_code
def yX12_owes : MethodName := ⟨RX12, "owes", "(I)I"⟩
abbrev cX12_leaves : ByteArray := prog_14_method_74_code
def yX12_leaves : MethodName := ⟨RX12, "leaves", "(IZ)I"⟩
abbrev cX12_bound : ByteArray := prog_14_method_75_code
def yX12_bound : MethodName := ⟨RX12, "bound", "(I)I"⟩
abbrev cX12_go : ByteArray := prog_14_method_76_code
def yX12_go : MethodName := ⟨RX12, "go", "(II)I"⟩
abbrev cX12_owed : ByteArray := prog_14_method_77_code
def yX12_owed : MethodName := ⟨RX12, "owed", "(II)I"⟩
abbrev cX12_firmOf : ByteArray := prog_14_method_78_code
def yX12_firmOf : MethodName := ⟨RX12, "firmOf", "(III)I"⟩
abbrev cX12_handOf : ByteArray := prog_14_method_79_code
def yX12_handOf : MethodName := ⟨RX12, "handOf", "(II)I"⟩
abbrev cX12_trainer : ByteArray := prog_14_method_80_code
def yX12_trainer : MethodName := ⟨RX12, "trainer", "(II)I"⟩
abbrev cX12_wayTo : ByteArray := prog_14_method_81_code
def yX12_wayTo : MethodName := ⟨RX12, "wayTo", "(II)I"⟩
abbrev cX12_stepsOn : ByteArray := prog_14_method_82_code
def yX12_stepsOn : MethodName := ⟨RX12, "stepsOn", "(II)V"⟩
abbrev cX12_way : ByteArray := prog_14_method_83_code
def yX12_way : MethodName := ⟨RX12, "way", "(III)I"⟩
abbrev cX12_fills : ByteArray := prog_14_method_84_code
def yX12_fills : MethodName := ⟨RX12, "fills", "(I)V"⟩
abbrev cX12_worthBy : ByteArray := prog_14_method_85_code
def yX12_worthBy : MethodName := ⟨RX12, "worthBy", "(III)I"⟩
abbrev cX12_costBy : ByteArray := prog_14_method_86_code
def yX12_costBy : MethodName := ⟨RX12, "costBy", "(III)I"⟩
abbrev cX12_better : ByteArray := prog_14_method_87_code
def yX12_better : MethodName := ⟨RX12, "better", "(III)V"⟩
abbrev cX12_places : ByteArray := prog_14_method_88_code
def yX12_places : MethodName := ⟨RX12, "places", "(II)I"⟩
abbrev cX12_proves : ByteArray := prog_14_method_89_code
def yX12_proves : MethodName := ⟨RX12, "proves", "(III)J"⟩
abbrev cX12_result : ByteArray := prog_14_method_90_code
def yX12_result : MethodName := ⟨RX12, "result", "(II)Z"⟩
abbrev cX12_bits : ByteArray := prog_14_method_91_code
def yX12_bits : MethodName := ⟨RX12, "bits", "(I)I"⟩
abbrev cX12_effect : ByteArray := prog_14_method_92_code
def yX12_effect : MethodName := ⟨RX12, "effect", "(II)I"⟩
abbrev cX12_far : ByteArray := prog_14_method_93_code
def yX12_far : MethodName := ⟨RX12, "far", "(I)I"⟩
abbrev cX12_trial : ByteArray := prog_14_method_94_code
def yX12_trial : MethodName := ⟨RX12, "trial", "(III)I"⟩
abbrev cX12_claimed : ByteArray := prog_14_method_95_code
def yX12_claimed : MethodName := ⟨RX12, "claimed", "()I"⟩
abbrev cX12_drawn : ByteArray := prog_14_method_96_code
def yX12_drawn : MethodName := ⟨RX12, "drawn", "(III)I"⟩
abbrev cX12_tried : ByteArray := prog_14_method_97_code
def yX12_tried : MethodName := ⟨RX12, "tried", "(II)J"⟩
abbrev cX12_bookAt : ByteArray := prog_14_method_98_code
def yX12_bookAt : MethodName := ⟨RX12, "bookAt", "(I)I"⟩
abbrev cX12_sheet : ByteArray := prog_14_method_99_code
def yX12_sheet : MethodName := ⟨RX12, "sheet", "(I)Z"⟩
abbrev cX12_alter : ByteArray := prog_14_method_100_code
def yX12_alter : MethodName := ⟨RX12, "alter", "(IZI)Z"⟩
abbrev cX12_check : ByteArray := prog_14_method_101_code
def yX12_check : MethodName := ⟨RX12, "check", "(I)I"⟩
abbrev cX12_image : ByteArray := prog_14_method_102_code
def yX12_image : MethodName := ⟨RX12, "image", "()I"⟩
abbrev cX12_back : ByteArray := prog_14_method_103_code
def yX12_back : MethodName := ⟨RX12, "back", "()I"⟩
abbrev cX12_about : ByteArray := prog_14_method_104_code
def yX12_about : MethodName := ⟨RX12, "about", "(I)I"⟩
abbrev cX12_fund : ByteArray := prog_14_method_105_code
def yX12_fund : MethodName := ⟨RX12, "fund", "()J"⟩
def RJ11 : String := "java/lang/Character"
abbrev cJ11_isValidCodePoint_9a6ad : ByteArray := prog_15_method_11_code
def yJ11_isValidCodePoint_9a6ad : MethodName := ⟨RJ11, "isValidCodePoint", "(I)Z"⟩
abbrev cJ11_highSurrogate_5068e : ByteArray := prog_15_method_28_code
def yJ11_highSurrogate_5068e : MethodName := ⟨RJ11, "highSurrogate", "(I)C"⟩
abbrev cJ11_lowSurrogate_5068e : ByteArray := prog_15_method_29_code
def yJ11_lowSurrogate_5068e : MethodName := ⟨RJ11, "lowSurrogate", "(I)C"⟩
def RJ6 : String := "java/lang/Integer"
abbrev cJ6_bitCount_0f7a4 : ByteArray := prog_16_method_49_code
def yJ6_bitCount_0f7a4 : MethodName := ⟨RJ6, "bitCount", "(I)I"⟩
def RJ9 : String := "java/lang/Math"
abbrev cJ9_abs_0f7a4 : ByteArray := prog_17_method_59_code
def yJ9_abs_0f7a4 : MethodName := ⟨RJ9, "abs", "(I)I"⟩
abbrev cJ9_max_7cf53 : ByteArray := prog_17_method_65_code
def yJ9_max_7cf53 : MethodName := ⟨RJ9, "max", "(II)I"⟩
abbrev cJ9_max_f86c9 : ByteArray := prog_17_method_66_code
def yJ9_max_f86c9 : MethodName := ⟨RJ9, "max", "(JJ)J"⟩
abbrev cJ9_min_7cf53 : ByteArray := prog_17_method_69_code
def yJ9_min_7cf53 : MethodName := ⟨RJ9, "min", "(II)I"⟩
abbrev cJ9_min_f86c9 : ByteArray := prog_17_method_70_code
def yJ9_min_f86c9 : MethodName := ⟨RJ9, "min", "(JJ)J"⟩
def RJ0 : String := "java/lang/String"
abbrev cJ0_length_8abf5 : ByteArray := prog_18_method_54_code
def yJ0_length_8abf5 : MethodName := ⟨RJ0, "length", "()I"⟩
abbrev cJ0_charAt_5068e : ByteArray := prog_18_method_56_code
def yJ0_charAt_5068e : MethodName := ⟨RJ0, "charAt", "(I)C"⟩
abbrev cJ0_indexOf_0f7a4 : ByteArray := prog_18_method_79_code
def yJ0_indexOf_0f7a4 : MethodName := ⟨RJ0, "indexOf", "(I)I"⟩
abbrev cJ0_indexOf_7cf53 : ByteArray := prog_18_method_80_code
def yJ0_indexOf_7cf53 : MethodName := ⟨RJ0, "indexOf", "(II)I"⟩
abbrev cJ0_coder_7d493 : ByteArray := prog_18_method_152_code
def yJ0_coder_7d493 : MethodName := ⟨RJ0, "coder", "()B"⟩
abbrev cJ0_isLatin1_aae02 : ByteArray := prog_18_method_154_code
def yJ0_isLatin1_aae02 : MethodName := ⟨RJ0, "isLatin1", "()Z"⟩
abbrev cJ0_checkIndex_df160 : ByteArray := prog_18_method_155_code
def yJ0_checkIndex_df160 : MethodName := ⟨RJ0, "checkIndex", "(II)V"⟩
abbrev cJ0_checkBoundsBeginEnd_23922 : ByteArray := prog_18_method_158_code
def yJ0_checkBoundsBeginEnd_23922 : MethodName := ⟨RJ0, "checkBoundsBeginEnd", "(III)V"⟩
def RJ1 : String := "java/lang/StringLatin1"
abbrev cJ1_charAt_3b067 : ByteArray := prog_19_method_2_code
def yJ1_charAt_3b067 : MethodName := ⟨RJ1, "charAt", "([BI)C"⟩
abbrev cJ1_canEncode_9a6ad : ByteArray := prog_19_method_4_code
def yJ1_canEncode_9a6ad : MethodName := ⟨RJ1, "canEncode", "(I)Z"⟩
abbrev cJ1_indexOf_4cfef : ByteArray := prog_19_method_22_code
def yJ1_indexOf_4cfef : MethodName := ⟨RJ1, "indexOf", "([BIII)I"⟩
abbrev cJ1_indexOfChar_4cfef : ByteArray := prog_19_method_23_code
def yJ1_indexOfChar_4cfef : MethodName := ⟨RJ1, "indexOfChar", "([BIII)I"⟩
def RJ2 : String := "java/lang/StringUTF16"
abbrev cJ2_getChar_3b067 : ByteArray := prog_20_method_5_code
def yJ2_getChar_3b067 : MethodName := ⟨RJ2, "getChar", "([BI)C"⟩
abbrev cJ2_length_9d52b : ByteArray := prog_20_method_6_code
def yJ2_length_9d52b : MethodName := ⟨RJ2, "length", "([B)I"⟩
abbrev cJ2_indexOf_4cfef : ByteArray := prog_20_method_40_code
def yJ2_indexOf_4cfef : MethodName := ⟨RJ2, "indexOf", "([BIII)I"⟩
abbrev cJ2_indexOfChar_4cfef : ByteArray := prog_20_method_47_code
def yJ2_indexOfChar_4cfef : MethodName := ⟨RJ2, "indexOfChar", "([BIII)I"⟩
abbrev cJ2_indexOfCharUnsafe_4cfef : ByteArray := prog_20_method_48_code
def yJ2_indexOfCharUnsafe_4cfef : MethodName := ⟨RJ2, "indexOfCharUnsafe", "([BIII)I"⟩
abbrev cJ2_indexOfSupplementary_4cfef : ByteArray := prog_20_method_49_code
def yJ2_indexOfSupplementary_4cfef : MethodName := ⟨RJ2, "indexOfSupplementary", "([BIII)I"⟩
abbrev cJ2_charAt_3b067 : ByteArray := prog_20_method_83_code
def yJ2_charAt_3b067 : MethodName := ⟨RJ2, "charAt", "([BI)C"⟩
abbrev cJ2_checkIndex_2214a : ByteArray := prog_20_method_91_code
def yJ2_checkIndex_2214a : MethodName := ⟨RJ2, "checkIndex", "(I[B)V"⟩
abbrev cJ2_checkBoundsBeginEnd_d044e : ByteArray := prog_20_method_93_code
def yJ2_checkBoundsBeginEnd_d044e : MethodName := ⟨RJ2, "checkBoundsBeginEnd", "(II[B)V"⟩
def RJ10 : String := "java/lang/System"
def RJ7 : String := "java/util/Arrays"
abbrev cJ7_fill_53178 : ByteArray := prog_22_method_103_code
def yJ7_fill_53178 : MethodName := ⟨RJ7, "fill", "([II)V"⟩
def RJ3 : String := "jdk/internal/util/Preconditions"
abbrev cJ3_checkIndex_8e157 : ByteArray := prog_23_method_11_code
def yJ3_checkIndex_8e157 : MethodName := ⟨RJ3, "checkIndex", "(IILjava/util/function/BiFunction;)I"⟩
abbrev cJ3_checkFromToIndex_8c36e : ByteArray := prog_23_method_12_code
def yJ3_checkFromToIndex_8c36e : MethodName := ⟨RJ3, "checkFromToIndex", "(IIILjava/util/function/BiFunction;)I"⟩
def RL : String := "LearningPaidLaw"
abbrev cL_law : ByteArray := code
abbrev vwCl : List vw_C := [(RX0, TX0, 16), (RX1, TX1, 9), (RX2, TX2, 5), (RX3, TX3, 9), (RX4, TX4, 7), (RX5, TX5, 4), (RX6, TX6, 2), (RX7, TX7, 14), (RX8, TX8, 3), (RX9, TX9, 4), (RX10, TX10, 4), (RX11, TX11, 13), (RX12, TX12, 45)]
