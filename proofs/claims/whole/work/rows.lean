section
-- ===== PART A: goes FIRST, ahead of the names: the tables' words, and 'selects' of the private methods out of them =====
/-- a private method of a class that the tables say can be made, by its rows of tables_1 -/
def lw_okq (q : MethodName × Nat) : Prop := (q.1.cls ≠ "java/lang/invoke/MethodHandle" ∧ q.1.cls ≠ "java/lang/invoke/VarHandle") ∧ Cond.instantiable q.1.cls q.2 ∈ tables_1 ∧ Cond.privateMethod q.1 ∈ tables_1 ∧ Cond.instanceMethod q.1 ∈ tables_1
theorem lw_p0 : lw_okq (⟨"DownAsUp$Tape", "readPart", "(LDownAsUp$Town;)Z"⟩, 3) := ⟨⟨by decide +kernel, by decide +kernel⟩, List.mem_of_getElem? (i := 100) (by decide +kernel), List.mem_of_getElem? (i := 392) (by decide +kernel), List.mem_of_getElem? (i := 393) (by decide +kernel)⟩
theorem lw_p1 : lw_okq (⟨"DownAsUp$Tape", "next", "()C"⟩, 3) := ⟨⟨by decide +kernel, by decide +kernel⟩, List.mem_of_getElem? (i := 100) (by decide +kernel), List.mem_of_getElem? (i := 397) (by decide +kernel), List.mem_of_getElem? (i := 398) (by decide +kernel)⟩
theorem lw_p2 : lw_okq (⟨"DownAsUp$Tape", "readNumber", "(II)I"⟩, 3) := ⟨⟨by decide +kernel, by decide +kernel⟩, List.mem_of_getElem? (i := 100) (by decide +kernel), List.mem_of_getElem? (i := 487) (by decide +kernel), List.mem_of_getElem? (i := 488) (by decide +kernel)⟩
theorem lw_p3 : lw_okq (⟨"DownAsUp$Tape", "take", "(C)Z"⟩, 3) := ⟨⟨by decide +kernel, by decide +kernel⟩, List.mem_of_getElem? (i := 100) (by decide +kernel), List.mem_of_getElem? (i := 495) (by decide +kernel), List.mem_of_getElem? (i := 496) (by decide +kernel)⟩
theorem lw_p4 : lw_okq (⟨"DownAsUp$Tape", "readDigit", "(I)I"⟩, 3) := ⟨⟨by decide +kernel, by decide +kernel⟩, List.mem_of_getElem? (i := 100) (by decide +kernel), List.mem_of_getElem? (i := 499) (by decide +kernel), List.mem_of_getElem? (i := 500) (by decide +kernel)⟩
theorem lw_p5 : lw_okq (⟨"DownAsUp$Tape", "readParts", "(I)I"⟩, 3) := ⟨⟨by decide +kernel, by decide +kernel⟩, List.mem_of_getElem? (i := 100) (by decide +kernel), List.mem_of_getElem? (i := 503) (by decide +kernel), List.mem_of_getElem? (i := 504) (by decide +kernel)⟩
theorem lw_p6 : lw_okq (⟨"DownAsUp", "endOfReading", "(ZI)I"⟩, 9) := ⟨⟨by decide +kernel, by decide +kernel⟩, List.mem_of_getElem? (i := 19) (by decide +kernel), List.mem_of_getElem? (i := 508) (by decide +kernel), List.mem_of_getElem? (i := 509) (by decide +kernel)⟩
theorem lw_p7 : lw_okq (⟨"DownAsUp$Ways", "seek", "(LDownAsUp$Town;I)Z"⟩, 17) := ⟨⟨by decide +kernel, by decide +kernel⟩, List.mem_of_getElem? (i := 119) (by decide +kernel), List.mem_of_getElem? (i := 588) (by decide +kernel), List.mem_of_getElem? (i := 589) (by decide +kernel)⟩
theorem lw_p8 : lw_okq (⟨"DownAsUp$Ways", "table", "(LDownAsUp$Town;)V"⟩, 17) := ⟨⟨by decide +kernel, by decide +kernel⟩, List.mem_of_getElem? (i := 119) (by decide +kernel), List.mem_of_getElem? (i := 592) (by decide +kernel), List.mem_of_getElem? (i := 593) (by decide +kernel)⟩
theorem lw_p9 : lw_okq (⟨"DownAsUp$Ways", "sumUp", "(LDownAsUp$Town;I)V"⟩, 17) := ⟨⟨by decide +kernel, by decide +kernel⟩, List.mem_of_getElem? (i := 119) (by decide +kernel), List.mem_of_getElem? (i := 596) (by decide +kernel), List.mem_of_getElem? (i := 597) (by decide +kernel)⟩
theorem lw_p10 : lw_okq (⟨"DownAsUp$Ways", "listMoves", "(LDownAsUp$Town;I)V"⟩, 17) := ⟨⟨by decide +kernel, by decide +kernel⟩, List.mem_of_getElem? (i := 119) (by decide +kernel), List.mem_of_getElem? (i := 604) (by decide +kernel), List.mem_of_getElem? (i := 605) (by decide +kernel)⟩
theorem lw_p11 : lw_okq (⟨"DownAsUp$Ways", "growRow", "(I)Z"⟩, 17) := ⟨⟨by decide +kernel, by decide +kernel⟩, List.mem_of_getElem? (i := 119) (by decide +kernel), List.mem_of_getElem? (i := 614) (by decide +kernel), List.mem_of_getElem? (i := 615) (by decide +kernel)⟩
theorem lw_p12 : lw_okq (⟨"DownAsUp$Ways", "growFrom", "(III)Z"⟩, 17) := ⟨⟨by decide +kernel, by decide +kernel⟩, List.mem_of_getElem? (i := 119) (by decide +kernel), List.mem_of_getElem? (i := 631) (by decide +kernel), List.mem_of_getElem? (i := 632) (by decide +kernel)⟩
theorem lw_p13 : lw_okq (⟨"DownAsUp$Ways", "given", "(II)I"⟩, 17) := ⟨⟨by decide +kernel, by decide +kernel⟩, List.mem_of_getElem? (i := 119) (by decide +kernel), List.mem_of_getElem? (i := 635) (by decide +kernel), List.mem_of_getElem? (i := 636) (by decide +kernel)⟩
theorem lw_p14 : lw_okq (⟨"DownAsUp$Ways", "traceFirst", "(LDownAsUp$Town;)V"⟩, 17) := ⟨⟨by decide +kernel, by decide +kernel⟩, List.mem_of_getElem? (i := 119) (by decide +kernel), List.mem_of_getElem? (i := 640) (by decide +kernel), List.mem_of_getElem? (i := 641) (by decide +kernel)⟩
theorem lw_p15 : lw_okq (⟨"DownAsUp$Ways", "leastStep", "(LDownAsUp$Town;III)I"⟩, 17) := ⟨⟨by decide +kernel, by decide +kernel⟩, List.mem_of_getElem? (i := 119) (by decide +kernel), List.mem_of_getElem? (i := 644) (by decide +kernel), List.mem_of_getElem? (i := 645) (by decide +kernel)⟩
def lw_privs_1 : List (MethodName × Nat) := [(⟨"DownAsUp$Tape", "readPart", "(LDownAsUp$Town;)Z"⟩, 3), (⟨"DownAsUp$Tape", "next", "()C"⟩, 3), (⟨"DownAsUp$Tape", "readNumber", "(II)I"⟩, 3), (⟨"DownAsUp$Tape", "take", "(C)Z"⟩, 3), (⟨"DownAsUp$Tape", "readDigit", "(I)I"⟩, 3), (⟨"DownAsUp$Tape", "readParts", "(I)I"⟩, 3), (⟨"DownAsUp", "endOfReading", "(ZI)I"⟩, 9), (⟨"DownAsUp$Ways", "seek", "(LDownAsUp$Town;I)Z"⟩, 17), (⟨"DownAsUp$Ways", "table", "(LDownAsUp$Town;)V"⟩, 17), (⟨"DownAsUp$Ways", "sumUp", "(LDownAsUp$Town;I)V"⟩, 17), (⟨"DownAsUp$Ways", "listMoves", "(LDownAsUp$Town;I)V"⟩, 17), (⟨"DownAsUp$Ways", "growRow", "(I)Z"⟩, 17), (⟨"DownAsUp$Ways", "growFrom", "(III)Z"⟩, 17), (⟨"DownAsUp$Ways", "given", "(II)I"⟩, 17), (⟨"DownAsUp$Ways", "traceFirst", "(LDownAsUp$Town;)V"⟩, 17), (⟨"DownAsUp$Ways", "leastStep", "(LDownAsUp$Town;III)I"⟩, 17)]
theorem lw_r1 : ∀ q ∈ lw_privs_1, lw_okq q := List.forall_mem_cons.mpr ⟨lw_p0, List.forall_mem_cons.mpr ⟨lw_p1, List.forall_mem_cons.mpr ⟨lw_p2, List.forall_mem_cons.mpr ⟨lw_p3, List.forall_mem_cons.mpr ⟨lw_p4, List.forall_mem_cons.mpr ⟨lw_p5, List.forall_mem_cons.mpr ⟨lw_p6, List.forall_mem_cons.mpr ⟨lw_p7, List.forall_mem_cons.mpr ⟨lw_p8, List.forall_mem_cons.mpr ⟨lw_p9, List.forall_mem_cons.mpr ⟨lw_p10, List.forall_mem_cons.mpr ⟨lw_p11, List.forall_mem_cons.mpr ⟨lw_p12, List.forall_mem_cons.mpr ⟨lw_p13, List.forall_mem_cons.mpr ⟨lw_p14, List.forall_mem_cons.mpr ⟨lw_p15, fun _ h => absurd h List.not_mem_nil⟩⟩⟩⟩⟩⟩⟩⟩⟩⟩⟩⟩⟩⟩⟩⟩
theorem lw_p16 : lw_okq (⟨"DownAsUp$Carrier", "addHeap", "(II)V"⟩, 13) := ⟨⟨by decide +kernel, by decide +kernel⟩, List.mem_of_getElem? (i := 182) (by decide +kernel), List.mem_of_getElem? (i := 664) (by decide +kernel), List.mem_of_getElem? (i := 665) (by decide +kernel)⟩
theorem lw_p17 : lw_okq (⟨"DownAsUp$Carrier", "addSite", "(II)V"⟩, 13) := ⟨⟨by decide +kernel, by decide +kernel⟩, List.mem_of_getElem? (i := 182) (by decide +kernel), List.mem_of_getElem? (i := 669) (by decide +kernel), List.mem_of_getElem? (i := 670) (by decide +kernel)⟩
theorem lw_p18 : lw_okq (⟨"DownAsUp$Carrier", "findWays", "()V"⟩, 13) := ⟨⟨by decide +kernel, by decide +kernel⟩, List.mem_of_getElem? (i := 182) (by decide +kernel), List.mem_of_getElem? (i := 681) (by decide +kernel), List.mem_of_getElem? (i := 682) (by decide +kernel)⟩
theorem lw_p19 : lw_okq (⟨"DownAsUp$Carrier", "shorten", "(II)Z"⟩, 13) := ⟨⟨by decide +kernel, by decide +kernel⟩, List.mem_of_getElem? (i := 182) (by decide +kernel), List.mem_of_getElem? (i := 686) (by decide +kernel), List.mem_of_getElem? (i := 687) (by decide +kernel)⟩
theorem lw_p20 : lw_okq (⟨"DownAsUp$Carrier", "far", "(II)I"⟩, 13) := ⟨⟨by decide +kernel, by decide +kernel⟩, List.mem_of_getElem? (i := 182) (by decide +kernel), List.mem_of_getElem? (i := 690) (by decide +kernel), List.mem_of_getElem? (i := 691) (by decide +kernel)⟩
theorem lw_p21 : lw_okq (⟨"DownAsUp$Carrier", "nearestSite", "()I"⟩, 13) := ⟨⟨by decide +kernel, by decide +kernel⟩, List.mem_of_getElem? (i := 182) (by decide +kernel), List.mem_of_getElem? (i := 697) (by decide +kernel), List.mem_of_getElem? (i := 698) (by decide +kernel)⟩
theorem lw_p22 : lw_okq (⟨"DownAsUp$Carrier", "bring", "(I)I"⟩, 13) := ⟨⟨by decide +kernel, by decide +kernel⟩, List.mem_of_getElem? (i := 182) (by decide +kernel), List.mem_of_getElem? (i := 701) (by decide +kernel), List.mem_of_getElem? (i := 702) (by decide +kernel)⟩
theorem lw_p23 : lw_okq (⟨"DownAsUp$Carrier", "ship", "(II)V"⟩, 13) := ⟨⟨by decide +kernel, by decide +kernel⟩, List.mem_of_getElem? (i := 182) (by decide +kernel), List.mem_of_getElem? (i := 706) (by decide +kernel), List.mem_of_getElem? (i := 707) (by decide +kernel)⟩
theorem lw_p24 : lw_okq (⟨"DownAsUp$Builder", "sortByYards", "(LDownAsUp$Town;)V"⟩, 1) := ⟨⟨by decide +kernel, by decide +kernel⟩, List.mem_of_getElem? (i := 228) (by decide +kernel), List.mem_of_getElem? (i := 721) (by decide +kernel), List.mem_of_getElem? (i := 722) (by decide +kernel)⟩
theorem lw_p25 : lw_okq (⟨"DownAsUp$Builder", "turnAround", "(I)V"⟩, 1) := ⟨⟨by decide +kernel, by decide +kernel⟩, List.mem_of_getElem? (i := 228) (by decide +kernel), List.mem_of_getElem? (i := 725) (by decide +kernel), List.mem_of_getElem? (i := 726) (by decide +kernel)⟩
theorem lw_p26 : lw_okq (⟨"DownAsUp$Builder", "doesTwo", "(LDownAsUp$Town;II)Z"⟩, 1) := ⟨⟨by decide +kernel, by decide +kernel⟩, List.mem_of_getElem? (i := 228) (by decide +kernel), List.mem_of_getElem? (i := 733) (by decide +kernel), List.mem_of_getElem? (i := 734) (by decide +kernel)⟩
theorem lw_p27 : lw_okq (⟨"DownAsUp$Builder", "doesOne", "(LDownAsUp$Town;IZ)Z"⟩, 1) := ⟨⟨by decide +kernel, by decide +kernel⟩, List.mem_of_getElem? (i := 228) (by decide +kernel), List.mem_of_getElem? (i := 739) (by decide +kernel), List.mem_of_getElem? (i := 740) (by decide +kernel)⟩
theorem lw_p28 : lw_okq (⟨"DownAsUp$Ways", "ableCompanies", "(LDownAsUp$Town;)I"⟩, 17) := ⟨⟨by decide +kernel, by decide +kernel⟩, List.mem_of_getElem? (i := 119) (by decide +kernel), List.mem_of_getElem? (i := 751) (by decide +kernel), List.mem_of_getElem? (i := 752) (by decide +kernel)⟩
theorem lw_p29 : lw_okq (⟨"DownAsUp", "refusalOfBook", "(IIII)I"⟩, 9) := ⟨⟨by decide +kernel, by decide +kernel⟩, List.mem_of_getElem? (i := 19) (by decide +kernel), List.mem_of_getElem? (i := 788) (by decide +kernel), List.mem_of_getElem? (i := 789) (by decide +kernel)⟩
theorem lw_p30 : lw_okq (⟨"DownAsUp", "firstUnlawful", "(IIII)I"⟩, 9) := ⟨⟨by decide +kernel, by decide +kernel⟩, List.mem_of_getElem? (i := 19) (by decide +kernel), List.mem_of_getElem? (i := 810) (by decide +kernel), List.mem_of_getElem? (i := 811) (by decide +kernel)⟩
theorem lw_p31 : lw_okq (⟨"DownAsUp", "draftPasses", "(II)Z"⟩, 9) := ⟨⟨by decide +kernel, by decide +kernel⟩, List.mem_of_getElem? (i := 19) (by decide +kernel), List.mem_of_getElem? (i := 814) (by decide +kernel), List.mem_of_getElem? (i := 815) (by decide +kernel)⟩
def lw_privs_2 : List (MethodName × Nat) := [(⟨"DownAsUp$Carrier", "addHeap", "(II)V"⟩, 13), (⟨"DownAsUp$Carrier", "addSite", "(II)V"⟩, 13), (⟨"DownAsUp$Carrier", "findWays", "()V"⟩, 13), (⟨"DownAsUp$Carrier", "shorten", "(II)Z"⟩, 13), (⟨"DownAsUp$Carrier", "far", "(II)I"⟩, 13), (⟨"DownAsUp$Carrier", "nearestSite", "()I"⟩, 13), (⟨"DownAsUp$Carrier", "bring", "(I)I"⟩, 13), (⟨"DownAsUp$Carrier", "ship", "(II)V"⟩, 13), (⟨"DownAsUp$Builder", "sortByYards", "(LDownAsUp$Town;)V"⟩, 1), (⟨"DownAsUp$Builder", "turnAround", "(I)V"⟩, 1), (⟨"DownAsUp$Builder", "doesTwo", "(LDownAsUp$Town;II)Z"⟩, 1), (⟨"DownAsUp$Builder", "doesOne", "(LDownAsUp$Town;IZ)Z"⟩, 1), (⟨"DownAsUp$Ways", "ableCompanies", "(LDownAsUp$Town;)I"⟩, 17), (⟨"DownAsUp", "refusalOfBook", "(IIII)I"⟩, 9), (⟨"DownAsUp", "firstUnlawful", "(IIII)I"⟩, 9), (⟨"DownAsUp", "draftPasses", "(II)Z"⟩, 9)]
theorem lw_r2 : ∀ q ∈ lw_privs_2, lw_okq q := List.forall_mem_cons.mpr ⟨lw_p16, List.forall_mem_cons.mpr ⟨lw_p17, List.forall_mem_cons.mpr ⟨lw_p18, List.forall_mem_cons.mpr ⟨lw_p19, List.forall_mem_cons.mpr ⟨lw_p20, List.forall_mem_cons.mpr ⟨lw_p21, List.forall_mem_cons.mpr ⟨lw_p22, List.forall_mem_cons.mpr ⟨lw_p23, List.forall_mem_cons.mpr ⟨lw_p24, List.forall_mem_cons.mpr ⟨lw_p25, List.forall_mem_cons.mpr ⟨lw_p26, List.forall_mem_cons.mpr ⟨lw_p27, List.forall_mem_cons.mpr ⟨lw_p28, List.forall_mem_cons.mpr ⟨lw_p29, List.forall_mem_cons.mpr ⟨lw_p30, List.forall_mem_cons.mpr ⟨lw_p31, fun _ h => absurd h List.not_mem_nil⟩⟩⟩⟩⟩⟩⟩⟩⟩⟩⟩⟩⟩⟩⟩⟩
theorem lw_p32 : lw_okq (⟨"DownAsUpModel", "isSet", "(J)Z"⟩, 36) := ⟨⟨by decide +kernel, by decide +kernel⟩, List.mem_of_getElem? (i := 874) (by decide +kernel), List.mem_of_getElem? (i := 999) (by decide +kernel), List.mem_of_getElem? (i := 1000) (by decide +kernel)⟩
theorem lw_p33 : lw_okq (⟨"DownAsUpModel", "add", "(IIIII)V"⟩, 36) := ⟨⟨by decide +kernel, by decide +kernel⟩, List.mem_of_getElem? (i := 874) (by decide +kernel), List.mem_of_getElem? (i := 1003) (by decide +kernel), List.mem_of_getElem? (i := 1004) (by decide +kernel)⟩
theorem lw_p34 : lw_okq (⟨"DownAsUpModel", "rests", "(I)Z"⟩, 36) := ⟨⟨by decide +kernel, by decide +kernel⟩, List.mem_of_getElem? (i := 874) (by decide +kernel), List.mem_of_getElem? (i := 1016) (by decide +kernel), List.mem_of_getElem? (i := 1017) (by decide +kernel)⟩
theorem lw_p35 : lw_okq (⟨"DownAsUpModel", "yardsOf", "(I)I"⟩, 36) := ⟨⟨by decide +kernel, by decide +kernel⟩, List.mem_of_getElem? (i := 874) (by decide +kernel), List.mem_of_getElem? (i := 1040) (by decide +kernel), List.mem_of_getElem? (i := 1041) (by decide +kernel)⟩
theorem lw_p36 : lw_okq (⟨"DownAsUpModel", "shelteredBy", "(I)I"⟩, 36) := ⟨⟨by decide +kernel, by decide +kernel⟩, List.mem_of_getElem? (i := 874) (by decide +kernel), List.mem_of_getElem? (i := 1044) (by decide +kernel), List.mem_of_getElem? (i := 1045) (by decide +kernel)⟩
theorem lw_p37 : lw_okq (⟨"DownAsUpModel", "readAll", "(Z)Z"⟩, 36) := ⟨⟨by decide +kernel, by decide +kernel⟩, List.mem_of_getElem? (i := 874) (by decide +kernel), List.mem_of_getElem? (i := 1060) (by decide +kernel), List.mem_of_getElem? (i := 1061) (by decide +kernel)⟩
theorem lw_p38 : lw_okq (⟨"DownAsUpModel", "readPart", "(I)Z"⟩, 36) := ⟨⟨by decide +kernel, by decide +kernel⟩, List.mem_of_getElem? (i := 874) (by decide +kernel), List.mem_of_getElem? (i := 1064) (by decide +kernel), List.mem_of_getElem? (i := 1065) (by decide +kernel)⟩
theorem lw_p39 : lw_okq (⟨"DownAsUpModel", "nextByte", "()I"⟩, 36) := ⟨⟨by decide +kernel, by decide +kernel⟩, List.mem_of_getElem? (i := 874) (by decide +kernel), List.mem_of_getElem? (i := 1068) (by decide +kernel), List.mem_of_getElem? (i := 1069) (by decide +kernel)⟩
theorem lw_p40 : lw_okq (⟨"DownAsUpModel", "readNumber", "(II)I"⟩, 36) := ⟨⟨by decide +kernel, by decide +kernel⟩, List.mem_of_getElem? (i := 874) (by decide +kernel), List.mem_of_getElem? (i := 1072) (by decide +kernel), List.mem_of_getElem? (i := 1073) (by decide +kernel)⟩
theorem lw_p41 : lw_okq (⟨"DownAsUpModel", "takes", "(I)Z"⟩, 36) := ⟨⟨by decide +kernel, by decide +kernel⟩, List.mem_of_getElem? (i := 874) (by decide +kernel), List.mem_of_getElem? (i := 1078) (by decide +kernel), List.mem_of_getElem? (i := 1079) (by decide +kernel)⟩
theorem lw_p42 : lw_okq (⟨"DownAsUpModel", "readSet", "(I)I"⟩, 36) := ⟨⟨by decide +kernel, by decide +kernel⟩, List.mem_of_getElem? (i := 874) (by decide +kernel), List.mem_of_getElem? (i := 1082) (by decide +kernel), List.mem_of_getElem? (i := 1083) (by decide +kernel)⟩
theorem lw_p43 : lw_okq (⟨"DownAsUpModel", "isWeek", "(IJJ)Z"⟩, 36) := ⟨⟨by decide +kernel, by decide +kernel⟩, List.mem_of_getElem? (i := 874) (by decide +kernel), List.mem_of_getElem? (i := 1094) (by decide +kernel), List.mem_of_getElem? (i := 1095) (by decide +kernel)⟩
theorem lw_p44 : lw_okq (⟨"DownAsUpModel", "isLawful", "(IIII)Z"⟩, 36) := ⟨⟨by decide +kernel, by decide +kernel⟩, List.mem_of_getElem? (i := 874) (by decide +kernel), List.mem_of_getElem? (i := 1098) (by decide +kernel), List.mem_of_getElem? (i := 1099) (by decide +kernel)⟩
theorem lw_p45 : lw_okq (⟨"DownAsUpModel", "mayElse", "(III)Z"⟩, 36) := ⟨⟨by decide +kernel, by decide +kernel⟩, List.mem_of_getElem? (i := 874) (by decide +kernel), List.mem_of_getElem? (i := 1102) (by decide +kernel), List.mem_of_getElem? (i := 1103) (by decide +kernel)⟩
theorem lw_p46 : lw_okq (⟨"DownAsUpModel", "moreBy", "(II)I"⟩, 36) := ⟨⟨by decide +kernel, by decide +kernel⟩, List.mem_of_getElem? (i := 874) (by decide +kernel), List.mem_of_getElem? (i := 1106) (by decide +kernel), List.mem_of_getElem? (i := 1107) (by decide +kernel)⟩
theorem lw_p47 : lw_okq (⟨"DownAsUpModel", "givenBy", "(I)I"⟩, 36) := ⟨⟨by decide +kernel, by decide +kernel⟩, List.mem_of_getElem? (i := 874) (by decide +kernel), List.mem_of_getElem? (i := 1110) (by decide +kernel), List.mem_of_getElem? (i := 1111) (by decide +kernel)⟩
def lw_privs_3 : List (MethodName × Nat) := [(⟨"DownAsUpModel", "isSet", "(J)Z"⟩, 36), (⟨"DownAsUpModel", "add", "(IIIII)V"⟩, 36), (⟨"DownAsUpModel", "rests", "(I)Z"⟩, 36), (⟨"DownAsUpModel", "yardsOf", "(I)I"⟩, 36), (⟨"DownAsUpModel", "shelteredBy", "(I)I"⟩, 36), (⟨"DownAsUpModel", "readAll", "(Z)Z"⟩, 36), (⟨"DownAsUpModel", "readPart", "(I)Z"⟩, 36), (⟨"DownAsUpModel", "nextByte", "()I"⟩, 36), (⟨"DownAsUpModel", "readNumber", "(II)I"⟩, 36), (⟨"DownAsUpModel", "takes", "(I)Z"⟩, 36), (⟨"DownAsUpModel", "readSet", "(I)I"⟩, 36), (⟨"DownAsUpModel", "isWeek", "(IJJ)Z"⟩, 36), (⟨"DownAsUpModel", "isLawful", "(IIII)Z"⟩, 36), (⟨"DownAsUpModel", "mayElse", "(III)Z"⟩, 36), (⟨"DownAsUpModel", "moreBy", "(II)I"⟩, 36), (⟨"DownAsUpModel", "givenBy", "(I)I"⟩, 36)]
theorem lw_r3 : ∀ q ∈ lw_privs_3, lw_okq q := List.forall_mem_cons.mpr ⟨lw_p32, List.forall_mem_cons.mpr ⟨lw_p33, List.forall_mem_cons.mpr ⟨lw_p34, List.forall_mem_cons.mpr ⟨lw_p35, List.forall_mem_cons.mpr ⟨lw_p36, List.forall_mem_cons.mpr ⟨lw_p37, List.forall_mem_cons.mpr ⟨lw_p38, List.forall_mem_cons.mpr ⟨lw_p39, List.forall_mem_cons.mpr ⟨lw_p40, List.forall_mem_cons.mpr ⟨lw_p41, List.forall_mem_cons.mpr ⟨lw_p42, List.forall_mem_cons.mpr ⟨lw_p43, List.forall_mem_cons.mpr ⟨lw_p44, List.forall_mem_cons.mpr ⟨lw_p45, List.forall_mem_cons.mpr ⟨lw_p46, List.forall_mem_cons.mpr ⟨lw_p47, fun _ h => absurd h List.not_mem_nil⟩⟩⟩⟩⟩⟩⟩⟩⟩⟩⟩⟩⟩⟩⟩⟩
theorem lw_p48 : lw_okq (⟨"DownAsUpModel", "takenBy", "(I)I"⟩, 36) := ⟨⟨by decide +kernel, by decide +kernel⟩, List.mem_of_getElem? (i := 874) (by decide +kernel), List.mem_of_getElem? (i := 1114) (by decide +kernel), List.mem_of_getElem? (i := 1115) (by decide +kernel)⟩
theorem lw_p49 : lw_okq (⟨"DownAsUpModel", "doWeek", "(II)V"⟩, 36) := ⟨⟨by decide +kernel, by decide +kernel⟩, List.mem_of_getElem? (i := 874) (by decide +kernel), List.mem_of_getElem? (i := 1122) (by decide +kernel), List.mem_of_getElem? (i := 1123) (by decide +kernel)⟩
theorem lw_p50 : lw_okq (⟨"DownAsUpModel", "findRow", "()I"⟩, 36) := ⟨⟨by decide +kernel, by decide +kernel⟩, List.mem_of_getElem? (i := 874) (by decide +kernel), List.mem_of_getElem? (i := 1134) (by decide +kernel), List.mem_of_getElem? (i := 1135) (by decide +kernel)⟩
theorem lw_p51 : lw_okq (⟨"DownAsUpModel", "findNeeds", "(II)I"⟩, 36) := ⟨⟨by decide +kernel, by decide +kernel⟩, List.mem_of_getElem? (i := 874) (by decide +kernel), List.mem_of_getElem? (i := 1138) (by decide +kernel), List.mem_of_getElem? (i := 1139) (by decide +kernel)⟩
theorem lw_p52 : lw_okq (⟨"DownAsUpModel", "findSets", "()V"⟩, 36) := ⟨⟨by decide +kernel, by decide +kernel⟩, List.mem_of_getElem? (i := 874) (by decide +kernel), List.mem_of_getElem? (i := 1142) (by decide +kernel), List.mem_of_getElem? (i := 1143) (by decide +kernel)⟩
theorem lw_p53 : lw_okq (⟨"DownAsUpModel", "needBy", "(III)I"⟩, 36) := ⟨⟨by decide +kernel, by decide +kernel⟩, List.mem_of_getElem? (i := 874) (by decide +kernel), List.mem_of_getElem? (i := 1147) (by decide +kernel), List.mem_of_getElem? (i := 1148) (by decide +kernel)⟩
theorem lw_p54 : lw_okq (⟨"DownAsUpModel", "findWay", "()I"⟩, 36) := ⟨⟨by decide +kernel, by decide +kernel⟩, List.mem_of_getElem? (i := 874) (by decide +kernel), List.mem_of_getElem? (i := 1159) (by decide +kernel), List.mem_of_getElem? (i := 1160) (by decide +kernel)⟩
theorem lw_p55 : lw_okq (⟨"DownAsUpModel", "apart", "(II)I"⟩, 36) := ⟨⟨by decide +kernel, by decide +kernel⟩, List.mem_of_getElem? (i := 874) (by decide +kernel), List.mem_of_getElem? (i := 1163) (by decide +kernel), List.mem_of_getElem? (i := 1164) (by decide +kernel)⟩
theorem lw_p56 : lw_okq (⟨"DownAsUpModel", "placeOf", "(I)I"⟩, 36) := ⟨⟨by decide +kernel, by decide +kernel⟩, List.mem_of_getElem? (i := 874) (by decide +kernel), List.mem_of_getElem? (i := 1167) (by decide +kernel), List.mem_of_getElem? (i := 1168) (by decide +kernel)⟩
theorem lw_p57 : lw_okq (⟨"DownAsUpModel", "tryNode", "(III)Z"⟩, 36) := ⟨⟨by decide +kernel, by decide +kernel⟩, List.mem_of_getElem? (i := 874) (by decide +kernel), List.mem_of_getElem? (i := 1171) (by decide +kernel), List.mem_of_getElem? (i := 1172) (by decide +kernel)⟩
theorem lw_p58 : lw_okq (⟨"DownAsUpModel", "moveBy", "(I)I"⟩, 36) := ⟨⟨by decide +kernel, by decide +kernel⟩, List.mem_of_getElem? (i := 874) (by decide +kernel), List.mem_of_getElem? (i := 1175) (by decide +kernel), List.mem_of_getElem? (i := 1176) (by decide +kernel)⟩
theorem lw_p59 : lw_okq (⟨"DownAsUpModel", "findOrder", "(I)V"⟩, 36) := ⟨⟨by decide +kernel, by decide +kernel⟩, List.mem_of_getElem? (i := 874) (by decide +kernel), List.mem_of_getElem? (i := 1184) (by decide +kernel), List.mem_of_getElem? (i := 1185) (by decide +kernel)⟩
theorem lw_p60 : lw_okq (⟨"DownAsUpModel", "buildBy", "(ZZ)Z"⟩, 36) := ⟨⟨by decide +kernel, by decide +kernel⟩, List.mem_of_getElem? (i := 874) (by decide +kernel), List.mem_of_getElem? (i := 1188) (by decide +kernel), List.mem_of_getElem? (i := 1189) (by decide +kernel)⟩
theorem lw_p61 : lw_okq (⟨"DownAsUpModel", "partsOf", "(I)I"⟩, 36) := ⟨⟨by decide +kernel, by decide +kernel⟩, List.mem_of_getElem? (i := 874) (by decide +kernel), List.mem_of_getElem? (i := 1196) (by decide +kernel), List.mem_of_getElem? (i := 1197) (by decide +kernel)⟩
theorem lw_p62 : lw_okq (⟨"DownAsUpModel", "lacksRow", "(IIII)I"⟩, 36) := ⟨⟨by decide +kernel, by decide +kernel⟩, List.mem_of_getElem? (i := 874) (by decide +kernel), List.mem_of_getElem? (i := 1230) (by decide +kernel), List.mem_of_getElem? (i := 1231) (by decide +kernel)⟩
theorem lw_p63 : lw_okq (⟨"DownAsUpModel", "judge", "(III)I"⟩, 36) := ⟨⟨by decide +kernel, by decide +kernel⟩, List.mem_of_getElem? (i := 874) (by decide +kernel), List.mem_of_getElem? (i := 1241) (by decide +kernel), List.mem_of_getElem? (i := 1242) (by decide +kernel)⟩
def lw_privs_4 : List (MethodName × Nat) := [(⟨"DownAsUpModel", "takenBy", "(I)I"⟩, 36), (⟨"DownAsUpModel", "doWeek", "(II)V"⟩, 36), (⟨"DownAsUpModel", "findRow", "()I"⟩, 36), (⟨"DownAsUpModel", "findNeeds", "(II)I"⟩, 36), (⟨"DownAsUpModel", "findSets", "()V"⟩, 36), (⟨"DownAsUpModel", "needBy", "(III)I"⟩, 36), (⟨"DownAsUpModel", "findWay", "()I"⟩, 36), (⟨"DownAsUpModel", "apart", "(II)I"⟩, 36), (⟨"DownAsUpModel", "placeOf", "(I)I"⟩, 36), (⟨"DownAsUpModel", "tryNode", "(III)Z"⟩, 36), (⟨"DownAsUpModel", "moveBy", "(I)I"⟩, 36), (⟨"DownAsUpModel", "findOrder", "(I)V"⟩, 36), (⟨"DownAsUpModel", "buildBy", "(ZZ)Z"⟩, 36), (⟨"DownAsUpModel", "partsOf", "(I)I"⟩, 36), (⟨"DownAsUpModel", "lacksRow", "(IIII)I"⟩, 36), (⟨"DownAsUpModel", "judge", "(III)I"⟩, 36)]
theorem lw_r4 : ∀ q ∈ lw_privs_4, lw_okq q := List.forall_mem_cons.mpr ⟨lw_p48, List.forall_mem_cons.mpr ⟨lw_p49, List.forall_mem_cons.mpr ⟨lw_p50, List.forall_mem_cons.mpr ⟨lw_p51, List.forall_mem_cons.mpr ⟨lw_p52, List.forall_mem_cons.mpr ⟨lw_p53, List.forall_mem_cons.mpr ⟨lw_p54, List.forall_mem_cons.mpr ⟨lw_p55, List.forall_mem_cons.mpr ⟨lw_p56, List.forall_mem_cons.mpr ⟨lw_p57, List.forall_mem_cons.mpr ⟨lw_p58, List.forall_mem_cons.mpr ⟨lw_p59, List.forall_mem_cons.mpr ⟨lw_p60, List.forall_mem_cons.mpr ⟨lw_p61, List.forall_mem_cons.mpr ⟨lw_p62, List.forall_mem_cons.mpr ⟨lw_p63, fun _ h => absurd h List.not_mem_nil⟩⟩⟩⟩⟩⟩⟩⟩⟩⟩⟩⟩⟩⟩⟩⟩
def lw_privs : List (MethodName × Nat) := lw_privs_1 ++ (lw_privs_2 ++ (lw_privs_3 ++ (lw_privs_4)))
def lw_tbl : List Cond := k2_sels lw_privs ++ tables_1
theorem lw_privs_ok : ∀ q ∈ lw_privs, lw_okq q := by
  show ∀ q ∈ lw_privs_1 ++ (lw_privs_2 ++ (lw_privs_3 ++ (lw_privs_4))), lw_okq q
  exact List.forall_mem_append.mpr ⟨lw_r1, List.forall_mem_append.mpr ⟨lw_r2, List.forall_mem_append.mpr ⟨lw_r3, lw_r4⟩⟩⟩
-- ===== end of PART A; then your names; then what follows =====
end
section
-- written by wip/whole/gen01.py: tables of the engine, out of the Statement's words
def eCN : List String := ["DownAsUp$Builder", "DownAsUp$Carrier", "DownAsUp$Sheets", "DownAsUp$Tape", "DownAsUp$Town", "DownAsUp$Ways", "DownAsUp", "DownAsUpModel", "java/lang/Math", "java/lang/Integer", "java/util/Arrays", "java/lang/String", "java/lang/StringLatin1", "DownAsUpLaw"]
def eFd0 : List (String × String × String × Bool) := [("DownAsUp$Builder", "order", "[I", true)]
def eFt0 : List FieldType := [.array .int]
def eFd1 : List (String × String × String × Bool) := [("DownAsUp$Carrier", "heapPlace", "[I", true), ("DownAsUp$Carrier", "heapLeft", "[I", true), ("DownAsUp$Carrier", "heapWay", "[I", true), ("DownAsUp$Carrier", "heapVia", "[I", true), ("DownAsUp$Carrier", "sitePlace", "[I", true), ("DownAsUp$Carrier", "siteLack", "[I", true), ("DownAsUp$Carrier", "siteWay", "[I", true), ("DownAsUp$Carrier", "siteVia", "[I", true), ("DownAsUp$Carrier", "brought", "[I", true), ("DownAsUp$Carrier", "heaps", "I", false), ("DownAsUp$Carrier", "sites", "I", false), ("DownAsUp$Carrier", "lacking", "I", false), ("DownAsUp$Carrier", "lying", "I", false)]
def eFt1 : List FieldType := [.array .int, .array .int, .array .int, .array .int, .array .int, .array .int, .array .int, .array .int, .array .int, .int, .int, .int, .int]
def eFd2 : List (String × String × String × Bool) := [("DownAsUp$Sheets", "items", "[J", true), ("DownAsUp$Sheets", "lanes", "[I", true), ("DownAsUp$Sheets", "sizes", "[I", true)]
def eFt2 : List FieldType := [.array .long, .array .int, .array .int]
def eFd3 : List (String × String × String × Bool) := [("DownAsUp$Tape", "bytes", "[C", true), ("DownAsUp$Tape", "size", "I", false), ("DownAsUp$Tape", "at", "I", false)]
def eFt3 : List FieldType := [.array .char, .int, .int]
def eFd4 : List (String × String × String × Bool) := [("DownAsUp$Town", "kinds", "[I", true), ("DownAsUp$Town", "yards", "[I", true), ("DownAsUp$Town", "places", "[I", true), ("DownAsUp$Town", "owners", "[I", true), ("DownAsUp$Town", "rests", "[I", true), ("DownAsUp$Town", "shelters", "[I", true), ("DownAsUp$Town", "parts", "I", false), ("DownAsUp$Town", "persons", "I", false), ("DownAsUp$Town", "standing", "I", false), ("DownAsUp$Town", "wanted", "I", false), ("DownAsUp$Town", "free", "I", false), ("DownAsUp$Town", "work", "I", false)]
def eFt4 : List FieldType := [.array .int, .array .int, .array .int, .array .int, .array .int, .array .int, .int, .int, .int, .int, .int, .int]
def eFd5 : List (String × String × String × Bool) := [("DownAsUp$Ways", "yards", "[I", true), ("DownAsUp$Ways", "givenByGoing", "[I", true), ("DownAsUp$Ways", "givenByComing", "[I", true), ("DownAsUp$Ways", "firm", "[Z", true), ("DownAsUp$Ways", "dry", "[Z", true), ("DownAsUp$Ways", "moves", "[I", true), ("DownAsUp$Ways", "needs", "[I", false), ("DownAsUp$Ways", "sets", "[I", true), ("DownAsUp$Ways", "found", "Z", false), ("DownAsUp$Ways", "weeks", "I", false), ("DownAsUp$Ways", "needed", "I", false), ("DownAsUp$Ways", "moveCount", "I", false), ("DownAsUp$Ways", "rows", "I", false), ("DownAsUp$Ways", "able", "I", false), ("DownAsUp$Ways", "isTabled", "Z", false), ("DownAsUp$Ways", "isSought", "Z", false), ("DownAsUp$Ways", "isShared", "Z", false)]
def eFt5 : List FieldType := [.array .int, .array .int, .array .int, .array .boolean, .array .boolean, .array .int, .array .int, .array .int, .boolean, .int, .int, .int, .int, .int, .boolean, .boolean, .boolean]
def eFd6 : List (String × String × String × Bool) := [("DownAsUp", "now", "LDownAsUp$Town;", true), ("DownAsUp", "kept", "LDownAsUp$Town;", true), ("DownAsUp", "draft", "LDownAsUp$Town;", true), ("DownAsUp", "tape", "LDownAsUp$Tape;", true), ("DownAsUp", "ways", "LDownAsUp$Ways;", true), ("DownAsUp", "carrier", "LDownAsUp$Carrier;", true), ("DownAsUp", "builders", "LDownAsUp$Builder;", true), ("DownAsUp", "sheets", "LDownAsUp$Sheets;", true), ("DownAsUp", "hasImage", "Z", false)]
def eFt6 : List FieldType := [.object "DownAsUp$Town", .object "DownAsUp$Town", .object "DownAsUp$Town", .object "DownAsUp$Tape", .object "DownAsUp$Ways", .object "DownAsUp$Carrier", .object "DownAsUp$Builder", .object "DownAsUp$Sheets", .boolean]
def eFd7 : List (String × String × String × Bool) := [("DownAsUpModel", "z", "[I", true), ("DownAsUpModel", "many", "I", false), ("DownAsUpModel", "stands", "I", false), ("DownAsUpModel", "wanted", "I", false), ("DownAsUpModel", "free", "I", false), ("DownAsUpModel", "work", "I", false), ("DownAsUpModel", "shelters", "[I", true), ("DownAsUpModel", "people", "I", false), ("DownAsUpModel", "tape", "[I", true), ("DownAsUpModel", "taped", "I", false), ("DownAsUpModel", "place", "I", false), ("DownAsUpModel", "reads", "I", false), ("DownAsUpModel", "readStands", "I", false), ("DownAsUpModel", "read", "[I", true), ("DownAsUpModel", "yards", "[I", true), ("DownAsUpModel", "restful", "[Z", true), ("DownAsUpModel", "gives", "[I", true), ("DownAsUpModel", "wantsOf", "[I", true), ("DownAsUpModel", "needs", "[I", true), ("DownAsUpModel", "least", "[I", true), ("DownAsUpModel", "row", "[I", true), ("DownAsUpModel", "left", "[I", true), ("DownAsUpModel", "wants", "[I", true), ("DownAsUpModel", "moved", "[I", true), ("DownAsUpModel", "costTo", "[I", true), ("DownAsUpModel", "before", "[I", true), ("DownAsUpModel", "order", "[I", true), ("DownAsUpModel", "cans", "[Z", true), ("DownAsUpModel", "isKept", "Z", false), ("DownAsUpModel", "kept", "[I", true), ("DownAsUpModel", "keptCounts", "[I", true), ("DownAsUpModel", "lanes", "[I", true), ("DownAsUpModel", "rowSizes", "[I", true), ("DownAsUpModel", "items", "[J", true), ("DownAsUpModel", "bookStands", "I", false), ("DownAsUpModel", "carried", "[J", true)]
def eFt7 : List FieldType := [.array .int, .int, .int, .int, .int, .int, .array .int, .int, .array .int, .int, .int, .int, .int, .array .int, .array .int, .array .boolean, .array .int, .array .int, .array .int, .array .int, .array .int, .array .int, .array .int, .array .int, .array .int, .array .int, .array .int, .array .boolean, .boolean, .array .int, .array .int, .array .int, .array .int, .array .long, .int, .array .long]
def eFd : Nat → List (String × String × String × Bool)
  | 0 => eFd0
  | 1 => eFd1
  | 2 => eFd2
  | 3 => eFd3
  | 4 => eFd4
  | 5 => eFd5
  | 6 => eFd6
  | 7 => eFd7
  | _ => []
def eFt : Nat → List FieldType
  | 0 => eFt0
  | 1 => eFt1
  | 2 => eFt2
  | 3 => eFt3
  | 4 => eFt4
  | 5 => eFt5
  | 6 => eFt6
  | 7 => eFt7
  | _ => []
def eU (ci : Nat) : u_T := fun k => (eFd ci).getD k ("", "", "", false)
def eCl : List vw_C := [("DownAsUp$Builder", eU 0, 1), ("DownAsUp$Carrier", eU 1, 13), ("DownAsUp$Sheets", eU 2, 3), ("DownAsUp$Tape", eU 3, 3), ("DownAsUp$Town", eU 4, 12), ("DownAsUp$Ways", eU 5, 17), ("DownAsUp", eU 6, 9), ("DownAsUpModel", eU 7, 36)]
def eFp : Nat → List Nat
  | 0 => [298]
  | 1 => [264, 266, 268, 270, 272, 274, 276, 278, 280, 282, 284, 286, 288]
  | 2 => [310, 312, 314]
  | 3 => [174, 176, 178]
  | 4 => [137, 139, 141, 143, 145, 147, 149, 151, 153, 155, 157, 159]
  | 5 => [209, 211, 213, 215, 217, 219, 221, 223, 225, 227, 229, 231, 233, 235, 237, 239, 241]
  | 6 => [327, 329, 331, 333, 335, 337, 339, 341, 343]
  | 7 => [980, 982, 984, 986, 988, 990, 992, 994, 996, 998, 1000, 1002, 1004, 1006, 1008, 1010, 1012, 1014, 1016, 1018, 1020, 1022, 1024, 1026, 1028, 1030, 1032, 1034, 1036, 1038, 1040, 1042, 1044, 1046, 1048, 1050]
  | _ => []
def eY : List MethodName := [⟨"DownAsUp", "<init>", "()V"⟩,
  ⟨"DownAsUp$Town", "<init>", "()V"⟩,
  ⟨"DownAsUp$Tape", "<init>", "()V"⟩,
  ⟨"DownAsUp$Ways", "<init>", "()V"⟩,
  ⟨"DownAsUp$Carrier", "<init>", "()V"⟩,
  ⟨"DownAsUp$Builder", "<init>", "()V"⟩,
  ⟨"DownAsUp$Sheets", "<init>", "()V"⟩,
  ⟨"DownAsUp", "part", "(IIIII)I"⟩,
  ⟨"DownAsUp$Town", "isKind", "(I)Z"⟩,
  ⟨"DownAsUp$Town", "isYards", "(I)Z"⟩,
  ⟨"DownAsUp$Town", "isPlace", "(I)Z"⟩,
  ⟨"DownAsUp$Town", "isOwner", "(I)Z"⟩,
  ⟨"DownAsUp$Town", "isSet", "(J)Z"⟩,
  ⟨"DownAsUp$Town", "all", "()I"⟩,
  ⟨"DownAsUp$Town", "isBuiltUp", "()Z"⟩,
  ⟨"DownAsUp$Town", "addPart", "(IIIII)V"⟩,
  ⟨"DownAsUp$Ways", "forget", "()V"⟩,
  ⟨"DownAsUp", "told", "(II)I"⟩,
  ⟨"DownAsUp$Town", "isPart", "(I)Z"⟩,
  ⟨"DownAsUp", "stand", "(I)I"⟩,
  ⟨"DownAsUp$Town", "isFirm", "(I)Z"⟩,
  ⟨"DownAsUp", "person", "(I)I"⟩,
  ⟨"DownAsUp$Town", "isPeopled", "()Z"⟩,
  ⟨"DownAsUp$Town", "addPerson", "(I)V"⟩,
  ⟨"DownAsUp", "set", "(II)I"⟩,
  ⟨"DownAsUp", "want", "(I)I"⟩,
  ⟨"DownAsUp", "type", "(JI)I"⟩,
  ⟨"DownAsUp$Tape", "isPlain", "(JI)Z"⟩,
  ⟨"DownAsUp$Tape", "hasRoom", "(I)Z"⟩,
  ⟨"DownAsUp$Tape", "append", "(JI)V"⟩,
  ⟨"DownAsUp", "town", "()I"⟩,
  ⟨"DownAsUp$Town", "takeOver", "(LDownAsUp$Town;)V"⟩,
  ⟨"DownAsUp$Town", "raze", "()V"⟩,
  ⟨"DownAsUp$Tape", "readTown", "(LDownAsUp$Town;)Z"⟩,
  ⟨"DownAsUp$Tape", "readPart", "(LDownAsUp$Town;)Z"⟩,
  ⟨"DownAsUp$Tape", "next", "()C"⟩,
  ⟨"java/lang/Math", "max", "(II)I"⟩,
  ⟨"java/lang/Math", "min", "(II)I"⟩,
  ⟨"DownAsUp$Tape", "readNumber", "(II)I"⟩,
  ⟨"DownAsUp$Tape", "isDigit", "(C)Z"⟩,
  ⟨"DownAsUp$Tape", "take", "(C)Z"⟩,
  ⟨"DownAsUp$Tape", "readDigit", "(I)I"⟩,
  ⟨"DownAsUp$Tape", "readParts", "(I)I"⟩,
  ⟨"DownAsUp", "endOfReading", "(ZI)I"⟩,
  ⟨"DownAsUp$Tape", "empty", "()V"⟩,
  ⟨"DownAsUp", "people", "()I"⟩,
  ⟨"DownAsUp$Tape", "readPeople", "(LDownAsUp$Town;)Z"⟩,
  ⟨"DownAsUp", "count", "(I)I"⟩,
  ⟨"DownAsUp$Town", "yardsOf", "(I)I"⟩,
  ⟨"DownAsUp$Town", "sheltered", "(I)I"⟩,
  ⟨"DownAsUp", "may", "(II)I"⟩,
  ⟨"DownAsUp$Town", "isWeek", "(JJ)Z"⟩,
  ⟨"DownAsUp$Town", "isLawful", "(II)Z"⟩,
  ⟨"DownAsUp$Town", "over", "(II)I"⟩,
  ⟨"DownAsUp$Town", "givenByGoing", "(I)I"⟩,
  ⟨"DownAsUp$Town", "givenByComing", "(I)I"⟩,
  ⟨"DownAsUp$Town", "isEveryoneDry", "(I)Z"⟩,
  ⟨"DownAsUp", "week", "(II)I"⟩,
  ⟨"DownAsUp$Town", "pass", "(II)V"⟩,
  ⟨"DownAsUp", "can", "(I)I"⟩,
  ⟨"DownAsUp$Ways", "seekWanted", "(LDownAsUp$Town;)V"⟩,
  ⟨"DownAsUp$Ways", "seek", "(LDownAsUp$Town;I)Z"⟩,
  ⟨"DownAsUp$Ways", "table", "(LDownAsUp$Town;)V"⟩,
  ⟨"DownAsUp$Ways", "sumUp", "(LDownAsUp$Town;I)V"⟩,
  ⟨"DownAsUp$Ways", "listMoves", "(LDownAsUp$Town;I)V"⟩,
  ⟨"java/util/Arrays", "fill", "([IIII)V"⟩,
  ⟨"java/util/Arrays", "rangeCheck", "(III)V"⟩,
  ⟨"DownAsUp$Ways", "growRow", "(I)Z"⟩,
  ⟨"java/util/Arrays", "copyOf", "([II)[I"⟩,
  ⟨"DownAsUp$Ways", "growFrom", "(III)Z"⟩,
  ⟨"DownAsUp$Ways", "given", "(II)I"⟩,
  ⟨"DownAsUp$Ways", "traceFirst", "(LDownAsUp$Town;)V"⟩,
  ⟨"DownAsUp$Ways", "leastStep", "(LDownAsUp$Town;III)I"⟩,
  ⟨"DownAsUp", "more", "()I"⟩,
  ⟨"DownAsUp", "carry", "(II)I"⟩,
  ⟨"DownAsUp$Carrier", "load", "(LDownAsUp$Town;II)V"⟩,
  ⟨"java/util/Arrays", "fill", "([II)V"⟩,
  ⟨"DownAsUp$Carrier", "addHeap", "(II)V"⟩,
  ⟨"DownAsUp$Carrier", "addSite", "(II)V"⟩,
  ⟨"DownAsUp$Carrier", "isEnough", "()Z"⟩,
  ⟨"DownAsUp$Carrier", "leastCarried", "()I"⟩,
  ⟨"DownAsUp$Carrier", "findWays", "()V"⟩,
  ⟨"DownAsUp$Carrier", "shorten", "(II)Z"⟩,
  ⟨"DownAsUp$Carrier", "far", "(II)I"⟩,
  ⟨"java/lang/Math", "abs", "(I)I"⟩,
  ⟨"DownAsUp$Carrier", "nearestSite", "()I"⟩,
  ⟨"DownAsUp$Carrier", "bring", "(I)I"⟩,
  ⟨"DownAsUp$Carrier", "ship", "(II)V"⟩,
  ⟨"DownAsUp", "build", "(II)I"⟩,
  ⟨"DownAsUp$Builder", "isBuilder", "(I)Z"⟩,
  ⟨"DownAsUp$Builder", "lineUp", "(LDownAsUp$Town;I)V"⟩,
  ⟨"DownAsUp$Builder", "sortByYards", "(LDownAsUp$Town;)V"⟩,
  ⟨"DownAsUp$Builder", "turnAround", "(I)V"⟩,
  ⟨"DownAsUp$Builder", "goOn", "(LDownAsUp$Town;)Z"⟩,
  ⟨"DownAsUp$Builder", "doesTwo", "(LDownAsUp$Town;II)Z"⟩,
  ⟨"DownAsUp$Builder", "doesOne", "(LDownAsUp$Town;IZ)Z"⟩,
  ⟨"DownAsUp", "worth", "(II)I"⟩,
  ⟨"DownAsUp$Ways", "turningOrders", "(LDownAsUp$Town;I)I"⟩,
  ⟨"DownAsUp$Ways", "ableCompanies", "(LDownAsUp$Town;)I"⟩,
  ⟨"DownAsUp$Ways", "hasAblePart", "(II)Z"⟩,
  ⟨"DownAsUp$Ways", "isAble", "(II)Z"⟩,
  ⟨"DownAsUp$Ways", "partsOf", "(LDownAsUp$Town;I)I"⟩,
  ⟨"java/lang/Integer", "bitCount", "(I)I"⟩,
  ⟨"DownAsUp$Ways", "sharedDivisor", "(I)I"⟩,
  ⟨"DownAsUp", "image", "()I"⟩,
  ⟨"DownAsUp", "restore", "()I"⟩,
  ⟨"DownAsUp", "judged", "(IIII)I"⟩,
  ⟨"DownAsUp", "refusalOfBook", "(IIII)I"⟩,
  ⟨"DownAsUp$Sheets", "refusal", "(IIII)I"⟩,
  ⟨"DownAsUp$Sheets", "isNamed", "(II)Z"⟩,
  ⟨"DownAsUp$Sheets", "isSheet", "(I)Z"⟩,
  ⟨"DownAsUp$Sheets", "isNothing", "(I)Z"⟩,
  ⟨"DownAsUp$Sheets", "holds", "(III)Z"⟩,
  ⟨"DownAsUp", "firstUnlawful", "(IIII)I"⟩,
  ⟨"DownAsUp", "draftPasses", "(II)Z"⟩,
  ⟨"DownAsUp$Sheets", "look", "(II)J"⟩,
  ⟨"DownAsUp", "wrong", "(IIIII)I"⟩,
  ⟨"DownAsUp", "sheet", "(III)I"⟩,
  ⟨"DownAsUp$Sheets", "renew", "(III)V"⟩,
  ⟨"java/util/Arrays", "fill", "([JIIJ)V"⟩,
  ⟨"DownAsUp", "drop", "(I)I"⟩,
  ⟨"DownAsUp$Sheets", "clear", "(I)I"⟩,
  ⟨"DownAsUp", "item", "(IIIJ)I"⟩,
  ⟨"DownAsUp$Sheets", "put", "(IIJ)V"⟩,
  ⟨"DownAsUp", "film", "(III)I"⟩,
  ⟨"DownAsUp", "copy", "(IIIII)I"⟩,
  ⟨"DownAsUp$Sheets", "areAlike", "(II)Z"⟩,
  ⟨"DownAsUp$Sheets", "bring", "(IIIII)V"⟩,
  ⟨"DownAsUpModel", "<init>", "()V"⟩,
  ⟨"DownAsUpModel", "part", "(IIIII)I"⟩,
  ⟨"DownAsUpModel", "in", "(JJJ)Z"⟩,
  ⟨"DownAsUpModel", "isSet", "(J)Z"⟩,
  ⟨"DownAsUpModel", "add", "(IIIII)V"⟩,
  ⟨"DownAsUpModel", "told", "(II)I"⟩,
  ⟨"DownAsUpModel", "stand", "(I)I"⟩,
  ⟨"DownAsUpModel", "rests", "(I)Z"⟩,
  ⟨"DownAsUpModel", "has", "(II)Z"⟩,
  ⟨"DownAsUpModel", "person", "(I)I"⟩,
  ⟨"DownAsUpModel", "set", "(II)I"⟩,
  ⟨"DownAsUpModel", "want", "(I)I"⟩,
  ⟨"DownAsUpModel", "count", "(I)I"⟩,
  ⟨"DownAsUpModel", "yardsOf", "(I)I"⟩,
  ⟨"DownAsUpModel", "shelteredBy", "(I)I"⟩,
  ⟨"DownAsUpModel", "type", "(JI)I"⟩,
  ⟨"DownAsUpModel", "town", "()I"⟩,
  ⟨"DownAsUpModel", "readAll", "(Z)Z"⟩,
  ⟨"DownAsUpModel", "readPart", "(I)Z"⟩,
  ⟨"DownAsUpModel", "nextByte", "()I"⟩,
  ⟨"DownAsUpModel", "readNumber", "(II)I"⟩,
  ⟨"DownAsUpModel", "takes", "(I)Z"⟩,
  ⟨"DownAsUpModel", "readSet", "(I)I"⟩,
  ⟨"DownAsUpModel", "people", "()I"⟩,
  ⟨"DownAsUpModel", "may", "(II)I"⟩,
  ⟨"DownAsUpModel", "isWeek", "(IJJ)Z"⟩,
  ⟨"DownAsUpModel", "isLawful", "(IIII)Z"⟩,
  ⟨"DownAsUpModel", "mayElse", "(III)Z"⟩,
  ⟨"DownAsUpModel", "moreBy", "(II)I"⟩,
  ⟨"DownAsUpModel", "givenBy", "(I)I"⟩,
  ⟨"DownAsUpModel", "takenBy", "(I)I"⟩,
  ⟨"DownAsUpModel", "week", "(II)I"⟩,
  ⟨"DownAsUpModel", "doWeek", "(II)V"⟩,
  ⟨"DownAsUpModel", "most", "(I)I"⟩,
  ⟨"DownAsUpModel", "can", "(I)I"⟩,
  ⟨"DownAsUpModel", "findRow", "()I"⟩,
  ⟨"DownAsUpModel", "findNeeds", "(II)I"⟩,
  ⟨"DownAsUpModel", "findSets", "()V"⟩,
  ⟨"DownAsUpModel", "needBy", "(III)I"⟩,
  ⟨"DownAsUpModel", "more", "()I"⟩,
  ⟨"DownAsUpModel", "carry", "(II)I"⟩,
  ⟨"DownAsUpModel", "findWay", "()I"⟩,
  ⟨"DownAsUpModel", "apart", "(II)I"⟩,
  ⟨"DownAsUpModel", "placeOf", "(I)I"⟩,
  ⟨"DownAsUpModel", "tryNode", "(III)Z"⟩,
  ⟨"DownAsUpModel", "moveBy", "(I)I"⟩,
  ⟨"DownAsUpModel", "build", "(II)I"⟩,
  ⟨"DownAsUpModel", "findOrder", "(I)V"⟩,
  ⟨"DownAsUpModel", "buildBy", "(ZZ)Z"⟩,
  ⟨"DownAsUpModel", "worth", "(II)I"⟩,
  ⟨"DownAsUpModel", "partsOf", "(I)I"⟩,
  ⟨"DownAsUpModel", "ones", "(I)I"⟩,
  ⟨"DownAsUpModel", "common", "(II)I"⟩,
  ⟨"DownAsUpModel", "image", "()I"⟩,
  ⟨"DownAsUpModel", "restore", "()I"⟩,
  ⟨"DownAsUpModel", "sheet", "(III)I"⟩,
  ⟨"DownAsUpModel", "isSheet", "(II)Z"⟩,
  ⟨"DownAsUpModel", "drop", "(I)I"⟩,
  ⟨"DownAsUpModel", "item", "(IIIJ)I"⟩,
  ⟨"DownAsUpModel", "lacksRow", "(IIII)I"⟩,
  ⟨"DownAsUpModel", "asLane", "(IJ)J"⟩,
  ⟨"DownAsUpModel", "judged", "(IIII)I"⟩,
  ⟨"DownAsUpModel", "judge", "(III)I"⟩,
  ⟨"DownAsUpModel", "wrong", "(IIIII)I"⟩,
  ⟨"DownAsUpModel", "film", "(III)I"⟩,
  ⟨"DownAsUpModel", "copy", "(IIIII)I"⟩,
  ⟨"java/lang/String", "indexOf", "(I)I"⟩,
  ⟨"java/lang/String", "indexOf", "(II)I"⟩,
  ⟨"java/lang/String", "isLatin1", "()Z"⟩,
  ⟨"java/lang/String", "length", "()I"⟩,
  ⟨"java/lang/String", "coder", "()B"⟩,
  ⟨"java/lang/StringLatin1", "indexOf", "([BIII)I"⟩,
  ⟨"java/lang/StringLatin1", "canEncode", "(I)Z"⟩,
  ⟨"java/lang/StringLatin1", "indexOfChar", "([BIII)I"⟩,
  ⟨"DownAsUpLaw", "law", "([I)Z"⟩]
def eBy : Nat → ByteArray
  | 0 => prog_1_method_1_code
  | 1 => prog_6_method_1_code
  | 2 => prog_5_method_1_code
  | 3 => prog_7_method_1_code
  | 4 => prog_3_method_1_code
  | 5 => prog_2_method_1_code
  | 6 => prog_4_method_1_code
  | 7 => prog_1_method_2_code
  | 8 => prog_6_method_2_code
  | 9 => prog_6_method_3_code
  | 10 => prog_6_method_4_code
  | 11 => prog_6_method_5_code
  | 12 => prog_6_method_8_code
  | 13 => prog_6_method_7_code
  | 14 => prog_6_method_9_code
  | 15 => prog_6_method_11_code
  | 16 => prog_7_method_2_code
  | 17 => prog_1_method_3_code
  | 18 => prog_6_method_6_code
  | 19 => prog_1_method_4_code
  | 20 => prog_6_method_19_code
  | 21 => prog_1_method_5_code
  | 22 => prog_6_method_10_code
  | 23 => prog_6_method_12_code
  | 24 => prog_1_method_6_code
  | 25 => prog_1_method_7_code
  | 26 => prog_1_method_8_code
  | 27 => prog_5_method_2_code
  | 28 => prog_5_method_3_code
  | 29 => prog_5_method_4_code
  | 30 => prog_1_method_9_code
  | 31 => prog_6_method_14_code
  | 32 => prog_6_method_13_code
  | 33 => prog_5_method_6_code
  | 34 => prog_5_method_8_code
  | 35 => prog_5_method_9_code
  | 36 => prog_13_method_65_code
  | 37 => prog_13_method_69_code
  | 38 => prog_5_method_11_code
  | 39 => prog_5_method_14_code
  | 40 => prog_5_method_10_code
  | 41 => prog_5_method_12_code
  | 42 => prog_5_method_13_code
  | 43 => prog_1_method_11_code
  | 44 => prog_5_method_5_code
  | 45 => prog_1_method_10_code
  | 46 => prog_5_method_7_code
  | 47 => prog_1_method_12_code
  | 48 => prog_6_method_17_code
  | 49 => prog_6_method_20_code
  | 50 => prog_1_method_13_code
  | 51 => prog_6_method_22_code
  | 52 => prog_6_method_23_code
  | 53 => prog_6_method_18_code
  | 54 => prog_6_method_15_code
  | 55 => prog_6_method_16_code
  | 56 => prog_6_method_21_code
  | 57 => prog_1_method_14_code
  | 58 => prog_6_method_24_code
  | 59 => prog_1_method_15_code
  | 60 => prog_7_method_3_code
  | 61 => prog_7_method_10_code
  | 62 => prog_7_method_11_code
  | 63 => prog_7_method_12_code
  | 64 => prog_7_method_13_code
  | 65 => prog_18_method_104_code
  | 66 => prog_18_method_30_code
  | 67 => prog_7_method_14_code
  | 68 => prog_18_method_123_code
  | 69 => prog_7_method_15_code
  | 70 => prog_7_method_16_code
  | 71 => prog_7_method_17_code
  | 72 => prog_7_method_18_code
  | 73 => prog_1_method_16_code
  | 74 => prog_1_method_17_code
  | 75 => prog_3_method_2_code
  | 76 => prog_18_method_103_code
  | 77 => prog_3_method_3_code
  | 78 => prog_3_method_4_code
  | 79 => prog_3_method_5_code
  | 80 => prog_3_method_6_code
  | 81 => prog_3_method_8_code
  | 82 => prog_3_method_9_code
  | 83 => prog_3_method_7_code
  | 84 => prog_13_method_59_code
  | 85 => prog_3_method_10_code
  | 86 => prog_3_method_11_code
  | 87 => prog_3_method_12_code
  | 88 => prog_1_method_18_code
  | 89 => prog_2_method_2_code
  | 90 => prog_2_method_3_code
  | 91 => prog_2_method_4_code
  | 92 => prog_2_method_5_code
  | 93 => prog_2_method_6_code
  | 94 => prog_2_method_7_code
  | 95 => prog_2_method_8_code
  | 96 => prog_1_method_19_code
  | 97 => prog_7_method_4_code
  | 98 => prog_7_method_7_code
  | 99 => prog_7_method_8_code
  | 100 => prog_7_method_6_code
  | 101 => prog_7_method_9_code
  | 102 => prog_12_method_49_code
  | 103 => prog_7_method_5_code
  | 104 => prog_1_method_20_code
  | 105 => prog_1_method_21_code
  | 106 => prog_1_method_22_code
  | 107 => prog_1_method_24_code
  | 108 => prog_4_method_7_code
  | 109 => prog_4_method_3_code
  | 110 => prog_4_method_2_code
  | 111 => prog_4_method_4_code
  | 112 => prog_4_method_6_code
  | 113 => prog_1_method_25_code
  | 114 => prog_1_method_26_code
  | 115 => prog_4_method_10_code
  | 116 => prog_1_method_23_code
  | 117 => prog_1_method_27_code
  | 118 => prog_4_method_8_code
  | 119 => prog_18_method_102_code
  | 120 => prog_1_method_28_code
  | 121 => prog_4_method_9_code
  | 122 => prog_1_method_29_code
  | 123 => prog_4_method_11_code
  | 124 => prog_1_method_30_code
  | 125 => prog_1_method_31_code
  | 126 => prog_4_method_5_code
  | 127 => prog_4_method_12_code
  | 128 => prog_9_method_1_code
  | 129 => prog_9_method_6_code
  | 130 => prog_9_method_2_code
  | 131 => prog_9_method_4_code
  | 132 => prog_9_method_5_code
  | 133 => prog_9_method_7_code
  | 134 => prog_9_method_9_code
  | 135 => prog_9_method_8_code
  | 136 => prog_9_method_3_code
  | 137 => prog_9_method_10_code
  | 138 => prog_9_method_11_code
  | 139 => prog_9_method_12_code
  | 140 => prog_9_method_15_code
  | 141 => prog_9_method_13_code
  | 142 => prog_9_method_14_code
  | 143 => prog_9_method_16_code
  | 144 => prog_9_method_23_code
  | 145 => prog_9_method_22_code
  | 146 => prog_9_method_21_code
  | 147 => prog_9_method_17_code
  | 148 => prog_9_method_19_code
  | 149 => prog_9_method_18_code
  | 150 => prog_9_method_20_code
  | 151 => prog_9_method_24_code
  | 152 => prog_9_method_32_code
  | 153 => prog_9_method_29_code
  | 154 => prog_9_method_30_code
  | 155 => prog_9_method_28_code
  | 156 => prog_9_method_27_code
  | 157 => prog_9_method_25_code
  | 158 => prog_9_method_26_code
  | 159 => prog_9_method_34_code
  | 160 => prog_9_method_33_code
  | 161 => prog_9_method_31_code
  | 162 => prog_9_method_39_code
  | 163 => prog_9_method_38_code
  | 164 => prog_9_method_37_code
  | 165 => prog_9_method_35_code
  | 166 => prog_9_method_36_code
  | 167 => prog_9_method_40_code
  | 168 => prog_9_method_46_code
  | 169 => prog_9_method_44_code
  | 170 => prog_9_method_42_code
  | 171 => prog_9_method_41_code
  | 172 => prog_9_method_43_code
  | 173 => prog_9_method_45_code
  | 174 => prog_9_method_49_code
  | 175 => prog_9_method_47_code
  | 176 => prog_9_method_48_code
  | 177 => prog_9_method_53_code
  | 178 => prog_9_method_50_code
  | 179 => prog_9_method_52_code
  | 180 => prog_9_method_51_code
  | 181 => prog_9_method_54_code
  | 182 => prog_9_method_55_code
  | 183 => prog_9_method_58_code
  | 184 => prog_9_method_56_code
  | 185 => prog_9_method_59_code
  | 186 => prog_9_method_61_code
  | 187 => prog_9_method_60_code
  | 188 => prog_9_method_57_code
  | 189 => prog_9_method_63_code
  | 190 => prog_9_method_62_code
  | 191 => prog_9_method_64_code
  | 192 => prog_9_method_65_code
  | 193 => prog_9_method_66_code
  | 194 => prog_14_method_79_code
  | 195 => prog_14_method_80_code
  | 196 => prog_14_method_154_code
  | 197 => prog_14_method_54_code
  | 198 => prog_14_method_152_code
  | 199 => prog_15_method_22_code
  | 200 => prog_15_method_4_code
  | 201 => prog_15_method_23_code
  | 202 => code
  | _ => ⟨#[]⟩
def eMx : List Nat := [1, 1, 1, 1, 1, 1, 1, 6, 1, 1, 1, 1, 3, 1, 1, 6, 1, 3, 2, 3, 3, 2, 1, 2, 4, 3, 4, 6, 2, 5, 2, 2, 1, 3, 8, 1, 2, 2, 5, 1, 2, 3, 5, 4, 1, 2, 4, 2, 4, 4, 3, 5, 3, 5, 2, 2, 2, 3, 3, 2, 2, 5, 3, 4, 4, 5, 3, 7, 3, 8, 3, 6, 7, 1, 3, 5, 4, 3, 3, 1, 6, 5, 4, 3, 1, 3, 6, 6, 4, 1, 4, 5, 4, 4, 8, 8, 5, 6, 4, 4, 2, 4, 1, 2, 1, 1, 7, 5, 5, 2, 1, 2, 4, 6, 7, 3, 9, 4, 4, 6, 2, 3, 7, 7, 6, 6, 3, 6, 2, 6, 6, 3, 7, 3, 3, 4, 2, 2, 4, 3, 2, 4, 4, 5, 3, 5, 4, 1, 5, 3, 4, 3, 3, 6, 5, 7, 5, 4, 2, 3, 3, 1, 3, 7, 9, 2, 8, 3, 7, 5, 4, 2, 4, 5, 4, 4, 7, 6, 4, 3, 5, 2, 2, 5, 2, 2, 7, 5, 3, 6, 11, 10, 7, 7, 2, 3, 1, 1, 1, 4, 1, 6, 4]
def eRt : List (Option FieldType) := [none, none, none, none, none, none, none, (some .int), (some .boolean), (some .boolean), (some .boolean), (some .boolean), (some .boolean), (some .int), (some .boolean), none, none, (some .int), (some .boolean), (some .int), (some .boolean), (some .int), (some .boolean), none, (some .int), (some .int), (some .int), (some .boolean), (some .boolean), none, (some .int), none, none, (some .boolean), (some .boolean), (some .char), (some .int), (some .int), (some .int), (some .boolean), (some .boolean), (some .int), (some .int), (some .int), none, (some .int), (some .boolean), (some .int), (some .int), (some .int), (some .int), (some .boolean), (some .boolean), (some .int), (some .int), (some .int), (some .boolean), (some .int), none, (some .int), none, (some .boolean), none, none, none, none, none, (some .boolean), (some (.array .int)), (some .boolean), (some .int), none, (some .int), (some .int), (some .int), none, none, none, none, (some .boolean), (some .int), none, (some .boolean), (some .int), (some .int), (some .int), (some .int), none, (some .int), (some .boolean), none, none, none, (some .boolean), (some .boolean), (some .boolean), (some .int), (some .int), (some .int), (some .boolean), (some .boolean), (some .int), (some .int), (some .int), (some .int), (some .int), (some .int), (some .int), (some .int), (some .boolean), (some .boolean), (some .boolean), (some .boolean), (some .int), (some .boolean), (some .long), (some .int), (some .int), none, none, (some .int), (some .int), (some .int), none, (some .int), (some .int), (some .boolean), none, none, (some .int), (some .boolean), (some .boolean), none, (some .int), (some .int), (some .boolean), (some .boolean), (some .int), (some .int), (some .int), (some .int), (some .int), (some .int), (some .int), (some .int), (some .boolean), (some .boolean), (some .int), (some .int), (some .boolean), (some .int), (some .int), (some .int), (some .boolean), (some .boolean), (some .boolean), (some .int), (some .int), (some .int), (some .int), none, (some .int), (some .int), (some .int), (some .int), none, (some .int), (some .int), (some .int), (some .int), (some .int), (some .int), (some .boolean), (some .int), (some .int), none, (some .boolean), (some .int), (some .int), (some .int), (some .int), (some .int), (some .int), (some .int), (some .boolean), (some .int), (some .int), (some .int), (some .long), (some .int), (some .int), (some .int), (some .int), (some .int), (some .int), (some .int), (some .boolean), (some .int), (some .byte), (some .int), (some .boolean), (some .int), (some .boolean)]
def eOw : List Nat := [6, 4, 3, 5, 1, 0, 2, 6, 4, 4, 4, 4, 4, 4, 4, 4, 5, 6, 4, 6, 4, 6, 4, 4, 6, 6, 6, 3, 3, 3, 6, 4, 4, 3, 3, 3, 8, 8, 3, 3, 3, 3, 3, 6, 3, 6, 3, 6, 4, 4, 6, 4, 4, 4, 4, 4, 4, 6, 4, 6, 5, 5, 5, 5, 5, 10, 10, 5, 10, 5, 5, 5, 5, 6, 6, 1, 10, 1, 1, 1, 1, 1, 1, 1, 8, 1, 1, 1, 6, 0, 0, 0, 0, 0, 0, 0, 6, 5, 5, 5, 5, 5, 9, 5, 6, 6, 6, 6, 2, 2, 2, 2, 2, 6, 6, 2, 6, 6, 2, 10, 6, 2, 6, 2, 6, 6, 2, 2, 7, 7, 7, 7, 7, 7, 7, 7, 7, 7, 7, 7, 7, 7, 7, 7, 7, 7, 7, 7, 7, 7, 7, 7, 7, 7, 7, 7, 7, 7, 7, 7, 7, 7, 7, 7, 7, 7, 7, 7, 7, 7, 7, 7, 7, 7, 7, 7, 7, 7, 7, 7, 7, 7, 7, 7, 7, 7, 7, 7, 7, 7, 7, 7, 7, 7, 11, 11, 11, 11, 11, 12, 12, 12, 13]
def eNa : List Nat := [0, 0, 0, 0, 0, 0, 0, 5, 1, 1, 1, 1, 1, 0, 0, 5, 0, 2, 1, 1, 1, 1, 0, 1, 2, 1, 2, 2, 1, 2, 0, 1, 0, 1, 1, 0, 2, 2, 2, 1, 1, 1, 1, 2, 0, 0, 1, 1, 1, 1, 2, 2, 2, 2, 1, 1, 1, 2, 2, 1, 1, 2, 1, 2, 2, 4, 3, 1, 2, 3, 2, 1, 4, 0, 2, 3, 2, 2, 2, 0, 0, 0, 2, 2, 1, 0, 1, 2, 2, 1, 2, 1, 1, 1, 3, 3, 2, 2, 1, 2, 2, 2, 1, 1, 0, 0, 4, 4, 4, 2, 1, 1, 3, 4, 2, 2, 5, 3, 3, 4, 1, 1, 4, 3, 3, 5, 2, 5, 0, 5, 3, 1, 5, 2, 1, 1, 2, 1, 2, 1, 1, 1, 1, 2, 0, 1, 1, 0, 2, 1, 1, 0, 2, 3, 4, 3, 2, 1, 1, 2, 2, 1, 1, 0, 2, 0, 3, 0, 2, 0, 2, 1, 3, 1, 2, 1, 2, 2, 1, 1, 2, 0, 0, 3, 2, 1, 4, 4, 2, 4, 3, 5, 3, 5, 1, 2, 0, 0, 0, 4, 1, 4, 1]
def eFr : List Nat := [2, 1, 1, 1, 1, 1, 1, 2, 0, 0, 0, 0, 1, 0, 0, 0, 0, 1, 0, 2, 0, 2, 0, 0, 1, 2, 1, 0, 0, 0, 9, 1, 0, 8, 7, 0, 0, 0, 1, 0, 1, 1, 2, 2, 0, 4, 3, 1, 0, 0, 3, 2, 2, 1, 0, 0, 1, 3, 2, 6, 5, 4, 2, 1, 1, 1, 0, 3, 2, 1, 0, 2, 1, 6, 5, 1, 0, 0, 0, 0, 4, 3, 2, 1, 0, 0, 1, 0, 5, 0, 1, 0, 0, 4, 3, 3, 7, 6, 5, 1, 0, 0, 0, 0, 2, 2, 5, 3, 2, 1, 0, 0, 0, 4, 3, 0, 5, 3, 2, 1, 1, 0, 3, 0, 6, 2, 0, 1, 1, 2, 0, 1, 0, 1, 2, 1, 0, 2, 1, 2, 2, 1, 0, 1, 4, 3, 2, 0, 1, 1, 1, 4, 4, 2, 3, 2, 1, 0, 0, 4, 2, 0, 5, 4, 3, 2, 0, 4, 3, 2, 1, 0, 0, 0, 5, 0, 4, 4, 1, 0, 0, 0, 0, 2, 1, 1, 2, 1, 0, 5, 4, 5, 5, 1, 6, 5, 0, 1, 0, 1, 0, 0, 10]
def eLo : List Nat := [40, 20, 20, 20, 20, 20, 20, 42, 0, 0, 0, 0, 20, 0, 0, 0, 0, 21, 0, 42, 0, 42, 0, 0, 20, 42, 25, 0, 0, 0, 208, 68, 0, 186, 159, 0, 0, 0, 21, 0, 20, 20, 42, 89, 0, 112, 66, 23, 0, 0, 67, 42, 45, 21, 0, 0, 23, 67, 45, 161, 140, 116, 44, 21, 20, 22, 0, 90, 68, 22, 0, 48, 22, 161, 114, 23, 0, 0, 0, 0, 89, 65, 42, 20, 0, 0, 25, 0, 117, 0, 24, 0, 0, 94, 67, 67, 188, 163, 140, 21, 0, 0, 0, 0, 89, 89, 118, 65, 41, 20, 0, 0, 0, 93, 67, 0, 118, 70, 47, 22, 22, 0, 65, 0, 161, 93, 0, 68, 20, 47, 0, 25, 0, 25, 47, 21, 0, 47, 25, 47, 44, 21, 0, 25, 96, 72, 49, 0, 25, 20, 25, 96, 94, 47, 70, 44, 23, 0, 0, 94, 47, 0, 122, 96, 68, 47, 0, 96, 72, 44, 21, 0, 0, 0, 120, 0, 94, 96, 21, 0, 0, 0, 0, 46, 25, 25, 49, 25, 0, 124, 94, 124, 122, 25, 138, 116, 0, 20, 0, 25, 0, 0, 229]
def eCd0 : List (Nat × Instr × Nat) := [(0, .aload_n 0, 1), (1, .invokespecial 1, 3), (4, .aload_n 0, 1), (5, .new 7, 3), (8, .dup, 1), (9, .invokespecial 9, 3), (12, .putfield 10, 3), (15, .aload_n 0, 1), (16, .new 7, 3), (19, .dup, 1), (20, .invokespecial 9, 3), (23, .putfield 16, 3), (26, .aload_n 0, 1), (27, .new 7, 3), (30, .dup, 1), (31, .invokespecial 9, 3), (34, .putfield 19, 3), (37, .aload_n 0, 1), (38, .new 22, 3), (41, .dup, 1), (42, .invokespecial 24, 3), (45, .putfield 25, 3), (48, .aload_n 0, 1), (49, .new 29, 3), (52, .dup, 1), (53, .invokespecial 31, 3), (56, .putfield 32, 3), (59, .aload_n 0, 1), (60, .new 36, 3), (63, .dup, 1), (64, .invokespecial 38, 3), (67, .putfield 39, 3), (70, .aload_n 0, 1), (71, .new 43, 3), (74, .dup, 1), (75, .invokespecial 45, 3), (78, .putfield 46, 3), (81, .aload_n 0, 1), (82, .new 50, 3), (85, .dup, 1), (86, .invokespecial 52, 3), (89, .putfield 53, 3), (92, .return_, 1)]
def eCd1 : List (Nat × Instr × Nat) := [(0, .aload_n 0, 1), (1, .invokespecial 1, 3), (4, .aload_n 0, 1), (5, .bipush 8, 2), (7, .newarray .int, 2), (9, .putfield 9, 3), (12, .aload_n 0, 1), (13, .bipush 8, 2), (15, .newarray .int, 2), (17, .putfield 13, 3), (20, .aload_n 0, 1), (21, .bipush 8, 2), (23, .newarray .int, 2), (25, .putfield 16, 3), (28, .aload_n 0, 1), (29, .bipush 8, 2), (31, .newarray .int, 2), (33, .putfield 19, 3), (36, .aload_n 0, 1), (37, .bipush 8, 2), (39, .newarray .int, 2), (41, .putfield 22, 3), (44, .aload_n 0, 1), (45, .iconst 4, 1), (46, .newarray .int, 2), (48, .putfield 25, 3), (51, .aload_n 0, 1), (52, .sipush 200, 3), (55, .putfield 28, 3), (58, .return_, 1)]
def eCd2 : List (Nat × Instr × Nat) := [(0, .aload_n 0, 1), (1, .invokespecial 1, 3), (4, .aload_n 0, 1), (5, .sipush 160, 3), (8, .newarray .char, 2), (10, .putfield 9, 3), (13, .return_, 1)]
def eCd3 : List (Nat × Instr × Nat) := [(0, .aload_n 0, 1), (1, .invokespecial 5, 3), (4, .aload_n 0, 1), (5, .sipush 256, 3), (8, .newarray .int, 2), (10, .putfield 13, 3), (13, .aload_n 0, 1), (14, .sipush 256, 3), (17, .newarray .int, 2), (19, .putfield 17, 3), (22, .aload_n 0, 1), (23, .sipush 256, 3), (26, .newarray .int, 2), (28, .putfield 20, 3), (31, .aload_n 0, 1), (32, .sipush 256, 3), (35, .newarray .boolean, 2), (37, .putfield 23, 3), (40, .aload_n 0, 1), (41, .sipush 256, 3), (44, .newarray .boolean, 2), (46, .putfield 27, 3), (49, .aload_n 0, 1), (50, .sipush 256, 3), (53, .newarray .int, 2), (55, .putfield 30, 3), (58, .aload_n 0, 1), (59, .sipush 2048, 3), (62, .newarray .int, 2), (64, .putfield 33, 3), (67, .aload_n 0, 1), (68, .sipush 256, 3), (71, .newarray .int, 2), (73, .putfield 36, 3), (76, .return_, 1)]
def eCd4 : List (Nat × Instr × Nat) := [(0, .aload_n 0, 1), (1, .invokespecial 3, 3), (4, .aload_n 0, 1), (5, .bipush 9, 2), (7, .newarray .int, 2), (9, .putfield 11, 3), (12, .aload_n 0, 1), (13, .bipush 9, 2), (15, .newarray .int, 2), (17, .putfield 15, 3), (20, .aload_n 0, 1), (21, .bipush 9, 2), (23, .newarray .int, 2), (25, .putfield 18, 3), (28, .aload_n 0, 1), (29, .bipush 9, 2), (31, .newarray .int, 2), (33, .putfield 21, 3), (36, .aload_n 0, 1), (37, .bipush 8, 2), (39, .newarray .int, 2), (41, .putfield 24, 3), (44, .aload_n 0, 1), (45, .bipush 8, 2), (47, .newarray .int, 2), (49, .putfield 27, 3), (52, .aload_n 0, 1), (53, .bipush 8, 2), (55, .newarray .int, 2), (57, .putfield 30, 3), (60, .aload_n 0, 1), (61, .bipush 8, 2), (63, .newarray .int, 2), (65, .putfield 33, 3), (68, .aload_n 0, 1), (69, .bipush 72, 2), (71, .newarray .int, 2), (73, .putfield 36, 3), (76, .return_, 1)]
def eCd5 : List (Nat × Instr × Nat) := [(0, .aload_n 0, 1), (1, .invokespecial 1, 3), (4, .aload_n 0, 1), (5, .bipush 8, 2), (7, .newarray .int, 2), (9, .putfield 9, 3), (12, .return_, 1)]
def eCd6 : List (Nat × Instr × Nat) := [(0, .aload_n 0, 1), (1, .invokespecial 3, 3), (4, .aload_n 0, 1), (5, .bipush 96, 2), (7, .newarray .long, 2), (9, .putfield 11, 3), (12, .aload_n 0, 1), (13, .iconst 4, 1), (14, .newarray .int, 2), (16, .putfield 15, 3), (19, .aload_n 0, 1), (20, .iconst 4, 1), (21, .newarray .int, 2), (23, .dup, 1), (24, .iconst 0, 1), (25, .iconst (-1), 1), (26, .iastore, 1), (27, .dup, 1), (28, .iconst 1, 1), (29, .iconst (-1), 1), (30, .iastore, 1), (31, .dup, 1), (32, .iconst 2, 1), (33, .iconst (-1), 1), (34, .iastore, 1), (35, .dup, 1), (36, .iconst 3, 1), (37, .iconst (-1), 1), (38, .iastore, 1), (39, .putfield 19, 3), (42, .return_, 1)]
def eCd7 : List (Nat × Instr × Nat) := [(0, .iload_n 1, 1), (1, .invokestatic 57, 3), (4, .ifCond .eq 17, 3), (7, .iload_n 2, 1), (8, .invokestatic 61, 3), (11, .ifCond .eq 10, 3), (14, .iload_n 3, 1), (15, .invokestatic 64, 3), (18, .ifCond .ne 5, 3), (21, .iconst (-1), 1), (22, .ireturn, 1), (23, .iload 4, 2), (25, .invokestatic 67, 3), (28, .ifCond .eq 16, 3), (31, .aload_n 0, 1), (32, .getfield 10, 3), (35, .iload 5, 2), (37, .i2l, 1), (38, .invokevirtual 70, 3), (41, .ifCond .ne 5, 3), (44, .iconst (-1), 1), (45, .ireturn, 1), (46, .aload_n 0, 1), (47, .getfield 10, 3), (50, .invokevirtual 74, 3), (53, .ifCond .eq 6, 3), (56, .bipush (-3), 2), (58, .ireturn, 1), (59, .aload_n 0, 1), (60, .getfield 10, 3), (63, .iload_n 1, 1), (64, .iload_n 2, 1), (65, .iload_n 3, 1), (66, .iload 4, 2), (68, .iload 5, 2), (70, .invokevirtual 78, 3), (73, .aload_n 0, 1), (74, .getfield 32, 3), (77, .invokevirtual 82, 3), (80, .aload_n 0, 1), (81, .getfield 10, 3), (84, .getfield 85, 3), (87, .iconst 1, 1), (88, .isub, 1), (89, .ireturn, 1)]
def eCd8 : List (Nat × Instr × Nat) := [(0, .iload_n 0, 1), (1, .ifCond .lt 12, 3), (4, .iload_n 0, 1), (5, .iconst 3, 1), (6, .if_icmp .gt 7, 3), (9, .iconst 1, 1), (10, .goto 4, 3), (13, .iconst 0, 1), (14, .ireturn, 1)]
def eCd9 : List (Nat × Instr × Nat) := [(0, .iload_n 0, 1), (1, .iconst 1, 1), (2, .if_icmp .lt 13, 3), (5, .iload_n 0, 1), (6, .bipush 99, 2), (8, .if_icmp .gt 7, 3), (11, .iconst 1, 1), (12, .goto 4, 3), (15, .iconst 0, 1), (16, .ireturn, 1)]
def eCd10 : List (Nat × Instr × Nat) := [(0, .iload_n 0, 1), (1, .ifCond .lt 13, 3), (4, .iload_n 0, 1), (5, .bipush 99, 2), (7, .if_icmp .gt 7, 3), (10, .iconst 1, 1), (11, .goto 4, 3), (14, .iconst 0, 1), (15, .ireturn, 1)]
def eCd11 : List (Nat × Instr × Nat) := [(0, .iload_n 0, 1), (1, .ifCond .lt 12, 3), (4, .iload_n 0, 1), (5, .iconst 4, 1), (6, .if_icmp .ge 7, 3), (9, .iconst 1, 1), (10, .goto 4, 3), (13, .iconst 0, 1), (14, .ireturn, 1)]
def eCd12 : List (Nat × Instr × Nat) := [(0, .lload_n 1, 1), (1, .lconst 0, 1), (2, .lcmp, 1), (3, .ifCond .lt 17, 3), (6, .lload_n 1, 1), (7, .aload_n 0, 1), (8, .invokevirtual 35, 3), (11, .i2l, 1), (12, .lcmp, 1), (13, .ifCond .gt 7, 3), (16, .iconst 1, 1), (17, .goto 4, 3), (20, .iconst 0, 1), (21, .ireturn, 1)]
def eCd13 : List (Nat × Instr × Nat) := [(0, .iconst 1, 1), (1, .aload_n 0, 1), (2, .getfield 32, 3), (5, .ishl, 1), (6, .iconst 1, 1), (7, .isub, 1), (8, .ireturn, 1)]
def eCd14 : List (Nat × Instr × Nat) := [(0, .aload_n 0, 1), (1, .getfield 32, 3), (4, .bipush 8, 2), (6, .if_icmp .lt 7, 3), (9, .iconst 1, 1), (10, .goto 4, 3), (13, .iconst 0, 1), (14, .ireturn, 1)]
def eCd15 : List (Nat × Instr × Nat) := [(0, .aload_n 0, 1), (1, .getfield 9, 3), (4, .aload_n 0, 1), (5, .getfield 32, 3), (8, .iload_n 1, 1), (9, .iastore, 1), (10, .aload_n 0, 1), (11, .getfield 13, 3), (14, .aload_n 0, 1), (15, .getfield 32, 3), (18, .iload_n 2, 1), (19, .iastore, 1), (20, .aload_n 0, 1), (21, .getfield 16, 3), (24, .aload_n 0, 1), (25, .getfield 32, 3), (28, .iload_n 3, 1), (29, .iastore, 1), (30, .aload_n 0, 1), (31, .getfield 19, 3), (34, .aload_n 0, 1), (35, .getfield 32, 3), (38, .iload 4, 2), (40, .iastore, 1), (41, .aload_n 0, 1), (42, .getfield 22, 3), (45, .aload_n 0, 1), (46, .getfield 32, 3), (49, .iload 5, 2), (51, .iastore, 1), (52, .aload_n 0, 1), (53, .dup, 1), (54, .getfield 32, 3), (57, .iconst 1, 1), (58, .iadd, 1), (59, .putfield 32, 3), (62, .return_, 1)]
def eCd16 : List (Nat × Instr × Nat) := [(0, .aload_n 0, 1), (1, .iconst 0, 1), (2, .putfield 39, 3), (5, .aload_n 0, 1), (6, .iconst 0, 1), (7, .putfield 43, 3), (10, .aload_n 0, 1), (11, .iconst 0, 1), (12, .putfield 46, 3), (15, .return_, 1)]
def eCd17 : List (Nat × Instr × Nat) := [(0, .aload_n 0, 1), (1, .getfield 10, 3), (4, .iload_n 1, 1), (5, .invokevirtual 89, 3), (8, .ifCond .ne 5, 3), (11, .iconst (-1), 1), (12, .ireturn, 1), (13, .iload_n 2, 1), (14, .tableswitch 100 0 5 #[38, 48, 58, 68, 78, 88], 38), (52, .aload_n 0, 1), (53, .getfield 10, 3), (56, .getfield 92, 3), (59, .iload_n 1, 1), (60, .iaload, 1), (61, .ireturn, 1), (62, .aload_n 0, 1), (63, .getfield 10, 3), (66, .getfield 96, 3), (69, .iload_n 1, 1), (70, .iaload, 1), (71, .ireturn, 1), (72, .aload_n 0, 1), (73, .getfield 10, 3), (76, .getfield 99, 3), (79, .iload_n 1, 1), (80, .iaload, 1), (81, .ireturn, 1), (82, .aload_n 0, 1), (83, .getfield 10, 3), (86, .getfield 102, 3), (89, .iload_n 1, 1), (90, .iaload, 1), (91, .ireturn, 1), (92, .aload_n 0, 1), (93, .getfield 10, 3), (96, .getfield 105, 3), (99, .iload_n 1, 1), (100, .iaload, 1), (101, .ireturn, 1), (102, .aload_n 0, 1), (103, .getfield 10, 3), (106, .getfield 108, 3), (109, .iload_n 1, 1), (110, .ishr, 1), (111, .iconst 1, 1), (112, .iand, 1), (113, .ireturn, 1), (114, .iconst (-1), 1), (115, .ireturn, 1)]
def eCd18 : List (Nat × Instr × Nat) := [(0, .iload_n 1, 1), (1, .ifCond .lt 15, 3), (4, .iload_n 1, 1), (5, .aload_n 0, 1), (6, .getfield 32, 3), (9, .if_icmp .ge 7, 3), (12, .iconst 1, 1), (13, .goto 4, 3), (16, .iconst 0, 1), (17, .ireturn, 1)]
def eCd19 : List (Nat × Instr × Nat) := [(0, .aload_n 0, 1), (1, .getfield 10, 3), (4, .iload_n 1, 1), (5, .i2l, 1), (6, .invokevirtual 70, 3), (9, .ifCond .ne 5, 3), (12, .iconst (-1), 1), (13, .ireturn, 1), (14, .aload_n 0, 1), (15, .getfield 10, 3), (18, .iload_n 1, 1), (19, .invokevirtual 111, 3), (22, .ifCond .ne 6, 3), (25, .bipush (-2), 2), (27, .ireturn, 1), (28, .aload_n 0, 1), (29, .getfield 10, 3), (32, .getfield 108, 3), (35, .istore_n 2, 1), (36, .aload_n 0, 1), (37, .getfield 10, 3), (40, .iload_n 1, 1), (41, .putfield 108, 3), (44, .aload_n 0, 1), (45, .getfield 32, 3), (48, .invokevirtual 82, 3), (51, .iload_n 2, 1), (52, .ireturn, 1)]
def eCd20 : List (Nat × Instr × Nat) := [(0, .iconst 0, 1), (1, .istore_n 2, 1), (2, .iload_n 2, 1), (3, .aload_n 0, 1), (4, .getfield 32, 3), (7, .if_icmp .ge 33, 3), (10, .iload_n 1, 1), (11, .iload_n 2, 1), (12, .ishr, 1), (13, .iconst 1, 1), (14, .iand, 1), (15, .iconst 1, 1), (16, .if_icmp .ne 18, 3), (19, .aload_n 0, 1), (20, .getfield 22, 3), (23, .iload_n 2, 1), (24, .iaload, 1), (25, .iload_n 1, 1), (26, .iconst (-1), 1), (27, .ixor, 1), (28, .iand, 1), (29, .ifCond .eq 5, 3), (32, .iconst 0, 1), (33, .ireturn, 1), (34, .iinc 2 1, 3), (37, .goto (-35), 3), (40, .iconst 1, 1), (41, .ireturn, 1)]
def eCd21 : List (Nat × Instr × Nat) := [(0, .iload_n 1, 1), (1, .ifCond .eq 15, 3), (4, .aload_n 0, 1), (5, .getfield 10, 3), (8, .iload_n 1, 1), (9, .i2l, 1), (10, .invokevirtual 70, 3), (13, .ifCond .ne 5, 3), (16, .iconst (-1), 1), (17, .ireturn, 1), (18, .aload_n 0, 1), (19, .getfield 10, 3), (22, .invokevirtual 114, 3), (25, .ifCond .eq 6, 3), (28, .bipush (-3), 2), (30, .ireturn, 1), (31, .aload_n 0, 1), (32, .getfield 10, 3), (35, .iload_n 1, 1), (36, .invokevirtual 117, 3), (39, .aload_n 0, 1), (40, .getfield 32, 3), (43, .invokevirtual 82, 3), (46, .aload_n 0, 1), (47, .getfield 10, 3), (50, .getfield 121, 3), (53, .iconst 1, 1), (54, .isub, 1), (55, .ireturn, 1)]
def eCd22 : List (Nat × Instr × Nat) := [(0, .aload_n 0, 1), (1, .getfield 39, 3), (4, .iconst 4, 1), (5, .if_icmp .lt 7, 3), (8, .iconst 1, 1), (9, .goto 4, 3), (12, .iconst 0, 1), (13, .ireturn, 1)]
def eCd23 : List (Nat × Instr × Nat) := [(0, .aload_n 0, 1), (1, .getfield 25, 3), (4, .aload_n 0, 1), (5, .getfield 39, 3), (8, .iload_n 1, 1), (9, .iastore, 1), (10, .aload_n 0, 1), (11, .dup, 1), (12, .getfield 39, 3), (15, .iconst 1, 1), (16, .iadd, 1), (17, .putfield 39, 3), (20, .return_, 1)]
def eCd24 : List (Nat × Instr × Nat) := [(0, .iload_n 1, 1), (1, .ifCond .ne 39, 3), (4, .iload_n 2, 1), (5, .ifCond .lt 35, 3), (8, .iload_n 2, 1), (9, .sipush 999, 3), (12, .if_icmp .gt 28, 3), (15, .aload_n 0, 1), (16, .getfield 10, 3), (19, .getfield 124, 3), (22, .istore_n 3, 1), (23, .aload_n 0, 1), (24, .getfield 10, 3), (27, .iload_n 2, 1), (28, .putfield 124, 3), (31, .aload_n 0, 1), (32, .getfield 32, 3), (35, .invokevirtual 82, 3), (38, .iload_n 3, 1), (39, .ireturn, 1), (40, .iload_n 1, 1), (41, .iconst 1, 1), (42, .if_icmp .ne 40, 3), (45, .iload_n 2, 1), (46, .iconst 1, 1), (47, .if_icmp .lt 35, 3), (50, .iload_n 2, 1), (51, .sipush 999, 3), (54, .if_icmp .gt 28, 3), (57, .aload_n 0, 1), (58, .getfield 10, 3), (61, .getfield 127, 3), (64, .istore_n 3, 1), (65, .aload_n 0, 1), (66, .getfield 10, 3), (69, .iload_n 2, 1), (70, .putfield 127, 3), (73, .aload_n 0, 1), (74, .getfield 32, 3), (77, .invokevirtual 82, 3), (80, .iload_n 3, 1), (81, .ireturn, 1), (82, .iconst (-1), 1), (83, .ireturn, 1)]
def eCd25 : List (Nat × Instr × Nat) := [(0, .aload_n 0, 1), (1, .getfield 10, 3), (4, .iload_n 1, 1), (5, .i2l, 1), (6, .invokevirtual 70, 3), (9, .ifCond .ne 5, 3), (12, .iconst (-1), 1), (13, .ireturn, 1), (14, .aload_n 0, 1), (15, .getfield 10, 3), (18, .getfield 130, 3), (21, .istore_n 2, 1), (22, .aload_n 0, 1), (23, .getfield 10, 3), (26, .iload_n 1, 1), (27, .putfield 130, 3), (30, .aload_n 0, 1), (31, .getfield 32, 3), (34, .invokevirtual 82, 3), (37, .iload_n 2, 1), (38, .ireturn, 1)]
def eCd26 : List (Nat × Instr × Nat) := [(0, .iload_n 3, 1), (1, .iconst 1, 1), (2, .if_icmp .lt 17, 3), (5, .iload_n 3, 1), (6, .bipush 8, 2), (8, .if_icmp .gt 11, 3), (11, .lload_n 1, 1), (12, .iload_n 3, 1), (13, .invokestatic 133, 3), (16, .ifCond .ne 5, 3), (19, .iconst (-1), 1), (20, .ireturn, 1), (21, .aload_n 0, 1), (22, .getfield 25, 3), (25, .iload_n 3, 1), (26, .invokevirtual 137, 3), (29, .ifCond .ne 6, 3), (32, .bipush (-3), 2), (34, .ireturn, 1), (35, .aload_n 0, 1), (36, .getfield 25, 3), (39, .lload_n 1, 1), (40, .iload_n 3, 1), (41, .invokevirtual 140, 3), (44, .aload_n 0, 1), (45, .getfield 25, 3), (48, .getfield 144, 3), (51, .ireturn, 1)]
def eCd27 : List (Nat × Instr × Nat) := [(0, .iconst 0, 1), (1, .istore_n 3, 1), (2, .iload_n 3, 1), (3, .iload_n 2, 1), (4, .if_icmp .ge 41, 3), (7, .lload_n 0, 1), (8, .bipush 8, 2), (10, .iload_n 3, 1), (11, .imul, 1), (12, .lushr, 1), (13, .ldc2_w 13, 3), (16, .land, 1), (17, .lstore 4, 2), (19, .lload 4, 2), (21, .ldc2_w 15, 3), (24, .lcmp, 1), (25, .ifCond .lt 12, 3), (28, .lload 4, 2), (30, .ldc2_w 17, 3), (33, .lcmp, 1), (34, .ifCond .le 5, 3), (37, .iconst 0, 1), (38, .ireturn, 1), (39, .iinc 3 1, 3), (42, .goto (-40), 3), (45, .iconst 1, 1), (46, .ireturn, 1)]
def eCd28 : List (Nat × Instr × Nat) := [(0, .iload_n 1, 1), (1, .sipush 160, 3), (4, .aload_n 0, 1), (5, .getfield 19, 3), (8, .isub, 1), (9, .if_icmp .gt 7, 3), (12, .iconst 1, 1), (13, .goto 4, 3), (16, .iconst 0, 1), (17, .ireturn, 1)]
def eCd29 : List (Nat × Instr × Nat) := [(0, .iload_n 3, 1), (1, .iconst 1, 1), (2, .isub, 1), (3, .istore 4, 2), (5, .iload 4, 2), (7, .ifCond .lt 41, 3), (10, .aload_n 0, 1), (11, .getfield 9, 3), (14, .aload_n 0, 1), (15, .getfield 19, 3), (18, .lload_n 1, 1), (19, .bipush 8, 2), (21, .iload 4, 2), (23, .imul, 1), (24, .lushr, 1), (25, .ldc2_w 13, 3), (28, .land, 1), (29, .l2i, 1), (30, .i2c, 1), (31, .castore, 1), (32, .aload_n 0, 1), (33, .dup, 1), (34, .getfield 19, 3), (37, .iconst 1, 1), (38, .iadd, 1), (39, .putfield 19, 3), (42, .iinc 4 (-1), 3), (45, .goto (-40), 3), (48, .return_, 1)]
def eCd30 : List (Nat × Instr × Nat) := [(0, .aload_n 0, 1), (1, .getfield 19, 3), (4, .aload_n 0, 1), (5, .getfield 10, 3), (8, .invokevirtual 147, 3), (11, .aload_n 0, 1), (12, .getfield 19, 3), (15, .invokevirtual 151, 3), (18, .aload_n 0, 1), (19, .getfield 25, 3), (22, .aload_n 0, 1), (23, .getfield 19, 3), (26, .invokevirtual 154, 3), (29, .istore_n 1, 1), (30, .aload_n 0, 1), (31, .iload_n 1, 1), (32, .aload_n 0, 1), (33, .getfield 19, 3), (36, .getfield 85, 3), (39, .invokevirtual 158, 3), (42, .ireturn, 1)]
def eCd31 : List (Nat × Instr × Nat) := [(0, .aload_n 1, 1), (1, .getfield 9, 3), (4, .iconst 0, 1), (5, .aload_n 0, 1), (6, .getfield 9, 3), (9, .iconst 0, 1), (10, .bipush 8, 2), (12, .invokestatic 48, 3), (15, .aload_n 1, 1), (16, .getfield 13, 3), (19, .iconst 0, 1), (20, .aload_n 0, 1), (21, .getfield 13, 3), (24, .iconst 0, 1), (25, .bipush 8, 2), (27, .invokestatic 48, 3), (30, .aload_n 1, 1), (31, .getfield 16, 3), (34, .iconst 0, 1), (35, .aload_n 0, 1), (36, .getfield 16, 3), (39, .iconst 0, 1), (40, .bipush 8, 2), (42, .invokestatic 48, 3), (45, .aload_n 1, 1), (46, .getfield 19, 3), (49, .iconst 0, 1), (50, .aload_n 0, 1), (51, .getfield 19, 3), (54, .iconst 0, 1), (55, .bipush 8, 2), (57, .invokestatic 48, 3), (60, .aload_n 1, 1), (61, .getfield 22, 3), (64, .iconst 0, 1), (65, .aload_n 0, 1), (66, .getfield 22, 3), (69, .iconst 0, 1), (70, .bipush 8, 2), (72, .invokestatic 48, 3), (75, .aload_n 1, 1), (76, .getfield 25, 3), (79, .iconst 0, 1), (80, .aload_n 0, 1), (81, .getfield 25, 3), (84, .iconst 0, 1), (85, .iconst 4, 1), (86, .invokestatic 48, 3), (89, .aload_n 0, 1), (90, .aload_n 1, 1), (91, .getfield 32, 3), (94, .putfield 32, 3), (97, .aload_n 0, 1), (98, .aload_n 1, 1), (99, .getfield 39, 3), (102, .putfield 39, 3), (105, .aload_n 0, 1), (106, .aload_n 1, 1), (107, .getfield 42, 3), (110, .putfield 42, 3), (113, .aload_n 0, 1), (114, .aload_n 1, 1), (115, .getfield 45, 3), (118, .putfield 45, 3), (121, .aload_n 0, 1), (122, .aload_n 1, 1), (123, .getfield 54, 3), (126, .putfield 54, 3), (129, .aload_n 0, 1), (130, .aload_n 1, 1), (131, .getfield 28, 3), (134, .putfield 28, 3), (137, .return_, 1)]
def eCd32 : List (Nat × Instr × Nat) := [(0, .aload_n 0, 1), (1, .iconst 0, 1), (2, .putfield 32, 3), (5, .aload_n 0, 1), (6, .iconst 0, 1), (7, .putfield 39, 3), (10, .aload_n 0, 1), (11, .iconst 0, 1), (12, .putfield 42, 3), (15, .aload_n 0, 1), (16, .iconst 0, 1), (17, .putfield 45, 3), (20, .return_, 1)]
def eCd33 : List (Nat × Instr × Nat) := [(0, .aload_n 0, 1), (1, .iconst 0, 1), (2, .putfield 23, 3), (5, .iconst 1, 1), (6, .istore_n 2, 1), (7, .iload_n 2, 1), (8, .bipush 8, 2), (10, .if_icmp .gt 45, 3), (13, .aload_n 0, 1), (14, .aload_n 1, 1), (15, .invokevirtual 28, 3), (18, .ifCond .ne 5, 3), (21, .iconst 0, 1), (22, .ireturn, 1), (23, .aload_n 0, 1), (24, .invokevirtual 32, 3), (27, .ifCond .ne 5, 3), (30, .iconst 1, 1), (31, .ireturn, 1), (32, .iload_n 2, 1), (33, .bipush 8, 2), (35, .if_icmp .eq 12, 3), (38, .aload_n 0, 1), (39, .bipush 44, 2), (41, .invokevirtual 36, 3), (44, .ifCond .ne 5, 3), (47, .iconst 0, 1), (48, .ireturn, 1), (49, .iinc 2 1, 3), (52, .goto (-45), 3), (55, .iconst 0, 1), (56, .ireturn, 1)]
def eCd34 : List (Nat × Instr × Nat) := [(0, .ldc 51, 2), (2, .aload_n 0, 1), (3, .invokevirtual 32, 3), (6, .invokevirtual 53, 3), (9, .istore_n 2, 1), (10, .iload_n 2, 1), (11, .ifCond .ge 5, 3), (14, .iconst 0, 1), (15, .ireturn, 1), (16, .aload_n 0, 1), (17, .dup, 1), (18, .getfield 23, 3), (21, .iconst 1, 1), (22, .iadd, 1), (23, .putfield 23, 3), (26, .aload_n 0, 1), (27, .iconst 1, 1), (28, .bipush 99, 2), (30, .invokevirtual 58, 3), (33, .istore_n 3, 1), (34, .iload_n 3, 1), (35, .ifCond .ge 5, 3), (38, .iconst 0, 1), (39, .ireturn, 1), (40, .aload_n 0, 1), (41, .bipush 64, 2), (43, .invokevirtual 36, 3), (46, .ifCond .eq 13, 3), (49, .aload_n 0, 1), (50, .iconst 0, 1), (51, .bipush 99, 2), (53, .invokevirtual 58, 3), (56, .goto 4, 3), (59, .iconst 0, 1), (60, .istore 4, 2), (62, .iload 4, 2), (64, .ifCond .ge 5, 3), (67, .iconst 0, 1), (68, .ireturn, 1), (69, .aload_n 0, 1), (70, .bipush 111, 2), (72, .invokevirtual 36, 3), (75, .ifCond .eq 11, 3), (78, .aload_n 0, 1), (79, .iconst 4, 1), (80, .invokevirtual 62, 3), (83, .goto 4, 3), (86, .iconst 0, 1), (87, .istore 5, 2), (89, .iload 5, 2), (91, .ifCond .ge 5, 3), (94, .iconst 0, 1), (95, .ireturn, 1), (96, .aload_n 0, 1), (97, .bipush 47, 2), (99, .invokevirtual 36, 3), (102, .ifCond .eq 14, 3), (105, .aload_n 0, 1), (106, .aload_n 1, 1), (107, .getfield 40, 3), (110, .invokevirtual 43, 3), (113, .goto 4, 3), (116, .iconst 0, 1), (117, .istore 6, 2), (119, .iload 6, 2), (121, .ifCond .ge 5, 3), (124, .iconst 0, 1), (125, .ireturn, 1), (126, .aload_n 0, 1), (127, .invokevirtual 32, 3), (130, .bipush 42, 2), (132, .if_icmp .ne 7, 3), (135, .iconst 1, 1), (136, .goto 4, 3), (139, .iconst 0, 1), (140, .istore 7, 2), (142, .iload 7, 2), (144, .ifCond .eq 17, 3), (147, .iload 6, 2), (149, .aload_n 1, 1), (150, .getfield 65, 3), (153, .iconst (-1), 1), (154, .ixor, 1), (155, .iand, 1), (156, .ifCond .eq 5, 3), (159, .iconst 0, 1), (160, .ireturn, 1), (161, .iload 7, 2), (163, .ifCond .eq 28, 3), (166, .aload_n 0, 1), (167, .dup, 1), (168, .getfield 23, 3), (171, .iconst 1, 1), (172, .iadd, 1), (173, .putfield 23, 3), (176, .aload_n 1, 1), (177, .dup, 1), (178, .getfield 65, 3), (181, .iconst 1, 1), (182, .aload_n 1, 1), (183, .getfield 40, 3), (186, .ishl, 1), (187, .ior, 1), (188, .putfield 65, 3), (191, .aload_n 1, 1), (192, .iload_n 2, 1), (193, .iload_n 3, 1), (194, .iload 4, 2), (196, .iload 5, 2), (198, .iload 6, 2), (200, .invokevirtual 68, 3), (203, .iconst 1, 1), (204, .ireturn, 1)]
def eCd35 : List (Nat × Instr × Nat) := [(0, .aload_n 0, 1), (1, .getfield 23, 3), (4, .aload_n 0, 1), (5, .getfield 19, 3), (8, .if_icmp .ge 30, 3), (11, .aload_n 0, 1), (12, .getfield 9, 3), (15, .aload_n 0, 1), (16, .getfield 23, 3), (19, .caload, 1), (20, .bipush 32, 2), (22, .if_icmp .ne 16, 3), (25, .aload_n 0, 1), (26, .dup, 1), (27, .getfield 23, 3), (30, .iconst 1, 1), (31, .iadd, 1), (32, .putfield 23, 3), (35, .goto (-35), 3), (38, .aload_n 0, 1), (39, .getfield 23, 3), (42, .aload_n 0, 1), (43, .getfield 19, 3), (46, .if_icmp .ge 15, 3), (49, .aload_n 0, 1), (50, .getfield 9, 3), (53, .aload_n 0, 1), (54, .getfield 23, 3), (57, .caload, 1), (58, .goto 4, 3), (61, .iconst 0, 1), (62, .ireturn, 1)]
def eCd36 : List (Nat × Instr × Nat) := [(0, .iload_n 0, 1), (1, .iload_n 1, 1), (2, .if_icmp .lt 7, 3), (5, .iload_n 0, 1), (6, .goto 4, 3), (9, .iload_n 1, 1), (10, .ireturn, 1)]
def eCd37 : List (Nat × Instr × Nat) := [(0, .iload_n 0, 1), (1, .iload_n 1, 1), (2, .if_icmp .gt 7, 3), (5, .iload_n 0, 1), (6, .goto 4, 3), (9, .iload_n 1, 1), (10, .ireturn, 1)]
def eCd38 : List (Nat × Instr × Nat) := [(0, .aload_n 0, 1), (1, .invokevirtual 32, 3), (4, .pop, 1), (5, .aload_n 0, 1), (6, .getfield 23, 3), (9, .istore_n 3, 1), (10, .iconst 0, 1), (11, .istore 4, 2), (13, .aload_n 0, 1), (14, .getfield 23, 3), (17, .aload_n 0, 1), (18, .getfield 19, 3), (21, .if_icmp .ge 57, 3), (24, .aload_n 0, 1), (25, .getfield 9, 3), (28, .aload_n 0, 1), (29, .getfield 23, 3), (32, .caload, 1), (33, .invokestatic 72, 3), (36, .ifCond .eq 42, 3), (39, .iload_n 2, 1), (40, .iconst 1, 1), (41, .iadd, 1), (42, .iload 4, 2), (44, .bipush 10, 2), (46, .imul, 1), (47, .aload_n 0, 1), (48, .getfield 9, 3), (51, .aload_n 0, 1), (52, .getfield 23, 3), (55, .caload, 1), (56, .iadd, 1), (57, .bipush 48, 2), (59, .isub, 1), (60, .invokestatic 75, 3), (63, .istore 4, 2), (65, .aload_n 0, 1), (66, .dup, 1), (67, .getfield 23, 3), (70, .iconst 1, 1), (71, .iadd, 1), (72, .putfield 23, 3), (75, .goto (-62), 3), (78, .aload_n 0, 1), (79, .getfield 23, 3), (82, .iload_n 3, 1), (83, .if_icmp .eq 15, 3), (86, .iload 4, 2), (88, .iload_n 1, 1), (89, .if_icmp .lt 9, 3), (92, .iload 4, 2), (94, .iload_n 2, 1), (95, .if_icmp .le 10, 3), (98, .aload_n 0, 1), (99, .iload_n 3, 1), (100, .putfield 23, 3), (103, .iconst (-1), 1), (104, .ireturn, 1), (105, .iload 4, 2), (107, .ireturn, 1)]
def eCd39 : List (Nat × Instr × Nat) := [(0, .iload_n 0, 1), (1, .bipush 48, 2), (3, .if_icmp .lt 13, 3), (6, .iload_n 0, 1), (7, .bipush 57, 2), (9, .if_icmp .gt 7, 3), (12, .iconst 1, 1), (13, .goto 4, 3), (16, .iconst 0, 1), (17, .ireturn, 1)]
def eCd40 : List (Nat × Instr × Nat) := [(0, .aload_n 0, 1), (1, .invokevirtual 32, 3), (4, .iload_n 1, 1), (5, .if_icmp .eq 5, 3), (8, .iconst 0, 1), (9, .ireturn, 1), (10, .aload_n 0, 1), (11, .dup, 1), (12, .getfield 23, 3), (15, .iconst 1, 1), (16, .iadd, 1), (17, .putfield 23, 3), (20, .iconst 1, 1), (21, .ireturn, 1)]
def eCd41 : List (Nat × Instr × Nat) := [(0, .aload_n 0, 1), (1, .invokevirtual 32, 3), (4, .istore_n 2, 1), (5, .iload_n 2, 1), (6, .invokestatic 72, 3), (9, .ifCond .eq 11, 3), (12, .iload_n 2, 1), (13, .bipush 48, 2), (15, .isub, 1), (16, .iload_n 1, 1), (17, .if_icmp .lt 5, 3), (20, .iconst (-1), 1), (21, .ireturn, 1), (22, .aload_n 0, 1), (23, .dup, 1), (24, .getfield 23, 3), (27, .iconst 1, 1), (28, .iadd, 1), (29, .putfield 23, 3), (32, .iload_n 2, 1), (33, .bipush 48, 2), (35, .isub, 1), (36, .ireturn, 1)]
def eCd42 : List (Nat × Instr × Nat) := [(0, .iconst 0, 1), (1, .istore_n 2, 1), (2, .iconst 0, 1), (3, .istore_n 3, 1), (4, .iload_n 3, 1), (5, .sipush 160, 3), (8, .if_icmp .ge 66, 3), (11, .iload_n 2, 1), (12, .ifCond .eq 13, 3), (15, .aload_n 0, 1), (16, .invokevirtual 32, 3), (19, .invokestatic 72, 3), (22, .ifCond .eq 52, 3), (25, .aload_n 0, 1), (26, .iload_n 1, 1), (27, .invokevirtual 62, 3), (30, .istore 4, 2), (32, .iload 4, 2), (34, .ifCond .ge 5, 3), (37, .iconst (-1), 1), (38, .ireturn, 1), (39, .iload_n 2, 1), (40, .iload 4, 2), (42, .ishr, 1), (43, .iconst 1, 1), (44, .iand, 1), (45, .iconst 1, 1), (46, .if_icmp .ne 15, 3), (49, .aload_n 0, 1), (50, .dup, 1), (51, .getfield 23, 3), (54, .iconst 1, 1), (55, .isub, 1), (56, .putfield 23, 3), (59, .iconst (-1), 1), (60, .ireturn, 1), (61, .iload_n 2, 1), (62, .iconst 1, 1), (63, .iload 4, 2), (65, .ishl, 1), (66, .ior, 1), (67, .istore_n 2, 1), (68, .iinc 3 1, 3), (71, .goto (-67), 3), (74, .iload_n 2, 1), (75, .ireturn, 1)]
def eCd43 : List (Nat × Instr × Nat) := [(0, .aload_n 0, 1), (1, .getfield 25, 3), (4, .getfield 165, 3), (7, .istore_n 3, 1), (8, .aload_n 0, 1), (9, .getfield 25, 3), (12, .invokevirtual 168, 3), (15, .iload_n 1, 1), (16, .ifCond .ne 8, 3), (19, .bipush (-20), 2), (21, .iload_n 3, 1), (22, .isub, 1), (23, .ireturn, 1), (24, .aload_n 0, 1), (25, .getfield 10, 3), (28, .aload_n 0, 1), (29, .getfield 19, 3), (32, .invokevirtual 147, 3), (35, .aload_n 0, 1), (36, .getfield 32, 3), (39, .invokevirtual 82, 3), (42, .iload_n 2, 1), (43, .ireturn, 1)]
def eCd44 : List (Nat × Instr × Nat) := [(0, .aload_n 0, 1), (1, .iconst 0, 1), (2, .putfield 19, 3), (5, .aload_n 0, 1), (6, .iconst 0, 1), (7, .putfield 23, 3), (10, .return_, 1)]
def eCd45 : List (Nat × Instr × Nat) := [(0, .aload_n 0, 1), (1, .getfield 19, 3), (4, .aload_n 0, 1), (5, .getfield 10, 3), (8, .invokevirtual 147, 3), (11, .aload_n 0, 1), (12, .getfield 19, 3), (15, .iconst 0, 1), (16, .putfield 121, 3), (19, .aload_n 0, 1), (20, .getfield 25, 3), (23, .aload_n 0, 1), (24, .getfield 19, 3), (27, .invokevirtual 162, 3), (30, .istore_n 1, 1), (31, .aload_n 0, 1), (32, .iload_n 1, 1), (33, .aload_n 0, 1), (34, .getfield 19, 3), (37, .getfield 121, 3), (40, .invokevirtual 158, 3), (43, .ireturn, 1)]
def eCd46 : List (Nat × Instr × Nat) := [(0, .aload_n 0, 1), (1, .iconst 0, 1), (2, .putfield 23, 3), (5, .iconst 1, 1), (6, .istore_n 2, 1), (7, .iload_n 2, 1), (8, .iconst 4, 1), (9, .if_icmp .gt 54, 3), (12, .aload_n 0, 1), (13, .aload_n 1, 1), (14, .getfield 40, 3), (17, .invokevirtual 43, 3), (20, .istore_n 3, 1), (21, .iload_n 3, 1), (22, .ifCond .ge 5, 3), (25, .iconst 0, 1), (26, .ireturn, 1), (27, .aload_n 1, 1), (28, .iload_n 3, 1), (29, .invokevirtual 47, 3), (32, .aload_n 0, 1), (33, .invokevirtual 32, 3), (36, .ifCond .ne 5, 3), (39, .iconst 1, 1), (40, .ireturn, 1), (41, .iload_n 2, 1), (42, .iconst 4, 1), (43, .if_icmp .eq 12, 3), (46, .aload_n 0, 1), (47, .bipush 44, 2), (49, .invokevirtual 36, 3), (52, .ifCond .ne 5, 3), (55, .iconst 0, 1), (56, .ireturn, 1), (57, .iinc 2 1, 3), (60, .goto (-53), 3), (63, .iconst 0, 1), (64, .ireturn, 1)]
def eCd47 : List (Nat × Instr × Nat) := [(0, .iload_n 1, 1), (1, .tableswitch 101 0 5 #[39, 47, 55, 63, 71, 86], 39), (40, .aload_n 0, 1), (41, .getfield 10, 3), (44, .getfield 85, 3), (47, .ireturn, 1), (48, .aload_n 0, 1), (49, .getfield 10, 3), (52, .getfield 108, 3), (55, .ireturn, 1), (56, .aload_n 0, 1), (57, .getfield 10, 3), (60, .getfield 124, 3), (63, .ireturn, 1), (64, .aload_n 0, 1), (65, .getfield 10, 3), (68, .getfield 121, 3), (71, .ireturn, 1), (72, .aload_n 0, 1), (73, .getfield 10, 3), (76, .aload_n 0, 1), (77, .getfield 10, 3), (80, .getfield 108, 3), (83, .invokevirtual 171, 3), (86, .ireturn, 1), (87, .aload_n 0, 1), (88, .getfield 10, 3), (91, .aload_n 0, 1), (92, .getfield 10, 3), (95, .getfield 108, 3), (98, .invokevirtual 175, 3), (101, .ireturn, 1), (102, .iconst (-1), 1), (103, .ireturn, 1)]
def eCd48 : List (Nat × Instr × Nat) := [(0, .iconst 0, 1), (1, .istore_n 2, 1), (2, .iconst 0, 1), (3, .istore_n 3, 1), (4, .iload_n 3, 1), (5, .aload_n 0, 1), (6, .getfield 32, 3), (9, .if_icmp .ge 27, 3), (12, .iload_n 1, 1), (13, .iload_n 3, 1), (14, .ishr, 1), (15, .iconst 1, 1), (16, .iand, 1), (17, .iconst 1, 1), (18, .if_icmp .ne 12, 3), (21, .iload_n 2, 1), (22, .aload_n 0, 1), (23, .getfield 13, 3), (26, .iload_n 3, 1), (27, .iaload, 1), (28, .iadd, 1), (29, .istore_n 2, 1), (30, .iinc 3 1, 3), (33, .goto (-29), 3), (36, .iload_n 2, 1), (37, .ireturn, 1)]
def eCd49 : List (Nat × Instr × Nat) := [(0, .iconst 0, 1), (1, .istore_n 2, 1), (2, .iconst 0, 1), (3, .istore_n 3, 1), (4, .iload_n 3, 1), (5, .aload_n 0, 1), (6, .getfield 39, 3), (9, .if_icmp .ge 26, 3), (12, .aload_n 0, 1), (13, .getfield 25, 3), (16, .iload_n 3, 1), (17, .iaload, 1), (18, .iload_n 1, 1), (19, .iand, 1), (20, .ifCond .eq 9, 3), (23, .iload_n 2, 1), (24, .iconst 1, 1), (25, .iload_n 3, 1), (26, .ishl, 1), (27, .ior, 1), (28, .istore_n 2, 1), (29, .iinc 3 1, 3), (32, .goto (-28), 3), (35, .iload_n 2, 1), (36, .ireturn, 1)]
def eCd50 : List (Nat × Instr × Nat) := [(0, .aload_n 0, 1), (1, .getfield 10, 3), (4, .iload_n 1, 1), (5, .i2l, 1), (6, .iload_n 2, 1), (7, .i2l, 1), (8, .invokevirtual 178, 3), (11, .ifCond .ne 5, 3), (14, .iconst (-1), 1), (15, .ireturn, 1), (16, .aload_n 0, 1), (17, .getfield 10, 3), (20, .iload_n 1, 1), (21, .iload_n 2, 1), (22, .invokevirtual 182, 3), (25, .ifCond .eq 7, 3), (28, .iconst 1, 1), (29, .goto 4, 3), (32, .iconst 0, 1), (33, .ireturn, 1)]
def eCd51 : List (Nat × Instr × Nat) := [(0, .aload_n 0, 1), (1, .lload_n 1, 1), (2, .invokevirtual 67, 3), (5, .ifCond .eq 41, 3), (8, .aload_n 0, 1), (9, .lload_n 3, 1), (10, .invokevirtual 67, 3), (13, .ifCond .eq 33, 3), (16, .lload_n 1, 1), (17, .aload_n 0, 1), (18, .getfield 42, 3), (21, .iconst (-1), 1), (22, .ixor, 1), (23, .i2l, 1), (24, .land, 1), (25, .lconst 0, 1), (26, .lcmp, 1), (27, .ifCond .ne 19, 3), (30, .lload_n 3, 1), (31, .aload_n 0, 1), (32, .getfield 42, 3), (35, .i2l, 1), (36, .land, 1), (37, .lconst 0, 1), (38, .lcmp, 1), (39, .ifCond .ne 7, 3), (42, .iconst 1, 1), (43, .goto 4, 3), (46, .iconst 0, 1), (47, .ireturn, 1)]
def eCd52 : List (Nat × Instr × Nat) := [(0, .aload_n 0, 1), (1, .iload_n 1, 1), (2, .iload_n 2, 1), (3, .invokevirtual 71, 3), (6, .ifCond .lt 53, 3), (9, .aload_n 0, 1), (10, .iload_n 1, 1), (11, .iload_n 2, 1), (12, .ior, 1), (13, .invokevirtual 75, 3), (16, .aload_n 0, 1), (17, .getfield 28, 3), (20, .if_icmp .gt 39, 3), (23, .aload_n 0, 1), (24, .aload_n 0, 1), (25, .getfield 42, 3), (28, .iload_n 1, 1), (29, .iconst (-1), 1), (30, .ixor, 1), (31, .iand, 1), (32, .iload_n 2, 1), (33, .ior, 1), (34, .invokevirtual 78, 3), (37, .ifCond .eq 22, 3), (40, .aload_n 0, 1), (41, .aload_n 0, 1), (42, .getfield 42, 3), (45, .iload_n 1, 1), (46, .iconst (-1), 1), (47, .ixor, 1), (48, .iand, 1), (49, .invokevirtual 82, 3), (52, .ifCond .eq 7, 3), (55, .iconst 1, 1), (56, .goto 4, 3), (59, .iconst 0, 1), (60, .ireturn, 1)]
def eCd53 : List (Nat × Instr × Nat) := [(0, .aload_n 0, 1), (1, .getfield 54, 3), (4, .istore_n 3, 1), (5, .iconst 0, 1), (6, .istore 4, 2), (8, .iload 4, 2), (10, .aload_n 0, 1), (11, .getfield 32, 3), (14, .if_icmp .ge 50, 3), (17, .iload_n 1, 1), (18, .iload 4, 2), (20, .ishr, 1), (21, .iconst 1, 1), (22, .iand, 1), (23, .iconst 1, 1), (24, .if_icmp .ne 15, 3), (27, .iload_n 3, 1), (28, .aload_n 0, 1), (29, .iload 4, 2), (31, .invokevirtual 57, 3), (34, .iadd, 1), (35, .istore_n 3, 1), (36, .goto 22, 3), (39, .iload_n 2, 1), (40, .iload 4, 2), (42, .ishr, 1), (43, .iconst 1, 1), (44, .iand, 1), (45, .iconst 1, 1), (46, .if_icmp .ne 12, 3), (49, .iload_n 3, 1), (50, .aload_n 0, 1), (51, .iload 4, 2), (53, .invokevirtual 61, 3), (56, .iadd, 1), (57, .istore_n 3, 1), (58, .iinc 4 1, 3), (61, .goto (-53), 3), (64, .iload_n 3, 1), (65, .ireturn, 1)]
def eCd54 : List (Nat × Instr × Nat) := [(0, .aload_n 0, 1), (1, .getfield 9, 3), (4, .iload_n 1, 1), (5, .iaload, 1), (6, .tableswitch 52 1 3 #[26, 35, 43], 26), (32, .aload_n 0, 1), (33, .getfield 13, 3), (36, .iload_n 1, 1), (37, .iaload, 1), (38, .iconst 1, 1), (39, .isub, 1), (40, .ireturn, 1), (41, .aload_n 0, 1), (42, .getfield 13, 3), (45, .iload_n 1, 1), (46, .iaload, 1), (47, .ineg, 1), (48, .ireturn, 1), (49, .aload_n 0, 1), (50, .getfield 13, 3), (53, .iload_n 1, 1), (54, .iaload, 1), (55, .iconst 2, 1), (56, .idiv, 1), (57, .ireturn, 1), (58, .aload_n 0, 1), (59, .getfield 13, 3), (62, .iload_n 1, 1), (63, .iaload, 1), (64, .ireturn, 1)]
def eCd55 : List (Nat × Instr × Nat) := [(0, .aload_n 0, 1), (1, .getfield 9, 3), (4, .iload_n 1, 1), (5, .iaload, 1), (6, .iconst 2, 1), (7, .if_icmp .ne 12, 3), (10, .aload_n 0, 1), (11, .getfield 13, 3), (14, .iload_n 1, 1), (15, .iaload, 1), (16, .goto 10, 3), (19, .aload_n 0, 1), (20, .getfield 13, 3), (23, .iload_n 1, 1), (24, .iaload, 1), (25, .ineg, 1), (26, .ireturn, 1)]
def eCd56 : List (Nat × Instr × Nat) := [(0, .aload_n 0, 1), (1, .iload_n 1, 1), (2, .invokevirtual 64, 3), (5, .iconst 1, 1), (6, .aload_n 0, 1), (7, .getfield 39, 3), (10, .ishl, 1), (11, .iconst 1, 1), (12, .isub, 1), (13, .if_icmp .ne 7, 3), (16, .iconst 1, 1), (17, .goto 4, 3), (20, .iconst 0, 1), (21, .ireturn, 1)]
def eCd57 : List (Nat × Instr × Nat) := [(0, .aload_n 0, 1), (1, .getfield 10, 3), (4, .iload_n 1, 1), (5, .i2l, 1), (6, .iload_n 2, 1), (7, .i2l, 1), (8, .invokevirtual 178, 3), (11, .ifCond .ne 5, 3), (14, .iconst (-1), 1), (15, .ireturn, 1), (16, .aload_n 0, 1), (17, .getfield 10, 3), (20, .iload_n 1, 1), (21, .iload_n 2, 1), (22, .invokevirtual 182, 3), (25, .ifCond .ne 6, 3), (28, .bipush (-2), 2), (30, .ireturn, 1), (31, .aload_n 0, 1), (32, .getfield 10, 3), (35, .iload_n 1, 1), (36, .iload_n 2, 1), (37, .invokevirtual 186, 3), (40, .aload_n 0, 1), (41, .getfield 32, 3), (44, .invokevirtual 82, 3), (47, .aload_n 0, 1), (48, .getfield 10, 3), (51, .getfield 124, 3), (54, .ireturn, 1)]
def eCd58 : List (Nat × Instr × Nat) := [(0, .aload_n 0, 1), (1, .sipush 999, 3), (4, .aload_n 0, 1), (5, .iload_n 1, 1), (6, .iload_n 2, 1), (7, .invokevirtual 71, 3), (10, .invokestatic 85, 3), (13, .putfield 54, 3), (16, .aload_n 0, 1), (17, .aload_n 0, 1), (18, .getfield 42, 3), (21, .iload_n 1, 1), (22, .iconst (-1), 1), (23, .ixor, 1), (24, .iand, 1), (25, .iload_n 2, 1), (26, .ior, 1), (27, .putfield 42, 3), (30, .return_, 1)]
def eCd59 : List (Nat × Instr × Nat) := [(0, .iload_n 1, 1), (1, .iconst (-1), 1), (2, .if_icmp .lt 10, 3), (5, .iload_n 1, 1), (6, .sipush 255, 3), (9, .if_icmp .le 5, 3), (12, .iconst (-1), 1), (13, .ireturn, 1), (14, .aload_n 0, 1), (15, .getfield 32, 3), (18, .aload_n 0, 1), (19, .getfield 10, 3), (22, .invokevirtual 190, 3), (25, .aload_n 0, 1), (26, .getfield 32, 3), (29, .getfield 193, 3), (32, .ifCond .eq 14, 3), (35, .iload_n 1, 1), (36, .aload_n 0, 1), (37, .getfield 32, 3), (40, .getfield 197, 3), (43, .if_icmp .lt 6, 3), (46, .bipush (-4), 2), (48, .ireturn, 1), (49, .iload_n 1, 1), (50, .iconst (-1), 1), (51, .if_icmp .ne 13, 3), (54, .aload_n 0, 1), (55, .getfield 32, 3), (58, .getfield 197, 3), (61, .goto 12, 3), (64, .aload_n 0, 1), (65, .getfield 32, 3), (68, .getfield 200, 3), (71, .iload_n 1, 1), (72, .iaload, 1), (73, .ireturn, 1)]
def eCd60 : List (Nat × Instr × Nat) := [(0, .aload_n 0, 1), (1, .getfield 43, 3), (4, .ifCond .eq 4, 3), (7, .return_, 1), (8, .aload_n 0, 1), (9, .aload_n 0, 1), (10, .aload_n 1, 1), (11, .aload_n 1, 1), (12, .invokevirtual 49, 3), (15, .invokevirtual 53, 3), (18, .putfield 57, 3), (21, .aload_n 0, 1), (22, .aload_n 0, 1), (23, .getfield 33, 3), (26, .aload_n 0, 1), (27, .getfield 60, 3), (30, .sipush 256, 3), (33, .imul, 1), (34, .aload_n 1, 1), (35, .getfield 64, 3), (38, .iadd, 1), (39, .iaload, 1), (40, .putfield 67, 3), (43, .aload_n 0, 1), (44, .aload_n 0, 1), (45, .getfield 57, 3), (48, .ifCond .eq 10, 3), (51, .aload_n 0, 1), (52, .getfield 60, 3), (55, .goto 4, 3), (58, .iconst 0, 1), (59, .putfield 70, 3), (62, .aload_n 0, 1), (63, .getfield 57, 3), (66, .ifCond .eq 8, 3), (69, .aload_n 0, 1), (70, .aload_n 1, 1), (71, .invokevirtual 73, 3), (74, .aload_n 0, 1), (75, .iconst 1, 1), (76, .putfield 43, 3), (79, .return_, 1)]
def eCd61 : List (Nat × Instr × Nat) := [(0, .aload_n 0, 1), (1, .aload_n 1, 1), (2, .invokevirtual 110, 3), (5, .aload_n 0, 1), (6, .aload_n 1, 1), (7, .iload_n 2, 1), (8, .invokevirtual 113, 3), (11, .aload_n 0, 1), (12, .iconst 0, 1), (13, .putfield 60, 3), (16, .aload_n 0, 1), (17, .getfield 33, 3), (20, .iconst 0, 1), (21, .sipush 256, 3), (24, .sipush 1000, 3), (27, .invokestatic 117, 3), (30, .aload_n 0, 1), (31, .getfield 33, 3), (34, .aload_n 1, 1), (35, .getfield 123, 3), (38, .iconst 0, 1), (39, .iastore, 1), (40, .aload_n 0, 1), (41, .getfield 23, 3), (44, .aload_n 1, 1), (45, .getfield 123, 3), (48, .baload, 1), (49, .ifCond .eq 23, 3), (52, .aload_n 1, 1), (53, .getfield 64, 3), (56, .aload_n 1, 1), (57, .getfield 123, 3), (60, .ixor, 1), (61, .iload_n 2, 1), (62, .iconst (-1), 1), (63, .ixor, 1), (64, .iand, 1), (65, .ifCond .ne 7, 3), (68, .iconst 1, 1), (69, .goto 4, 3), (72, .iconst 0, 1), (73, .istore_n 3, 1), (74, .iconst 0, 1), (75, .istore 4, 2), (77, .iload 4, 2), (79, .sipush 255, 3), (82, .if_icmp .ge 45, 3), (85, .iload_n 3, 1), (86, .ifCond .eq 41, 3), (89, .aload_n 0, 1), (90, .getfield 33, 3), (93, .iload 4, 2), (95, .sipush 256, 3), (98, .imul, 1), (99, .aload_n 1, 1), (100, .getfield 64, 3), (103, .iadd, 1), (104, .iaload, 1), (105, .aload_n 1, 1), (106, .getfield 126, 3), (109, .if_icmp .le 18, 3), (112, .aload_n 0, 1), (113, .aload_n 1, 1), (114, .invokevirtual 49, 3), (117, .invokevirtual 129, 3), (120, .istore_n 3, 1), (121, .iinc 4 1, 3), (124, .goto (-47), 3), (127, .aload_n 0, 1), (128, .getfield 33, 3), (131, .aload_n 0, 1), (132, .getfield 60, 3), (135, .sipush 256, 3), (138, .imul, 1), (139, .aload_n 1, 1), (140, .getfield 64, 3), (143, .iadd, 1), (144, .iaload, 1), (145, .aload_n 1, 1), (146, .getfield 126, 3), (149, .if_icmp .gt 7, 3), (152, .iconst 1, 1), (153, .goto 4, 3), (156, .iconst 0, 1), (157, .ireturn, 1)]
def eCd62 : List (Nat × Instr × Nat) := [(0, .aload_n 0, 1), (1, .getfield 39, 3), (4, .ifCond .eq 4, 3), (7, .return_, 1), (8, .iconst 0, 1), (9, .istore_n 2, 1), (10, .iload_n 2, 1), (11, .aload_n 1, 1), (12, .invokevirtual 49, 3), (15, .if_icmp .gt 37, 3), (18, .aload_n 0, 1), (19, .aload_n 1, 1), (20, .iload_n 2, 1), (21, .invokevirtual 133, 3), (24, .aload_n 0, 1), (25, .getfield 23, 3), (28, .iload_n 2, 1), (29, .aload_n 1, 1), (30, .iload_n 2, 1), (31, .invokevirtual 136, 3), (34, .bastore, 1), (35, .aload_n 0, 1), (36, .getfield 27, 3), (39, .iload_n 2, 1), (40, .aload_n 1, 1), (41, .iload_n 2, 1), (42, .invokevirtual 139, 3), (45, .bastore, 1), (46, .iinc 2 1, 3), (49, .goto (-39), 3), (52, .aload_n 0, 1), (53, .iconst 1, 1), (54, .putfield 39, 3), (57, .return_, 1)]
def eCd63 : List (Nat × Instr × Nat) := [(0, .aload_n 0, 1), (1, .getfield 13, 3), (4, .iload_n 2, 1), (5, .iconst 0, 1), (6, .iastore, 1), (7, .aload_n 0, 1), (8, .getfield 17, 3), (11, .iload_n 2, 1), (12, .iconst 0, 1), (13, .iastore, 1), (14, .aload_n 0, 1), (15, .getfield 20, 3), (18, .iload_n 2, 1), (19, .iconst 0, 1), (20, .iastore, 1), (21, .iconst 0, 1), (22, .istore_n 3, 1), (23, .iload_n 3, 1), (24, .aload_n 1, 1), (25, .getfield 104, 3), (28, .if_icmp .ge 61, 3), (31, .iload_n 2, 1), (32, .iload_n 3, 1), (33, .ishr, 1), (34, .iconst 1, 1), (35, .iand, 1), (36, .iconst 1, 1), (37, .if_icmp .ne 46, 3), (40, .aload_n 0, 1), (41, .getfield 13, 3), (44, .iload_n 2, 1), (45, .dup2, 1), (46, .iaload, 1), (47, .aload_n 1, 1), (48, .getfield 142, 3), (51, .iload_n 3, 1), (52, .iaload, 1), (53, .iadd, 1), (54, .iastore, 1), (55, .aload_n 0, 1), (56, .getfield 17, 3), (59, .iload_n 2, 1), (60, .dup2, 1), (61, .iaload, 1), (62, .aload_n 1, 1), (63, .iload_n 3, 1), (64, .invokevirtual 143, 3), (67, .iadd, 1), (68, .iastore, 1), (69, .aload_n 0, 1), (70, .getfield 20, 3), (73, .iload_n 2, 1), (74, .dup2, 1), (75, .iaload, 1), (76, .aload_n 1, 1), (77, .iload_n 3, 1), (78, .invokevirtual 145, 3), (81, .iadd, 1), (82, .iastore, 1), (83, .iinc 3 1, 3), (86, .goto (-63), 3), (89, .return_, 1)]
def eCd64 : List (Nat × Instr × Nat) := [(0, .aload_n 0, 1), (1, .iconst 0, 1), (2, .putfield 147, 3), (5, .iconst 1, 1), (6, .istore_n 3, 1), (7, .iload_n 3, 1), (8, .aload_n 1, 1), (9, .invokevirtual 49, 3), (12, .if_icmp .gt 50, 3), (15, .iload_n 3, 1), (16, .iload_n 2, 1), (17, .iconst (-1), 1), (18, .ixor, 1), (19, .iand, 1), (20, .ifCond .ne 36, 3), (23, .aload_n 0, 1), (24, .getfield 13, 3), (27, .iload_n 3, 1), (28, .iaload, 1), (29, .aload_n 1, 1), (30, .getfield 150, 3), (33, .if_icmp .gt 23, 3), (36, .aload_n 0, 1), (37, .getfield 30, 3), (40, .aload_n 0, 1), (41, .getfield 147, 3), (44, .iload_n 3, 1), (45, .iastore, 1), (46, .aload_n 0, 1), (47, .dup, 1), (48, .getfield 147, 3), (51, .iconst 1, 1), (52, .iadd, 1), (53, .putfield 147, 3), (56, .iinc 3 1, 3), (59, .goto (-52), 3), (62, .return_, 1)]
def eCd65 : List (Nat × Instr × Nat) := [(0, .aload_n 0, 1), (1, .arraylength, 1), (2, .iload_n 1, 1), (3, .iload_n 2, 1), (4, .invokestatic 13, 3), (7, .iload_n 1, 1), (8, .istore 4, 2), (10, .iload 4, 2), (12, .iload_n 2, 1), (13, .if_icmp .ge 14, 3), (16, .aload_n 0, 1), (17, .iload 4, 2), (19, .iload_n 3, 1), (20, .iastore, 1), (21, .iinc 4 1, 3), (24, .goto (-14), 3), (27, .return_, 1)]
def eCd66 : List (Nat × Instr × Nat) := [(0, .iload_n 1, 1), (1, .iload_n 2, 1), (2, .if_icmp .le 44, 3), (5, .new 43, 3), (8, .dup, 1), (9, .new 45, 3), (12, .dup, 1), (13, .invokespecial 47, 3), (16, .ldc 48, 2), (18, .invokevirtual 50, 3), (21, .iload_n 1, 1), (22, .invokevirtual 54, 3), (25, .ldc 57, 2), (27, .invokevirtual 50, 3), (30, .iload_n 2, 1), (31, .invokevirtual 54, 3), (34, .ldc 59, 2), (36, .invokevirtual 50, 3), (39, .invokevirtual 61, 3), (42, .invokespecial 65, 3), (45, .athrow, 1), (46, .iload_n 1, 1), (47, .ifCond .ge 12, 3), (50, .new 68, 3), (53, .dup, 1), (54, .iload_n 1, 1), (55, .invokespecial 70, 3), (58, .athrow, 1), (59, .iload_n 2, 1), (60, .iload_n 0, 1), (61, .if_icmp .le 12, 3), (64, .new 68, 3), (67, .dup, 1), (68, .iload_n 2, 1), (69, .invokespecial 70, 3), (72, .athrow, 1), (73, .return_, 1)]
def eCd67 : List (Nat × Instr × Nat) := [(0, .aload_n 0, 1), (1, .getfield 60, 3), (4, .sipush 256, 3), (7, .imul, 1), (8, .istore_n 2, 1), (9, .iload_n 2, 1), (10, .sipush 256, 3), (13, .iadd, 1), (14, .istore_n 3, 1), (15, .iload_n 3, 1), (16, .sipush 256, 3), (19, .iadd, 1), (20, .aload_n 0, 1), (21, .getfield 33, 3), (24, .arraylength, 1), (25, .if_icmp .le 21, 3), (28, .aload_n 0, 1), (29, .aload_n 0, 1), (30, .getfield 33, 3), (33, .iconst 2, 1), (34, .aload_n 0, 1), (35, .getfield 33, 3), (38, .arraylength, 1), (39, .imul, 1), (40, .invokestatic 153, 3), (43, .putfield 33, 3), (46, .aload_n 0, 1), (47, .getfield 33, 3), (50, .iload_n 2, 1), (51, .aload_n 0, 1), (52, .getfield 33, 3), (55, .iload_n 3, 1), (56, .sipush 256, 3), (59, .invokestatic 157, 3), (62, .iconst 0, 1), (63, .istore 4, 2), (65, .iconst 0, 1), (66, .istore 5, 2), (68, .iload 5, 2), (70, .iload_n 1, 1), (71, .if_icmp .gt 73, 3), (74, .aload_n 0, 1), (75, .getfield 60, 3), (78, .ifCond .ne 9, 3), (81, .sipush 1000, 3), (84, .goto 16, 3), (87, .aload_n 0, 1), (88, .getfield 33, 3), (91, .iload_n 2, 1), (92, .sipush 256, 3), (95, .isub, 1), (96, .iload 5, 2), (98, .iadd, 1), (99, .iaload, 1), (100, .istore 6, 2), (102, .aload_n 0, 1), (103, .getfield 33, 3), (106, .iload_n 2, 1), (107, .iload 5, 2), (109, .iadd, 1), (110, .iaload, 1), (111, .iload 6, 2), (113, .if_icmp .ge 25, 3), (116, .aload_n 0, 1), (117, .iload 5, 2), (119, .aload_n 0, 1), (120, .getfield 33, 3), (123, .iload_n 2, 1), (124, .iload 5, 2), (126, .iadd, 1), (127, .iaload, 1), (128, .iload_n 3, 1), (129, .invokevirtual 163, 3), (132, .ifCond .eq 6, 3), (135, .iconst 1, 1), (136, .istore 4, 2), (138, .iinc 5 1, 3), (141, .goto (-73), 3), (144, .aload_n 0, 1), (145, .dup, 1), (146, .getfield 60, 3), (149, .iconst 1, 1), (150, .iadd, 1), (151, .putfield 60, 3), (154, .iload 4, 2), (156, .ireturn, 1)]
def eCd68 : List (Nat × Instr × Nat) := [(0, .iload_n 1, 1), (1, .aload_n 0, 1), (2, .arraylength, 1), (3, .if_icmp .ne 11, 3), (6, .aload_n 0, 1), (7, .invokevirtual 316, 3), (10, .checkcast 317, 3), (13, .areturn, 1), (14, .iload_n 1, 1), (15, .newarray .int, 2), (17, .astore_n 2, 1), (18, .aload_n 0, 1), (19, .iconst 0, 1), (20, .aload_n 2, 1), (21, .iconst 0, 1), (22, .aload_n 0, 1), (23, .arraylength, 1), (24, .iload_n 1, 1), (25, .invokestatic 304, 3), (28, .invokestatic 150, 3), (31, .aload_n 2, 1), (32, .areturn, 1)]
def eCd69 : List (Nat × Instr × Nat) := [(0, .iconst 0, 1), (1, .istore 4, 2), (3, .iconst 0, 1), (4, .istore 5, 2), (6, .iload 5, 2), (8, .aload_n 0, 1), (9, .getfield 147, 3), (12, .if_icmp .ge 85, 3), (15, .iload_n 1, 1), (16, .aload_n 0, 1), (17, .getfield 30, 3), (20, .iload 5, 2), (22, .iaload, 1), (23, .ixor, 1), (24, .istore 6, 2), (26, .aload_n 0, 1), (27, .getfield 23, 3), (30, .iload 6, 2), (32, .baload, 1), (33, .ifCond .eq 58, 3), (36, .aload_n 0, 1), (37, .getfield 27, 3), (40, .iload 6, 2), (42, .iload_n 1, 1), (43, .iand, 1), (44, .baload, 1), (45, .ifCond .eq 46, 3), (48, .iconst 0, 1), (49, .iload_n 2, 1), (50, .aload_n 0, 1), (51, .iload 6, 2), (53, .iload_n 1, 1), (54, .invokevirtual 167, 3), (57, .isub, 1), (58, .invokestatic 171, 3), (61, .istore 7, 2), (63, .iload 7, 2), (65, .aload_n 0, 1), (66, .getfield 33, 3), (69, .iload_n 3, 1), (70, .iload 6, 2), (72, .iadd, 1), (73, .iaload, 1), (74, .if_icmp .ge 17, 3), (77, .aload_n 0, 1), (78, .getfield 33, 3), (81, .iload_n 3, 1), (82, .iload 6, 2), (84, .iadd, 1), (85, .iload 7, 2), (87, .iastore, 1), (88, .iconst 1, 1), (89, .istore 4, 2), (91, .iinc 5 1, 3), (94, .goto (-88), 3), (97, .iload 4, 2), (99, .ireturn, 1)]
def eCd70 : List (Nat × Instr × Nat) := [(0, .aload_n 0, 1), (1, .getfield 17, 3), (4, .iload_n 1, 1), (5, .iload_n 2, 1), (6, .iconst (-1), 1), (7, .ixor, 1), (8, .iand, 1), (9, .iaload, 1), (10, .aload_n 0, 1), (11, .getfield 20, 3), (14, .iload_n 2, 1), (15, .iload_n 1, 1), (16, .iconst (-1), 1), (17, .ixor, 1), (18, .iand, 1), (19, .iaload, 1), (20, .iadd, 1), (21, .ireturn, 1)]
def eCd71 : List (Nat × Instr × Nat) := [(0, .aload_n 1, 1), (1, .getfield 64, 3), (4, .istore_n 2, 1), (5, .aload_n 1, 1), (6, .getfield 126, 3), (9, .istore_n 3, 1), (10, .iconst 0, 1), (11, .istore 4, 2), (13, .iload 4, 2), (15, .aload_n 0, 1), (16, .getfield 70, 3), (19, .if_icmp .ge 59, 3), (22, .aload_n 0, 1), (23, .aload_n 1, 1), (24, .iload_n 2, 1), (25, .iload_n 3, 1), (26, .aload_n 0, 1), (27, .getfield 70, 3), (30, .iconst 1, 1), (31, .isub, 1), (32, .iload 4, 2), (34, .isub, 1), (35, .sipush 256, 3), (38, .imul, 1), (39, .invokevirtual 176, 3), (42, .istore 5, 2), (44, .sipush 999, 3), (47, .iload_n 3, 1), (48, .aload_n 0, 1), (49, .iload_n 2, 1), (50, .iload 5, 2), (52, .invokevirtual 167, 3), (55, .iadd, 1), (56, .invokestatic 180, 3), (59, .istore_n 3, 1), (60, .aload_n 0, 1), (61, .getfield 36, 3), (64, .iload 4, 2), (66, .iload 5, 2), (68, .iastore, 1), (69, .iload 5, 2), (71, .istore_n 2, 1), (72, .iinc 4 1, 3), (75, .goto (-62), 3), (78, .return_, 1)]
def eCd72 : List (Nat × Instr × Nat) := [(0, .iconst 0, 1), (1, .istore 5, 2), (3, .iload 5, 2), (5, .aload_n 1, 1), (6, .invokevirtual 49, 3), (9, .if_icmp .gt 82, 3), (12, .aload_n 0, 1), (13, .getfield 23, 3), (16, .iload 5, 2), (18, .baload, 1), (19, .ifCond .eq 66, 3), (22, .aload_n 0, 1), (23, .getfield 27, 3), (26, .iload_n 2, 1), (27, .iload 5, 2), (29, .iand, 1), (30, .baload, 1), (31, .ifCond .eq 54, 3), (34, .aload_n 0, 1), (35, .getfield 13, 3), (38, .iload_n 2, 1), (39, .iload 5, 2), (41, .ixor, 1), (42, .iaload, 1), (43, .aload_n 1, 1), (44, .getfield 150, 3), (47, .if_icmp .gt 38, 3), (50, .sipush 999, 3), (53, .iload_n 3, 1), (54, .aload_n 0, 1), (55, .iload_n 2, 1), (56, .iload 5, 2), (58, .invokevirtual 167, 3), (61, .iadd, 1), (62, .invokestatic 180, 3), (65, .istore 6, 2), (67, .iload 6, 2), (69, .aload_n 0, 1), (70, .getfield 33, 3), (73, .iload 4, 2), (75, .iload 5, 2), (77, .iadd, 1), (78, .iaload, 1), (79, .if_icmp .lt 6, 3), (82, .iload 5, 2), (84, .ireturn, 1), (85, .iinc 5 1, 3), (88, .goto (-85), 3), (91, .iload_n 2, 1), (92, .ireturn, 1)]
def eCd73 : List (Nat × Instr × Nat) := [(0, .aload_n 0, 1), (1, .getfield 32, 3), (4, .aload_n 0, 1), (5, .getfield 10, 3), (8, .invokevirtual 190, 3), (11, .aload_n 0, 1), (12, .getfield 32, 3), (15, .getfield 193, 3), (18, .ifCond .eq 5, 3), (21, .iconst 0, 1), (22, .ireturn, 1), (23, .aload_n 0, 1), (24, .getfield 32, 3), (27, .getfield 203, 3), (30, .sipush 999, 3), (33, .if_icmp .gt 21, 3), (36, .aload_n 0, 1), (37, .getfield 32, 3), (40, .getfield 203, 3), (43, .aload_n 0, 1), (44, .getfield 10, 3), (47, .getfield 124, 3), (50, .isub, 1), (51, .goto 5, 3), (54, .bipush (-4), 2), (56, .ireturn, 1)]
def eCd74 : List (Nat × Instr × Nat) := [(0, .aload_n 0, 1), (1, .getfield 10, 3), (4, .iload_n 1, 1), (5, .i2l, 1), (6, .iload_n 2, 1), (7, .i2l, 1), (8, .invokevirtual 178, 3), (11, .ifCond .ne 5, 3), (14, .iconst (-1), 1), (15, .ireturn, 1), (16, .aload_n 0, 1), (17, .getfield 39, 3), (20, .aload_n 0, 1), (21, .getfield 10, 3), (24, .iload_n 1, 1), (25, .iload_n 2, 1), (26, .invokevirtual 206, 3), (29, .aload_n 0, 1), (30, .getfield 39, 3), (33, .invokevirtual 210, 3), (36, .ifCond .eq 13, 3), (39, .aload_n 0, 1), (40, .getfield 39, 3), (43, .invokevirtual 213, 3), (46, .goto 5, 3), (49, .bipush (-4), 2), (51, .ireturn, 1)]
def eCd75 : List (Nat × Instr × Nat) := [(0, .aload_n 0, 1), (1, .iconst 0, 1), (2, .putfield 39, 3), (5, .aload_n 0, 1), (6, .iconst 0, 1), (7, .putfield 43, 3), (10, .aload_n 0, 1), (11, .iconst 0, 1), (12, .putfield 46, 3), (15, .aload_n 0, 1), (16, .iconst 0, 1), (17, .putfield 49, 3), (20, .aload_n 0, 1), (21, .getfield 36, 3), (24, .iconst 0, 1), (25, .invokestatic 52, 3), (28, .aload_n 0, 1), (29, .iconst 0, 1), (30, .aload_n 1, 1), (31, .getfield 58, 3), (34, .invokevirtual 61, 3), (37, .iconst 0, 1), (38, .istore 4, 2), (40, .iload 4, 2), (42, .aload_n 1, 1), (43, .getfield 65, 3), (46, .if_icmp .ge 78, 3), (49, .aload_n 1, 1), (50, .getfield 68, 3), (53, .iload 4, 2), (55, .iaload, 1), (56, .iconst 2, 1), (57, .if_icmp .eq 61, 3), (60, .iload_n 2, 1), (61, .iload 4, 2), (63, .ishr, 1), (64, .iconst 1, 1), (65, .iand, 1), (66, .iconst 1, 1), (67, .if_icmp .ne 23, 3), (70, .aload_n 0, 1), (71, .aload_n 1, 1), (72, .getfield 71, 3), (75, .iload 4, 2), (77, .iaload, 1), (78, .aload_n 1, 1), (79, .iload 4, 2), (81, .invokevirtual 74, 3), (84, .invokevirtual 61, 3), (87, .goto 31, 3), (90, .iload_n 3, 1), (91, .iload 4, 2), (93, .ishr, 1), (94, .iconst 1, 1), (95, .iand, 1), (96, .iconst 1, 1), (97, .if_icmp .ne 21, 3), (100, .aload_n 0, 1), (101, .aload_n 1, 1), (102, .getfield 71, 3), (105, .iload 4, 2), (107, .iaload, 1), (108, .aload_n 1, 1), (109, .getfield 78, 3), (112, .iload 4, 2), (114, .iaload, 1), (115, .invokevirtual 81, 3), (118, .iinc 4 1, 3), (121, .goto (-81), 3), (124, .return_, 1)]
def eCd76 : List (Nat × Instr × Nat) := [(0, .iconst 0, 1), (1, .istore_n 2, 1), (2, .aload_n 0, 1), (3, .arraylength, 1), (4, .istore_n 3, 1), (5, .iload_n 2, 1), (6, .iload_n 3, 1), (7, .if_icmp .ge 13, 3), (10, .aload_n 0, 1), (11, .iload_n 2, 1), (12, .iload_n 1, 1), (13, .iastore, 1), (14, .iinc 2 1, 3), (17, .goto (-12), 3), (20, .return_, 1)]
def eCd77 : List (Nat × Instr × Nat) := [(0, .aload_n 0, 1), (1, .getfield 11, 3), (4, .aload_n 0, 1), (5, .getfield 39, 3), (8, .iload_n 1, 1), (9, .iastore, 1), (10, .aload_n 0, 1), (11, .getfield 15, 3), (14, .aload_n 0, 1), (15, .getfield 39, 3), (18, .iload_n 2, 1), (19, .iastore, 1), (20, .aload_n 0, 1), (21, .dup, 1), (22, .getfield 39, 3), (25, .iconst 1, 1), (26, .iadd, 1), (27, .putfield 39, 3), (30, .aload_n 0, 1), (31, .dup, 1), (32, .getfield 49, 3), (35, .iload_n 2, 1), (36, .iadd, 1), (37, .putfield 49, 3), (40, .return_, 1)]
def eCd78 : List (Nat × Instr × Nat) := [(0, .aload_n 0, 1), (1, .getfield 24, 3), (4, .aload_n 0, 1), (5, .getfield 43, 3), (8, .iload_n 1, 1), (9, .iastore, 1), (10, .aload_n 0, 1), (11, .getfield 27, 3), (14, .aload_n 0, 1), (15, .getfield 43, 3), (18, .iload_n 2, 1), (19, .iastore, 1), (20, .aload_n 0, 1), (21, .dup, 1), (22, .getfield 43, 3), (25, .iconst 1, 1), (26, .iadd, 1), (27, .putfield 43, 3), (30, .aload_n 0, 1), (31, .dup, 1), (32, .getfield 46, 3), (35, .iload_n 2, 1), (36, .iadd, 1), (37, .putfield 46, 3), (40, .return_, 1)]
def eCd79 : List (Nat × Instr × Nat) := [(0, .aload_n 0, 1), (1, .getfield 49, 3), (4, .aload_n 0, 1), (5, .getfield 46, 3), (8, .if_icmp .lt 7, 3), (11, .iconst 1, 1), (12, .goto 4, 3), (15, .iconst 0, 1), (16, .ireturn, 1)]
def eCd80 : List (Nat × Instr × Nat) := [(0, .iconst 0, 1), (1, .istore_n 1, 1), (2, .sipush 792, 3), (5, .istore_n 2, 1), (6, .iconst 0, 1), (7, .istore_n 3, 1), (8, .iload_n 3, 1), (9, .iload_n 2, 1), (10, .if_icmp .ge 54, 3), (13, .aload_n 0, 1), (14, .getfield 46, 3), (17, .ifCond .le 47, 3), (20, .aload_n 0, 1), (21, .invokevirtual 84, 3), (24, .aload_n 0, 1), (25, .invokevirtual 87, 3), (28, .istore 4, 2), (30, .iload 4, 2), (32, .ifCond .ge 5, 3), (35, .iload_n 1, 1), (36, .ireturn, 1), (37, .aload_n 0, 1), (38, .getfield 30, 3), (41, .iload 4, 2), (43, .iaload, 1), (44, .istore 5, 2), (46, .iload_n 1, 1), (47, .iload 5, 2), (49, .aload_n 0, 1), (50, .iload 4, 2), (52, .invokevirtual 91, 3), (55, .imul, 1), (56, .iadd, 1), (57, .istore_n 1, 1), (58, .iinc 3 1, 3), (61, .goto (-53), 3), (64, .iload_n 1, 1), (65, .ireturn, 1)]
def eCd81 : List (Nat × Instr × Nat) := [(0, .iconst 0, 1), (1, .istore_n 1, 1), (2, .iload_n 1, 1), (3, .aload_n 0, 1), (4, .getfield 39, 3), (7, .if_icmp .ge 37, 3), (10, .aload_n 0, 1), (11, .getfield 18, 3), (14, .iload_n 1, 1), (15, .aload_n 0, 1), (16, .getfield 15, 3), (19, .iload_n 1, 1), (20, .iaload, 1), (21, .ifCond .le 7, 3), (24, .iconst 0, 1), (25, .goto 5, 3), (28, .ldc 99, 2), (30, .iastore, 1), (31, .aload_n 0, 1), (32, .getfield 21, 3), (35, .iload_n 1, 1), (36, .iconst (-1), 1), (37, .iastore, 1), (38, .iinc 1 1, 3), (41, .goto (-39), 3), (44, .iconst 0, 1), (45, .istore_n 1, 1), (46, .iload_n 1, 1), (47, .aload_n 0, 1), (48, .getfield 43, 3), (51, .if_icmp .ge 24, 3), (54, .aload_n 0, 1), (55, .getfield 30, 3), (58, .iload_n 1, 1), (59, .ldc 99, 2), (61, .iastore, 1), (62, .aload_n 0, 1), (63, .getfield 33, 3), (66, .iload_n 1, 1), (67, .iconst (-1), 1), (68, .iastore, 1), (69, .iinc 1 1, 3), (72, .goto (-26), 3), (75, .iconst 1, 1), (76, .istore_n 1, 1), (77, .iconst 0, 1), (78, .istore_n 2, 1), (79, .iload_n 2, 1), (80, .bipush 17, 2), (82, .if_icmp .ge 61, 3), (85, .iload_n 1, 1), (86, .ifCond .eq 57, 3), (89, .iconst 0, 1), (90, .istore_n 1, 1), (91, .iconst 0, 1), (92, .istore_n 3, 1), (93, .iload_n 3, 1), (94, .aload_n 0, 1), (95, .getfield 39, 3), (98, .if_icmp .ge 39, 3), (101, .iconst 0, 1), (102, .istore 4, 2), (104, .iload 4, 2), (106, .aload_n 0, 1), (107, .getfield 43, 3), (110, .if_icmp .ge 21, 3), (113, .aload_n 0, 1), (114, .iload_n 3, 1), (115, .iload 4, 2), (117, .invokevirtual 100, 3), (120, .ifCond .eq 5, 3), (123, .iconst 1, 1), (124, .istore_n 1, 1), (125, .iinc 4 1, 3), (128, .goto (-24), 3), (131, .iinc 3 1, 3), (134, .goto (-41), 3), (137, .iinc 2 1, 3), (140, .goto (-61), 3), (143, .return_, 1)]
def eCd82 : List (Nat × Instr × Nat) := [(0, .iconst 0, 1), (1, .istore_n 3, 1), (2, .aload_n 0, 1), (3, .getfield 18, 3), (6, .iload_n 1, 1), (7, .iaload, 1), (8, .ldc 99, 2), (10, .if_icmp .ge 53, 3), (13, .aload_n 0, 1), (14, .getfield 18, 3), (17, .iload_n 1, 1), (18, .iaload, 1), (19, .aload_n 0, 1), (20, .iload_n 1, 1), (21, .iload_n 2, 1), (22, .invokevirtual 104, 3), (25, .iadd, 1), (26, .aload_n 0, 1), (27, .getfield 30, 3), (30, .iload_n 2, 1), (31, .iaload, 1), (32, .if_icmp .ge 31, 3), (35, .aload_n 0, 1), (36, .getfield 30, 3), (39, .iload_n 2, 1), (40, .aload_n 0, 1), (41, .getfield 18, 3), (44, .iload_n 1, 1), (45, .iaload, 1), (46, .aload_n 0, 1), (47, .iload_n 1, 1), (48, .iload_n 2, 1), (49, .invokevirtual 104, 3), (52, .iadd, 1), (53, .iastore, 1), (54, .aload_n 0, 1), (55, .getfield 33, 3), (58, .iload_n 2, 1), (59, .iload_n 1, 1), (60, .iastore, 1), (61, .iconst 1, 1), (62, .istore_n 3, 1), (63, .aload_n 0, 1), (64, .getfield 36, 3), (67, .iload_n 1, 1), (68, .bipush 8, 2), (70, .imul, 1), (71, .iload_n 2, 1), (72, .iadd, 1), (73, .iaload, 1), (74, .ifCond .le 64, 3), (77, .aload_n 0, 1), (78, .getfield 30, 3), (81, .iload_n 2, 1), (82, .iaload, 1), (83, .ldc 99, 2), (85, .if_icmp .ge 53, 3), (88, .aload_n 0, 1), (89, .getfield 30, 3), (92, .iload_n 2, 1), (93, .iaload, 1), (94, .aload_n 0, 1), (95, .iload_n 1, 1), (96, .iload_n 2, 1), (97, .invokevirtual 104, 3), (100, .isub, 1), (101, .aload_n 0, 1), (102, .getfield 18, 3), (105, .iload_n 1, 1), (106, .iaload, 1), (107, .if_icmp .ge 31, 3), (110, .aload_n 0, 1), (111, .getfield 18, 3), (114, .iload_n 1, 1), (115, .aload_n 0, 1), (116, .getfield 30, 3), (119, .iload_n 2, 1), (120, .iaload, 1), (121, .aload_n 0, 1), (122, .iload_n 1, 1), (123, .iload_n 2, 1), (124, .invokevirtual 104, 3), (127, .isub, 1), (128, .iastore, 1), (129, .aload_n 0, 1), (130, .getfield 21, 3), (133, .iload_n 1, 1), (134, .iload_n 2, 1), (135, .iastore, 1), (136, .iconst 1, 1), (137, .istore_n 3, 1), (138, .iload_n 3, 1), (139, .ireturn, 1)]
def eCd83 : List (Nat × Instr × Nat) := [(0, .aload_n 0, 1), (1, .getfield 11, 3), (4, .iload_n 1, 1), (5, .iaload, 1), (6, .aload_n 0, 1), (7, .getfield 24, 3), (10, .iload_n 2, 1), (11, .iaload, 1), (12, .isub, 1), (13, .invokestatic 94, 3), (16, .ireturn, 1)]
def eCd84 : List (Nat × Instr × Nat) := [(0, .iload_n 0, 1), (1, .ifCond .ge 8, 3), (4, .iload_n 0, 1), (5, .ineg, 1), (6, .goto 4, 3), (9, .iload_n 0, 1), (10, .ireturn, 1)]
def eCd85 : List (Nat × Instr × Nat) := [(0, .iconst (-1), 1), (1, .istore_n 1, 1), (2, .iconst 0, 1), (3, .istore_n 2, 1), (4, .iload_n 2, 1), (5, .aload_n 0, 1), (6, .getfield 43, 3), (9, .if_icmp .ge 50, 3), (12, .aload_n 0, 1), (13, .getfield 27, 3), (16, .iload_n 2, 1), (17, .iaload, 1), (18, .ifCond .le 35, 3), (21, .aload_n 0, 1), (22, .getfield 30, 3), (25, .iload_n 2, 1), (26, .iaload, 1), (27, .ldc 99, 2), (29, .if_icmp .ge 24, 3), (32, .iload_n 1, 1), (33, .ifCond .lt 18, 3), (36, .aload_n 0, 1), (37, .getfield 30, 3), (40, .iload_n 2, 1), (41, .iaload, 1), (42, .aload_n 0, 1), (43, .getfield 30, 3), (46, .iload_n 1, 1), (47, .iaload, 1), (48, .if_icmp .ge 5, 3), (51, .iload_n 2, 1), (52, .istore_n 1, 1), (53, .iinc 2 1, 3), (56, .goto (-52), 3), (59, .iload_n 1, 1), (60, .ireturn, 1)]
def eCd86 : List (Nat × Instr × Nat) := [(0, .aload_n 0, 1), (1, .getfield 27, 3), (4, .iload_n 1, 1), (5, .iaload, 1), (6, .istore_n 2, 1), (7, .aload_n 0, 1), (8, .getfield 33, 3), (11, .iload_n 1, 1), (12, .iaload, 1), (13, .istore_n 3, 1), (14, .iconst 0, 1), (15, .istore 4, 2), (17, .iload 4, 2), (19, .bipush 9, 2), (21, .if_icmp .ge 51, 3), (24, .aload_n 0, 1), (25, .getfield 21, 3), (28, .iload_n 3, 1), (29, .iaload, 1), (30, .ifCond .lt 42, 3), (33, .aload_n 0, 1), (34, .getfield 21, 3), (37, .iload_n 3, 1), (38, .iaload, 1), (39, .istore 5, 2), (41, .iload_n 2, 1), (42, .aload_n 0, 1), (43, .getfield 36, 3), (46, .iload_n 3, 1), (47, .bipush 8, 2), (49, .imul, 1), (50, .iload 5, 2), (52, .iadd, 1), (53, .iaload, 1), (54, .invokestatic 108, 3), (57, .istore_n 2, 1), (58, .aload_n 0, 1), (59, .getfield 33, 3), (62, .iload 5, 2), (64, .iaload, 1), (65, .istore_n 3, 1), (66, .iinc 4 1, 3), (69, .goto (-52), 3), (72, .iload_n 2, 1), (73, .aload_n 0, 1), (74, .getfield 15, 3), (77, .iload_n 3, 1), (78, .iaload, 1), (79, .invokestatic 108, 3), (82, .istore_n 2, 1), (83, .aload_n 0, 1), (84, .iload_n 1, 1), (85, .iload_n 2, 1), (86, .invokevirtual 111, 3), (89, .iload_n 2, 1), (90, .ireturn, 1)]
def eCd87 : List (Nat × Instr × Nat) := [(0, .aload_n 0, 1), (1, .getfield 33, 3), (4, .iload_n 1, 1), (5, .iaload, 1), (6, .istore_n 3, 1), (7, .aload_n 0, 1), (8, .getfield 36, 3), (11, .iload_n 3, 1), (12, .bipush 8, 2), (14, .imul, 1), (15, .iload_n 1, 1), (16, .iadd, 1), (17, .dup2, 1), (18, .iaload, 1), (19, .iload_n 2, 1), (20, .iadd, 1), (21, .iastore, 1), (22, .iconst 0, 1), (23, .istore 4, 2), (25, .iload 4, 2), (27, .bipush 9, 2), (29, .if_icmp .ge 66, 3), (32, .aload_n 0, 1), (33, .getfield 21, 3), (36, .iload_n 3, 1), (37, .iaload, 1), (38, .ifCond .lt 57, 3), (41, .aload_n 0, 1), (42, .getfield 21, 3), (45, .iload_n 3, 1), (46, .iaload, 1), (47, .istore 5, 2), (49, .aload_n 0, 1), (50, .getfield 36, 3), (53, .iload_n 3, 1), (54, .bipush 8, 2), (56, .imul, 1), (57, .iload 5, 2), (59, .iadd, 1), (60, .dup2, 1), (61, .iaload, 1), (62, .iload_n 2, 1), (63, .isub, 1), (64, .iastore, 1), (65, .aload_n 0, 1), (66, .getfield 33, 3), (69, .iload 5, 2), (71, .iaload, 1), (72, .istore_n 3, 1), (73, .aload_n 0, 1), (74, .getfield 36, 3), (77, .iload_n 3, 1), (78, .bipush 8, 2), (80, .imul, 1), (81, .iload 5, 2), (83, .iadd, 1), (84, .dup2, 1), (85, .iaload, 1), (86, .iload_n 2, 1), (87, .iadd, 1), (88, .iastore, 1), (89, .iinc 4 1, 3), (92, .goto (-67), 3), (95, .aload_n 0, 1), (96, .getfield 15, 3), (99, .iload_n 3, 1), (100, .dup2, 1), (101, .iaload, 1), (102, .iload_n 2, 1), (103, .isub, 1), (104, .iastore, 1), (105, .aload_n 0, 1), (106, .getfield 27, 3), (109, .iload_n 1, 1), (110, .dup2, 1), (111, .iaload, 1), (112, .iload_n 2, 1), (113, .isub, 1), (114, .iastore, 1), (115, .aload_n 0, 1), (116, .dup, 1), (117, .getfield 46, 3), (120, .iload_n 2, 1), (121, .isub, 1), (122, .putfield 46, 3), (125, .return_, 1)]
def eCd88 : List (Nat × Instr × Nat) := [(0, .iload_n 1, 1), (1, .invokestatic 217, 3), (4, .ifCond .eq 14, 3), (7, .iload_n 2, 1), (8, .iconst 1, 1), (9, .if_icmp .lt 9, 3), (12, .iload_n 2, 1), (13, .bipush 60, 2), (15, .if_icmp .le 5, 3), (18, .iconst (-1), 1), (19, .ireturn, 1), (20, .aload_n 0, 1), (21, .getfield 46, 3), (24, .aload_n 0, 1), (25, .getfield 10, 3), (28, .iload_n 1, 1), (29, .invokevirtual 220, 3), (32, .iconst 0, 1), (33, .istore_n 3, 1), (34, .iload_n 3, 1), (35, .iload_n 2, 1), (36, .if_icmp .ge 23, 3), (39, .aload_n 0, 1), (40, .getfield 46, 3), (43, .aload_n 0, 1), (44, .getfield 10, 3), (47, .invokevirtual 224, 3), (50, .ifCond .eq 9, 3), (53, .iinc 3 1, 3), (56, .goto (-22), 3), (59, .aload_n 0, 1), (60, .getfield 32, 3), (63, .invokevirtual 82, 3), (66, .iload_n 3, 1), (67, .ireturn, 1)]
def eCd89 : List (Nat × Instr × Nat) := [(0, .iload_n 0, 1), (1, .ifCond .lt 12, 3), (4, .iload_n 0, 1), (5, .iconst 3, 1), (6, .if_icmp .gt 7, 3), (9, .iconst 1, 1), (10, .goto 4, 3), (13, .iconst 0, 1), (14, .ireturn, 1)]
def eCd90 : List (Nat × Instr × Nat) := [(0, .iconst 0, 1), (1, .istore_n 3, 1), (2, .iload_n 3, 1), (3, .aload_n 1, 1), (4, .getfield 15, 3), (7, .if_icmp .ge 16, 3), (10, .aload_n 0, 1), (11, .getfield 9, 3), (14, .iload_n 3, 1), (15, .iload_n 3, 1), (16, .iastore, 1), (17, .iinc 3 1, 3), (20, .goto (-18), 3), (23, .iload_n 2, 1), (24, .iconst 1, 1), (25, .if_icmp .gt 8, 3), (28, .aload_n 0, 1), (29, .aload_n 1, 1), (30, .invokevirtual 19, 3), (33, .iload_n 2, 1), (34, .iconst 1, 1), (35, .if_icmp .eq 8, 3), (38, .iload_n 2, 1), (39, .iconst 3, 1), (40, .if_icmp .ne 11, 3), (43, .aload_n 0, 1), (44, .aload_n 1, 1), (45, .getfield 15, 3), (48, .invokevirtual 23, 3), (51, .return_, 1)]
def eCd91 : List (Nat × Instr × Nat) := [(0, .iconst 1, 1), (1, .istore_n 2, 1), (2, .iload_n 2, 1), (3, .aload_n 1, 1), (4, .getfield 15, 3), (7, .if_icmp .ge 77, 3), (10, .aload_n 0, 1), (11, .getfield 9, 3), (14, .iload_n 2, 1), (15, .iaload, 1), (16, .istore_n 3, 1), (17, .iload_n 2, 1), (18, .istore 4, 2), (20, .iload 4, 2), (22, .ifCond .le 48, 3), (25, .aload_n 1, 1), (26, .getfield 27, 3), (29, .aload_n 0, 1), (30, .getfield 9, 3), (33, .iload 4, 2), (35, .iconst 1, 1), (36, .isub, 1), (37, .iaload, 1), (38, .iaload, 1), (39, .aload_n 1, 1), (40, .getfield 27, 3), (43, .iload_n 3, 1), (44, .iaload, 1), (45, .if_icmp .le 25, 3), (48, .aload_n 0, 1), (49, .getfield 9, 3), (52, .iload 4, 2), (54, .aload_n 0, 1), (55, .getfield 9, 3), (58, .iload 4, 2), (60, .iconst 1, 1), (61, .isub, 1), (62, .iaload, 1), (63, .iastore, 1), (64, .iinc 4 (-1), 3), (67, .goto (-47), 3), (70, .aload_n 0, 1), (71, .getfield 9, 3), (74, .iload 4, 2), (76, .iload_n 3, 1), (77, .iastore, 1), (78, .iinc 2 1, 3), (81, .goto (-79), 3), (84, .return_, 1)]
def eCd92 : List (Nat × Instr × Nat) := [(0, .iconst 0, 1), (1, .istore_n 2, 1), (2, .iload_n 2, 1), (3, .iload_n 1, 1), (4, .iconst 2, 1), (5, .idiv, 1), (6, .if_icmp .ge 43, 3), (9, .aload_n 0, 1), (10, .getfield 9, 3), (13, .iload_n 2, 1), (14, .iaload, 1), (15, .istore_n 3, 1), (16, .aload_n 0, 1), (17, .getfield 9, 3), (20, .iload_n 2, 1), (21, .aload_n 0, 1), (22, .getfield 9, 3), (25, .iload_n 1, 1), (26, .iconst 1, 1), (27, .isub, 1), (28, .iload_n 2, 1), (29, .isub, 1), (30, .iaload, 1), (31, .iastore, 1), (32, .aload_n 0, 1), (33, .getfield 9, 3), (36, .iload_n 1, 1), (37, .iconst 1, 1), (38, .isub, 1), (39, .iload_n 2, 1), (40, .isub, 1), (41, .iload_n 3, 1), (42, .iastore, 1), (43, .iinc 2 1, 3), (46, .goto (-44), 3), (49, .return_, 1)]
def eCd93 : List (Nat × Instr × Nat) := [(0, .aload_n 1, 1), (1, .getfield 30, 3), (4, .aload_n 1, 1), (5, .getfield 33, 3), (8, .iconst (-1), 1), (9, .ixor, 1), (10, .iand, 1), (11, .istore_n 2, 1), (12, .aload_n 1, 1), (13, .getfield 33, 3), (16, .aload_n 1, 1), (17, .getfield 30, 3), (20, .iconst (-1), 1), (21, .ixor, 1), (22, .iand, 1), (23, .istore_n 3, 1), (24, .aload_n 0, 1), (25, .aload_n 1, 1), (26, .iload_n 2, 1), (27, .iload_n 3, 1), (28, .invokevirtual 36, 3), (31, .ifCond .ne 23, 3), (34, .aload_n 0, 1), (35, .aload_n 1, 1), (36, .iload_n 2, 1), (37, .iconst 1, 1), (38, .invokevirtual 40, 3), (41, .ifCond .ne 13, 3), (44, .aload_n 0, 1), (45, .aload_n 1, 1), (46, .iload_n 3, 1), (47, .iconst 0, 1), (48, .invokevirtual 40, 3), (51, .ifCond .eq 7, 3), (54, .iconst 1, 1), (55, .goto 4, 3), (58, .iconst 0, 1), (59, .ireturn, 1)]
def eCd94 : List (Nat × Instr × Nat) := [(0, .iconst 0, 1), (1, .istore 4, 2), (3, .iload 4, 2), (5, .aload_n 1, 1), (6, .getfield 15, 3), (9, .if_icmp .ge 84, 3), (12, .iconst 1, 1), (13, .aload_n 0, 1), (14, .getfield 9, 3), (17, .iload 4, 2), (19, .iaload, 1), (20, .ishl, 1), (21, .istore 5, 2), (23, .iconst 0, 1), (24, .istore 6, 2), (26, .iload 6, 2), (28, .aload_n 1, 1), (29, .getfield 15, 3), (32, .if_icmp .ge 55, 3), (35, .iconst 1, 1), (36, .aload_n 0, 1), (37, .getfield 9, 3), (40, .iload 6, 2), (42, .iaload, 1), (43, .ishl, 1), (44, .istore 7, 2), (46, .iload_n 2, 1), (47, .iload 5, 2), (49, .iand, 1), (50, .ifCond .eq 31, 3), (53, .iload_n 3, 1), (54, .iload 7, 2), (56, .iand, 1), (57, .ifCond .eq 24, 3), (60, .aload_n 1, 1), (61, .iload 5, 2), (63, .iload 7, 2), (65, .invokevirtual 44, 3), (68, .ifCond .eq 13, 3), (71, .aload_n 1, 1), (72, .iload 5, 2), (74, .iload 7, 2), (76, .invokevirtual 48, 3), (79, .iconst 1, 1), (80, .ireturn, 1), (81, .iinc 6 1, 3), (84, .goto (-58), 3), (87, .iinc 4 1, 3), (90, .goto (-87), 3), (93, .iconst 0, 1), (94, .ireturn, 1)]
def eCd95 : List (Nat × Instr × Nat) := [(0, .iconst 0, 1), (1, .istore 4, 2), (3, .iload 4, 2), (5, .aload_n 1, 1), (6, .getfield 15, 3), (9, .if_icmp .ge 69, 3), (12, .iconst 1, 1), (13, .aload_n 0, 1), (14, .getfield 9, 3), (17, .iload 4, 2), (19, .iaload, 1), (20, .ishl, 1), (21, .istore 5, 2), (23, .iload_n 3, 1), (24, .ifCond .eq 8, 3), (27, .iload 5, 2), (29, .goto 4, 3), (32, .iconst 0, 1), (33, .istore 6, 2), (35, .iload 5, 2), (37, .iload 6, 2), (39, .iconst (-1), 1), (40, .ixor, 1), (41, .iand, 1), (42, .istore 7, 2), (44, .iload_n 2, 1), (45, .iload 5, 2), (47, .iand, 1), (48, .ifCond .eq 24, 3), (51, .aload_n 1, 1), (52, .iload 6, 2), (54, .iload 7, 2), (56, .invokevirtual 44, 3), (59, .ifCond .eq 13, 3), (62, .aload_n 1, 1), (63, .iload 6, 2), (65, .iload 7, 2), (67, .invokevirtual 48, 3), (70, .iconst 1, 1), (71, .ireturn, 1), (72, .iinc 4 1, 3), (75, .goto (-72), 3), (78, .iconst 0, 1), (79, .ireturn, 1)]
def eCd96 : List (Nat × Instr × Nat) := [(0, .iload_n 1, 1), (1, .invokestatic 67, 3), (4, .ifCond .eq 12, 3), (7, .iload_n 2, 1), (8, .ifCond .lt 8, 3), (11, .iload_n 2, 1), (12, .iconst 1, 1), (13, .if_icmp .le 5, 3), (16, .iconst (-1), 1), (17, .ireturn, 1), (18, .aload_n 0, 1), (19, .getfield 32, 3), (22, .aload_n 0, 1), (23, .getfield 10, 3), (26, .iload_n 1, 1), (27, .invokevirtual 227, 3), (30, .istore_n 3, 1), (31, .iload_n 3, 1), (32, .invokestatic 231, 3), (35, .istore 4, 2), (37, .iload_n 2, 1), (38, .ifCond .ne 7, 3), (41, .iload_n 3, 1), (42, .goto 5, 3), (45, .bipush 24, 2), (47, .iconst 1, 1), (48, .iload 4, 2), (50, .invokestatic 234, 3), (53, .idiv, 1), (54, .ireturn, 1)]
def eCd97 : List (Nat × Instr × Nat) := [(0, .aload_n 0, 1), (1, .getfield 46, 3), (4, .ifCond .ne 17, 3), (7, .aload_n 0, 1), (8, .aload_n 0, 1), (9, .aload_n 1, 1), (10, .invokevirtual 77, 3), (13, .putfield 81, 3), (16, .aload_n 0, 1), (17, .iconst 1, 1), (18, .putfield 46, 3), (21, .iconst 0, 1), (22, .istore_n 3, 1), (23, .iconst 0, 1), (24, .istore 4, 2), (26, .iload 4, 2), (28, .bipush 16, 2), (30, .if_icmp .ge 60, 3), (33, .iload 4, 2), (35, .iconst 1, 1), (36, .iload_n 2, 1), (37, .ishl, 1), (38, .ior, 1), (39, .istore 5, 2), (41, .iload 5, 2), (43, .iload 4, 2), (45, .if_icmp .eq 39, 3), (48, .aload_n 0, 1), (49, .getfield 81, 3), (52, .iload 5, 2), (54, .invokestatic 84, 3), (57, .ifCond .eq 27, 3), (60, .aload_n 0, 1), (61, .getfield 81, 3), (64, .iload 4, 2), (66, .invokestatic 84, 3), (69, .ifCond .ne 15, 3), (72, .iload_n 3, 1), (73, .getstatic 88, 3), (76, .iload 4, 2), (78, .invokestatic 91, 3), (81, .iaload, 1), (82, .iadd, 1), (83, .istore_n 3, 1), (84, .iinc 4 1, 3), (87, .goto (-61), 3), (90, .iload_n 3, 1), (91, .ireturn, 1)]
def eCd98 : List (Nat × Instr × Nat) := [(0, .iconst 0, 1), (1, .istore_n 2, 1), (2, .iconst 0, 1), (3, .istore_n 3, 1), (4, .iload_n 3, 1), (5, .bipush 16, 2), (7, .if_icmp .ge 36, 3), (10, .iload_n 2, 1), (11, .iload_n 3, 1), (12, .invokestatic 97, 3), (15, .ifCond .ne 16, 3), (18, .aload_n 0, 1), (19, .aload_n 1, 1), (20, .aload_n 1, 1), (21, .iload_n 3, 1), (22, .invokestatic 100, 3), (25, .invokevirtual 53, 3), (28, .ifCond .eq 9, 3), (31, .iload_n 2, 1), (32, .iconst 1, 1), (33, .iload_n 3, 1), (34, .ishl, 1), (35, .ior, 1), (36, .istore_n 2, 1), (37, .iinc 3 1, 3), (40, .goto (-36), 3), (43, .iload_n 2, 1), (44, .ireturn, 1)]
def eCd99 : List (Nat × Instr × Nat) := [(0, .iconst 0, 1), (1, .istore_n 2, 1), (2, .iload_n 2, 1), (3, .iconst 4, 1), (4, .if_icmp .ge 32, 3), (7, .iload_n 1, 1), (8, .iconst 1, 1), (9, .iload_n 2, 1), (10, .ishl, 1), (11, .iconst (-1), 1), (12, .ixor, 1), (13, .iand, 1), (14, .istore_n 3, 1), (15, .iload_n 3, 1), (16, .iload_n 1, 1), (17, .if_icmp .eq 13, 3), (20, .iload_n 0, 1), (21, .iload_n 3, 1), (22, .invokestatic 84, 3), (25, .ifCond .eq 5, 3), (28, .iconst 1, 1), (29, .ireturn, 1), (30, .iinc 2 1, 3), (33, .goto (-31), 3), (36, .iconst 0, 1), (37, .ireturn, 1)]
def eCd100 : List (Nat × Instr × Nat) := [(0, .iload_n 0, 1), (1, .iload_n 1, 1), (2, .ishr, 1), (3, .iconst 1, 1), (4, .iand, 1), (5, .iconst 1, 1), (6, .if_icmp .ne 7, 3), (9, .iconst 1, 1), (10, .goto 4, 3), (13, .iconst 0, 1), (14, .ireturn, 1)]
def eCd101 : List (Nat × Instr × Nat) := [(0, .iconst 0, 1), (1, .istore_n 2, 1), (2, .iconst 0, 1), (3, .istore_n 3, 1), (4, .iload_n 3, 1), (5, .aload_n 0, 1), (6, .getfield 104, 3), (9, .if_icmp .ge 29, 3), (12, .iload_n 1, 1), (13, .aload_n 0, 1), (14, .getfield 107, 3), (17, .iload_n 3, 1), (18, .iaload, 1), (19, .ishr, 1), (20, .iconst 1, 1), (21, .iand, 1), (22, .iconst 1, 1), (23, .if_icmp .ne 9, 3), (26, .iload_n 2, 1), (27, .iconst 1, 1), (28, .iload_n 3, 1), (29, .ishl, 1), (30, .ior, 1), (31, .istore_n 2, 1), (32, .iinc 3 1, 3), (35, .goto (-31), 3), (38, .iload_n 2, 1), (39, .ireturn, 1)]
def eCd102 : List (Nat × Instr × Nat) := [(0, .iload_n 0, 1), (1, .iload_n 0, 1), (2, .iconst 1, 1), (3, .iushr, 1), (4, .ldc_w 265, 3), (7, .iand, 1), (8, .isub, 1), (9, .istore_n 0, 1), (10, .iload_n 0, 1), (11, .ldc_w 266, 3), (14, .iand, 1), (15, .iload_n 0, 1), (16, .iconst 2, 1), (17, .iushr, 1), (18, .ldc_w 266, 3), (21, .iand, 1), (22, .iadd, 1), (23, .istore_n 0, 1), (24, .iload_n 0, 1), (25, .iload_n 0, 1), (26, .iconst 4, 1), (27, .iushr, 1), (28, .iadd, 1), (29, .ldc_w 267, 3), (32, .iand, 1), (33, .istore_n 0, 1), (34, .iload_n 0, 1), (35, .iload_n 0, 1), (36, .bipush 8, 2), (38, .iushr, 1), (39, .iadd, 1), (40, .istore_n 0, 1), (41, .iload_n 0, 1), (42, .iload_n 0, 1), (43, .bipush 16, 2), (45, .iushr, 1), (46, .iadd, 1), (47, .istore_n 0, 1), (48, .iload_n 0, 1), (49, .bipush 63, 2), (51, .iand, 1), (52, .ireturn, 1)]
def eCd103 : List (Nat × Instr × Nat) := [(0, .bipush 24, 2), (2, .istore_n 1, 1), (3, .iload_n 1, 1), (4, .iconst 1, 1), (5, .if_icmp .le 24, 3), (8, .iload_n 0, 1), (9, .iload_n 1, 1), (10, .irem, 1), (11, .ifCond .ne 12, 3), (14, .bipush 24, 2), (16, .iload_n 1, 1), (17, .irem, 1), (18, .ifCond .ne 5, 3), (21, .iload_n 1, 1), (22, .ireturn, 1), (23, .iinc 1 (-1), 3), (26, .goto (-23), 3), (29, .iconst 1, 1), (30, .ireturn, 1)]
def eCd104 : List (Nat × Instr × Nat) := [(0, .aload_n 0, 1), (1, .getfield 16, 3), (4, .aload_n 0, 1), (5, .getfield 10, 3), (8, .invokevirtual 147, 3), (11, .aload_n 0, 1), (12, .iconst 1, 1), (13, .putfield 240, 3), (16, .iconst 1, 1), (17, .ireturn, 1)]
def eCd105 : List (Nat × Instr × Nat) := [(0, .aload_n 0, 1), (1, .getfield 240, 3), (4, .ifCond .ne 6, 3), (7, .bipush (-4), 2), (9, .ireturn, 1), (10, .aload_n 0, 1), (11, .getfield 10, 3), (14, .aload_n 0, 1), (15, .getfield 16, 3), (18, .invokevirtual 147, 3), (21, .aload_n 0, 1), (22, .getfield 32, 3), (25, .invokevirtual 82, 3), (28, .iconst 1, 1), (29, .ireturn, 1)]
def eCd106 : List (Nat × Instr × Nat) := [(0, .aload_n 0, 1), (1, .iload_n 1, 1), (2, .iload_n 2, 1), (3, .iload_n 3, 1), (4, .iload 4, 2), (6, .invokevirtual 243, 3), (9, .istore 5, 2), (11, .iload 5, 2), (13, .ifCond .eq 6, 3), (16, .iload 5, 2), (18, .ireturn, 1), (19, .aload_n 0, 1), (20, .iload_n 1, 1), (21, .iload_n 3, 1), (22, .iload 4, 2), (24, .iconst (-1), 1), (25, .invokevirtual 247, 3), (28, .istore 6, 2), (30, .iload 6, 2), (32, .iload 4, 2), (34, .if_icmp .ge 8, 3), (37, .iload 6, 2), (39, .goto 5, 3), (42, .bipush (-4), 2), (44, .ireturn, 1)]
def eCd107 : List (Nat × Instr × Nat) := [(0, .iload 4, 2), (2, .iconst 1, 1), (3, .if_icmp .lt 10, 3), (6, .iload 4, 2), (8, .bipush 8, 2), (10, .if_icmp .le 5, 3), (13, .iconst (-1), 1), (14, .ireturn, 1), (15, .aload_n 0, 1), (16, .getfield 53, 3), (19, .iload_n 1, 1), (20, .iload_n 2, 1), (21, .iload_n 3, 1), (22, .iconst 2, 1), (23, .iload 4, 2), (25, .imul, 1), (26, .invokevirtual 250, 3), (29, .ireturn, 1)]
def eCd108 : List (Nat × Instr × Nat) := [(0, .iload_n 1, 1), (1, .iload_n 2, 1), (2, .invokestatic 26, 3), (5, .ifCond .ne 5, 3), (8, .iconst (-1), 1), (9, .ireturn, 1), (10, .aload_n 0, 1), (11, .iload_n 1, 1), (12, .invokevirtual 30, 3), (15, .ifCond .eq 6, 3), (18, .bipush (-11), 2), (20, .ireturn, 1), (21, .aload_n 0, 1), (22, .getfield 15, 3), (25, .iload_n 1, 1), (26, .iaload, 1), (27, .iload_n 2, 1), (28, .if_icmp .eq 6, 3), (31, .bipush (-12), 2), (33, .ireturn, 1), (34, .aload_n 0, 1), (35, .iload_n 1, 1), (36, .iload_n 3, 1), (37, .iload 4, 2), (39, .invokevirtual 33, 3), (42, .ifCond .eq 7, 3), (45, .iconst 0, 1), (46, .goto 5, 3), (49, .bipush (-13), 2), (51, .ireturn, 1)]
def eCd109 : List (Nat × Instr × Nat) := [(0, .iload_n 0, 1), (1, .invokestatic 22, 3), (4, .ifCond .eq 16, 3), (7, .iload_n 1, 1), (8, .ifCond .lt 12, 3), (11, .iload_n 1, 1), (12, .iconst 2, 1), (13, .if_icmp .gt 7, 3), (16, .iconst 1, 1), (17, .goto 4, 3), (20, .iconst 0, 1), (21, .ireturn, 1)]
def eCd110 : List (Nat × Instr × Nat) := [(0, .iload_n 0, 1), (1, .ifCond .lt 12, 3), (4, .iload_n 0, 1), (5, .iconst 4, 1), (6, .if_icmp .ge 7, 3), (9, .iconst 1, 1), (10, .goto 4, 3), (13, .iconst 0, 1), (14, .ireturn, 1)]
def eCd111 : List (Nat × Instr × Nat) := [(0, .aload_n 0, 1), (1, .getfield 19, 3), (4, .iload_n 1, 1), (5, .iaload, 1), (6, .ifCond .ge 7, 3), (9, .iconst 1, 1), (10, .goto 4, 3), (13, .iconst 0, 1), (14, .ireturn, 1)]
def eCd112 : List (Nat × Instr × Nat) := [(0, .iload_n 2, 1), (1, .ifCond .lt 33, 3), (4, .iload_n 3, 1), (5, .ifCond .lt 29, 3), (8, .iload_n 3, 1), (9, .aload_n 0, 1), (10, .getfield 19, 3), (13, .iload_n 1, 1), (14, .iaload, 1), (15, .if_icmp .gt 19, 3), (18, .iload_n 2, 1), (19, .aload_n 0, 1), (20, .getfield 19, 3), (23, .iload_n 1, 1), (24, .iaload, 1), (25, .iload_n 3, 1), (26, .isub, 1), (27, .if_icmp .gt 7, 3), (30, .iconst 1, 1), (31, .goto 4, 3), (34, .iconst 0, 1), (35, .ireturn, 1)]
def eCd113 : List (Nat × Instr × Nat) := [(0, .aload_n 0, 1), (1, .getfield 19, 3), (4, .aload_n 0, 1), (5, .getfield 10, 3), (8, .invokevirtual 147, 3), (11, .iconst 0, 1), (12, .istore 5, 2), (14, .iload 5, 2), (16, .iload_n 3, 1), (17, .if_icmp .ge 33, 3), (20, .iload 5, 2), (22, .iload 4, 2), (24, .if_icmp .eq 20, 3), (27, .aload_n 0, 1), (28, .iload_n 1, 1), (29, .iload_n 2, 1), (30, .iconst 2, 1), (31, .iload 5, 2), (33, .imul, 1), (34, .iadd, 1), (35, .invokevirtual 253, 3), (38, .ifCond .ne 6, 3), (41, .iload 5, 2), (43, .ireturn, 1), (44, .iinc 5 1, 3), (47, .goto (-33), 3), (50, .iload_n 3, 1), (51, .ireturn, 1)]
def eCd114 : List (Nat × Instr × Nat) := [(0, .aload_n 0, 1), (1, .getfield 53, 3), (4, .iload_n 1, 1), (5, .iload_n 2, 1), (6, .invokevirtual 256, 3), (9, .lstore_n 3, 1), (10, .aload_n 0, 1), (11, .getfield 53, 3), (14, .iload_n 1, 1), (15, .iload_n 2, 1), (16, .iconst 1, 1), (17, .iadd, 1), (18, .invokevirtual 256, 3), (21, .lstore 5, 2), (23, .aload_n 0, 1), (24, .getfield 19, 3), (27, .lload_n 3, 1), (28, .lload 5, 2), (30, .invokevirtual 178, 3), (33, .ifCond .eq 18, 3), (36, .aload_n 0, 1), (37, .getfield 19, 3), (40, .lload_n 3, 1), (41, .l2i, 1), (42, .lload 5, 2), (44, .l2i, 1), (45, .invokevirtual 182, 3), (48, .ifCond .ne 5, 3), (51, .iconst 0, 1), (52, .ireturn, 1), (53, .aload_n 0, 1), (54, .getfield 19, 3), (57, .lload_n 3, 1), (58, .l2i, 1), (59, .lload 5, 2), (61, .l2i, 1), (62, .invokevirtual 186, 3), (65, .iconst 1, 1), (66, .ireturn, 1)]
def eCd115 : List (Nat × Instr × Nat) := [(0, .aload_n 0, 1), (1, .getfield 11, 3), (4, .iload_n 1, 1), (5, .bipush 24, 2), (7, .imul, 1), (8, .iload_n 2, 1), (9, .iadd, 1), (10, .laload, 1), (11, .lreturn, 1)]
def eCd116 : List (Nat × Instr × Nat) := [(0, .aload_n 0, 1), (1, .getfield 10, 3), (4, .iload 5, 2), (6, .i2l, 1), (7, .invokevirtual 70, 3), (10, .ifCond .ne 5, 3), (13, .iconst (-1), 1), (14, .ireturn, 1), (15, .aload_n 0, 1), (16, .iload_n 1, 1), (17, .iload_n 2, 1), (18, .iload_n 3, 1), (19, .iload 4, 2), (21, .invokevirtual 243, 3), (24, .istore 6, 2), (26, .iload 6, 2), (28, .ifCond .eq 6, 3), (31, .iload 6, 2), (33, .ireturn, 1), (34, .iconst 0, 1), (35, .istore 7, 2), (37, .iconst 0, 1), (38, .istore 8, 2), (40, .iload 8, 2), (42, .iload 4, 2), (44, .if_icmp .ge 45, 3), (47, .aload_n 0, 1), (48, .iload_n 1, 1), (49, .iload_n 3, 1), (50, .iload 4, 2), (52, .iload 8, 2), (54, .invokevirtual 247, 3), (57, .iload 4, 2), (59, .if_icmp .ne 24, 3), (62, .aload_n 0, 1), (63, .getfield 19, 3), (66, .getfield 108, 3), (69, .iload 5, 2), (71, .if_icmp .ne 12, 3), (74, .iload 7, 2), (76, .iconst 1, 1), (77, .iload 8, 2), (79, .ishl, 1), (80, .ior, 1), (81, .istore 7, 2), (83, .iinc 8 1, 3), (86, .goto (-46), 3), (89, .iload 7, 2), (91, .ireturn, 1)]
def eCd117 : List (Nat × Instr × Nat) := [(0, .iload_n 1, 1), (1, .iload_n 2, 1), (2, .invokestatic 260, 3), (5, .ifCond .eq 9, 3), (8, .iload_n 3, 1), (9, .bipush 24, 2), (11, .if_icmp .le 5, 3), (14, .iconst (-1), 1), (15, .ireturn, 1), (16, .iload_n 3, 1), (17, .ifCond .ge 6, 3), (20, .bipush (-14), 2), (22, .ireturn, 1), (23, .aload_n 0, 1), (24, .getfield 53, 3), (27, .iload_n 1, 1), (28, .iload_n 2, 1), (29, .iload_n 3, 1), (30, .invokevirtual 263, 3), (33, .iload_n 3, 1), (34, .ireturn, 1)]
def eCd118 : List (Nat × Instr × Nat) := [(0, .aload_n 0, 1), (1, .getfield 15, 3), (4, .iload_n 1, 1), (5, .iload_n 2, 1), (6, .iastore, 1), (7, .aload_n 0, 1), (8, .getfield 19, 3), (11, .iload_n 1, 1), (12, .iload_n 3, 1), (13, .iastore, 1), (14, .aload_n 0, 1), (15, .getfield 11, 3), (18, .iload_n 1, 1), (19, .bipush 24, 2), (21, .imul, 1), (22, .iload_n 1, 1), (23, .iconst 1, 1), (24, .iadd, 1), (25, .bipush 24, 2), (27, .imul, 1), (28, .lconst 0, 1), (29, .invokestatic 37, 3), (32, .return_, 1)]
def eCd119 : List (Nat × Instr × Nat) := [(0, .aload_n 0, 1), (1, .arraylength, 1), (2, .iload_n 1, 1), (3, .iload_n 2, 1), (4, .invokestatic 13, 3), (7, .iload_n 1, 1), (8, .istore 5, 2), (10, .iload 5, 2), (12, .iload_n 2, 1), (13, .if_icmp .ge 14, 3), (16, .aload_n 0, 1), (17, .iload 5, 2), (19, .lload_n 3, 1), (20, .lastore, 1), (21, .iinc 5 1, 3), (24, .goto (-14), 3), (27, .return_, 1)]
def eCd120 : List (Nat × Instr × Nat) := [(0, .iload_n 1, 1), (1, .invokestatic 267, 3), (4, .ifCond .ne 5, 3), (7, .iconst (-1), 1), (8, .ireturn, 1), (9, .aload_n 0, 1), (10, .getfield 53, 3), (13, .iload_n 1, 1), (14, .invokevirtual 270, 3), (17, .ifCond .eq 6, 3), (20, .bipush (-11), 2), (22, .ireturn, 1), (23, .aload_n 0, 1), (24, .getfield 53, 3), (27, .iload_n 1, 1), (28, .invokevirtual 273, 3), (31, .ireturn, 1)]
def eCd121 : List (Nat × Instr × Nat) := [(0, .aload_n 0, 1), (1, .getfield 19, 3), (4, .iload_n 1, 1), (5, .iaload, 1), (6, .istore_n 2, 1), (7, .aload_n 0, 1), (8, .getfield 19, 3), (11, .iload_n 1, 1), (12, .iconst (-1), 1), (13, .iastore, 1), (14, .iload_n 2, 1), (15, .ireturn, 1)]
def eCd122 : List (Nat × Instr × Nat) := [(0, .aload_n 0, 1), (1, .getfield 53, 3), (4, .iload_n 1, 1), (5, .iload_n 2, 1), (6, .iload_n 3, 1), (7, .iconst 1, 1), (8, .invokevirtual 250, 3), (11, .istore 6, 2), (13, .iload 6, 2), (15, .ifCond .eq 6, 3), (18, .iload 6, 2), (20, .ireturn, 1), (21, .aload_n 0, 1), (22, .getfield 53, 3), (25, .iload_n 1, 1), (26, .iload_n 3, 1), (27, .lload 4, 2), (29, .invokevirtual 276, 3), (32, .iconst 1, 1), (33, .ireturn, 1)]
def eCd123 : List (Nat × Instr × Nat) := [(0, .lload_n 3, 1), (1, .lstore 5, 2), (3, .aload_n 0, 1), (4, .getfield 15, 3), (7, .iload_n 1, 1), (8, .iaload, 1), (9, .ifCond .ne 12, 3), (12, .lload_n 3, 1), (13, .l2i, 1), (14, .i2s, 1), (15, .i2l, 1), (16, .lstore 5, 2), (18, .goto 18, 3), (21, .aload_n 0, 1), (22, .getfield 15, 3), (25, .iload_n 1, 1), (26, .iaload, 1), (27, .iconst 1, 1), (28, .if_icmp .ne 8, 3), (31, .lload_n 3, 1), (32, .l2i, 1), (33, .i2l, 1), (34, .lstore 5, 2), (36, .aload_n 0, 1), (37, .getfield 11, 3), (40, .iload_n 1, 1), (41, .bipush 24, 2), (43, .imul, 1), (44, .iload_n 2, 1), (45, .iadd, 1), (46, .lload 5, 2), (48, .lastore, 1), (49, .return_, 1)]
def eCd124 : List (Nat × Instr × Nat) := [(0, .iload_n 1, 1), (1, .iload_n 2, 1), (2, .invokestatic 260, 3), (5, .ifCond .ne 5, 3), (8, .iconst (-1), 1), (9, .ireturn, 1), (10, .aload_n 0, 1), (11, .getfield 32, 3), (14, .aload_n 0, 1), (15, .getfield 10, 3), (18, .invokevirtual 190, 3), (21, .aload_n 0, 1), (22, .getfield 32, 3), (25, .getfield 193, 3), (28, .ifCond .ne 6, 3), (31, .bipush (-4), 2), (33, .ireturn, 1), (34, .aload_n 0, 1), (35, .getfield 53, 3), (38, .iload_n 1, 1), (39, .iload_n 2, 1), (40, .iload_n 3, 1), (41, .aload_n 0, 1), (42, .getfield 32, 3), (45, .getfield 197, 3), (48, .invokevirtual 250, 3), (51, .istore 4, 2), (53, .iload 4, 2), (55, .ifCond .eq 6, 3), (58, .iload 4, 2), (60, .ireturn, 1), (61, .iconst 0, 1), (62, .istore 5, 2), (64, .iload 5, 2), (66, .aload_n 0, 1), (67, .getfield 32, 3), (70, .getfield 197, 3), (73, .if_icmp .ge 32, 3), (76, .aload_n 0, 1), (77, .getfield 53, 3), (80, .iload_n 1, 1), (81, .iload_n 3, 1), (82, .iload 5, 2), (84, .iadd, 1), (85, .aload_n 0, 1), (86, .getfield 32, 3), (89, .getfield 200, 3), (92, .iload 5, 2), (94, .iaload, 1), (95, .i2l, 1), (96, .invokevirtual 276, 3), (99, .iinc 5 1, 3), (102, .goto (-38), 3), (105, .aload_n 0, 1), (106, .getfield 32, 3), (109, .getfield 197, 3), (112, .ireturn, 1)]
def eCd125 : List (Nat × Instr × Nat) := [(0, .iload_n 1, 1), (1, .invokestatic 267, 3), (4, .ifCond .eq 10, 3), (7, .iload_n 3, 1), (8, .invokestatic 267, 3), (11, .ifCond .ne 5, 3), (14, .iconst (-1), 1), (15, .ireturn, 1), (16, .aload_n 0, 1), (17, .getfield 53, 3), (20, .iload_n 1, 1), (21, .invokevirtual 270, 3), (24, .ifCond .ne 14, 3), (27, .aload_n 0, 1), (28, .getfield 53, 3), (31, .iload_n 3, 1), (32, .invokevirtual 270, 3), (35, .ifCond .eq 6, 3), (38, .bipush (-11), 2), (40, .ireturn, 1), (41, .aload_n 0, 1), (42, .getfield 53, 3), (45, .iload_n 1, 1), (46, .iload_n 3, 1), (47, .invokevirtual 280, 3), (50, .ifCond .ne 6, 3), (53, .bipush (-12), 2), (55, .ireturn, 1), (56, .aload_n 0, 1), (57, .getfield 53, 3), (60, .iload_n 1, 1), (61, .iload_n 2, 1), (62, .iload 5, 2), (64, .invokevirtual 283, 3), (67, .ifCond .eq 18, 3), (70, .aload_n 0, 1), (71, .getfield 53, 3), (74, .iload_n 3, 1), (75, .iload 4, 2), (77, .iload 5, 2), (79, .invokevirtual 283, 3), (82, .ifCond .ne 6, 3), (85, .bipush (-13), 2), (87, .ireturn, 1), (88, .aload_n 0, 1), (89, .getfield 53, 3), (92, .iload_n 1, 1), (93, .iload_n 2, 1), (94, .iload_n 3, 1), (95, .iload 4, 2), (97, .iload 5, 2), (99, .invokevirtual 287, 3), (102, .iload 5, 2), (104, .ireturn, 1)]
def eCd126 : List (Nat × Instr × Nat) := [(0, .aload_n 0, 1), (1, .getfield 15, 3), (4, .iload_n 1, 1), (5, .iaload, 1), (6, .aload_n 0, 1), (7, .getfield 15, 3), (10, .iload_n 2, 1), (11, .iaload, 1), (12, .if_icmp .ne 7, 3), (15, .iconst 1, 1), (16, .goto 4, 3), (19, .iconst 0, 1), (20, .ireturn, 1)]
def eCd127 : List (Nat × Instr × Nat) := [(0, .aload_n 0, 1), (1, .getfield 11, 3), (4, .iload_n 1, 1), (5, .bipush 24, 2), (7, .imul, 1), (8, .iload_n 2, 1), (9, .iadd, 1), (10, .aload_n 0, 1), (11, .getfield 11, 3), (14, .iload_n 3, 1), (15, .bipush 24, 2), (17, .imul, 1), (18, .iload 4, 2), (20, .iadd, 1), (21, .iload 5, 2), (23, .invokestatic 43, 3), (26, .return_, 1)]
def eCd128 : List (Nat × Instr × Nat) := [(0, .aload_n 0, 1), (1, .invokespecial 1, 3), (4, .aload_n 0, 1), (5, .bipush 40, 2), (7, .newarray .int, 2), (9, .putfield 7, 3), (12, .aload_n 0, 1), (13, .sipush 200, 3), (16, .putfield 13, 3), (19, .aload_n 0, 1), (20, .iconst 4, 1), (21, .newarray .int, 2), (23, .putfield 17, 3), (26, .aload_n 0, 1), (27, .sipush 160, 3), (30, .newarray .int, 2), (32, .putfield 20, 3), (35, .aload_n 0, 1), (36, .bipush 40, 2), (38, .newarray .int, 2), (40, .putfield 23, 3), (43, .aload_n 0, 1), (44, .sipush 256, 3), (47, .newarray .int, 2), (49, .putfield 26, 3), (52, .aload_n 0, 1), (53, .sipush 256, 3), (56, .newarray .boolean, 2), (58, .putfield 29, 3), (61, .aload_n 0, 1), (62, .sipush 256, 3), (65, .newarray .int, 2), (67, .putfield 33, 3), (70, .aload_n 0, 1), (71, .sipush 256, 3), (74, .newarray .int, 2), (76, .putfield 36, 3), (79, .aload_n 0, 1), (80, .ldc 39, 2), (82, .newarray .int, 2), (84, .putfield 40, 3), (87, .aload_n 0, 1), (88, .sipush 256, 3), (91, .newarray .int, 2), (93, .putfield 43, 3), (96, .aload_n 0, 1), (97, .sipush 256, 3), (100, .newarray .int, 2), (102, .putfield 46, 3), (105, .aload_n 0, 1), (106, .bipush 9, 2), (108, .newarray .int, 2), (110, .putfield 49, 3), (113, .aload_n 0, 1), (114, .bipush 8, 2), (116, .newarray .int, 2), (118, .putfield 52, 3), (121, .aload_n 0, 1), (122, .bipush 72, 2), (124, .newarray .int, 2), (126, .putfield 55, 3), (129, .aload_n 0, 1), (130, .bipush 17, 2), (132, .newarray .int, 2), (134, .putfield 58, 3), (137, .aload_n 0, 1), (138, .bipush 17, 2), (140, .newarray .int, 2), (142, .putfield 61, 3), (145, .aload_n 0, 1), (146, .bipush 8, 2), (148, .newarray .int, 2), (150, .putfield 64, 3), (153, .aload_n 0, 1), (154, .bipush 16, 2), (156, .newarray .boolean, 2), (158, .putfield 67, 3), (161, .aload_n 0, 1), (162, .bipush 44, 2), (164, .newarray .int, 2), (166, .putfield 70, 3), (169, .aload_n 0, 1), (170, .bipush 6, 2), (172, .newarray .int, 2), (174, .putfield 73, 3), (177, .aload_n 0, 1), (178, .iconst 4, 1), (179, .newarray .int, 2), (181, .putfield 76, 3), (184, .aload_n 0, 1), (185, .iconst 4, 1), (186, .newarray .int, 2), (188, .putfield 79, 3), (191, .aload_n 0, 1), (192, .bipush 96, 2), (194, .newarray .long, 2), (196, .putfield 82, 3), (199, .aload_n 0, 1), (200, .bipush 24, 2), (202, .newarray .long, 2), (204, .putfield 86, 3), (207, .iconst 0, 1), (208, .istore_n 1, 1), (209, .iload_n 1, 1), (210, .iconst 4, 1), (211, .if_icmp .ge 16, 3), (214, .aload_n 0, 1), (215, .getfield 76, 3), (218, .iload_n 1, 1), (219, .iconst (-1), 1), (220, .iastore, 1), (221, .iinc 1 1, 3), (224, .goto (-15), 3), (227, .return_, 1)]
def eCd129 : List (Nat × Instr × Nat) := [(0, .iload_n 1, 1), (1, .i2l, 1), (2, .lconst 0, 1), (3, .ldc2_w 96, 3), (6, .invokestatic 92, 3), (9, .ifCond .eq 50, 3), (12, .iload_n 2, 1), (13, .i2l, 1), (14, .lconst 1, 1), (15, .ldc2_w 98, 3), (18, .invokestatic 92, 3), (21, .ifCond .eq 38, 3), (24, .iload_n 3, 1), (25, .i2l, 1), (26, .lconst 0, 1), (27, .ldc2_w 98, 3), (30, .invokestatic 92, 3), (33, .ifCond .eq 26, 3), (36, .iload 4, 2), (38, .i2l, 1), (39, .lconst 0, 1), (40, .ldc2_w 96, 3), (43, .invokestatic 92, 3), (46, .ifCond .eq 13, 3), (49, .aload_n 0, 1), (50, .iload 5, 2), (52, .i2l, 1), (53, .invokevirtual 100, 3), (56, .ifCond .ne 5, 3), (59, .iconst (-1), 1), (60, .ireturn, 1), (61, .aload_n 0, 1), (62, .getfield 89, 3), (65, .bipush 8, 2), (67, .if_icmp .ne 6, 3), (70, .bipush (-3), 2), (72, .ireturn, 1), (73, .aload_n 0, 1), (74, .iload_n 1, 1), (75, .iload_n 2, 1), (76, .iload_n 3, 1), (77, .iload 4, 2), (79, .iload 5, 2), (81, .invokevirtual 104, 3), (84, .aload_n 0, 1), (85, .getfield 89, 3), (88, .iconst 1, 1), (89, .isub, 1), (90, .ireturn, 1)]
def eCd130 : List (Nat × Instr × Nat) := [(0, .lload_n 0, 1), (1, .lload_n 2, 1), (2, .lcmp, 1), (3, .ifCond .lt 14, 3), (6, .lload_n 0, 1), (7, .lload 4, 2), (9, .lcmp, 1), (10, .ifCond .gt 7, 3), (13, .iconst 1, 1), (14, .goto 4, 3), (17, .iconst 0, 1), (18, .ireturn, 1)]
def eCd131 : List (Nat × Instr × Nat) := [(0, .lload_n 1, 1), (1, .lconst 0, 1), (2, .iconst 1, 1), (3, .aload_n 0, 1), (4, .getfield 89, 3), (7, .ishl, 1), (8, .iconst 1, 1), (9, .isub, 1), (10, .i2l, 1), (11, .invokestatic 92, 3), (14, .ireturn, 1)]
def eCd132 : List (Nat × Instr × Nat) := [(0, .iconst 5, 1), (1, .aload_n 0, 1), (2, .getfield 89, 3), (5, .imul, 1), (6, .istore 6, 2), (8, .aload_n 0, 1), (9, .getfield 7, 3), (12, .iload 6, 2), (14, .iload_n 1, 1), (15, .iastore, 1), (16, .aload_n 0, 1), (17, .getfield 7, 3), (20, .iload 6, 2), (22, .iconst 1, 1), (23, .iadd, 1), (24, .iload_n 2, 1), (25, .iastore, 1), (26, .aload_n 0, 1), (27, .getfield 7, 3), (30, .iload 6, 2), (32, .iconst 2, 1), (33, .iadd, 1), (34, .iload_n 3, 1), (35, .iastore, 1), (36, .aload_n 0, 1), (37, .getfield 7, 3), (40, .iload 6, 2), (42, .iconst 3, 1), (43, .iadd, 1), (44, .iload 4, 2), (46, .iastore, 1), (47, .aload_n 0, 1), (48, .getfield 7, 3), (51, .iload 6, 2), (53, .iconst 4, 1), (54, .iadd, 1), (55, .iload 5, 2), (57, .iastore, 1), (58, .aload_n 0, 1), (59, .dup, 1), (60, .getfield 89, 3), (63, .iconst 1, 1), (64, .iadd, 1), (65, .putfield 89, 3), (68, .return_, 1)]
def eCd133 : List (Nat × Instr × Nat) := [(0, .iload_n 1, 1), (1, .i2l, 1), (2, .lconst 0, 1), (3, .aload_n 0, 1), (4, .getfield 89, 3), (7, .iconst 1, 1), (8, .isub, 1), (9, .i2l, 1), (10, .invokestatic 92, 3), (13, .ifCond .eq 15, 3), (16, .iload_n 2, 1), (17, .i2l, 1), (18, .lconst 0, 1), (19, .ldc2_w 108, 3), (22, .invokestatic 92, 3), (25, .ifCond .ne 5, 3), (28, .iconst (-1), 1), (29, .ireturn, 1), (30, .iload_n 2, 1), (31, .iconst 5, 1), (32, .if_icmp .ge 16, 3), (35, .aload_n 0, 1), (36, .getfield 7, 3), (39, .iconst 5, 1), (40, .iload_n 1, 1), (41, .imul, 1), (42, .iload_n 2, 1), (43, .iadd, 1), (44, .iaload, 1), (45, .goto 11, 3), (48, .aload_n 0, 1), (49, .getfield 110, 3), (52, .iload_n 1, 1), (53, .ishr, 1), (54, .iconst 1, 1), (55, .iand, 1), (56, .ireturn, 1)]
def eCd134 : List (Nat × Instr × Nat) := [(0, .aload_n 0, 1), (1, .iload_n 1, 1), (2, .i2l, 1), (3, .invokevirtual 100, 3), (6, .ifCond .ne 5, 3), (9, .iconst (-1), 1), (10, .ireturn, 1), (11, .aload_n 0, 1), (12, .iload_n 1, 1), (13, .invokevirtual 117, 3), (16, .ifCond .ne 6, 3), (19, .bipush (-2), 2), (21, .ireturn, 1), (22, .aload_n 0, 1), (23, .getfield 110, 3), (26, .istore_n 2, 1), (27, .aload_n 0, 1), (28, .iload_n 1, 1), (29, .putfield 110, 3), (32, .iload_n 2, 1), (33, .ireturn, 1)]
def eCd135 : List (Nat × Instr × Nat) := [(0, .iconst 1, 1), (1, .istore_n 2, 1), (2, .iconst 0, 1), (3, .istore_n 3, 1), (4, .iload_n 3, 1), (5, .aload_n 0, 1), (6, .getfield 89, 3), (9, .if_icmp .ge 44, 3), (12, .iload_n 2, 1), (13, .ifCond .eq 32, 3), (16, .iload_n 1, 1), (17, .iload_n 3, 1), (18, .invokestatic 113, 3), (21, .ifCond .eq 20, 3), (24, .aload_n 0, 1), (25, .getfield 7, 3), (28, .iconst 5, 1), (29, .iload_n 3, 1), (30, .imul, 1), (31, .iconst 4, 1), (32, .iadd, 1), (33, .iaload, 1), (34, .iload_n 1, 1), (35, .iconst (-1), 1), (36, .ixor, 1), (37, .iand, 1), (38, .ifCond .ne 7, 3), (41, .iconst 1, 1), (42, .goto 4, 3), (45, .iconst 0, 1), (46, .istore_n 2, 1), (47, .iinc 3 1, 3), (50, .goto (-46), 3), (53, .iload_n 2, 1), (54, .ireturn, 1)]
def eCd136 : List (Nat × Instr × Nat) := [(0, .iload_n 0, 1), (1, .iload_n 1, 1), (2, .ishr, 1), (3, .iconst 1, 1), (4, .iand, 1), (5, .iconst 1, 1), (6, .if_icmp .ne 7, 3), (9, .iconst 1, 1), (10, .goto 4, 3), (13, .iconst 0, 1), (14, .ireturn, 1)]
def eCd137 : List (Nat × Instr × Nat) := [(0, .aload_n 0, 1), (1, .iload_n 1, 1), (2, .i2l, 1), (3, .invokevirtual 100, 3), (6, .ifCond .eq 7, 3), (9, .iload_n 1, 1), (10, .ifCond .ne 5, 3), (13, .iconst (-1), 1), (14, .ireturn, 1), (15, .aload_n 0, 1), (16, .getfield 121, 3), (19, .iconst 4, 1), (20, .if_icmp .ne 6, 3), (23, .bipush (-3), 2), (25, .ireturn, 1), (26, .aload_n 0, 1), (27, .getfield 17, 3), (30, .aload_n 0, 1), (31, .getfield 121, 3), (34, .iload_n 1, 1), (35, .iastore, 1), (36, .aload_n 0, 1), (37, .dup, 1), (38, .getfield 121, 3), (41, .iconst 1, 1), (42, .iadd, 1), (43, .putfield 121, 3), (46, .aload_n 0, 1), (47, .getfield 121, 3), (50, .iconst 1, 1), (51, .isub, 1), (52, .ireturn, 1)]
def eCd138 : List (Nat × Instr × Nat) := [(0, .iload_n 1, 1), (1, .i2l, 1), (2, .lconst 0, 1), (3, .lconst 1, 1), (4, .invokestatic 92, 3), (7, .ifCond .eq 16, 3), (10, .iload_n 2, 1), (11, .i2l, 1), (12, .iload_n 1, 1), (13, .i2l, 1), (14, .ldc2_w 124, 3), (17, .invokestatic 92, 3), (20, .ifCond .ne 5, 3), (23, .iconst (-1), 1), (24, .ireturn, 1), (25, .iload_n 1, 1), (26, .ifCond .ne 10, 3), (29, .aload_n 0, 1), (30, .getfield 126, 3), (33, .goto 7, 3), (36, .aload_n 0, 1), (37, .getfield 13, 3), (40, .istore_n 3, 1), (41, .aload_n 0, 1), (42, .iload_n 1, 1), (43, .ifCond .ne 7, 3), (46, .iload_n 2, 1), (47, .goto 7, 3), (50, .aload_n 0, 1), (51, .getfield 126, 3), (54, .putfield 126, 3), (57, .aload_n 0, 1), (58, .iload_n 1, 1), (59, .iconst 1, 1), (60, .if_icmp .ne 7, 3), (63, .iload_n 2, 1), (64, .goto 7, 3), (67, .aload_n 0, 1), (68, .getfield 13, 3), (71, .putfield 13, 3), (74, .iload_n 3, 1), (75, .ireturn, 1)]
def eCd139 : List (Nat × Instr × Nat) := [(0, .aload_n 0, 1), (1, .iload_n 1, 1), (2, .i2l, 1), (3, .invokevirtual 100, 3), (6, .ifCond .ne 5, 3), (9, .iconst (-1), 1), (10, .ireturn, 1), (11, .aload_n 0, 1), (12, .getfield 129, 3), (15, .istore_n 2, 1), (16, .aload_n 0, 1), (17, .iload_n 1, 1), (18, .putfield 129, 3), (21, .iload_n 2, 1), (22, .ireturn, 1)]
def eCd140 : List (Nat × Instr × Nat) := [(0, .iload_n 1, 1), (1, .tableswitch 77 0 5 #[39, 44, 49, 54, 59, 68], 39), (40, .aload_n 0, 1), (41, .getfield 89, 3), (44, .ireturn, 1), (45, .aload_n 0, 1), (46, .getfield 110, 3), (49, .ireturn, 1), (50, .aload_n 0, 1), (51, .getfield 126, 3), (54, .ireturn, 1), (55, .aload_n 0, 1), (56, .getfield 121, 3), (59, .ireturn, 1), (60, .aload_n 0, 1), (61, .aload_n 0, 1), (62, .getfield 110, 3), (65, .invokevirtual 132, 3), (68, .ireturn, 1), (69, .aload_n 0, 1), (70, .aload_n 0, 1), (71, .getfield 110, 3), (74, .invokevirtual 136, 3), (77, .ireturn, 1), (78, .iconst (-1), 1), (79, .ireturn, 1)]
def eCd141 : List (Nat × Instr × Nat) := [(0, .iconst 0, 1), (1, .istore_n 2, 1), (2, .iconst 0, 1), (3, .istore_n 3, 1), (4, .iload_n 3, 1), (5, .aload_n 0, 1), (6, .getfield 89, 3), (9, .if_icmp .ge 34, 3), (12, .iload_n 2, 1), (13, .iload_n 1, 1), (14, .iload_n 3, 1), (15, .invokestatic 113, 3), (18, .ifCond .eq 16, 3), (21, .aload_n 0, 1), (22, .getfield 7, 3), (25, .iconst 5, 1), (26, .iload_n 3, 1), (27, .imul, 1), (28, .iconst 1, 1), (29, .iadd, 1), (30, .iaload, 1), (31, .goto 4, 3), (34, .iconst 0, 1), (35, .iadd, 1), (36, .istore_n 2, 1), (37, .iinc 3 1, 3), (40, .goto (-36), 3), (43, .iload_n 2, 1), (44, .ireturn, 1)]
def eCd142 : List (Nat × Instr × Nat) := [(0, .iconst 0, 1), (1, .istore_n 2, 1), (2, .iconst 0, 1), (3, .istore_n 3, 1), (4, .iload_n 3, 1), (5, .aload_n 0, 1), (6, .getfield 121, 3), (9, .if_icmp .ge 30, 3), (12, .iload_n 2, 1), (13, .aload_n 0, 1), (14, .getfield 17, 3), (17, .iload_n 3, 1), (18, .iaload, 1), (19, .iload_n 1, 1), (20, .iand, 1), (21, .ifCond .eq 9, 3), (24, .iconst 1, 1), (25, .iload_n 3, 1), (26, .ishl, 1), (27, .goto 4, 3), (30, .iconst 0, 1), (31, .ior, 1), (32, .istore_n 2, 1), (33, .iinc 3 1, 3), (36, .goto (-32), 3), (39, .iload_n 2, 1), (40, .ireturn, 1)]
def eCd143 : List (Nat × Instr × Nat) := [(0, .iload_n 3, 1), (1, .i2l, 1), (2, .lconst 1, 1), (3, .ldc2_w 139, 3), (6, .invokestatic 92, 3), (9, .ifCond .ne 5, 3), (12, .iconst (-1), 1), (13, .ireturn, 1), (14, .iload_n 3, 1), (15, .iconst 1, 1), (16, .isub, 1), (17, .istore 4, 2), (19, .iload 4, 2), (21, .ifCond .lt 34, 3), (24, .lload_n 1, 1), (25, .bipush 8, 2), (27, .iload 4, 2), (29, .imul, 1), (30, .lshr, 1), (31, .ldc2_w 141, 3), (34, .land, 1), (35, .ldc2_w 143, 3), (38, .ldc2_w 145, 3), (41, .invokestatic 92, 3), (44, .ifCond .ne 5, 3), (47, .iconst (-1), 1), (48, .ireturn, 1), (49, .iinc 4 (-1), 3), (52, .goto (-33), 3), (55, .aload_n 0, 1), (56, .getfield 147, 3), (59, .iload_n 3, 1), (60, .iadd, 1), (61, .sipush 160, 3), (64, .if_icmp .le 6, 3), (67, .bipush (-3), 2), (69, .ireturn, 1), (70, .iload_n 3, 1), (71, .iconst 1, 1), (72, .isub, 1), (73, .istore 4, 2), (75, .iload 4, 2), (77, .ifCond .lt 40, 3), (80, .aload_n 0, 1), (81, .getfield 20, 3), (84, .aload_n 0, 1), (85, .getfield 147, 3), (88, .lload_n 1, 1), (89, .bipush 8, 2), (91, .iload 4, 2), (93, .imul, 1), (94, .lshr, 1), (95, .ldc2_w 141, 3), (98, .land, 1), (99, .l2i, 1), (100, .iastore, 1), (101, .aload_n 0, 1), (102, .dup, 1), (103, .getfield 147, 3), (106, .iconst 1, 1), (107, .iadd, 1), (108, .putfield 147, 3), (111, .iinc 4 (-1), 3), (114, .goto (-39), 3), (117, .aload_n 0, 1), (118, .getfield 147, 3), (121, .ireturn, 1)]
def eCd144 : List (Nat × Instr × Nat) := [(0, .aload_n 0, 1), (1, .iconst 1, 1), (2, .invokevirtual 180, 3), (5, .istore_n 1, 1), (6, .iload_n 1, 1), (7, .ifCond .ne 8, 3), (10, .aload_n 0, 1), (11, .invokevirtual 153, 3), (14, .pop, 1), (15, .aload_n 0, 1), (16, .iconst 0, 1), (17, .putfield 147, 3), (20, .iload_n 1, 1), (21, .ifCond .ne 11, 3), (24, .bipush (-20), 2), (26, .aload_n 0, 1), (27, .getfield 150, 3), (30, .isub, 1), (31, .ireturn, 1), (32, .aload_n 0, 1), (33, .iconst 0, 1), (34, .putfield 89, 3), (37, .aload_n 0, 1), (38, .iconst 0, 1), (39, .putfield 121, 3), (42, .aload_n 0, 1), (43, .iconst 0, 1), (44, .putfield 129, 3), (47, .iconst 0, 1), (48, .istore_n 2, 1), (49, .iload_n 2, 1), (50, .aload_n 0, 1), (51, .getfield 177, 3), (54, .if_icmp .ge 61, 3), (57, .aload_n 0, 1), (58, .aload_n 0, 1), (59, .getfield 23, 3), (62, .iconst 5, 1), (63, .iload_n 2, 1), (64, .imul, 1), (65, .iaload, 1), (66, .aload_n 0, 1), (67, .getfield 23, 3), (70, .iconst 5, 1), (71, .iload_n 2, 1), (72, .imul, 1), (73, .iconst 1, 1), (74, .iadd, 1), (75, .iaload, 1), (76, .aload_n 0, 1), (77, .getfield 23, 3), (80, .iconst 5, 1), (81, .iload_n 2, 1), (82, .imul, 1), (83, .iconst 2, 1), (84, .iadd, 1), (85, .iaload, 1), (86, .aload_n 0, 1), (87, .getfield 23, 3), (90, .iconst 5, 1), (91, .iload_n 2, 1), (92, .imul, 1), (93, .iconst 3, 1), (94, .iadd, 1), (95, .iaload, 1), (96, .aload_n 0, 1), (97, .getfield 23, 3), (100, .iconst 5, 1), (101, .iload_n 2, 1), (102, .imul, 1), (103, .iconst 4, 1), (104, .iadd, 1), (105, .iaload, 1), (106, .invokevirtual 104, 3), (109, .iinc 2 1, 3), (112, .goto (-63), 3), (115, .aload_n 0, 1), (116, .aload_n 0, 1), (117, .getfield 171, 3), (120, .putfield 110, 3), (123, .aload_n 0, 1), (124, .getfield 89, 3), (127, .ireturn, 1)]
def eCd145 : List (Nat × Instr × Nat) := [(0, .aload_n 0, 1), (1, .iconst 0, 1), (2, .putfield 150, 3), (5, .aload_n 0, 1), (6, .iconst 0, 1), (7, .putfield 171, 3), (10, .iload_n 1, 1), (11, .ifCond .eq 8, 3), (14, .bipush 8, 2), (16, .goto 4, 3), (19, .iconst 4, 1), (20, .istore_n 2, 1), (21, .iconst 0, 1), (22, .istore_n 3, 1), (23, .iload_n 3, 1), (24, .iload_n 2, 1), (25, .if_icmp .ge 94, 3), (28, .iload_n 1, 1), (29, .ifCond .eq 13, 3), (32, .aload_n 0, 1), (33, .iload_n 3, 1), (34, .invokevirtual 174, 3), (37, .ifCond .ne 30, 3), (40, .iconst 0, 1), (41, .ireturn, 1), (42, .aload_n 0, 1), (43, .getfield 23, 3), (46, .iload_n 3, 1), (47, .aload_n 0, 1), (48, .aload_n 0, 1), (49, .getfield 89, 3), (52, .invokevirtual 168, 3), (55, .iastore, 1), (56, .aload_n 0, 1), (57, .getfield 23, 3), (60, .iload_n 3, 1), (61, .iaload, 1), (62, .ifCond .ge 5, 3), (65, .iconst 0, 1), (66, .ireturn, 1), (67, .aload_n 0, 1), (68, .iload_n 3, 1), (69, .iconst 1, 1), (70, .iadd, 1), (71, .putfield 177, 3), (74, .aload_n 0, 1), (75, .invokevirtual 153, 3), (78, .istore 4, 2), (80, .iload 4, 2), (82, .ifCond .ge 5, 3), (85, .iconst 1, 1), (86, .ireturn, 1), (87, .iload 4, 2), (89, .bipush 44, 2), (91, .if_icmp .ne 10, 3), (94, .iload_n 3, 1), (95, .iload_n 2, 1), (96, .iconst 1, 1), (97, .isub, 1), (98, .if_icmp .ne 5, 3), (101, .iconst 0, 1), (102, .ireturn, 1), (103, .aload_n 0, 1), (104, .dup, 1), (105, .getfield 150, 3), (108, .iconst 1, 1), (109, .iadd, 1), (110, .putfield 150, 3), (113, .iinc 3 1, 3), (116, .goto (-93), 3), (119, .iconst 0, 1), (120, .ireturn, 1)]
def eCd146 : List (Nat × Instr × Nat) := [(0, .iconst 5, 1), (1, .iload_n 1, 1), (2, .imul, 1), (3, .istore_n 2, 1), (4, .aload_n 0, 1), (5, .invokevirtual 153, 3), (8, .istore_n 3, 1), (9, .aload_n 0, 1), (10, .getfield 23, 3), (13, .iload_n 2, 1), (14, .iload_n 3, 1), (15, .bipush 104, 2), (17, .if_icmp .ne 7, 3), (20, .iconst 0, 1), (21, .goto 34, 3), (24, .iload_n 3, 1), (25, .bipush 98, 2), (27, .if_icmp .ne 7, 3), (30, .iconst 1, 1), (31, .goto 24, 3), (34, .iload_n 3, 1), (35, .bipush 99, 2), (37, .if_icmp .ne 7, 3), (40, .iconst 2, 1), (41, .goto 14, 3), (44, .iload_n 3, 1), (45, .bipush 114, 2), (47, .if_icmp .ne 7, 3), (50, .iconst 3, 1), (51, .goto 4, 3), (54, .iconst (-1), 1), (55, .iastore, 1), (56, .aload_n 0, 1), (57, .getfield 23, 3), (60, .iload_n 2, 1), (61, .iaload, 1), (62, .ifCond .ge 5, 3), (65, .iconst 0, 1), (66, .ireturn, 1), (67, .aload_n 0, 1), (68, .dup, 1), (69, .getfield 150, 3), (72, .iconst 1, 1), (73, .iadd, 1), (74, .putfield 150, 3), (77, .aload_n 0, 1), (78, .getfield 23, 3), (81, .iload_n 2, 1), (82, .iconst 1, 1), (83, .iadd, 1), (84, .aload_n 0, 1), (85, .iconst 1, 1), (86, .bipush 99, 2), (88, .invokevirtual 161, 3), (91, .iastore, 1), (92, .aload_n 0, 1), (93, .getfield 23, 3), (96, .iload_n 2, 1), (97, .iconst 1, 1), (98, .iadd, 1), (99, .iaload, 1), (100, .ifCond .ge 5, 3), (103, .iconst 0, 1), (104, .ireturn, 1), (105, .aload_n 0, 1), (106, .getfield 23, 3), (109, .iload_n 2, 1), (110, .iconst 2, 1), (111, .iadd, 1), (112, .aload_n 0, 1), (113, .bipush 64, 2), (115, .invokevirtual 165, 3), (118, .ifCond .eq 13, 3), (121, .aload_n 0, 1), (122, .iconst 0, 1), (123, .bipush 99, 2), (125, .invokevirtual 161, 3), (128, .goto 4, 3), (131, .iconst 0, 1), (132, .iastore, 1), (133, .aload_n 0, 1), (134, .getfield 23, 3), (137, .iload_n 2, 1), (138, .iconst 2, 1), (139, .iadd, 1), (140, .iaload, 1), (141, .ifCond .ge 5, 3), (144, .iconst 0, 1), (145, .ireturn, 1), (146, .aload_n 0, 1), (147, .getfield 23, 3), (150, .iload_n 2, 1), (151, .iconst 3, 1), (152, .iadd, 1), (153, .iconst 0, 1), (154, .iastore, 1), (155, .aload_n 0, 1), (156, .bipush 111, 2), (158, .invokevirtual 165, 3), (161, .ifCond .eq 49, 3), (164, .aload_n 0, 1), (165, .getfield 23, 3), (168, .iload_n 2, 1), (169, .iconst 3, 1), (170, .iadd, 1), (171, .aload_n 0, 1), (172, .invokevirtual 153, 3), (175, .bipush 48, 2), (177, .isub, 1), (178, .iastore, 1), (179, .aload_n 0, 1), (180, .getfield 23, 3), (183, .iload_n 2, 1), (184, .iconst 3, 1), (185, .iadd, 1), (186, .iaload, 1), (187, .i2l, 1), (188, .lconst 0, 1), (189, .ldc2_w 96, 3), (192, .invokestatic 92, 3), (195, .ifCond .ne 5, 3), (198, .iconst 0, 1), (199, .ireturn, 1), (200, .aload_n 0, 1), (201, .dup, 1), (202, .getfield 150, 3), (205, .iconst 1, 1), (206, .iadd, 1), (207, .putfield 150, 3), (210, .aload_n 0, 1), (211, .getfield 23, 3), (214, .iload_n 2, 1), (215, .iconst 4, 1), (216, .iadd, 1), (217, .aload_n 0, 1), (218, .bipush 47, 2), (220, .invokevirtual 165, 3), (223, .ifCond .eq 11, 3), (226, .aload_n 0, 1), (227, .iload_n 1, 1), (228, .invokevirtual 168, 3), (231, .goto 4, 3), (234, .iconst 0, 1), (235, .iastore, 1), (236, .aload_n 0, 1), (237, .getfield 23, 3), (240, .iload_n 2, 1), (241, .iconst 4, 1), (242, .iadd, 1), (243, .iaload, 1), (244, .ifCond .ge 5, 3), (247, .iconst 0, 1), (248, .ireturn, 1), (249, .aload_n 0, 1), (250, .invokevirtual 153, 3), (253, .bipush 42, 2), (255, .if_icmp .ne 45, 3), (258, .aload_n 0, 1), (259, .getfield 23, 3), (262, .iload_n 2, 1), (263, .iconst 4, 1), (264, .iadd, 1), (265, .iaload, 1), (266, .aload_n 0, 1), (267, .getfield 171, 3), (270, .iconst (-1), 1), (271, .ixor, 1), (272, .iand, 1), (273, .ifCond .eq 5, 3), (276, .iconst 0, 1), (277, .ireturn, 1), (278, .aload_n 0, 1), (279, .dup, 1), (280, .getfield 171, 3), (283, .iconst 1, 1), (284, .iload_n 1, 1), (285, .ishl, 1), (286, .ior, 1), (287, .putfield 171, 3), (290, .aload_n 0, 1), (291, .dup, 1), (292, .getfield 150, 3), (295, .iconst 1, 1), (296, .iadd, 1), (297, .putfield 150, 3), (300, .iconst 1, 1), (301, .ireturn, 1)]
def eCd147 : List (Nat × Instr × Nat) := [(0, .aload_n 0, 1), (1, .getfield 150, 3), (4, .aload_n 0, 1), (5, .getfield 147, 3), (8, .if_icmp .ge 30, 3), (11, .aload_n 0, 1), (12, .getfield 20, 3), (15, .aload_n 0, 1), (16, .getfield 150, 3), (19, .iaload, 1), (20, .bipush 32, 2), (22, .if_icmp .ne 16, 3), (25, .aload_n 0, 1), (26, .dup, 1), (27, .getfield 150, 3), (30, .iconst 1, 1), (31, .iadd, 1), (32, .putfield 150, 3), (35, .goto (-35), 3), (38, .aload_n 0, 1), (39, .getfield 150, 3), (42, .aload_n 0, 1), (43, .getfield 147, 3), (46, .if_icmp .ge 15, 3), (49, .aload_n 0, 1), (50, .getfield 20, 3), (53, .aload_n 0, 1), (54, .getfield 150, 3), (57, .iaload, 1), (58, .goto 4, 3), (61, .iconst (-1), 1), (62, .ireturn, 1)]
def eCd148 : List (Nat × Instr × Nat) := [(0, .aload_n 0, 1), (1, .invokevirtual 153, 3), (4, .pop, 1), (5, .aload_n 0, 1), (6, .getfield 150, 3), (9, .istore_n 3, 1), (10, .iconst 0, 1), (11, .istore 4, 2), (13, .aload_n 0, 1), (14, .getfield 150, 3), (17, .aload_n 0, 1), (18, .getfield 147, 3), (21, .if_icmp .ge 71, 3), (24, .aload_n 0, 1), (25, .getfield 20, 3), (28, .aload_n 0, 1), (29, .getfield 150, 3), (32, .iaload, 1), (33, .i2l, 1), (34, .ldc2_w 157, 3), (37, .ldc2_w 159, 3), (40, .invokestatic 92, 3), (43, .ifCond .eq 49, 3), (46, .iload 4, 2), (48, .sipush 999, 3), (51, .if_icmp .le 8, 3), (54, .iload 4, 2), (56, .goto 21, 3), (59, .bipush 10, 2), (61, .iload 4, 2), (63, .imul, 1), (64, .aload_n 0, 1), (65, .getfield 20, 3), (68, .aload_n 0, 1), (69, .getfield 150, 3), (72, .iaload, 1), (73, .iadd, 1), (74, .bipush 48, 2), (76, .isub, 1), (77, .istore 4, 2), (79, .aload_n 0, 1), (80, .dup, 1), (81, .getfield 150, 3), (84, .iconst 1, 1), (85, .iadd, 1), (86, .putfield 150, 3), (89, .goto (-76), 3), (92, .aload_n 0, 1), (93, .getfield 150, 3), (96, .iload_n 3, 1), (97, .if_icmp .ne 5, 3), (100, .iconst (-1), 1), (101, .ireturn, 1), (102, .iload 4, 2), (104, .i2l, 1), (105, .iload_n 1, 1), (106, .i2l, 1), (107, .iload_n 2, 1), (108, .i2l, 1), (109, .invokestatic 92, 3), (112, .ifCond .ne 10, 3), (115, .aload_n 0, 1), (116, .iload_n 3, 1), (117, .putfield 150, 3), (120, .iconst (-1), 1), (121, .ireturn, 1), (122, .iload 4, 2), (124, .ireturn, 1)]
def eCd149 : List (Nat × Instr × Nat) := [(0, .aload_n 0, 1), (1, .invokevirtual 153, 3), (4, .iload_n 1, 1), (5, .if_icmp .ne 7, 3), (8, .iconst 1, 1), (9, .goto 4, 3), (12, .iconst 0, 1), (13, .istore_n 2, 1), (14, .aload_n 0, 1), (15, .dup, 1), (16, .getfield 150, 3), (19, .iload_n 2, 1), (20, .ifCond .eq 7, 3), (23, .iconst 1, 1), (24, .goto 4, 3), (27, .iconst 0, 1), (28, .iadd, 1), (29, .putfield 150, 3), (32, .iload_n 2, 1), (33, .ireturn, 1)]
def eCd150 : List (Nat × Instr × Nat) := [(0, .iconst 0, 1), (1, .istore_n 2, 1), (2, .aload_n 0, 1), (3, .invokevirtual 153, 3), (6, .i2l, 1), (7, .ldc2_w 157, 3), (10, .ldc2_w 159, 3), (13, .invokestatic 92, 3), (16, .ifCond .ne 7, 3), (19, .iload_n 2, 1), (20, .ifCond .ne 53, 3), (23, .aload_n 0, 1), (24, .invokevirtual 153, 3), (27, .bipush 48, 2), (29, .isub, 1), (30, .istore_n 3, 1), (31, .iload_n 3, 1), (32, .i2l, 1), (33, .lconst 0, 1), (34, .iload_n 1, 1), (35, .iconst 1, 1), (36, .isub, 1), (37, .i2l, 1), (38, .invokestatic 92, 3), (41, .ifCond .eq 11, 3), (44, .iload_n 2, 1), (45, .iload_n 3, 1), (46, .invokestatic 113, 3), (49, .ifCond .eq 5, 3), (52, .iconst (-1), 1), (53, .ireturn, 1), (54, .iload_n 2, 1), (55, .iconst 1, 1), (56, .iload_n 3, 1), (57, .ishl, 1), (58, .ior, 1), (59, .istore_n 2, 1), (60, .aload_n 0, 1), (61, .dup, 1), (62, .getfield 150, 3), (65, .iconst 1, 1), (66, .iadd, 1), (67, .putfield 150, 3), (70, .goto (-68), 3), (73, .iload_n 2, 1), (74, .ireturn, 1)]
def eCd151 : List (Nat × Instr × Nat) := [(0, .aload_n 0, 1), (1, .iconst 0, 1), (2, .invokevirtual 180, 3), (5, .istore_n 1, 1), (6, .iload_n 1, 1), (7, .ifCond .ne 8, 3), (10, .aload_n 0, 1), (11, .invokevirtual 153, 3), (14, .pop, 1), (15, .aload_n 0, 1), (16, .iconst 0, 1), (17, .putfield 147, 3), (20, .iload_n 1, 1), (21, .ifCond .ne 11, 3), (24, .bipush (-20), 2), (26, .aload_n 0, 1), (27, .getfield 150, 3), (30, .isub, 1), (31, .ireturn, 1), (32, .aload_n 0, 1), (33, .aload_n 0, 1), (34, .getfield 177, 3), (37, .putfield 121, 3), (40, .iconst 0, 1), (41, .istore_n 2, 1), (42, .iload_n 2, 1), (43, .aload_n 0, 1), (44, .getfield 177, 3), (47, .if_icmp .ge 21, 3), (50, .aload_n 0, 1), (51, .getfield 17, 3), (54, .iload_n 2, 1), (55, .aload_n 0, 1), (56, .getfield 23, 3), (59, .iload_n 2, 1), (60, .iaload, 1), (61, .iastore, 1), (62, .iinc 2 1, 3), (65, .goto (-23), 3), (68, .aload_n 0, 1), (69, .getfield 121, 3), (72, .ireturn, 1)]
def eCd152 : List (Nat × Instr × Nat) := [(0, .aload_n 0, 1), (1, .aload_n 0, 1), (2, .getfield 110, 3), (5, .iload_n 1, 1), (6, .i2l, 1), (7, .iload_n 2, 1), (8, .i2l, 1), (9, .invokevirtual 197, 3), (12, .ifCond .ne 7, 3), (15, .iconst (-1), 1), (16, .goto 25, 3), (19, .aload_n 0, 1), (20, .aload_n 0, 1), (21, .getfield 110, 3), (24, .aload_n 0, 1), (25, .getfield 126, 3), (28, .iload_n 1, 1), (29, .iload_n 2, 1), (30, .invokevirtual 201, 3), (33, .ifCond .eq 7, 3), (36, .iconst 1, 1), (37, .goto 4, 3), (40, .iconst 0, 1), (41, .ireturn, 1)]
def eCd153 : List (Nat × Instr × Nat) := [(0, .aload_n 0, 1), (1, .lload_n 2, 1), (2, .invokevirtual 100, 3), (5, .ifCond .eq 37, 3), (8, .aload_n 0, 1), (9, .lload 4, 2), (11, .invokevirtual 100, 3), (14, .ifCond .eq 28, 3), (17, .lload_n 2, 1), (18, .iload_n 1, 1), (19, .iconst (-1), 1), (20, .ixor, 1), (21, .i2l, 1), (22, .land, 1), (23, .lconst 0, 1), (24, .lcmp, 1), (25, .ifCond .ne 17, 3), (28, .lload 4, 2), (30, .iload_n 1, 1), (31, .i2l, 1), (32, .land, 1), (33, .lconst 0, 1), (34, .lcmp, 1), (35, .ifCond .ne 7, 3), (38, .iconst 1, 1), (39, .goto 4, 3), (42, .iconst 0, 1), (43, .ireturn, 1)]
def eCd154 : List (Nat × Instr × Nat) := [(0, .aload_n 0, 1), (1, .iload_n 1, 1), (2, .iload_n 3, 1), (3, .iload 4, 2), (5, .invokevirtual 190, 3), (8, .ifCond .eq 19, 3), (11, .iload_n 2, 1), (12, .aload_n 0, 1), (13, .iload_n 3, 1), (14, .iload 4, 2), (16, .invokevirtual 194, 3), (19, .iadd, 1), (20, .ifCond .lt 7, 3), (23, .iconst 1, 1), (24, .goto 4, 3), (27, .iconst 0, 1), (28, .ireturn, 1)]
def eCd155 : List (Nat × Instr × Nat) := [(0, .iload_n 1, 1), (1, .iload_n 2, 1), (2, .iconst (-1), 1), (3, .ixor, 1), (4, .iand, 1), (5, .iload_n 3, 1), (6, .ior, 1), (7, .istore 4, 2), (9, .aload_n 0, 1), (10, .iload_n 2, 1), (11, .invokevirtual 132, 3), (14, .aload_n 0, 1), (15, .iload_n 3, 1), (16, .invokevirtual 132, 3), (19, .iadd, 1), (20, .aload_n 0, 1), (21, .getfield 13, 3), (24, .if_icmp .gt 16, 3), (27, .aload_n 0, 1), (28, .iload 4, 2), (30, .invokevirtual 117, 3), (33, .ifCond .eq 7, 3), (36, .iconst 1, 1), (37, .goto 4, 3), (40, .iconst 0, 1), (41, .istore 5, 2), (43, .iconst 0, 1), (44, .istore 6, 2), (46, .iload 6, 2), (48, .aload_n 0, 1), (49, .getfield 121, 3), (52, .if_icmp .ge 36, 3), (55, .iload 5, 2), (57, .ifCond .eq 31, 3), (60, .aload_n 0, 1), (61, .getfield 17, 3), (64, .iload 6, 2), (66, .iaload, 1), (67, .iload_n 1, 1), (68, .iand, 1), (69, .iload 4, 2), (71, .iand, 1), (72, .ifCond .eq 7, 3), (75, .iconst 1, 1), (76, .goto 4, 3), (79, .iconst 0, 1), (80, .istore 5, 2), (82, .iinc 6 1, 3), (85, .goto (-39), 3), (88, .iload 5, 2), (90, .ireturn, 1)]
def eCd156 : List (Nat × Instr × Nat) := [(0, .iconst 0, 1), (1, .istore_n 3, 1), (2, .iconst 0, 1), (3, .istore 4, 2), (5, .iload 4, 2), (7, .aload_n 0, 1), (8, .getfield 89, 3), (11, .if_icmp .ge 51, 3), (14, .iload_n 3, 1), (15, .iload_n 1, 1), (16, .iload 4, 2), (18, .invokestatic 113, 3), (21, .ifCond .eq 12, 3), (24, .aload_n 0, 1), (25, .iload 4, 2), (27, .invokevirtual 184, 3), (30, .goto 4, 3), (33, .iconst 0, 1), (34, .iload_n 2, 1), (35, .iload 4, 2), (37, .invokestatic 113, 3), (40, .ifCond .eq 12, 3), (43, .aload_n 0, 1), (44, .iload 4, 2), (46, .invokevirtual 187, 3), (49, .goto 4, 3), (52, .iconst 0, 1), (53, .isub, 1), (54, .iadd, 1), (55, .istore_n 3, 1), (56, .iinc 4 1, 3), (59, .goto (-54), 3), (62, .iload_n 3, 1), (63, .ireturn, 1)]
def eCd157 : List (Nat × Instr × Nat) := [(0, .aload_n 0, 1), (1, .getfield 7, 3), (4, .iconst 5, 1), (5, .iload_n 1, 1), (6, .imul, 1), (7, .iconst 1, 1), (8, .iadd, 1), (9, .iaload, 1), (10, .istore_n 2, 1), (11, .aload_n 0, 1), (12, .getfield 7, 3), (15, .iconst 5, 1), (16, .iload_n 1, 1), (17, .imul, 1), (18, .iaload, 1), (19, .istore_n 3, 1), (20, .iload_n 3, 1), (21, .iconst 1, 1), (22, .if_icmp .ne 9, 3), (25, .iload_n 2, 1), (26, .iconst 1, 1), (27, .isub, 1), (28, .goto 25, 3), (31, .iload_n 3, 1), (32, .iconst 2, 1), (33, .if_icmp .ne 8, 3), (36, .iload_n 2, 1), (37, .ineg, 1), (38, .goto 15, 3), (41, .iload_n 3, 1), (42, .iconst 3, 1), (43, .if_icmp .ne 9, 3), (46, .iload_n 2, 1), (47, .iconst 2, 1), (48, .idiv, 1), (49, .goto 4, 3), (52, .iload_n 2, 1), (53, .ireturn, 1)]
def eCd158 : List (Nat × Instr × Nat) := [(0, .aload_n 0, 1), (1, .getfield 7, 3), (4, .iconst 5, 1), (5, .iload_n 1, 1), (6, .imul, 1), (7, .iaload, 1), (8, .iconst 2, 1), (9, .if_icmp .ne 17, 3), (12, .aload_n 0, 1), (13, .getfield 7, 3), (16, .iconst 5, 1), (17, .iload_n 1, 1), (18, .imul, 1), (19, .iconst 1, 1), (20, .iadd, 1), (21, .iaload, 1), (22, .ineg, 1), (23, .goto 13, 3), (26, .aload_n 0, 1), (27, .getfield 7, 3), (30, .iconst 5, 1), (31, .iload_n 1, 1), (32, .imul, 1), (33, .iconst 1, 1), (34, .iadd, 1), (35, .iaload, 1), (36, .ireturn, 1)]
def eCd159 : List (Nat × Instr × Nat) := [(0, .aload_n 0, 1), (1, .aload_n 0, 1), (2, .getfield 110, 3), (5, .iload_n 1, 1), (6, .i2l, 1), (7, .iload_n 2, 1), (8, .i2l, 1), (9, .invokevirtual 197, 3), (12, .ifCond .ne 5, 3), (15, .iconst (-1), 1), (16, .ireturn, 1), (17, .aload_n 0, 1), (18, .aload_n 0, 1), (19, .getfield 110, 3), (22, .aload_n 0, 1), (23, .getfield 126, 3), (26, .iload_n 1, 1), (27, .iload_n 2, 1), (28, .invokevirtual 201, 3), (31, .ifCond .ne 6, 3), (34, .bipush (-2), 2), (36, .ireturn, 1), (37, .aload_n 0, 1), (38, .iload_n 1, 1), (39, .iload_n 2, 1), (40, .invokevirtual 208, 3), (43, .aload_n 0, 1), (44, .getfield 126, 3), (47, .ireturn, 1)]
def eCd160 : List (Nat × Instr × Nat) := [(0, .aload_n 0, 1), (1, .aload_n 0, 1), (2, .getfield 126, 3), (5, .aload_n 0, 1), (6, .iload_n 1, 1), (7, .iload_n 2, 1), (8, .invokevirtual 194, 3), (11, .iadd, 1), (12, .invokestatic 205, 3), (15, .putfield 126, 3), (18, .aload_n 0, 1), (19, .aload_n 0, 1), (20, .getfield 110, 3), (23, .iload_n 1, 1), (24, .iconst (-1), 1), (25, .ixor, 1), (26, .iand, 1), (27, .iload_n 2, 1), (28, .ior, 1), (29, .putfield 110, 3), (32, .return_, 1)]
def eCd161 : List (Nat × Instr × Nat) := [(0, .iload_n 0, 1), (1, .sipush 999, 3), (4, .if_icmp .le 9, 3), (7, .sipush 999, 3), (10, .goto 4, 3), (13, .iload_n 0, 1), (14, .ireturn, 1)]
def eCd162 : List (Nat × Instr × Nat) := [(0, .iload_n 1, 1), (1, .i2l, 1), (2, .ldc2_w 223, 3), (5, .ldc2_w 141, 3), (8, .invokestatic 92, 3), (11, .ifCond .ne 5, 3), (14, .iconst (-1), 1), (15, .ireturn, 1), (16, .aload_n 0, 1), (17, .invokevirtual 225, 3), (20, .istore_n 2, 1), (21, .iload_n 2, 1), (22, .ifCond .lt 8, 3), (25, .iload_n 1, 1), (26, .iload_n 2, 1), (27, .if_icmp .lt 8, 3), (30, .bipush (-4), 2), (32, .goto 17, 3), (35, .iload_n 1, 1), (36, .ifCond .ge 7, 3), (39, .iload_n 2, 1), (40, .goto 9, 3), (43, .aload_n 0, 1), (44, .getfield 46, 3), (47, .iload_n 1, 1), (48, .iaload, 1), (49, .ireturn, 1)]
def eCd163 : List (Nat × Instr × Nat) := [(0, .aload_n 0, 1), (1, .sipush 255, 3), (4, .aload_n 0, 1), (5, .getfield 126, 3), (8, .invokevirtual 220, 3), (11, .istore_n 1, 1), (12, .aload_n 0, 1), (13, .getfield 110, 3), (16, .istore_n 2, 1), (17, .aload_n 0, 1), (18, .getfield 126, 3), (21, .istore_n 3, 1), (22, .iconst 0, 1), (23, .istore 4, 2), (25, .iload 4, 2), (27, .iload_n 1, 1), (28, .if_icmp .ge 100, 3), (31, .sipush 256, 3), (34, .iload_n 1, 1), (35, .iload 4, 2), (37, .isub, 1), (38, .iconst 1, 1), (39, .isub, 1), (40, .imul, 1), (41, .istore 5, 2), (43, .iconst 0, 1), (44, .istore 6, 2), (46, .aload_n 0, 1), (47, .getfield 40, 3), (50, .iload 5, 2), (52, .iload 6, 2), (54, .iadd, 1), (55, .iaload, 1), (56, .sipush 999, 3), (59, .if_icmp .gt 24, 3), (62, .aload_n 0, 1), (63, .iload_n 2, 1), (64, .iload 6, 2), (66, .aload_n 0, 1), (67, .getfield 40, 3), (70, .iload 5, 2), (72, .iload 6, 2), (74, .iadd, 1), (75, .iaload, 1), (76, .invokevirtual 216, 3), (79, .iload_n 3, 1), (80, .if_icmp .le 9, 3), (83, .iinc 6 1, 3), (86, .goto (-40), 3), (89, .iload_n 3, 1), (90, .aload_n 0, 1), (91, .iload_n 2, 1), (92, .iload 6, 2), (94, .iconst (-1), 1), (95, .ixor, 1), (96, .iand, 1), (97, .iload 6, 2), (99, .iload_n 2, 1), (100, .iconst (-1), 1), (101, .ixor, 1), (102, .iand, 1), (103, .invokevirtual 194, 3), (106, .iadd, 1), (107, .invokestatic 205, 3), (110, .istore_n 3, 1), (111, .iload 6, 2), (113, .istore_n 2, 1), (114, .aload_n 0, 1), (115, .getfield 46, 3), (118, .iload 4, 2), (120, .iload_n 2, 1), (121, .iastore, 1), (122, .iinc 4 1, 3), (125, .goto (-100), 3), (128, .iload_n 1, 1), (129, .ireturn, 1)]
def eCd164 : List (Nat × Instr × Nat) := [(0, .aload_n 0, 1), (1, .invokevirtual 213, 3), (4, .iconst 0, 1), (5, .istore_n 3, 1), (6, .iload_n 3, 1), (7, .iconst 1, 1), (8, .aload_n 0, 1), (9, .getfield 89, 3), (12, .ishl, 1), (13, .if_icmp .ge 41, 3), (16, .aload_n 0, 1), (17, .getfield 40, 3), (20, .iload_n 3, 1), (21, .iload_n 3, 1), (22, .aload_n 0, 1), (23, .getfield 129, 3), (26, .if_icmp .ne 7, 3), (29, .iconst 0, 1), (30, .goto 5, 3), (33, .ldc 212, 2), (35, .iastore, 1), (36, .aload_n 0, 1), (37, .getfield 43, 3), (40, .iload_n 3, 1), (41, .aload_n 0, 1), (42, .getfield 40, 3), (45, .iload_n 3, 1), (46, .iaload, 1), (47, .iastore, 1), (48, .iinc 3 1, 3), (51, .goto (-45), 3), (54, .aload_n 0, 1), (55, .getfield 43, 3), (58, .aload_n 0, 1), (59, .getfield 110, 3), (62, .iaload, 1), (63, .iload_n 2, 1), (64, .if_icmp .gt 5, 3), (67, .iconst 0, 1), (68, .ireturn, 1), (69, .iconst 1, 1), (70, .istore_n 3, 1), (71, .iload_n 3, 1), (72, .sipush 256, 3), (75, .if_icmp .ge 229, 3), (78, .iconst 0, 1), (79, .istore 4, 2), (81, .iconst 0, 1), (82, .istore 5, 2), (84, .iload 5, 2), (86, .iconst 1, 1), (87, .aload_n 0, 1), (88, .getfield 89, 3), (91, .ishl, 1), (92, .if_icmp .ge 177, 3), (95, .ldc 212, 2), (97, .istore 6, 2), (99, .iconst 0, 1), (100, .istore 7, 2), (102, .iload 7, 2), (104, .iconst 1, 1), (105, .aload_n 0, 1), (106, .getfield 89, 3), (109, .ishl, 1), (110, .if_icmp .ge 83, 3), (113, .aload_n 0, 1), (114, .getfield 40, 3), (117, .sipush 256, 3), (120, .iload_n 3, 1), (121, .iconst 1, 1), (122, .isub, 1), (123, .imul, 1), (124, .iload 7, 2), (126, .iadd, 1), (127, .iaload, 1), (128, .sipush 999, 3), (131, .if_icmp .gt 56, 3), (134, .iload 5, 2), (136, .iload 7, 2), (138, .ixor, 1), (139, .iload_n 1, 1), (140, .iconst (-1), 1), (141, .ixor, 1), (142, .iand, 1), (143, .ifCond .ne 44, 3), (146, .aload_n 0, 1), (147, .iload 5, 2), (149, .iload 7, 2), (151, .aload_n 0, 1), (152, .getfield 40, 3), (155, .sipush 256, 3), (158, .iload_n 3, 1), (159, .iconst 1, 1), (160, .isub, 1), (161, .imul, 1), (162, .iload 7, 2), (164, .iadd, 1), (165, .iaload, 1), (166, .invokevirtual 216, 3), (169, .istore 8, 2), (171, .iload 8, 2), (173, .iload 6, 2), (175, .if_icmp .ge 8, 3), (178, .iload 8, 2), (180, .goto 5, 3), (183, .iload 6, 2), (185, .istore 6, 2), (187, .iinc 7 1, 3), (190, .goto (-88), 3), (193, .aload_n 0, 1), (194, .getfield 40, 3), (197, .sipush 256, 3), (200, .iload_n 3, 1), (201, .imul, 1), (202, .iload 5, 2), (204, .iadd, 1), (205, .iload 6, 2), (207, .iastore, 1), (208, .iload 4, 2), (210, .ifCond .ne 15, 3), (213, .iload 6, 2), (215, .aload_n 0, 1), (216, .getfield 43, 3), (219, .iload 5, 2), (221, .iaload, 1), (222, .if_icmp .ge 7, 3), (225, .iconst 1, 1), (226, .goto 4, 3), (229, .iconst 0, 1), (230, .istore 4, 2), (232, .aload_n 0, 1), (233, .getfield 43, 3), (236, .iload 5, 2), (238, .iload 6, 2), (240, .aload_n 0, 1), (241, .getfield 43, 3), (244, .iload 5, 2), (246, .iaload, 1), (247, .if_icmp .ge 8, 3), (250, .iload 6, 2), (252, .goto 10, 3), (255, .aload_n 0, 1), (256, .getfield 43, 3), (259, .iload 5, 2), (261, .iaload, 1), (262, .iastore, 1), (263, .iinc 5 1, 3), (266, .goto (-182), 3), (269, .aload_n 0, 1), (270, .getfield 40, 3), (273, .sipush 256, 3), (276, .iload_n 3, 1), (277, .imul, 1), (278, .aload_n 0, 1), (279, .getfield 110, 3), (282, .iadd, 1), (283, .iaload, 1), (284, .iload_n 2, 1), (285, .if_icmp .gt 5, 3), (288, .iload_n 3, 1), (289, .ireturn, 1), (290, .iload 4, 2), (292, .ifCond .ne 6, 3), (295, .bipush (-4), 2), (297, .ireturn, 1), (298, .iinc 3 1, 3), (301, .goto (-230), 3), (304, .bipush (-4), 2), (306, .ireturn, 1)]
def eCd165 : List (Nat × Instr × Nat) := [(0, .iconst 0, 1), (1, .istore_n 1, 1), (2, .iload_n 1, 1), (3, .iconst 1, 1), (4, .aload_n 0, 1), (5, .getfield 89, 3), (8, .ishl, 1), (9, .if_icmp .ge 56, 3), (12, .aload_n 0, 1), (13, .getfield 26, 3), (16, .iload_n 1, 1), (17, .aload_n 0, 1), (18, .iload_n 1, 1), (19, .invokevirtual 132, 3), (22, .iastore, 1), (23, .aload_n 0, 1), (24, .getfield 29, 3), (27, .iload_n 1, 1), (28, .aload_n 0, 1), (29, .iload_n 1, 1), (30, .invokevirtual 117, 3), (33, .bastore, 1), (34, .aload_n 0, 1), (35, .getfield 33, 3), (38, .iload_n 1, 1), (39, .aload_n 0, 1), (40, .iload_n 1, 1), (41, .iconst 0, 1), (42, .invokevirtual 194, 3), (45, .iastore, 1), (46, .aload_n 0, 1), (47, .getfield 36, 3), (50, .iload_n 1, 1), (51, .aload_n 0, 1), (52, .iconst 0, 1), (53, .iload_n 1, 1), (54, .invokevirtual 194, 3), (57, .ineg, 1), (58, .iastore, 1), (59, .iinc 1 1, 3), (62, .goto (-60), 3), (65, .return_, 1)]
def eCd166 : List (Nat × Instr × Nat) := [(0, .iload_n 1, 1), (1, .iload_n 2, 1), (2, .iconst (-1), 1), (3, .ixor, 1), (4, .iand, 1), (5, .istore 4, 2), (7, .iload_n 2, 1), (8, .iload_n 1, 1), (9, .iconst (-1), 1), (10, .ixor, 1), (11, .iand, 1), (12, .istore 5, 2), (14, .iload_n 3, 1), (15, .sipush 999, 3), (18, .if_icmp .gt 34, 3), (21, .aload_n 0, 1), (22, .getfield 26, 3), (25, .iload 4, 2), (27, .iaload, 1), (28, .aload_n 0, 1), (29, .getfield 26, 3), (32, .iload 5, 2), (34, .iaload, 1), (35, .iadd, 1), (36, .aload_n 0, 1), (37, .getfield 13, 3), (40, .if_icmp .gt 12, 3), (43, .aload_n 0, 1), (44, .getfield 29, 3), (47, .iload_n 2, 1), (48, .baload, 1), (49, .ifCond .ne 6, 3), (52, .ldc 212, 2), (54, .ireturn, 1), (55, .iconst 0, 1), (56, .istore 6, 2), (58, .iload 6, 2), (60, .aload_n 0, 1), (61, .getfield 121, 3), (64, .if_icmp .ge 26, 3), (67, .aload_n 0, 1), (68, .getfield 17, 3), (71, .iload 6, 2), (73, .iaload, 1), (74, .iload_n 1, 1), (75, .iand, 1), (76, .iload_n 2, 1), (77, .iand, 1), (78, .ifCond .ne 6, 3), (81, .ldc 212, 2), (83, .ireturn, 1), (84, .iinc 6 1, 3), (87, .goto (-29), 3), (90, .aload_n 0, 1), (91, .getfield 33, 3), (94, .iload 4, 2), (96, .iaload, 1), (97, .aload_n 0, 1), (98, .getfield 36, 3), (101, .iload 5, 2), (103, .iaload, 1), (104, .isub, 1), (105, .istore 6, 2), (107, .iload_n 3, 1), (108, .iload 6, 2), (110, .isub, 1), (111, .iload 6, 2), (113, .ineg, 1), (114, .if_icmp .le 10, 3), (117, .iload_n 3, 1), (118, .iload 6, 2), (120, .isub, 1), (121, .goto 6, 3), (124, .iload 6, 2), (126, .ineg, 1), (127, .istore 7, 2), (129, .iload 7, 2), (131, .sipush 999, 3), (134, .if_icmp .le 8, 3), (137, .ldc 212, 2), (139, .goto 14, 3), (142, .iload 7, 2), (144, .ifCond .ge 7, 3), (147, .iconst 0, 1), (148, .goto 5, 3), (151, .iload 7, 2), (153, .ireturn, 1)]
def eCd167 : List (Nat × Instr × Nat) := [(0, .aload_n 0, 1), (1, .sipush 255, 3), (4, .iconst (-1), 1), (5, .invokevirtual 220, 3), (8, .istore_n 1, 1), (9, .aload_n 0, 1), (10, .getfield 43, 3), (13, .aload_n 0, 1), (14, .getfield 110, 3), (17, .iaload, 1), (18, .istore_n 2, 1), (19, .iload_n 1, 1), (20, .ifCond .ge 10, 3), (23, .iload_n 2, 1), (24, .sipush 999, 3), (27, .if_icmp .le 8, 3), (30, .bipush (-4), 2), (32, .goto 21, 3), (35, .iload_n 2, 1), (36, .aload_n 0, 1), (37, .getfield 126, 3), (40, .if_icmp .le 12, 3), (43, .iload_n 2, 1), (44, .aload_n 0, 1), (45, .getfield 126, 3), (48, .isub, 1), (49, .goto 4, 3), (52, .iconst 0, 1), (53, .ireturn, 1)]
def eCd168 : List (Nat × Instr × Nat) := [(0, .aload_n 0, 1), (1, .aload_n 0, 1), (2, .getfield 110, 3), (5, .iload_n 1, 1), (6, .i2l, 1), (7, .iload_n 2, 1), (8, .i2l, 1), (9, .invokevirtual 197, 3), (12, .ifCond .ne 5, 3), (15, .iconst (-1), 1), (16, .ireturn, 1), (17, .iconst 0, 1), (18, .istore_n 3, 1), (19, .iconst 0, 1), (20, .istore 4, 2), (22, .iload 4, 2), (24, .bipush 8, 2), (26, .if_icmp .ge 115, 3), (29, .iload 4, 2), (31, .aload_n 0, 1), (32, .getfield 89, 3), (35, .if_icmp .ge 20, 3), (38, .aload_n 0, 1), (39, .getfield 7, 3), (42, .iconst 5, 1), (43, .iload 4, 2), (45, .imul, 1), (46, .iaload, 1), (47, .iconst 2, 1), (48, .if_icmp .eq 7, 3), (51, .iconst 1, 1), (52, .goto 4, 3), (55, .iconst 0, 1), (56, .istore 5, 2), (58, .aload_n 0, 1), (59, .getfield 49, 3), (62, .iload 4, 2), (64, .iload 5, 2), (66, .ifCond .eq 21, 3), (69, .iload_n 1, 1), (70, .iload 4, 2), (72, .invokestatic 113, 3), (75, .ifCond .eq 12, 3), (78, .aload_n 0, 1), (79, .iload 4, 2), (81, .invokevirtual 184, 3), (84, .goto 4, 3), (87, .iconst 0, 1), (88, .iastore, 1), (89, .aload_n 0, 1), (90, .getfield 52, 3), (93, .iload 4, 2), (95, .iload 5, 2), (97, .ifCond .eq 26, 3), (100, .iload_n 2, 1), (101, .iload 4, 2), (103, .invokestatic 113, 3), (106, .ifCond .eq 17, 3), (109, .aload_n 0, 1), (110, .getfield 7, 3), (113, .iconst 5, 1), (114, .iload 4, 2), (116, .imul, 1), (117, .iconst 1, 1), (118, .iadd, 1), (119, .iaload, 1), (120, .goto 4, 3), (123, .iconst 0, 1), (124, .iastore, 1), (125, .iload_n 3, 1), (126, .aload_n 0, 1), (127, .getfield 52, 3), (130, .iload 4, 2), (132, .iaload, 1), (133, .iadd, 1), (134, .istore_n 3, 1), (135, .iinc 4 1, 3), (138, .goto (-116), 3), (141, .aload_n 0, 1), (142, .getfield 49, 3), (145, .bipush 8, 2), (147, .aload_n 0, 1), (148, .getfield 126, 3), (151, .iastore, 1), (152, .iconst 0, 1), (153, .istore 4, 2), (155, .iload 4, 2), (157, .bipush 72, 2), (159, .if_icmp .ge 17, 3), (162, .aload_n 0, 1), (163, .getfield 55, 3), (166, .iload 4, 2), (168, .iconst 0, 1), (169, .iastore, 1), (170, .iinc 4 1, 3), (173, .goto (-18), 3), (176, .iconst 0, 1), (177, .istore 4, 2), (179, .iload_n 3, 1), (180, .ifCond .le 53, 3), (183, .aload_n 0, 1), (184, .invokevirtual 237, 3), (187, .istore 5, 2), (189, .iload 5, 2), (191, .ifCond .ge 6, 3), (194, .bipush (-4), 2), (196, .ireturn, 1), (197, .aload_n 0, 1), (198, .getfield 52, 3), (201, .iload 5, 2), (203, .iaload, 1), (204, .istore 6, 2), (206, .iload 4, 2), (208, .aload_n 0, 1), (209, .iload 5, 2), (211, .invokevirtual 240, 3), (214, .iadd, 1), (215, .istore 4, 2), (217, .iload_n 3, 1), (218, .iload 6, 2), (220, .aload_n 0, 1), (221, .getfield 52, 3), (224, .iload 5, 2), (226, .iaload, 1), (227, .isub, 1), (228, .isub, 1), (229, .istore_n 3, 1), (230, .goto (-51), 3), (233, .iload 4, 2), (235, .ireturn, 1)]
def eCd169 : List (Nat × Instr × Nat) := [(0, .iconst 0, 1), (1, .istore_n 1, 1), (2, .iload_n 1, 1), (3, .bipush 17, 2), (5, .if_icmp .ge 43, 3), (8, .aload_n 0, 1), (9, .getfield 58, 3), (12, .iload_n 1, 1), (13, .iload_n 1, 1), (14, .bipush 9, 2), (16, .if_icmp .ge 16, 3), (19, .aload_n 0, 1), (20, .getfield 49, 3), (23, .iload_n 1, 1), (24, .iaload, 1), (25, .ifCond .le 7, 3), (28, .iconst 0, 1), (29, .goto 5, 3), (32, .ldc 212, 2), (34, .iastore, 1), (35, .aload_n 0, 1), (36, .getfield 61, 3), (39, .iload_n 1, 1), (40, .iconst (-1), 1), (41, .iastore, 1), (42, .iinc 1 1, 3), (45, .goto (-43), 3), (48, .iconst 1, 1), (49, .istore_n 1, 1), (50, .iload_n 1, 1), (51, .ifCond .eq 183, 3), (54, .iconst 0, 1), (55, .istore_n 1, 1), (56, .iconst 0, 1), (57, .istore_n 2, 1), (58, .iload_n 2, 1), (59, .bipush 9, 2), (61, .if_icmp .ge 170, 3), (64, .iconst 0, 1), (65, .istore_n 3, 1), (66, .iload_n 3, 1), (67, .aload_n 0, 1), (68, .getfield 89, 3), (71, .if_icmp .ge 154, 3), (74, .iload_n 2, 1), (75, .aload_n 0, 1), (76, .getfield 89, 3), (79, .if_icmp .lt 9, 3), (82, .iload_n 2, 1), (83, .bipush 8, 2), (85, .if_icmp .ne 12, 3), (88, .aload_n 0, 1), (89, .iload_n 2, 1), (90, .iload_n 3, 1), (91, .invokevirtual 231, 3), (94, .goto 5, 3), (97, .ldc 212, 2), (99, .istore 4, 2), (101, .iload 4, 2), (103, .ldc 212, 2), (105, .if_icmp .ge 45, 3), (108, .aload_n 0, 1), (109, .getfield 58, 3), (112, .iload_n 2, 1), (113, .iaload, 1), (114, .ldc 212, 2), (116, .if_icmp .ge 34, 3), (119, .aload_n 0, 1), (120, .bipush 9, 2), (122, .iload_n 3, 1), (123, .iadd, 1), (124, .aload_n 0, 1), (125, .getfield 58, 3), (128, .iload_n 2, 1), (129, .iaload, 1), (130, .iload 4, 2), (132, .iadd, 1), (133, .iload_n 2, 1), (134, .invokevirtual 234, 3), (137, .ifCond .ne 7, 3), (140, .iload_n 1, 1), (141, .ifCond .eq 7, 3), (144, .iconst 1, 1), (145, .goto 4, 3), (148, .iconst 0, 1), (149, .istore_n 1, 1), (150, .iload 4, 2), (152, .ldc 212, 2), (154, .if_icmp .ge 65, 3), (157, .aload_n 0, 1), (158, .getfield 58, 3), (161, .bipush 9, 2), (163, .iload_n 3, 1), (164, .iadd, 1), (165, .iaload, 1), (166, .ldc 212, 2), (168, .if_icmp .ge 51, 3), (171, .aload_n 0, 1), (172, .getfield 55, 3), (175, .bipush 8, 2), (177, .iload_n 2, 1), (178, .imul, 1), (179, .iload_n 3, 1), (180, .iadd, 1), (181, .iaload, 1), (182, .ifCond .le 37, 3), (185, .aload_n 0, 1), (186, .iload_n 2, 1), (187, .aload_n 0, 1), (188, .getfield 58, 3), (191, .bipush 9, 2), (193, .iload_n 3, 1), (194, .iadd, 1), (195, .iaload, 1), (196, .iload 4, 2), (198, .isub, 1), (199, .bipush 9, 2), (201, .iload_n 3, 1), (202, .iadd, 1), (203, .invokevirtual 234, 3), (206, .ifCond .ne 7, 3), (209, .iload_n 1, 1), (210, .ifCond .eq 7, 3), (213, .iconst 1, 1), (214, .goto 4, 3), (217, .iconst 0, 1), (218, .istore_n 1, 1), (219, .iinc 3 1, 3), (222, .goto (-156), 3), (225, .iinc 2 1, 3), (228, .goto (-170), 3), (231, .goto (-181), 3), (234, .bipush (-4), 2), (236, .istore_n 2, 1), (237, .iconst 0, 1), (238, .istore_n 3, 1), (239, .iload_n 3, 1), (240, .aload_n 0, 1), (241, .getfield 89, 3), (244, .if_icmp .ge 63, 3), (247, .aload_n 0, 1), (248, .getfield 52, 3), (251, .iload_n 3, 1), (252, .iaload, 1), (253, .ifCond .le 46, 3), (256, .aload_n 0, 1), (257, .getfield 58, 3), (260, .bipush 9, 2), (262, .iload_n 3, 1), (263, .iadd, 1), (264, .iaload, 1), (265, .ldc 212, 2), (267, .if_icmp .ge 32, 3), (270, .iload_n 2, 1), (271, .ifCond .lt 24, 3), (274, .aload_n 0, 1), (275, .getfield 58, 3), (278, .bipush 9, 2), (280, .iload_n 3, 1), (281, .iadd, 1), (282, .iaload, 1), (283, .aload_n 0, 1), (284, .getfield 58, 3), (287, .bipush 9, 2), (289, .iload_n 2, 1), (290, .iadd, 1), (291, .iaload, 1), (292, .if_icmp .ge 7, 3), (295, .iload_n 3, 1), (296, .goto 4, 3), (299, .iload_n 2, 1), (300, .istore_n 2, 1), (301, .iinc 3 1, 3), (304, .goto (-65), 3), (307, .iload_n 2, 1), (308, .ireturn, 1)]
def eCd170 : List (Nat × Instr × Nat) := [(0, .aload_n 0, 1), (1, .iload_n 1, 1), (2, .invokevirtual 228, 3), (5, .aload_n 0, 1), (6, .getfield 7, 3), (9, .iconst 5, 1), (10, .iload_n 2, 1), (11, .imul, 1), (12, .iconst 2, 1), (13, .iadd, 1), (14, .iaload, 1), (15, .isub, 1), (16, .istore_n 3, 1), (17, .iload_n 3, 1), (18, .ifCond .ge 8, 3), (21, .iload_n 3, 1), (22, .ineg, 1), (23, .goto 4, 3), (26, .iload_n 3, 1), (27, .ireturn, 1)]
def eCd171 : List (Nat × Instr × Nat) := [(0, .iload_n 1, 1), (1, .bipush 8, 2), (3, .if_icmp .ne 7, 3), (6, .iconst 0, 1), (7, .goto 13, 3), (10, .aload_n 0, 1), (11, .getfield 7, 3), (14, .iconst 5, 1), (15, .iload_n 1, 1), (16, .imul, 1), (17, .iconst 2, 1), (18, .iadd, 1), (19, .iaload, 1), (20, .ireturn, 1)]
def eCd172 : List (Nat × Instr × Nat) := [(0, .iload_n 2, 1), (1, .aload_n 0, 1), (2, .getfield 58, 3), (5, .iload_n 1, 1), (6, .iaload, 1), (7, .if_icmp .ge 19, 3), (10, .aload_n 0, 1), (11, .getfield 58, 3), (14, .iload_n 1, 1), (15, .iload_n 2, 1), (16, .iastore, 1), (17, .aload_n 0, 1), (18, .getfield 61, 3), (21, .iload_n 1, 1), (22, .iload_n 3, 1), (23, .iastore, 1), (24, .iconst 1, 1), (25, .ireturn, 1), (26, .iconst 0, 1), (27, .ireturn, 1)]
def eCd173 : List (Nat × Instr × Nat) := [(0, .aload_n 0, 1), (1, .getfield 52, 3), (4, .iload_n 1, 1), (5, .iaload, 1), (6, .istore_n 2, 1), (7, .bipush 9, 2), (9, .iload_n 1, 1), (10, .iadd, 1), (11, .istore_n 3, 1), (12, .aload_n 0, 1), (13, .getfield 61, 3), (16, .iload_n 3, 1), (17, .iaload, 1), (18, .ifCond .lt 63, 3), (21, .aload_n 0, 1), (22, .getfield 61, 3), (25, .iload_n 3, 1), (26, .iaload, 1), (27, .istore 4, 2), (29, .iload 4, 2), (31, .bipush 9, 2), (33, .if_icmp .lt 40, 3), (36, .aload_n 0, 1), (37, .getfield 55, 3), (40, .bipush 8, 2), (42, .iload_n 3, 1), (43, .imul, 1), (44, .iload 4, 2), (46, .iadd, 1), (47, .bipush 9, 2), (49, .isub, 1), (50, .iaload, 1), (51, .iload_n 2, 1), (52, .if_icmp .ge 21, 3), (55, .aload_n 0, 1), (56, .getfield 55, 3), (59, .bipush 8, 2), (61, .iload_n 3, 1), (62, .imul, 1), (63, .iload 4, 2), (65, .iadd, 1), (66, .bipush 9, 2), (68, .isub, 1), (69, .iaload, 1), (70, .goto 4, 3), (73, .iload_n 2, 1), (74, .istore_n 2, 1), (75, .iload 4, 2), (77, .istore_n 3, 1), (78, .goto (-66), 3), (81, .aload_n 0, 1), (82, .getfield 49, 3), (85, .iload_n 3, 1), (86, .iaload, 1), (87, .iload_n 2, 1), (88, .if_icmp .ge 12, 3), (91, .aload_n 0, 1), (92, .getfield 49, 3), (95, .iload_n 3, 1), (96, .iaload, 1), (97, .goto 4, 3), (100, .iload_n 2, 1), (101, .istore_n 2, 1), (102, .aload_n 0, 1), (103, .getfield 49, 3), (106, .iload_n 3, 1), (107, .dup2, 1), (108, .iaload, 1), (109, .iload_n 2, 1), (110, .isub, 1), (111, .iastore, 1), (112, .aload_n 0, 1), (113, .getfield 52, 3), (116, .iload_n 1, 1), (117, .dup2, 1), (118, .iaload, 1), (119, .iload_n 2, 1), (120, .isub, 1), (121, .iastore, 1), (122, .bipush 9, 2), (124, .iload_n 1, 1), (125, .iadd, 1), (126, .istore_n 3, 1), (127, .aload_n 0, 1), (128, .getfield 61, 3), (131, .iload_n 3, 1), (132, .iaload, 1), (133, .ifCond .lt 65, 3), (136, .aload_n 0, 1), (137, .getfield 61, 3), (140, .iload_n 3, 1), (141, .iaload, 1), (142, .istore 4, 2), (144, .iload 4, 2), (146, .bipush 9, 2), (148, .if_icmp .ge 25, 3), (151, .aload_n 0, 1), (152, .getfield 55, 3), (155, .bipush 8, 2), (157, .iload 4, 2), (159, .imul, 1), (160, .iload_n 3, 1), (161, .iadd, 1), (162, .bipush 9, 2), (164, .isub, 1), (165, .dup2, 1), (166, .iaload, 1), (167, .iload_n 2, 1), (168, .iadd, 1), (169, .iastore, 1), (170, .goto 22, 3), (173, .aload_n 0, 1), (174, .getfield 55, 3), (177, .bipush 8, 2), (179, .iload_n 3, 1), (180, .imul, 1), (181, .iload 4, 2), (183, .iadd, 1), (184, .bipush 9, 2), (186, .isub, 1), (187, .dup2, 1), (188, .iaload, 1), (189, .iload_n 2, 1), (190, .isub, 1), (191, .iastore, 1), (192, .iload 4, 2), (194, .istore_n 3, 1), (195, .goto (-68), 3), (198, .iload_n 2, 1), (199, .aload_n 0, 1), (200, .getfield 58, 3), (203, .bipush 9, 2), (205, .iload_n 1, 1), (206, .iadd, 1), (207, .iaload, 1), (208, .imul, 1), (209, .ireturn, 1)]
def eCd174 : List (Nat × Instr × Nat) := [(0, .iload_n 1, 1), (1, .i2l, 1), (2, .lconst 0, 1), (3, .ldc2_w 96, 3), (6, .invokestatic 92, 3), (9, .ifCond .eq 15, 3), (12, .iload_n 2, 1), (13, .i2l, 1), (14, .lconst 1, 1), (15, .ldc2_w 243, 3), (18, .invokestatic 92, 3), (21, .ifCond .ne 5, 3), (24, .iconst (-1), 1), (25, .ireturn, 1), (26, .aload_n 0, 1), (27, .iload_n 1, 1), (28, .invokevirtual 245, 3), (31, .iconst 0, 1), (32, .istore_n 3, 1), (33, .iload_n 3, 1), (34, .iload_n 2, 1), (35, .if_icmp .ge 36, 3), (38, .aload_n 0, 1), (39, .iconst 1, 1), (40, .iconst 1, 1), (41, .invokevirtual 249, 3), (44, .ifCond .ne 21, 3), (47, .aload_n 0, 1), (48, .iconst 1, 1), (49, .iconst 0, 1), (50, .invokevirtual 249, 3), (53, .ifCond .ne 12, 3), (56, .aload_n 0, 1), (57, .iconst 0, 1), (58, .iconst 1, 1), (59, .invokevirtual 249, 3), (62, .ifCond .eq 9, 3), (65, .iinc 3 1, 3), (68, .goto (-35), 3), (71, .iload_n 3, 1), (72, .ireturn, 1)]
def eCd175 : List (Nat × Instr × Nat) := [(0, .iconst 0, 1), (1, .istore_n 2, 1), (2, .iload_n 2, 1), (3, .aload_n 0, 1), (4, .getfield 89, 3), (7, .if_icmp .ge 77, 3), (10, .iload_n 2, 1), (11, .istore_n 3, 1), (12, .iload_n 1, 1), (13, .iconst 2, 1), (14, .if_icmp .ge 57, 3), (17, .iload_n 3, 1), (18, .ifCond .le 53, 3), (21, .aload_n 0, 1), (22, .getfield 7, 3), (25, .iconst 5, 1), (26, .aload_n 0, 1), (27, .getfield 64, 3), (30, .iload_n 3, 1), (31, .iconst 1, 1), (32, .isub, 1), (33, .iaload, 1), (34, .imul, 1), (35, .iconst 1, 1), (36, .iadd, 1), (37, .iaload, 1), (38, .aload_n 0, 1), (39, .getfield 7, 3), (42, .iconst 5, 1), (43, .iload_n 2, 1), (44, .imul, 1), (45, .iconst 1, 1), (46, .iadd, 1), (47, .iaload, 1), (48, .if_icmp .le 23, 3), (51, .aload_n 0, 1), (52, .getfield 64, 3), (55, .iload_n 3, 1), (56, .aload_n 0, 1), (57, .getfield 64, 3), (60, .iload_n 3, 1), (61, .iconst 1, 1), (62, .isub, 1), (63, .iaload, 1), (64, .iastore, 1), (65, .iinc 3 (-1), 3), (68, .goto (-56), 3), (71, .aload_n 0, 1), (72, .getfield 64, 3), (75, .iload_n 3, 1), (76, .iload_n 2, 1), (77, .iastore, 1), (78, .iinc 2 1, 3), (81, .goto (-79), 3), (84, .iconst 0, 1), (85, .istore_n 2, 1), (86, .iload_n 2, 1), (87, .aload_n 0, 1), (88, .getfield 89, 3), (91, .iconst 2, 1), (92, .idiv, 1), (93, .if_icmp .ge 56, 3), (96, .iload_n 1, 1), (97, .iconst 2, 1), (98, .irem, 1), (99, .iconst 1, 1), (100, .if_icmp .ne 49, 3), (103, .aload_n 0, 1), (104, .getfield 64, 3), (107, .iload_n 2, 1), (108, .iaload, 1), (109, .istore_n 3, 1), (110, .aload_n 0, 1), (111, .getfield 64, 3), (114, .iload_n 2, 1), (115, .aload_n 0, 1), (116, .getfield 64, 3), (119, .aload_n 0, 1), (120, .getfield 89, 3), (123, .iconst 1, 1), (124, .isub, 1), (125, .iload_n 2, 1), (126, .isub, 1), (127, .iaload, 1), (128, .iastore, 1), (129, .aload_n 0, 1), (130, .getfield 64, 3), (133, .aload_n 0, 1), (134, .getfield 89, 3), (137, .iconst 1, 1), (138, .isub, 1), (139, .iload_n 2, 1), (140, .isub, 1), (141, .iload_n 3, 1), (142, .iastore, 1), (143, .iinc 2 1, 3), (146, .goto (-60), 3), (149, .return_, 1)]
def eCd176 : List (Nat × Instr × Nat) := [(0, .iconst 0, 1), (1, .istore_n 3, 1), (2, .iload_n 3, 1), (3, .iload_n 1, 1), (4, .ifCond .eq 10, 3), (7, .aload_n 0, 1), (8, .getfield 89, 3), (11, .goto 4, 3), (14, .iconst 1, 1), (15, .if_icmp .ge 153, 3), (18, .iload_n 1, 1), (19, .ifCond .eq 26, 3), (22, .iconst 1, 1), (23, .aload_n 0, 1), (24, .getfield 64, 3), (27, .iload_n 3, 1), (28, .iaload, 1), (29, .ishl, 1), (30, .aload_n 0, 1), (31, .getfield 110, 3), (34, .iand, 1), (35, .aload_n 0, 1), (36, .getfield 129, 3), (39, .iconst (-1), 1), (40, .ixor, 1), (41, .iand, 1), (42, .goto 4, 3), (45, .iconst 0, 1), (46, .istore 4, 2), (48, .iconst 0, 1), (49, .istore 5, 2), (51, .iload 5, 2), (53, .iload_n 2, 1), (54, .ifCond .eq 10, 3), (57, .aload_n 0, 1), (58, .getfield 89, 3), (61, .goto 4, 3), (64, .iconst 1, 1), (65, .if_icmp .ge 97, 3), (68, .iload_n 2, 1), (69, .ifCond .eq 27, 3), (72, .iconst 1, 1), (73, .aload_n 0, 1), (74, .getfield 64, 3), (77, .iload 5, 2), (79, .iaload, 1), (80, .ishl, 1), (81, .aload_n 0, 1), (82, .getfield 129, 3), (85, .iand, 1), (86, .aload_n 0, 1), (87, .getfield 110, 3), (90, .iconst (-1), 1), (91, .ixor, 1), (92, .iand, 1), (93, .goto 4, 3), (96, .iconst 0, 1), (97, .istore 6, 2), (99, .iload 4, 2), (101, .ifCond .eq 7, 3), (104, .iconst 1, 1), (105, .goto 4, 3), (108, .iconst 0, 1), (109, .iload_n 1, 1), (110, .if_icmp .ne 46, 3), (113, .iload 6, 2), (115, .ifCond .eq 7, 3), (118, .iconst 1, 1), (119, .goto 4, 3), (122, .iconst 0, 1), (123, .iload_n 2, 1), (124, .if_icmp .ne 32, 3), (127, .aload_n 0, 1), (128, .aload_n 0, 1), (129, .getfield 110, 3), (132, .aload_n 0, 1), (133, .getfield 126, 3), (136, .iload 4, 2), (138, .iload 6, 2), (140, .invokevirtual 201, 3), (143, .ifCond .eq 13, 3), (146, .aload_n 0, 1), (147, .iload 4, 2), (149, .iload 6, 2), (151, .invokevirtual 208, 3), (154, .iconst 1, 1), (155, .ireturn, 1), (156, .iinc 5 1, 3), (159, .goto (-108), 3), (162, .iinc 3 1, 3), (165, .goto (-163), 3), (168, .iconst 0, 1), (169, .ireturn, 1)]
def eCd177 : List (Nat × Instr × Nat) := [(0, .iload_n 1, 1), (1, .i2l, 1), (2, .lconst 0, 1), (3, .ldc2_w 96, 3), (6, .invokestatic 92, 3), (9, .ifCond .eq 13, 3), (12, .iload_n 2, 1), (13, .i2l, 1), (14, .lconst 0, 1), (15, .lconst 1, 1), (16, .invokestatic 92, 3), (19, .ifCond .ne 5, 3), (22, .iconst (-1), 1), (23, .ireturn, 1), (24, .iconst 0, 1), (25, .istore_n 3, 1), (26, .iload_n 3, 1), (27, .bipush 16, 2), (29, .if_icmp .ge 36, 3), (32, .aload_n 0, 1), (33, .getfield 67, 3), (36, .iload_n 3, 1), (37, .aload_n 0, 1), (38, .aload_n 0, 1), (39, .iload_n 3, 1), (40, .invokevirtual 253, 3), (43, .aload_n 0, 1), (44, .getfield 126, 3), (47, .invokevirtual 220, 3), (50, .ifCond .lt 7, 3), (53, .iconst 1, 1), (54, .goto 4, 3), (57, .iconst 0, 1), (58, .bastore, 1), (59, .iinc 3 1, 3), (62, .goto (-36), 3), (65, .iconst 0, 1), (66, .istore_n 3, 1), (67, .iconst 0, 1), (68, .istore 4, 2), (70, .iload 4, 2), (72, .bipush 16, 2), (74, .if_icmp .ge 69, 3), (77, .iload 4, 2), (79, .iload_n 1, 1), (80, .invokestatic 113, 3), (83, .ifCond .ne 54, 3), (86, .aload_n 0, 1), (87, .getfield 67, 3), (90, .iload 4, 2), (92, .baload, 1), (93, .ifCond .ne 44, 3), (96, .aload_n 0, 1), (97, .getfield 67, 3), (100, .iload 4, 2), (102, .iconst 1, 1), (103, .iload_n 1, 1), (104, .ishl, 1), (105, .ior, 1), (106, .baload, 1), (107, .ifCond .eq 30, 3), (110, .iload 4, 2), (112, .invokestatic 256, 3), (115, .istore 5, 2), (117, .iload_n 3, 1), (118, .iload 5, 2), (120, .ifCond .eq 9, 3), (123, .iload 5, 2), (125, .iconst 3, 1), (126, .if_icmp .ne 8, 3), (129, .bipush 6, 2), (131, .goto 4, 3), (134, .iconst 2, 1), (135, .iadd, 1), (136, .istore_n 3, 1), (137, .iinc 4 1, 3), (140, .goto (-70), 3), (143, .iload_n 2, 1), (144, .ifCond .ne 7, 3), (147, .iload_n 3, 1), (148, .goto 5, 3), (151, .bipush 24, 2), (153, .iload_n 3, 1), (154, .bipush 24, 2), (156, .invokestatic 259, 3), (159, .idiv, 1), (160, .ireturn, 1)]
def eCd178 : List (Nat × Instr × Nat) := [(0, .iconst 0, 1), (1, .istore_n 2, 1), (2, .iconst 0, 1), (3, .istore_n 3, 1), (4, .iload_n 3, 1), (5, .aload_n 0, 1), (6, .getfield 89, 3), (9, .if_icmp .ge 36, 3), (12, .iload_n 2, 1), (13, .iload_n 1, 1), (14, .aload_n 0, 1), (15, .getfield 7, 3), (18, .iconst 5, 1), (19, .iload_n 3, 1), (20, .imul, 1), (21, .iconst 3, 1), (22, .iadd, 1), (23, .iaload, 1), (24, .invokestatic 113, 3), (27, .ifCond .eq 9, 3), (30, .iconst 1, 1), (31, .iload_n 3, 1), (32, .ishl, 1), (33, .goto 4, 3), (36, .iconst 0, 1), (37, .ior, 1), (38, .istore_n 2, 1), (39, .iinc 3 1, 3), (42, .goto (-38), 3), (45, .iload_n 2, 1), (46, .ireturn, 1)]
def eCd179 : List (Nat × Instr × Nat) := [(0, .iconst 0, 1), (1, .istore_n 1, 1), (2, .iload_n 0, 1), (3, .istore_n 2, 1), (4, .iload_n 2, 1), (5, .ifCond .eq 15, 3), (8, .iinc 1 1, 3), (11, .iload_n 2, 1), (12, .iload_n 2, 1), (13, .iconst 1, 1), (14, .isub, 1), (15, .iand, 1), (16, .istore_n 2, 1), (17, .goto (-13), 3), (20, .iload_n 1, 1), (21, .ireturn, 1)]
def eCd180 : List (Nat × Instr × Nat) := [(0, .iload_n 0, 1), (1, .istore_n 2, 1), (2, .iload_n 1, 1), (3, .istore_n 3, 1), (4, .iload_n 3, 1), (5, .ifCond .eq 16, 3), (8, .iload_n 2, 1), (9, .iload_n 3, 1), (10, .irem, 1), (11, .istore 4, 2), (13, .iload_n 3, 1), (14, .istore_n 2, 1), (15, .iload 4, 2), (17, .istore_n 3, 1), (18, .goto (-14), 3), (21, .iload_n 2, 1), (22, .ireturn, 1)]
def eCd181 : List (Nat × Instr × Nat) := [(0, .iconst 0, 1), (1, .istore_n 1, 1), (2, .iload_n 1, 1), (3, .bipush 40, 2), (5, .if_icmp .ge 21, 3), (8, .aload_n 0, 1), (9, .getfield 70, 3), (12, .iload_n 1, 1), (13, .aload_n 0, 1), (14, .getfield 7, 3), (17, .iload_n 1, 1), (18, .iaload, 1), (19, .iastore, 1), (20, .iinc 1 1, 3), (23, .goto (-21), 3), (26, .iconst 0, 1), (27, .istore_n 1, 1), (28, .iload_n 1, 1), (29, .iconst 4, 1), (30, .if_icmp .ge 24, 3), (33, .aload_n 0, 1), (34, .getfield 70, 3), (37, .bipush 40, 2), (39, .iload_n 1, 1), (40, .iadd, 1), (41, .aload_n 0, 1), (42, .getfield 17, 3), (45, .iload_n 1, 1), (46, .iaload, 1), (47, .iastore, 1), (48, .iinc 1 1, 3), (51, .goto (-23), 3), (54, .aload_n 0, 1), (55, .getfield 73, 3), (58, .iconst 0, 1), (59, .aload_n 0, 1), (60, .getfield 89, 3), (63, .iastore, 1), (64, .aload_n 0, 1), (65, .getfield 73, 3), (68, .iconst 1, 1), (69, .aload_n 0, 1), (70, .getfield 110, 3), (73, .iastore, 1), (74, .aload_n 0, 1), (75, .getfield 73, 3), (78, .iconst 2, 1), (79, .aload_n 0, 1), (80, .getfield 129, 3), (83, .iastore, 1), (84, .aload_n 0, 1), (85, .getfield 73, 3), (88, .iconst 3, 1), (89, .aload_n 0, 1), (90, .getfield 126, 3), (93, .iastore, 1), (94, .aload_n 0, 1), (95, .getfield 73, 3), (98, .iconst 4, 1), (99, .aload_n 0, 1), (100, .getfield 13, 3), (103, .iastore, 1), (104, .aload_n 0, 1), (105, .getfield 73, 3), (108, .iconst 5, 1), (109, .aload_n 0, 1), (110, .getfield 121, 3), (113, .iastore, 1), (114, .aload_n 0, 1), (115, .iconst 1, 1), (116, .putfield 262, 3), (119, .iconst 1, 1), (120, .ireturn, 1)]
def eCd182 : List (Nat × Instr × Nat) := [(0, .aload_n 0, 1), (1, .getfield 262, 3), (4, .ifCond .ne 6, 3), (7, .bipush (-4), 2), (9, .ireturn, 1), (10, .iconst 0, 1), (11, .istore_n 1, 1), (12, .iload_n 1, 1), (13, .bipush 40, 2), (15, .if_icmp .ge 21, 3), (18, .aload_n 0, 1), (19, .getfield 7, 3), (22, .iload_n 1, 1), (23, .aload_n 0, 1), (24, .getfield 70, 3), (27, .iload_n 1, 1), (28, .iaload, 1), (29, .iastore, 1), (30, .iinc 1 1, 3), (33, .goto (-21), 3), (36, .iconst 0, 1), (37, .istore_n 1, 1), (38, .iload_n 1, 1), (39, .iconst 4, 1), (40, .if_icmp .ge 24, 3), (43, .aload_n 0, 1), (44, .getfield 17, 3), (47, .iload_n 1, 1), (48, .aload_n 0, 1), (49, .getfield 70, 3), (52, .bipush 40, 2), (54, .iload_n 1, 1), (55, .iadd, 1), (56, .iaload, 1), (57, .iastore, 1), (58, .iinc 1 1, 3), (61, .goto (-23), 3), (64, .aload_n 0, 1), (65, .aload_n 0, 1), (66, .getfield 73, 3), (69, .iconst 0, 1), (70, .iaload, 1), (71, .putfield 89, 3), (74, .aload_n 0, 1), (75, .aload_n 0, 1), (76, .getfield 73, 3), (79, .iconst 1, 1), (80, .iaload, 1), (81, .putfield 110, 3), (84, .aload_n 0, 1), (85, .aload_n 0, 1), (86, .getfield 73, 3), (89, .iconst 2, 1), (90, .iaload, 1), (91, .putfield 129, 3), (94, .aload_n 0, 1), (95, .aload_n 0, 1), (96, .getfield 73, 3), (99, .iconst 3, 1), (100, .iaload, 1), (101, .putfield 126, 3), (104, .aload_n 0, 1), (105, .aload_n 0, 1), (106, .getfield 73, 3), (109, .iconst 4, 1), (110, .iaload, 1), (111, .putfield 13, 3), (114, .aload_n 0, 1), (115, .aload_n 0, 1), (116, .getfield 73, 3), (119, .iconst 5, 1), (120, .iaload, 1), (121, .putfield 121, 3), (124, .iconst 1, 1), (125, .ireturn, 1)]
def eCd183 : List (Nat × Instr × Nat) := [(0, .iload_n 1, 1), (1, .iload_n 2, 1), (2, .invokestatic 268, 3), (5, .ifCond .eq 9, 3), (8, .iload_n 3, 1), (9, .bipush 24, 2), (11, .if_icmp .le 5, 3), (14, .iconst (-1), 1), (15, .ireturn, 1), (16, .iload_n 3, 1), (17, .ifCond .ge 6, 3), (20, .bipush (-14), 2), (22, .ireturn, 1), (23, .aload_n 0, 1), (24, .getfield 76, 3), (27, .iload_n 1, 1), (28, .iload_n 2, 1), (29, .iastore, 1), (30, .aload_n 0, 1), (31, .getfield 79, 3), (34, .iload_n 1, 1), (35, .iload_n 3, 1), (36, .iastore, 1), (37, .iconst 0, 1), (38, .istore 4, 2), (40, .iload 4, 2), (42, .bipush 24, 2), (44, .if_icmp .ge 22, 3), (47, .aload_n 0, 1), (48, .getfield 82, 3), (51, .bipush 24, 2), (53, .iload_n 1, 1), (54, .imul, 1), (55, .iload 4, 2), (57, .iadd, 1), (58, .lconst 0, 1), (59, .lastore, 1), (60, .iinc 4 1, 3), (63, .goto (-23), 3), (66, .iload_n 3, 1), (67, .ireturn, 1)]
def eCd184 : List (Nat × Instr × Nat) := [(0, .iload_n 0, 1), (1, .i2l, 1), (2, .lconst 0, 1), (3, .ldc2_w 96, 3), (6, .invokestatic 92, 3), (9, .ifCond .eq 19, 3), (12, .iload_n 1, 1), (13, .i2l, 1), (14, .lconst 0, 1), (15, .ldc2_w 266, 3), (18, .invokestatic 92, 3), (21, .ifCond .eq 7, 3), (24, .iconst 1, 1), (25, .goto 4, 3), (28, .iconst 0, 1), (29, .ireturn, 1)]
def eCd185 : List (Nat × Instr × Nat) := [(0, .iload_n 1, 1), (1, .i2l, 1), (2, .lconst 0, 1), (3, .ldc2_w 96, 3), (6, .invokestatic 92, 3), (9, .ifCond .ne 5, 3), (12, .iconst (-1), 1), (13, .ireturn, 1), (14, .aload_n 0, 1), (15, .getfield 76, 3), (18, .iload_n 1, 1), (19, .iaload, 1), (20, .ifCond .ge 6, 3), (23, .bipush (-11), 2), (25, .ireturn, 1), (26, .aload_n 0, 1), (27, .getfield 76, 3), (30, .iload_n 1, 1), (31, .iconst (-1), 1), (32, .iastore, 1), (33, .aload_n 0, 1), (34, .getfield 79, 3), (37, .iload_n 1, 1), (38, .iaload, 1), (39, .ireturn, 1)]
def eCd186 : List (Nat × Instr × Nat) := [(0, .iload_n 1, 1), (1, .iload_n 2, 1), (2, .invokestatic 268, 3), (5, .ifCond .ne 5, 3), (8, .iconst (-1), 1), (9, .ireturn, 1), (10, .aload_n 0, 1), (11, .iload_n 1, 1), (12, .iload_n 2, 1), (13, .iload_n 3, 1), (14, .iconst 1, 1), (15, .invokevirtual 271, 3), (18, .istore 6, 2), (20, .iload 6, 2), (22, .ifCond .ge 6, 3), (25, .iload 6, 2), (27, .ireturn, 1), (28, .aload_n 0, 1), (29, .getfield 82, 3), (32, .bipush 24, 2), (34, .iload_n 1, 1), (35, .imul, 1), (36, .iload_n 3, 1), (37, .iadd, 1), (38, .iload_n 2, 1), (39, .lload 4, 2), (41, .invokestatic 275, 3), (44, .lastore, 1), (45, .iconst 1, 1), (46, .ireturn, 1)]
def eCd187 : List (Nat × Instr × Nat) := [(0, .aload_n 0, 1), (1, .getfield 76, 3), (4, .iload_n 1, 1), (5, .iaload, 1), (6, .iload_n 2, 1), (7, .if_icmp .eq 20, 3), (10, .aload_n 0, 1), (11, .getfield 76, 3), (14, .iload_n 1, 1), (15, .iaload, 1), (16, .ifCond .ge 8, 3), (19, .bipush (-11), 2), (21, .goto 5, 3), (24, .bipush (-12), 2), (26, .ireturn, 1), (27, .iload_n 3, 1), (28, .i2l, 1), (29, .lconst 0, 1), (30, .aload_n 0, 1), (31, .getfield 79, 3), (34, .iload_n 1, 1), (35, .iaload, 1), (36, .iload 4, 2), (38, .isub, 1), (39, .i2l, 1), (40, .invokestatic 92, 3), (43, .ifCond .eq 7, 3), (46, .iconst 0, 1), (47, .goto 5, 3), (50, .bipush (-13), 2), (52, .ireturn, 1)]
def eCd188 : List (Nat × Instr × Nat) := [(0, .iload_n 0, 1), (1, .ifCond .ne 13, 3), (4, .lload_n 1, 1), (5, .bipush 48, 2), (7, .lshl, 1), (8, .bipush 48, 2), (10, .lshr, 1), (11, .goto 19, 3), (14, .iload_n 0, 1), (15, .iconst 1, 1), (16, .if_icmp .ne 13, 3), (19, .lload_n 1, 1), (20, .bipush 32, 2), (22, .lshl, 1), (23, .bipush 32, 2), (25, .lshr, 1), (26, .goto 4, 3), (29, .lload_n 1, 1), (30, .lreturn, 1)]
def eCd189 : List (Nat × Instr × Nat) := [(0, .iload_n 1, 1), (1, .iload_n 2, 1), (2, .invokestatic 268, 3), (5, .ifCond .eq 16, 3), (8, .iload 4, 2), (10, .i2l, 1), (11, .lconst 1, 1), (12, .ldc2_w 139, 3), (15, .invokestatic 92, 3), (18, .ifCond .ne 5, 3), (21, .iconst (-1), 1), (22, .ireturn, 1), (23, .aload_n 0, 1), (24, .iload_n 1, 1), (25, .iload_n 2, 1), (26, .iload_n 3, 1), (27, .iconst 2, 1), (28, .iload 4, 2), (30, .imul, 1), (31, .invokevirtual 271, 3), (34, .istore 5, 2), (36, .iload 5, 2), (38, .ifCond .ge 8, 3), (41, .iload 5, 2), (43, .goto 17, 3), (46, .aload_n 0, 1), (47, .bipush 24, 2), (49, .iload_n 1, 1), (50, .imul, 1), (51, .iload_n 3, 1), (52, .iadd, 1), (53, .iload 4, 2), (55, .bipush (-4), 2), (57, .invokevirtual 282, 3), (60, .ireturn, 1)]
def eCd190 : List (Nat × Instr × Nat) := [(0, .aload_n 0, 1), (1, .getfield 110, 3), (4, .istore 4, 2), (6, .aload_n 0, 1), (7, .getfield 126, 3), (10, .istore 5, 2), (12, .iconst 0, 1), (13, .istore 6, 2), (15, .iload 6, 2), (17, .iload_n 2, 1), (18, .if_icmp .ge 108, 3), (21, .aload_n 0, 1), (22, .getfield 82, 3), (25, .iload_n 1, 1), (26, .iconst 2, 1), (27, .iload 6, 2), (29, .imul, 1), (30, .iadd, 1), (31, .laload, 1), (32, .lstore 7, 2), (34, .aload_n 0, 1), (35, .getfield 82, 3), (38, .iload_n 1, 1), (39, .iconst 2, 1), (40, .iload 6, 2), (42, .imul, 1), (43, .iadd, 1), (44, .iconst 1, 1), (45, .iadd, 1), (46, .laload, 1), (47, .lstore 9, 2), (49, .iload 6, 2), (51, .iload_n 3, 1), (52, .if_icmp .eq 68, 3), (55, .aload_n 0, 1), (56, .iload 4, 2), (58, .lload 7, 2), (60, .lload 9, 2), (62, .invokevirtual 197, 3), (65, .ifCond .eq 20, 3), (68, .aload_n 0, 1), (69, .iload 4, 2), (71, .iload 5, 2), (73, .lload 7, 2), (75, .l2i, 1), (76, .lload 9, 2), (78, .l2i, 1), (79, .invokevirtual 201, 3), (82, .ifCond .ne 6, 3), (85, .iload 6, 2), (87, .ireturn, 1), (88, .iload 5, 2), (90, .aload_n 0, 1), (91, .lload 7, 2), (93, .l2i, 1), (94, .lload 9, 2), (96, .l2i, 1), (97, .invokevirtual 194, 3), (100, .iadd, 1), (101, .invokestatic 205, 3), (104, .istore 5, 2), (106, .iload 4, 2), (108, .lload 7, 2), (110, .l2i, 1), (111, .iconst (-1), 1), (112, .ixor, 1), (113, .iand, 1), (114, .lload 9, 2), (116, .l2i, 1), (117, .ior, 1), (118, .istore 4, 2), (120, .iinc 6 1, 3), (123, .goto (-108), 3), (126, .aload_n 0, 1), (127, .iload 4, 2), (129, .putfield 279, 3), (132, .bipush (-4), 2), (134, .ireturn, 1)]
def eCd191 : List (Nat × Instr × Nat) := [(0, .iload_n 1, 1), (1, .iload_n 2, 1), (2, .invokestatic 268, 3), (5, .ifCond .eq 26, 3), (8, .iload 4, 2), (10, .i2l, 1), (11, .lconst 1, 1), (12, .ldc2_w 139, 3), (15, .invokestatic 92, 3), (18, .ifCond .eq 13, 3), (21, .aload_n 0, 1), (22, .iload 5, 2), (24, .i2l, 1), (25, .invokevirtual 100, 3), (28, .ifCond .ne 5, 3), (31, .iconst (-1), 1), (32, .ireturn, 1), (33, .aload_n 0, 1), (34, .iload_n 1, 1), (35, .iload_n 2, 1), (36, .iload_n 3, 1), (37, .iconst 2, 1), (38, .iload 4, 2), (40, .imul, 1), (41, .invokevirtual 271, 3), (44, .istore 6, 2), (46, .iload 6, 2), (48, .ifCond .ge 6, 3), (51, .iload 6, 2), (53, .ireturn, 1), (54, .iconst 0, 1), (55, .istore 7, 2), (57, .iconst 0, 1), (58, .istore 8, 2), (60, .iload 8, 2), (62, .iload 4, 2), (64, .if_icmp .ge 60, 3), (67, .aload_n 0, 1), (68, .bipush 24, 2), (70, .iload_n 1, 1), (71, .imul, 1), (72, .iload_n 3, 1), (73, .iadd, 1), (74, .iload 4, 2), (76, .iload 8, 2), (78, .invokevirtual 282, 3), (81, .ifCond .ge 16, 3), (84, .aload_n 0, 1), (85, .getfield 279, 3), (88, .iload 5, 2), (90, .if_icmp .ne 7, 3), (93, .iconst 1, 1), (94, .goto 4, 3), (97, .iconst 0, 1), (98, .istore 9, 2), (100, .iload 7, 2), (102, .iload 9, 2), (104, .ifCond .eq 10, 3), (107, .iconst 1, 1), (108, .iload 8, 2), (110, .ishl, 1), (111, .goto 4, 3), (114, .iconst 0, 1), (115, .ior, 1), (116, .istore 7, 2), (118, .iinc 8 1, 3), (121, .goto (-61), 3), (124, .iload 7, 2), (126, .ireturn, 1)]
def eCd192 : List (Nat × Instr × Nat) := [(0, .iload_n 1, 1), (1, .iload_n 2, 1), (2, .invokestatic 268, 3), (5, .ifCond .ne 5, 3), (8, .iconst (-1), 1), (9, .ireturn, 1), (10, .aload_n 0, 1), (11, .invokevirtual 225, 3), (14, .istore 4, 2), (16, .iload 4, 2), (18, .ifCond .ge 6, 3), (21, .bipush (-4), 2), (23, .ireturn, 1), (24, .aload_n 0, 1), (25, .iload_n 1, 1), (26, .iload_n 2, 1), (27, .iload_n 3, 1), (28, .iload 4, 2), (30, .invokevirtual 271, 3), (33, .istore 5, 2), (35, .iload 5, 2), (37, .ifCond .ge 6, 3), (40, .iload 5, 2), (42, .ireturn, 1), (43, .iconst 0, 1), (44, .istore 6, 2), (46, .iload 6, 2), (48, .iload 4, 2), (50, .if_icmp .ge 35, 3), (53, .aload_n 0, 1), (54, .getfield 82, 3), (57, .bipush 24, 2), (59, .iload_n 1, 1), (60, .imul, 1), (61, .iload_n 3, 1), (62, .iadd, 1), (63, .iload 6, 2), (65, .iadd, 1), (66, .iload_n 2, 1), (67, .aload_n 0, 1), (68, .getfield 46, 3), (71, .iload 6, 2), (73, .iaload, 1), (74, .i2l, 1), (75, .invokestatic 275, 3), (78, .lastore, 1), (79, .iinc 6 1, 3), (82, .goto (-36), 3), (85, .iload 4, 2), (87, .ireturn, 1)]
def eCd193 : List (Nat × Instr × Nat) := [(0, .iload_n 1, 1), (1, .i2l, 1), (2, .lconst 0, 1), (3, .ldc2_w 96, 3), (6, .invokestatic 92, 3), (9, .ifCond .eq 15, 3), (12, .iload_n 3, 1), (13, .i2l, 1), (14, .lconst 0, 1), (15, .ldc2_w 96, 3), (18, .invokestatic 92, 3), (21, .ifCond .ne 5, 3), (24, .iconst (-1), 1), (25, .ireturn, 1), (26, .aload_n 0, 1), (27, .getfield 76, 3), (30, .iload_n 1, 1), (31, .iaload, 1), (32, .ifCond .lt 12, 3), (35, .aload_n 0, 1), (36, .getfield 76, 3), (39, .iload_n 3, 1), (40, .iaload, 1), (41, .ifCond .ge 6, 3), (44, .bipush (-11), 2), (46, .ireturn, 1), (47, .aload_n 0, 1), (48, .getfield 76, 3), (51, .iload_n 1, 1), (52, .iaload, 1), (53, .aload_n 0, 1), (54, .getfield 76, 3), (57, .iload_n 3, 1), (58, .iaload, 1), (59, .if_icmp .eq 6, 3), (62, .bipush (-12), 2), (64, .ireturn, 1), (65, .iload 5, 2), (67, .ifCond .lt 44, 3), (70, .iload_n 2, 1), (71, .i2l, 1), (72, .lconst 0, 1), (73, .aload_n 0, 1), (74, .getfield 79, 3), (77, .iload_n 1, 1), (78, .iaload, 1), (79, .i2l, 1), (80, .iload 5, 2), (82, .i2l, 1), (83, .lsub, 1), (84, .invokestatic 92, 3), (87, .ifCond .eq 24, 3), (90, .iload 4, 2), (92, .i2l, 1), (93, .lconst 0, 1), (94, .aload_n 0, 1), (95, .getfield 79, 3), (98, .iload_n 3, 1), (99, .iaload, 1), (100, .i2l, 1), (101, .iload 5, 2), (103, .i2l, 1), (104, .lsub, 1), (105, .invokestatic 92, 3), (108, .ifCond .ne 6, 3), (111, .bipush (-13), 2), (113, .ireturn, 1), (114, .iconst 0, 1), (115, .istore 6, 2), (117, .iload 6, 2), (119, .iload 5, 2), (121, .if_icmp .ge 30, 3), (124, .aload_n 0, 1), (125, .getfield 86, 3), (128, .iload 6, 2), (130, .aload_n 0, 1), (131, .getfield 82, 3), (134, .bipush 24, 2), (136, .iload_n 1, 1), (137, .imul, 1), (138, .iload_n 2, 1), (139, .iadd, 1), (140, .iload 6, 2), (142, .iadd, 1), (143, .laload, 1), (144, .lastore, 1), (145, .iinc 6 1, 3), (148, .goto (-31), 3), (151, .iconst 0, 1), (152, .istore 6, 2), (154, .iload 6, 2), (156, .iload 5, 2), (158, .if_icmp .ge 31, 3), (161, .aload_n 0, 1), (162, .getfield 82, 3), (165, .bipush 24, 2), (167, .iload_n 3, 1), (168, .imul, 1), (169, .iload 4, 2), (171, .iadd, 1), (172, .iload 6, 2), (174, .iadd, 1), (175, .aload_n 0, 1), (176, .getfield 86, 3), (179, .iload 6, 2), (181, .laload, 1), (182, .lastore, 1), (183, .iinc 6 1, 3), (186, .goto (-32), 3), (189, .iload 5, 2), (191, .ireturn, 1)]
def eCd194 : List (Nat × Instr × Nat) := [(0, .aload_n 0, 1), (1, .iload_n 1, 1), (2, .iconst 0, 1), (3, .invokevirtual 633, 3), (6, .ireturn, 1)]
def eCd195 : List (Nat × Instr × Nat) := [(0, .aload_n 0, 1), (1, .invokevirtual 492, 3), (4, .ifCond .eq 19, 3), (7, .aload_n 0, 1), (8, .getfield 9, 3), (11, .iload_n 1, 1), (12, .iload_n 2, 1), (13, .aload_n 0, 1), (14, .invokevirtual 505, 3), (17, .invokestatic 637, 3), (20, .goto 16, 3), (23, .aload_n 0, 1), (24, .getfield 9, 3), (27, .iload_n 1, 1), (28, .iload_n 2, 1), (29, .aload_n 0, 1), (30, .invokevirtual 505, 3), (33, .invokestatic 640, 3), (36, .ireturn, 1)]
def eCd196 : List (Nat × Instr × Nat) := [(0, .getstatic 38, 3), (3, .ifCond .eq 14, 3), (6, .aload_n 0, 1), (7, .getfield 15, 3), (10, .ifCond .ne 7, 3), (13, .iconst 1, 1), (14, .goto 4, 3), (17, .iconst 0, 1), (18, .ireturn, 1)]
def eCd197 : List (Nat × Instr × Nat) := [(0, .aload_n 0, 1), (1, .getfield 9, 3), (4, .arraylength, 1), (5, .aload_n 0, 1), (6, .invokevirtual 335, 3), (9, .ishr, 1), (10, .ireturn, 1)]
def eCd198 : List (Nat × Instr × Nat) := [(0, .getstatic 38, 3), (3, .ifCond .eq 10, 3), (6, .aload_n 0, 1), (7, .getfield 15, 3), (10, .goto 4, 3), (13, .iconst 1, 1), (14, .ireturn, 1)]
def eCd199 : List (Nat × Instr × Nat) := [(0, .iload_n 1, 1), (1, .invokestatic 88, 3), (4, .ifCond .ne 5, 3), (7, .iconst (-1), 1), (8, .ireturn, 1), (9, .iload_n 2, 1), (10, .iconst 0, 1), (11, .invokestatic 92, 3), (14, .istore_n 2, 1), (15, .iload_n 3, 1), (16, .aload_n 0, 1), (17, .arraylength, 1), (18, .invokestatic 38, 3), (21, .istore_n 3, 1), (22, .iload_n 2, 1), (23, .iload_n 3, 1), (24, .if_icmp .lt 5, 3), (27, .iconst (-1), 1), (28, .ireturn, 1), (29, .aload_n 0, 1), (30, .iload_n 1, 1), (31, .iload_n 2, 1), (32, .iload_n 3, 1), (33, .invokestatic 95, 3), (36, .ireturn, 1)]
def eCd200 : List (Nat × Instr × Nat) := [(0, .iload_n 0, 1), (1, .ifCond .lt 14, 3), (4, .iload_n 0, 1), (5, .sipush 255, 3), (8, .if_icmp .gt 7, 3), (11, .iconst 1, 1), (12, .goto 4, 3), (15, .iconst 0, 1), (16, .ireturn, 1)]
def eCd201 : List (Nat × Instr × Nat) := [(0, .iload_n 1, 1), (1, .i2b, 1), (2, .istore 4, 2), (4, .iload_n 2, 1), (5, .istore 5, 2), (7, .iload 5, 2), (9, .iload_n 3, 1), (10, .if_icmp .ge 21, 3), (13, .aload_n 0, 1), (14, .iload 5, 2), (16, .baload, 1), (17, .iload 4, 2), (19, .if_icmp .ne 6, 3), (22, .iload 5, 2), (24, .ireturn, 1), (25, .iinc 5 1, 3), (28, .goto (-21), 3), (31, .iconst (-1), 1), (32, .ireturn, 1)]
def eCd202 : List (Nat × Instr × Nat) := [(0, .new 7, 3), (3, .dup, 1), (4, .invokespecial 9, 3), (7, .astore_n 1, 1), (8, .new 10, 3), (11, .dup, 1), (12, .invokespecial 12, 3), (15, .astore_n 2, 1), (16, .iconst 0, 1), (17, .istore_n 3, 1), (18, .iload_n 3, 1), (19, .aload_n 0, 1), (20, .arraylength, 1), (21, .bipush 6, 2), (23, .isub, 1), (24, .if_icmp .gt 1042, 3), (27, .aload_n 0, 1), (28, .iload_n 3, 1), (29, .iaload, 1), (30, .bipush 31, 2), (32, .iand, 1), (33, .tableswitch 1027 0 25 #[119, 182, 215, 238, 261, 294, 317, 380, 393, 406, 429, 462, 495, 518, 531, 564, 597, 630, 643, 656, 709, 772, 815, 838, 921, 964], 119), (152, .aload_n 1, 1), (153, .aload_n 0, 1), (154, .iload_n 3, 1), (155, .iconst 1, 1), (156, .iadd, 1), (157, .iaload, 1), (158, .aload_n 0, 1), (159, .iload_n 3, 1), (160, .iconst 2, 1), (161, .iadd, 1), (162, .iaload, 1), (163, .aload_n 0, 1), (164, .iload_n 3, 1), (165, .iconst 3, 1), (166, .iadd, 1), (167, .iaload, 1), (168, .aload_n 0, 1), (169, .iload_n 3, 1), (170, .iconst 4, 1), (171, .iadd, 1), (172, .iaload, 1), (173, .aload_n 0, 1), (174, .iload_n 3, 1), (175, .iconst 5, 1), (176, .iadd, 1), (177, .iaload, 1), (178, .invokevirtual 13, 3), (181, .aload_n 2, 1), (182, .aload_n 0, 1), (183, .iload_n 3, 1), (184, .iconst 1, 1), (185, .iadd, 1), (186, .iaload, 1), (187, .aload_n 0, 1), (188, .iload_n 3, 1), (189, .iconst 2, 1), (190, .iadd, 1), (191, .iaload, 1), (192, .aload_n 0, 1), (193, .iload_n 3, 1), (194, .iconst 3, 1), (195, .iadd, 1), (196, .iaload, 1), (197, .aload_n 0, 1), (198, .iload_n 3, 1), (199, .iconst 4, 1), (200, .iadd, 1), (201, .iaload, 1), (202, .aload_n 0, 1), (203, .iload_n 3, 1), (204, .iconst 5, 1), (205, .iadd, 1), (206, .iaload, 1), (207, .invokevirtual 17, 3), (210, .if_icmp .eq 850, 3), (213, .iconst 0, 1), (214, .ireturn, 1), (215, .aload_n 1, 1), (216, .aload_n 0, 1), (217, .iload_n 3, 1), (218, .iconst 1, 1), (219, .iadd, 1), (220, .iaload, 1), (221, .aload_n 0, 1), (222, .iload_n 3, 1), (223, .iconst 2, 1), (224, .iadd, 1), (225, .iaload, 1), (226, .invokevirtual 18, 3), (229, .aload_n 2, 1), (230, .aload_n 0, 1), (231, .iload_n 3, 1), (232, .iconst 1, 1), (233, .iadd, 1), (234, .iaload, 1), (235, .aload_n 0, 1), (236, .iload_n 3, 1), (237, .iconst 2, 1), (238, .iadd, 1), (239, .iaload, 1), (240, .invokevirtual 22, 3), (243, .if_icmp .eq 817, 3), (246, .iconst 0, 1), (247, .ireturn, 1), (248, .aload_n 1, 1), (249, .aload_n 0, 1), (250, .iload_n 3, 1), (251, .iconst 1, 1), (252, .iadd, 1), (253, .iaload, 1), (254, .invokevirtual 23, 3), (257, .aload_n 2, 1), (258, .aload_n 0, 1), (259, .iload_n 3, 1), (260, .iconst 1, 1), (261, .iadd, 1), (262, .iaload, 1), (263, .invokevirtual 27, 3), (266, .if_icmp .eq 794, 3), (269, .iconst 0, 1), (270, .ireturn, 1), (271, .aload_n 1, 1), (272, .aload_n 0, 1), (273, .iload_n 3, 1), (274, .iconst 1, 1), (275, .iadd, 1), (276, .iaload, 1), (277, .invokevirtual 28, 3), (280, .aload_n 2, 1), (281, .aload_n 0, 1), (282, .iload_n 3, 1), (283, .iconst 1, 1), (284, .iadd, 1), (285, .iaload, 1), (286, .invokevirtual 31, 3), (289, .if_icmp .eq 771, 3), (292, .iconst 0, 1), (293, .ireturn, 1), (294, .aload_n 1, 1), (295, .aload_n 0, 1), (296, .iload_n 3, 1), (297, .iconst 1, 1), (298, .iadd, 1), (299, .iaload, 1), (300, .aload_n 0, 1), (301, .iload_n 3, 1), (302, .iconst 2, 1), (303, .iadd, 1), (304, .iaload, 1), (305, .invokevirtual 32, 3), (308, .aload_n 2, 1), (309, .aload_n 0, 1), (310, .iload_n 3, 1), (311, .iconst 1, 1), (312, .iadd, 1), (313, .iaload, 1), (314, .aload_n 0, 1), (315, .iload_n 3, 1), (316, .iconst 2, 1), (317, .iadd, 1), (318, .iaload, 1), (319, .invokevirtual 35, 3), (322, .if_icmp .eq 738, 3), (325, .iconst 0, 1), (326, .ireturn, 1), (327, .aload_n 1, 1), (328, .aload_n 0, 1), (329, .iload_n 3, 1), (330, .iconst 1, 1), (331, .iadd, 1), (332, .iaload, 1), (333, .invokevirtual 36, 3), (336, .aload_n 2, 1), (337, .aload_n 0, 1), (338, .iload_n 3, 1), (339, .iconst 1, 1), (340, .iadd, 1), (341, .iaload, 1), (342, .invokevirtual 39, 3), (345, .if_icmp .eq 715, 3), (348, .iconst 0, 1), (349, .ireturn, 1), (350, .aload_n 1, 1), (351, .aload_n 0, 1), (352, .iload_n 3, 1), (353, .iconst 1, 1), (354, .iadd, 1), (355, .iaload, 1), (356, .i2l, 1), (357, .bipush 32, 2), (359, .lshl, 1), (360, .aload_n 0, 1), (361, .iload_n 3, 1), (362, .iconst 2, 1), (363, .iadd, 1), (364, .iaload, 1), (365, .i2l, 1), (366, .ldc2_w 40, 3), (369, .land, 1), (370, .lor, 1), (371, .aload_n 0, 1), (372, .iload_n 3, 1), (373, .iconst 3, 1), (374, .iadd, 1), (375, .iaload, 1), (376, .invokevirtual 42, 3), (379, .aload_n 2, 1), (380, .aload_n 0, 1), (381, .iload_n 3, 1), (382, .iconst 1, 1), (383, .iadd, 1), (384, .iaload, 1), (385, .i2l, 1), (386, .bipush 32, 2), (388, .lshl, 1), (389, .aload_n 0, 1), (390, .iload_n 3, 1), (391, .iconst 2, 1), (392, .iadd, 1), (393, .iaload, 1), (394, .i2l, 1), (395, .ldc2_w 40, 3), (398, .land, 1), (399, .lor, 1), (400, .aload_n 0, 1), (401, .iload_n 3, 1), (402, .iconst 3, 1), (403, .iadd, 1), (404, .iaload, 1), (405, .invokevirtual 46, 3), (408, .if_icmp .eq 652, 3), (411, .iconst 0, 1), (412, .ireturn, 1), (413, .aload_n 1, 1), (414, .invokevirtual 47, 3), (417, .aload_n 2, 1), (418, .invokevirtual 51, 3), (421, .if_icmp .eq 639, 3), (424, .iconst 0, 1), (425, .ireturn, 1), (426, .aload_n 1, 1), (427, .invokevirtual 52, 3), (430, .aload_n 2, 1), (431, .invokevirtual 55, 3), (434, .if_icmp .eq 626, 3), (437, .iconst 0, 1), (438, .ireturn, 1), (439, .aload_n 1, 1), (440, .aload_n 0, 1), (441, .iload_n 3, 1), (442, .iconst 1, 1), (443, .iadd, 1), (444, .iaload, 1), (445, .invokevirtual 56, 3), (448, .aload_n 2, 1), (449, .aload_n 0, 1), (450, .iload_n 3, 1), (451, .iconst 1, 1), (452, .iadd, 1), (453, .iaload, 1), (454, .invokevirtual 59, 3), (457, .if_icmp .eq 603, 3), (460, .iconst 0, 1), (461, .ireturn, 1), (462, .aload_n 1, 1), (463, .aload_n 0, 1), (464, .iload_n 3, 1), (465, .iconst 1, 1), (466, .iadd, 1), (467, .iaload, 1), (468, .aload_n 0, 1), (469, .iload_n 3, 1), (470, .iconst 2, 1), (471, .iadd, 1), (472, .iaload, 1), (473, .invokevirtual 60, 3), (476, .aload_n 2, 1), (477, .aload_n 0, 1), (478, .iload_n 3, 1), (479, .iconst 1, 1), (480, .iadd, 1), (481, .iaload, 1), (482, .aload_n 0, 1), (483, .iload_n 3, 1), (484, .iconst 2, 1), (485, .iadd, 1), (486, .iaload, 1), (487, .invokevirtual 63, 3), (490, .if_icmp .eq 570, 3), (493, .iconst 0, 1), (494, .ireturn, 1), (495, .aload_n 1, 1), (496, .aload_n 0, 1), (497, .iload_n 3, 1), (498, .iconst 1, 1), (499, .iadd, 1), (500, .iaload, 1), (501, .aload_n 0, 1), (502, .iload_n 3, 1), (503, .iconst 2, 1), (504, .iadd, 1), (505, .iaload, 1), (506, .invokevirtual 64, 3), (509, .aload_n 2, 1), (510, .aload_n 0, 1), (511, .iload_n 3, 1), (512, .iconst 1, 1), (513, .iadd, 1), (514, .iaload, 1), (515, .aload_n 0, 1), (516, .iload_n 3, 1), (517, .iconst 2, 1), (518, .iadd, 1), (519, .iaload, 1), (520, .invokevirtual 67, 3), (523, .if_icmp .eq 537, 3), (526, .iconst 0, 1), (527, .ireturn, 1), (528, .aload_n 1, 1), (529, .aload_n 0, 1), (530, .iload_n 3, 1), (531, .iconst 1, 1), (532, .iadd, 1), (533, .iaload, 1), (534, .invokevirtual 68, 3), (537, .aload_n 2, 1), (538, .aload_n 0, 1), (539, .iload_n 3, 1), (540, .iconst 1, 1), (541, .iadd, 1), (542, .iaload, 1), (543, .invokevirtual 71, 3), (546, .if_icmp .eq 514, 3), (549, .iconst 0, 1), (550, .ireturn, 1), (551, .aload_n 1, 1), (552, .invokevirtual 72, 3), (555, .aload_n 2, 1), (556, .invokevirtual 75, 3), (559, .if_icmp .eq 501, 3), (562, .iconst 0, 1), (563, .ireturn, 1), (564, .aload_n 1, 1), (565, .aload_n 0, 1), (566, .iload_n 3, 1), (567, .iconst 1, 1), (568, .iadd, 1), (569, .iaload, 1), (570, .aload_n 0, 1), (571, .iload_n 3, 1), (572, .iconst 2, 1), (573, .iadd, 1), (574, .iaload, 1), (575, .invokevirtual 76, 3), (578, .aload_n 2, 1), (579, .aload_n 0, 1), (580, .iload_n 3, 1), (581, .iconst 1, 1), (582, .iadd, 1), (583, .iaload, 1), (584, .aload_n 0, 1), (585, .iload_n 3, 1), (586, .iconst 2, 1), (587, .iadd, 1), (588, .iaload, 1), (589, .invokevirtual 79, 3), (592, .if_icmp .eq 468, 3), (595, .iconst 0, 1), (596, .ireturn, 1), (597, .aload_n 1, 1), (598, .aload_n 0, 1), (599, .iload_n 3, 1), (600, .iconst 1, 1), (601, .iadd, 1), (602, .iaload, 1), (603, .aload_n 0, 1), (604, .iload_n 3, 1), (605, .iconst 2, 1), (606, .iadd, 1), (607, .iaload, 1), (608, .invokevirtual 80, 3), (611, .aload_n 2, 1), (612, .aload_n 0, 1), (613, .iload_n 3, 1), (614, .iconst 1, 1), (615, .iadd, 1), (616, .iaload, 1), (617, .aload_n 0, 1), (618, .iload_n 3, 1), (619, .iconst 2, 1), (620, .iadd, 1), (621, .iaload, 1), (622, .invokevirtual 83, 3), (625, .if_icmp .eq 435, 3), (628, .iconst 0, 1), (629, .ireturn, 1), (630, .aload_n 1, 1), (631, .aload_n 0, 1), (632, .iload_n 3, 1), (633, .iconst 1, 1), (634, .iadd, 1), (635, .iaload, 1), (636, .aload_n 0, 1), (637, .iload_n 3, 1), (638, .iconst 2, 1), (639, .iadd, 1), (640, .iaload, 1), (641, .invokevirtual 84, 3), (644, .aload_n 2, 1), (645, .aload_n 0, 1), (646, .iload_n 3, 1), (647, .iconst 1, 1), (648, .iadd, 1), (649, .iaload, 1), (650, .aload_n 0, 1), (651, .iload_n 3, 1), (652, .iconst 2, 1), (653, .iadd, 1), (654, .iaload, 1), (655, .invokevirtual 87, 3), (658, .if_icmp .eq 402, 3), (661, .iconst 0, 1), (662, .ireturn, 1), (663, .aload_n 1, 1), (664, .invokevirtual 88, 3), (667, .aload_n 2, 1), (668, .invokevirtual 91, 3), (671, .if_icmp .eq 389, 3), (674, .iconst 0, 1), (675, .ireturn, 1), (676, .aload_n 1, 1), (677, .invokevirtual 92, 3), (680, .aload_n 2, 1), (681, .invokevirtual 95, 3), (684, .if_icmp .eq 376, 3), (687, .iconst 0, 1), (688, .ireturn, 1), (689, .aload_n 1, 1), (690, .aload_n 0, 1), (691, .iload_n 3, 1), (692, .iconst 1, 1), (693, .iadd, 1), (694, .iaload, 1), (695, .aload_n 0, 1), (696, .iload_n 3, 1), (697, .iconst 2, 1), (698, .iadd, 1), (699, .iaload, 1), (700, .aload_n 0, 1), (701, .iload_n 3, 1), (702, .iconst 3, 1), (703, .iadd, 1), (704, .iaload, 1), (705, .aload_n 0, 1), (706, .iload_n 3, 1), (707, .iconst 4, 1), (708, .iadd, 1), (709, .iaload, 1), (710, .invokevirtual 96, 3), (713, .aload_n 2, 1), (714, .aload_n 0, 1), (715, .iload_n 3, 1), (716, .iconst 1, 1), (717, .iadd, 1), (718, .iaload, 1), (719, .aload_n 0, 1), (720, .iload_n 3, 1), (721, .iconst 2, 1), (722, .iadd, 1), (723, .iaload, 1), (724, .aload_n 0, 1), (725, .iload_n 3, 1), (726, .iconst 3, 1), (727, .iadd, 1), (728, .iaload, 1), (729, .aload_n 0, 1), (730, .iload_n 3, 1), (731, .iconst 4, 1), (732, .iadd, 1), (733, .iaload, 1), (734, .invokevirtual 100, 3), (737, .if_icmp .eq 323, 3), (740, .iconst 0, 1), (741, .ireturn, 1), (742, .aload_n 1, 1), (743, .aload_n 0, 1), (744, .iload_n 3, 1), (745, .iconst 1, 1), (746, .iadd, 1), (747, .iaload, 1), (748, .aload_n 0, 1), (749, .iload_n 3, 1), (750, .iconst 2, 1), (751, .iadd, 1), (752, .iaload, 1), (753, .aload_n 0, 1), (754, .iload_n 3, 1), (755, .iconst 3, 1), (756, .iadd, 1), (757, .iaload, 1), (758, .aload_n 0, 1), (759, .iload_n 3, 1), (760, .iconst 4, 1), (761, .iadd, 1), (762, .iaload, 1), (763, .aload_n 0, 1), (764, .iload_n 3, 1), (765, .iconst 5, 1), (766, .iadd, 1), (767, .iaload, 1), (768, .invokevirtual 101, 3), (771, .aload_n 2, 1), (772, .aload_n 0, 1), (773, .iload_n 3, 1), (774, .iconst 1, 1), (775, .iadd, 1), (776, .iaload, 1), (777, .aload_n 0, 1), (778, .iload_n 3, 1), (779, .iconst 2, 1), (780, .iadd, 1), (781, .iaload, 1), (782, .aload_n 0, 1), (783, .iload_n 3, 1), (784, .iconst 3, 1), (785, .iadd, 1), (786, .iaload, 1), (787, .aload_n 0, 1), (788, .iload_n 3, 1), (789, .iconst 4, 1), (790, .iadd, 1), (791, .iaload, 1), (792, .aload_n 0, 1), (793, .iload_n 3, 1), (794, .iconst 5, 1), (795, .iadd, 1), (796, .iaload, 1), (797, .invokevirtual 104, 3), (800, .if_icmp .eq 260, 3), (803, .iconst 0, 1), (804, .ireturn, 1), (805, .aload_n 1, 1), (806, .aload_n 0, 1), (807, .iload_n 3, 1), (808, .iconst 1, 1), (809, .iadd, 1), (810, .iaload, 1), (811, .aload_n 0, 1), (812, .iload_n 3, 1), (813, .iconst 2, 1), (814, .iadd, 1), (815, .iaload, 1), (816, .aload_n 0, 1), (817, .iload_n 3, 1), (818, .iconst 3, 1), (819, .iadd, 1), (820, .iaload, 1), (821, .invokevirtual 105, 3), (824, .aload_n 2, 1), (825, .aload_n 0, 1), (826, .iload_n 3, 1), (827, .iconst 1, 1), (828, .iadd, 1), (829, .iaload, 1), (830, .aload_n 0, 1), (831, .iload_n 3, 1), (832, .iconst 2, 1), (833, .iadd, 1), (834, .iaload, 1), (835, .aload_n 0, 1), (836, .iload_n 3, 1), (837, .iconst 3, 1), (838, .iadd, 1), (839, .iaload, 1), (840, .invokevirtual 109, 3), (843, .if_icmp .eq 217, 3), (846, .iconst 0, 1), (847, .ireturn, 1), (848, .aload_n 1, 1), (849, .aload_n 0, 1), (850, .iload_n 3, 1), (851, .iconst 1, 1), (852, .iadd, 1), (853, .iaload, 1), (854, .invokevirtual 110, 3), (857, .aload_n 2, 1), (858, .aload_n 0, 1), (859, .iload_n 3, 1), (860, .iconst 1, 1), (861, .iadd, 1), (862, .iaload, 1), (863, .invokevirtual 113, 3), (866, .if_icmp .eq 194, 3), (869, .iconst 0, 1), (870, .ireturn, 1), (871, .aload_n 1, 1), (872, .aload_n 0, 1), (873, .iload_n 3, 1), (874, .iconst 1, 1), (875, .iadd, 1), (876, .iaload, 1), (877, .aload_n 0, 1), (878, .iload_n 3, 1), (879, .iconst 2, 1), (880, .iadd, 1), (881, .iaload, 1), (882, .aload_n 0, 1), (883, .iload_n 3, 1), (884, .iconst 3, 1), (885, .iadd, 1), (886, .iaload, 1), (887, .aload_n 0, 1), (888, .iload_n 3, 1), (889, .iconst 4, 1), (890, .iadd, 1), (891, .iaload, 1), (892, .i2l, 1), (893, .bipush 32, 2), (895, .lshl, 1), (896, .aload_n 0, 1), (897, .iload_n 3, 1), (898, .iconst 5, 1), (899, .iadd, 1), (900, .iaload, 1), (901, .i2l, 1), (902, .ldc2_w 40, 3), (905, .land, 1), (906, .lor, 1), (907, .invokevirtual 114, 3), (910, .aload_n 2, 1), (911, .aload_n 0, 1), (912, .iload_n 3, 1), (913, .iconst 1, 1), (914, .iadd, 1), (915, .iaload, 1), (916, .aload_n 0, 1), (917, .iload_n 3, 1), (918, .iconst 2, 1), (919, .iadd, 1), (920, .iaload, 1), (921, .aload_n 0, 1), (922, .iload_n 3, 1), (923, .iconst 3, 1), (924, .iadd, 1), (925, .iaload, 1), (926, .aload_n 0, 1), (927, .iload_n 3, 1), (928, .iconst 4, 1), (929, .iadd, 1), (930, .iaload, 1), (931, .i2l, 1), (932, .bipush 32, 2), (934, .lshl, 1), (935, .aload_n 0, 1), (936, .iload_n 3, 1), (937, .iconst 5, 1), (938, .iadd, 1), (939, .iaload, 1), (940, .i2l, 1), (941, .ldc2_w 40, 3), (944, .land, 1), (945, .lor, 1), (946, .invokevirtual 118, 3), (949, .if_icmp .eq 111, 3), (952, .iconst 0, 1), (953, .ireturn, 1), (954, .aload_n 1, 1), (955, .aload_n 0, 1), (956, .iload_n 3, 1), (957, .iconst 1, 1), (958, .iadd, 1), (959, .iaload, 1), (960, .aload_n 0, 1), (961, .iload_n 3, 1), (962, .iconst 2, 1), (963, .iadd, 1), (964, .iaload, 1), (965, .aload_n 0, 1), (966, .iload_n 3, 1), (967, .iconst 3, 1), (968, .iadd, 1), (969, .iaload, 1), (970, .invokevirtual 119, 3), (973, .aload_n 2, 1), (974, .aload_n 0, 1), (975, .iload_n 3, 1), (976, .iconst 1, 1), (977, .iadd, 1), (978, .iaload, 1), (979, .aload_n 0, 1), (980, .iload_n 3, 1), (981, .iconst 2, 1), (982, .iadd, 1), (983, .iaload, 1), (984, .aload_n 0, 1), (985, .iload_n 3, 1), (986, .iconst 3, 1), (987, .iadd, 1), (988, .iaload, 1), (989, .invokevirtual 122, 3), (992, .if_icmp .eq 68, 3), (995, .iconst 0, 1), (996, .ireturn, 1), (997, .aload_n 1, 1), (998, .aload_n 0, 1), (999, .iload_n 3, 1), (1000, .iconst 1, 1), (1001, .iadd, 1), (1002, .iaload, 1), (1003, .aload_n 0, 1), (1004, .iload_n 3, 1), (1005, .iconst 2, 1), (1006, .iadd, 1), (1007, .iaload, 1), (1008, .aload_n 0, 1), (1009, .iload_n 3, 1), (1010, .iconst 3, 1), (1011, .iadd, 1), (1012, .iaload, 1), (1013, .aload_n 0, 1), (1014, .iload_n 3, 1), (1015, .iconst 4, 1), (1016, .iadd, 1), (1017, .iaload, 1), (1018, .aload_n 0, 1), (1019, .iload_n 3, 1), (1020, .iconst 5, 1), (1021, .iadd, 1), (1022, .iaload, 1), (1023, .invokevirtual 123, 3), (1026, .aload_n 2, 1), (1027, .aload_n 0, 1), (1028, .iload_n 3, 1), (1029, .iconst 1, 1), (1030, .iadd, 1), (1031, .iaload, 1), (1032, .aload_n 0, 1), (1033, .iload_n 3, 1), (1034, .iconst 2, 1), (1035, .iadd, 1), (1036, .iaload, 1), (1037, .aload_n 0, 1), (1038, .iload_n 3, 1), (1039, .iconst 3, 1), (1040, .iadd, 1), (1041, .iaload, 1), (1042, .aload_n 0, 1), (1043, .iload_n 3, 1), (1044, .iconst 4, 1), (1045, .iadd, 1), (1046, .iaload, 1), (1047, .aload_n 0, 1), (1048, .iload_n 3, 1), (1049, .iconst 5, 1), (1050, .iadd, 1), (1051, .iaload, 1), (1052, .invokevirtual 126, 3), (1055, .if_icmp .eq 5, 3), (1058, .iconst 0, 1), (1059, .ireturn, 1), (1060, .iinc 3 6, 3), (1063, .goto (-1045), 3), (1066, .iconst 1, 1), (1067, .ireturn, 1)]
def eCd : Nat → List (Nat × Instr × Nat)
  | 0 => eCd0
  | 1 => eCd1
  | 2 => eCd2
  | 3 => eCd3
  | 4 => eCd4
  | 5 => eCd5
  | 6 => eCd6
  | 7 => eCd7
  | 8 => eCd8
  | 9 => eCd9
  | 10 => eCd10
  | 11 => eCd11
  | 12 => eCd12
  | 13 => eCd13
  | 14 => eCd14
  | 15 => eCd15
  | 16 => eCd16
  | 17 => eCd17
  | 18 => eCd18
  | 19 => eCd19
  | 20 => eCd20
  | 21 => eCd21
  | 22 => eCd22
  | 23 => eCd23
  | 24 => eCd24
  | 25 => eCd25
  | 26 => eCd26
  | 27 => eCd27
  | 28 => eCd28
  | 29 => eCd29
  | 30 => eCd30
  | 31 => eCd31
  | 32 => eCd32
  | 33 => eCd33
  | 34 => eCd34
  | 35 => eCd35
  | 36 => eCd36
  | 37 => eCd37
  | 38 => eCd38
  | 39 => eCd39
  | 40 => eCd40
  | 41 => eCd41
  | 42 => eCd42
  | 43 => eCd43
  | 44 => eCd44
  | 45 => eCd45
  | 46 => eCd46
  | 47 => eCd47
  | 48 => eCd48
  | 49 => eCd49
  | 50 => eCd50
  | 51 => eCd51
  | 52 => eCd52
  | 53 => eCd53
  | 54 => eCd54
  | 55 => eCd55
  | 56 => eCd56
  | 57 => eCd57
  | 58 => eCd58
  | 59 => eCd59
  | 60 => eCd60
  | 61 => eCd61
  | 62 => eCd62
  | 63 => eCd63
  | 64 => eCd64
  | 65 => eCd65
  | 66 => eCd66
  | 67 => eCd67
  | 68 => eCd68
  | 69 => eCd69
  | 70 => eCd70
  | 71 => eCd71
  | 72 => eCd72
  | 73 => eCd73
  | 74 => eCd74
  | 75 => eCd75
  | 76 => eCd76
  | 77 => eCd77
  | 78 => eCd78
  | 79 => eCd79
  | 80 => eCd80
  | 81 => eCd81
  | 82 => eCd82
  | 83 => eCd83
  | 84 => eCd84
  | 85 => eCd85
  | 86 => eCd86
  | 87 => eCd87
  | 88 => eCd88
  | 89 => eCd89
  | 90 => eCd90
  | 91 => eCd91
  | 92 => eCd92
  | 93 => eCd93
  | 94 => eCd94
  | 95 => eCd95
  | 96 => eCd96
  | 97 => eCd97
  | 98 => eCd98
  | 99 => eCd99
  | 100 => eCd100
  | 101 => eCd101
  | 102 => eCd102
  | 103 => eCd103
  | 104 => eCd104
  | 105 => eCd105
  | 106 => eCd106
  | 107 => eCd107
  | 108 => eCd108
  | 109 => eCd109
  | 110 => eCd110
  | 111 => eCd111
  | 112 => eCd112
  | 113 => eCd113
  | 114 => eCd114
  | 115 => eCd115
  | 116 => eCd116
  | 117 => eCd117
  | 118 => eCd118
  | 119 => eCd119
  | 120 => eCd120
  | 121 => eCd121
  | 122 => eCd122
  | 123 => eCd123
  | 124 => eCd124
  | 125 => eCd125
  | 126 => eCd126
  | 127 => eCd127
  | 128 => eCd128
  | 129 => eCd129
  | 130 => eCd130
  | 131 => eCd131
  | 132 => eCd132
  | 133 => eCd133
  | 134 => eCd134
  | 135 => eCd135
  | 136 => eCd136
  | 137 => eCd137
  | 138 => eCd138
  | 139 => eCd139
  | 140 => eCd140
  | 141 => eCd141
  | 142 => eCd142
  | 143 => eCd143
  | 144 => eCd144
  | 145 => eCd145
  | 146 => eCd146
  | 147 => eCd147
  | 148 => eCd148
  | 149 => eCd149
  | 150 => eCd150
  | 151 => eCd151
  | 152 => eCd152
  | 153 => eCd153
  | 154 => eCd154
  | 155 => eCd155
  | 156 => eCd156
  | 157 => eCd157
  | 158 => eCd158
  | 159 => eCd159
  | 160 => eCd160
  | 161 => eCd161
  | 162 => eCd162
  | 163 => eCd163
  | 164 => eCd164
  | 165 => eCd165
  | 166 => eCd166
  | 167 => eCd167
  | 168 => eCd168
  | 169 => eCd169
  | 170 => eCd170
  | 171 => eCd171
  | 172 => eCd172
  | 173 => eCd173
  | 174 => eCd174
  | 175 => eCd175
  | 176 => eCd176
  | 177 => eCd177
  | 178 => eCd178
  | 179 => eCd179
  | 180 => eCd180
  | 181 => eCd181
  | 182 => eCd182
  | 183 => eCd183
  | 184 => eCd184
  | 185 => eCd185
  | 186 => eCd186
  | 187 => eCd187
  | 188 => eCd188
  | 189 => eCd189
  | 190 => eCd190
  | 191 => eCd191
  | 192 => eCd192
  | 193 => eCd193
  | 194 => eCd194
  | 195 => eCd195
  | 196 => eCd196
  | 197 => eCd197
  | 198 => eCd198
  | 199 => eCd199
  | 200 => eCd200
  | 201 => eCd201
  | 202 => eCd202
  | _ => []
def eLf : Nat → List (Nat × Nat × Nat)
  | 0 => [(9, 0, 0), (15, 4, 6), (27, 4, 1), (30, 4, 8), (33, 4, 9)]
  | 1 => [(11, 1, 0), (15, 1, 1), (18, 1, 2), (21, 1, 3), (24, 1, 4), (27, 1, 5), (30, 1, 6), (33, 1, 7), (36, 1, 8), (39, 1, 9), (43, 1, 10), (46, 1, 11), (49, 1, 12), (58, 4, 10), (65, 4, 6), (68, 4, 0), (71, 4, 2), (78, 4, 1)]
  | 2 => [(11, 2, 0), (15, 2, 1), (19, 2, 2)]
  | 3 => [(9, 3, 0), (19, 3, 1), (23, 3, 2), (40, 4, 6), (65, 4, 8)]
  | 4 => [(9, 4, 0), (13, 4, 1), (16, 4, 2), (19, 4, 3), (22, 4, 4), (25, 4, 5), (28, 4, 11), (32, 4, 6), (39, 4, 7), (42, 4, 8), (45, 4, 9), (54, 4, 10)]
  | 5 => [(13, 5, 0), (17, 5, 1), (20, 5, 2), (23, 5, 3), (27, 5, 4), (30, 5, 5), (33, 5, 6), (36, 5, 7), (39, 5, 14), (43, 5, 15), (46, 5, 16), (57, 5, 8), (60, 5, 12), (64, 4, 8), (67, 5, 10), (70, 5, 9), (123, 4, 9), (126, 4, 10), (104, 4, 6), (142, 4, 1), (147, 5, 11), (150, 4, 11), (81, 5, 13), (107, 4, 3)]
  | 6 => [(10, 6, 0), (16, 6, 1), (19, 6, 2), (25, 6, 3), (32, 6, 4), (39, 6, 5), (46, 6, 6), (53, 6, 7), (85, 4, 6), (92, 4, 0), (96, 4, 1), (99, 4, 2), (102, 4, 3), (105, 4, 4), (108, 4, 8), (121, 4, 7), (124, 4, 10), (127, 4, 11), (130, 4, 9), (144, 3, 1), (165, 3, 2), (193, 5, 8), (197, 5, 9), (200, 5, 7), (203, 5, 10), (240, 6, 8)]
  | 7 => [(7, 7, 0), (13, 7, 5), (17, 7, 6), (20, 7, 8), (23, 7, 13), (26, 7, 14), (29, 7, 15), (33, 7, 16), (36, 7, 17), (40, 7, 18), (43, 7, 19), (46, 7, 20), (49, 7, 21), (52, 7, 22), (55, 7, 23), (58, 7, 24), (61, 7, 25), (64, 7, 26), (67, 7, 27), (70, 7, 29), (73, 7, 30), (76, 7, 31), (79, 7, 32), (82, 7, 33), (86, 7, 35), (89, 7, 1), (110, 7, 2), (121, 7, 7), (126, 7, 4), (129, 7, 3), (147, 7, 9), (150, 7, 10), (177, 7, 11), (171, 7, 12), (262, 7, 28), (279, 7, 34)]
  | 8 => []
  | 9 => []
  | 10 => []
  | 11 => []
  | 12 => []
  | 13 => []
  | _ => []
def eLfp : Nat → List (Nat)
  | 0 => [297, 115, 102, 123, 126]
  | 1 => [251, 252, 253, 254, 255, 256, 257, 258, 259, 260, 261, 262, 263, 130, 113, 97, 105, 100]
  | 2 => [307, 308, 309]
  | 3 => [169, 170, 172, 117, 124]
  | 4 => [96, 99, 104, 107, 110, 112, 134, 116, 120, 125, 129, 133]
  | 5 => [188, 189, 190, 191, 192, 193, 194, 195, 206, 207, 208, 197, 204, 121, 201, 199, 128, 132, 118, 103, 203, 136, 205, 109]
  | 6 => [318, 319, 320, 321, 322, 323, 324, 325, 114, 98, 101, 106, 108, 111, 122, 119, 131, 135, 127, 171, 173, 198, 200, 196, 202, 326]
  | 7 => [944, 949, 950, 952, 957, 958, 959, 960, 961, 962, 963, 964, 965, 966, 967, 968, 969, 970, 971, 973, 974, 975, 976, 977, 979, 945, 946, 951, 948, 947, 953, 954, 955, 956, 972, 978]
  | 8 => []
  | 9 => []
  | 10 => []
  | 11 => []
  | 12 => []
  | 13 => []
  | _ => []
def eLn : Nat → List (Nat × Nat)
  | 0 => []
  | 1 => []
  | 2 => []
  | 3 => []
  | 4 => []
  | 5 => []
  | 6 => [(7, 4), (22, 3), (29, 5), (36, 1), (43, 0), (50, 2)]
  | 7 => []
  | 8 => []
  | 9 => []
  | 10 => []
  | 11 => []
  | 12 => []
  | 13 => [(7, 6), (10, 7)]
  | _ => []
def eLnp : Nat → List (Nat)
  | 0 => []
  | 1 => []
  | 2 => []
  | 3 => []
  | 4 => []
  | 5 => []
  | 6 => [90, 163, 182, 245, 291, 301]
  | 7 => []
  | 8 => []
  | 9 => []
  | 10 => []
  | 11 => []
  | 12 => []
  | 13 => [82, 937]
  | _ => []
def eLk : Nat → List (Nat × Int32)
  | 0 => []
  | 1 => [(99, 1000000)]
  | 2 => []
  | 3 => []
  | 4 => []
  | 5 => []
  | 6 => []
  | 7 => [(39, 65536), (212, 1000000)]
  | 8 => []
  | 9 => [(265, 1431655765), (266, 858993459), (267, 252645135)]
  | 10 => []
  | 11 => []
  | 12 => []
  | 13 => []
  | _ => []
def eLkp : Nat → List (Nat)
  | 0 => []
  | 1 => [748]
  | 2 => []
  | 3 => []
  | 4 => []
  | 5 => []
  | 6 => []
  | 7 => [943, 1209]
  | 8 => []
  | 9 => [832, 833, 834]
  | 10 => []
  | 11 => []
  | 12 => []
  | 13 => []
  | _ => []
def eLl : Nat → List (Nat × Int64)
  | 0 => []
  | 1 => []
  | 2 => []
  | 3 => [(13, 255), (15, 32), (17, 126)]
  | 4 => []
  | 5 => []
  | 6 => []
  | 7 => [(96, 3), (98, 99), (108, 5), (124, 999), (139, 8), (141, 255), (143, 32), (145, 126), (157, 48), (159, 57), (223, -1), (243, 60), (266, 2)]
  | 8 => []
  | 9 => []
  | 10 => []
  | 11 => []
  | 12 => []
  | 13 => [(40, 4294967295)]
  | _ => []
def eLlp : Nat → List (Nat)
  | 0 => []
  | 1 => []
  | 2 => []
  | 3 => [425, 426, 427]
  | 4 => []
  | 5 => []
  | 6 => []
  | 7 => [1057, 1061, 1074, 1094, 1115, 1116, 1117, 1118, 1139, 1140, 1196, 1246, 1284]
  | 8 => []
  | 9 => []
  | 10 => []
  | 11 => []
  | 12 => []
  | 13 => [1320]
  | _ => []
def eLs : Nat → List (Nat × Nat)
  | 0 => []
  | 1 => [(52, 76), (94, 84), (108, 37)]
  | 2 => [(26, 109), (22, 110), (37, 119)]
  | 3 => [(72, 39), (75, 37)]
  | 4 => [(85, 37)]
  | 5 => [(117, 65), (153, 68), (171, 36), (180, 37), (84, 100), (91, 102), (97, 99), (100, 101)]
  | 6 => [(57, 8), (61, 9), (64, 10), (67, 11), (133, 27), (217, 89), (231, 103), (234, 36), (260, 109), (267, 110)]
  | 7 => [(92, 130), (113, 136), (205, 161), (256, 179), (259, 180), (268, 184), (275, 188)]
  | 8 => []
  | 9 => []
  | 10 => [(13, 66), (304, 37)]
  | 11 => [(637, 199)]
  | 12 => [(88, 200), (92, 36), (38, 37), (95, 201)]
  | 13 => []
  | _ => []
def eLsp : Nat → List (Nat × Nat × Nat)
  | 0 => []
  | 1 => [(724, 725, 80), (757, 758, 76), (768, 496, 76)]
  | 2 => [(859, 860, 71), (862, 863, 71), (898, 899, 80)]
  | 3 => [(554, 555, 67), (557, 496, 76)]
  | 4 => [(641, 496, 76)]
  | 5 => [(671, 672, 80), (681, 682, 80), (702, 493, 76), (711, 496, 76), (821, 822, 68), (829, 830, 81), (818, 819, 68), (824, 825, 68)]
  | 6 => [(350, 351, 66), (353, 354, 66), (356, 357, 66), (359, 360, 66), (422, 423, 67), (777, 778, 70), (835, 836, 68), (838, 493, 76), (893, 860, 71), (905, 863, 71)]
  | 7 => [(1058, 1059, 72), (1083, 1084, 72), (1189, 1190, 72), (1263, 1264, 72), (1266, 1267, 72), (1281, 1282, 72), (1297, 1298, 72)]
  | 8 => []
  | 9 => []
  | 10 => [(674, 675, 80), (691, 496, 76)]
  | 11 => [(486, 487, 75)]
  | 12 => [(489, 490, 75), (492, 493, 76), (495, 496, 76), (498, 499, 75)]
  | 13 => []
  | _ => []
def eLv : Nat → List (Nat × Nat)
  | 0 => [(19, 91), (23, 92), (36, 94), (40, 95), (44, 52), (48, 58)]
  | 1 => [(61, 77), (74, 54), (81, 78), (84, 81), (87, 85), (91, 86), (100, 82), (104, 83), (111, 87)]
  | 2 => [(30, 111), (33, 112)]
  | 3 => [(28, 34), (32, 35), (36, 40), (53, 194), (58, 38), (62, 41), (43, 42), (68, 15), (47, 23)]
  | 4 => [(35, 13), (67, 12), (71, 53), (75, 48), (78, 20), (82, 56), (57, 54), (61, 55), (64, 49)]
  | 5 => [(49, 13), (53, 61), (73, 71), (110, 62), (113, 64), (129, 67), (133, 63), (136, 20), (139, 56), (143, 54), (145, 55), (163, 69), (167, 70), (176, 72), (77, 98)]
  | 6 => [(70, 12), (74, 14), (78, 15), (82, 16), (89, 18), (111, 20), (114, 22), (117, 23), (137, 28), (140, 29), (147, 31), (151, 32), (154, 33), (158, 43), (168, 44), (162, 46), (171, 48), (175, 49), (178, 51), (182, 52), (186, 58), (190, 60), (206, 75), (210, 79), (213, 80), (220, 90), (224, 93), (227, 97), (243, 107), (247, 113), (250, 108), (253, 114), (256, 115), (263, 118), (270, 111), (273, 121), (276, 123), (280, 126), (283, 112), (287, 127)]
  | 7 => [(100, 131), (104, 132), (117, 135), (132, 141), (136, 142), (180, 145), (153, 147), (174, 146), (168, 150), (161, 148), (165, 149), (197, 153), (201, 154), (190, 155), (194, 156), (184, 157), (187, 158), (208, 160), (225, 163), (220, 164), (216, 166), (213, 165), (237, 169), (240, 173), (231, 170), (234, 172), (228, 171), (245, 175), (249, 176), (253, 178), (271, 187), (282, 190)]
  | 8 => []
  | 9 => []
  | 10 => []
  | 11 => [(633, 195), (492, 196), (505, 197), (335, 198)]
  | 12 => []
  | 13 => [(13, 7), (17, 129), (18, 17), (22, 133), (23, 19), (27, 134), (28, 21), (31, 137), (32, 24), (35, 138), (36, 25), (39, 139), (42, 26), (46, 143), (47, 30), (51, 144), (52, 45), (55, 151), (56, 47), (59, 140), (60, 50), (63, 152), (64, 57), (67, 159), (68, 59), (71, 162), (72, 73), (75, 167), (76, 74), (79, 168), (80, 88), (83, 174), (84, 96), (87, 177), (88, 104), (91, 181), (92, 105), (95, 182), (96, 106), (100, 189), (101, 116), (104, 191), (105, 117), (109, 183), (110, 120), (113, 185), (114, 122), (118, 186), (119, 124), (122, 192), (123, 125), (126, 193)]
  | _ => []
def eLvp : Nat → List (Nat × Nat × Nat × Nat)
  | 0 => [(784, 786, 24, 70), (788, 790, 25, 70), (796, 798, 26, 70), (802, 804, 27, 70), (800, 611, 612, 66), (801, 638, 639, 66)]
  | 1 => [(727, 729, 16, 69), (731, 619, 620, 66), (732, 734, 17, 69), (744, 746, 18, 69), (760, 762, 21, 69), (764, 766, 22, 69), (749, 751, 19, 69), (753, 755, 20, 69), (769, 771, 23, 69)]
  | 2 => [(865, 866, 867, 71), (869, 870, 871, 71)]
  | 3 => [(455, 457, 0, 67), (460, 462, 1, 67), (558, 560, 3, 67), (464, 465, 466, 74), (550, 552, 2, 67), (562, 564, 4, 67), (566, 568, 5, 67), (570, 375, 376, 66), (588, 407, 408, 66)]
  | 4 => [(366, 367, 368, 66), (609, 363, 364, 66), (614, 615, 616, 66), (626, 594, 595, 66), (627, 395, 396, 66), (628, 629, 630, 66), (618, 619, 620, 66), (622, 623, 624, 66), (632, 598, 599, 66)]
  | 5 => [(650, 367, 368, 66), (651, 653, 7, 68), (703, 705, 14, 68), (655, 657, 8, 68), (667, 669, 10, 68), (677, 679, 11, 68), (659, 661, 9, 68), (665, 395, 396, 66), (666, 629, 630, 66), (663, 619, 620, 66), (664, 623, 624, 66), (694, 696, 12, 68), (698, 700, 13, 68), (707, 709, 15, 68), (814, 816, 28, 68)]
  | 6 => [(362, 363, 364, 66), (370, 371, 372, 66), (374, 375, 376, 66), (378, 379, 380, 68), (386, 387, 388, 66), (394, 395, 396, 66), (402, 403, 404, 66), (406, 407, 408, 66), (428, 429, 430, 67), (432, 433, 434, 67), (440, 441, 442, 66), (447, 448, 449, 66), (451, 452, 453, 67), (571, 573, 6, 65), (575, 576, 577, 67), (584, 585, 586, 67), (593, 594, 595, 66), (597, 598, 599, 66), (605, 606, 607, 66), (610, 611, 612, 66), (637, 638, 639, 66), (646, 647, 648, 68), (720, 721, 722, 69), (736, 737, 738, 69), (740, 741, 742, 69), (780, 781, 782, 70), (792, 793, 794, 70), (810, 811, 812, 68), (851, 853, 29, 65), (873, 875, 30, 65), (855, 856, 857, 71), (877, 879, 31, 65), (881, 882, 883, 71), (894, 895, 896, 71), (906, 866, 867, 71), (907, 908, 909, 71), (915, 916, 917, 71), (927, 928, 929, 71), (931, 870, 871, 71), (932, 933, 934, 71)]
  | 7 => [(1062, 1064, 32, 72), (1066, 1068, 33, 72), (1079, 1081, 34, 72), (1103, 1105, 35, 72), (1107, 1109, 36, 72), (1123, 1125, 37, 72), (1131, 1133, 39, 72), (1127, 1129, 38, 72), (1145, 1147, 42, 72), (1135, 1137, 40, 72), (1141, 1143, 41, 72), (1157, 1159, 43, 72), (1161, 1163, 44, 72), (1165, 1167, 45, 72), (1169, 1171, 46, 72), (1173, 1175, 47, 72), (1177, 1179, 48, 72), (1185, 1187, 49, 72), (1197, 1199, 50, 72), (1201, 1203, 51, 72), (1210, 1212, 53, 72), (1205, 1207, 52, 72), (1222, 1224, 54, 72), (1238, 1240, 58, 72), (1226, 1228, 55, 72), (1234, 1236, 57, 72), (1230, 1232, 56, 72), (1247, 1249, 59, 72), (1251, 1253, 60, 72), (1259, 1261, 61, 72), (1293, 1295, 62, 72), (1304, 1306, 63, 72)]
  | 8 => []
  | 9 => []
  | 10 => []
  | 11 => [(468, 469, 470, 74), (472, 473, 474, 74), (478, 479, 480, 74), (482, 483, 484, 74)]
  | 12 => []
  | 13 => [(346, 347, 348, 65), (1053, 1054, 1055, 72), (382, 383, 384, 65), (1070, 1071, 1072, 72), (390, 391, 392, 65), (1075, 1076, 1077, 72), (398, 399, 400, 65), (1086, 1087, 1088, 72), (410, 411, 412, 65), (1090, 1091, 1092, 72), (414, 415, 416, 65), (1095, 1096, 1097, 72), (418, 419, 420, 65), (1111, 1112, 1113, 72), (436, 437, 438, 65), (1119, 1120, 1121, 72), (580, 581, 582, 65), (1149, 1150, 1151, 72), (589, 590, 591, 65), (1099, 1100, 1101, 72), (601, 602, 603, 65), (1153, 1154, 1155, 72), (633, 634, 635, 65), (1181, 1182, 1183, 72), (642, 643, 644, 65), (1192, 1193, 1194, 72), (712, 713, 714, 65), (1214, 1215, 1216, 72), (716, 717, 718, 65), (1218, 1219, 1220, 72), (773, 774, 775, 65), (1242, 1243, 1244, 72), (806, 807, 808, 65), (1255, 1256, 1257, 72), (839, 840, 841, 65), (1269, 1270, 1271, 72), (843, 844, 845, 65), (1273, 1274, 1275, 72), (847, 848, 849, 65), (1300, 1301, 1302, 72), (885, 886, 887, 65), (1308, 1309, 1310, 72), (889, 890, 891, 65), (1277, 1278, 1279, 72), (901, 902, 903, 65), (1285, 1286, 1287, 72), (911, 912, 913, 65), (1289, 1290, 1291, 72), (919, 920, 921, 65), (1312, 1313, 1314, 72), (923, 924, 925, 65), (1316, 1317, 1318, 72)]
  | _ => []
def eLi : Nat → List (Nat × Nat)
  | 0 => []
  | 1 => []
  | 2 => []
  | 3 => []
  | 4 => []
  | 5 => []
  | 6 => []
  | 7 => []
  | 8 => []
  | 9 => []
  | 10 => []
  | 11 => []
  | 12 => []
  | 13 => [(9, 0), (12, 128)]
  | _ => []
def eLip : Nat → List (Nat × Nat × Nat)
  | 0 => []
  | 1 => []
  | 2 => []
  | 3 => []
  | 4 => []
  | 5 => []
  | 6 => []
  | 7 => []
  | 8 => []
  | 9 => []
  | 10 => []
  | 11 => []
  | 12 => []
  | 13 => [(84, 85, 65), (939, 940, 72)]
  | _ => []
def eLm : Nat → List (Nat × Nat)
  | 0 => []
  | 1 => []
  | 2 => []
  | 3 => []
  | 4 => []
  | 5 => []
  | 6 => [(9, 1), (24, 2), (31, 3), (38, 4), (45, 5), (52, 6)]
  | 7 => []
  | 8 => []
  | 9 => []
  | 10 => []
  | 11 => []
  | 12 => []
  | 13 => []
  | _ => []
def eLmp : Nat → List (Nat × Nat × Nat)
  | 0 => []
  | 1 => []
  | 2 => []
  | 3 => []
  | 4 => []
  | 5 => []
  | 6 => [(92, 93, 66), (165, 166, 67), (184, 185, 68), (247, 248, 69), (293, 294, 70), (303, 304, 71)]
  | 7 => []
  | 8 => []
  | 9 => []
  | 10 => []
  | 11 => []
  | 12 => []
  | 13 => []
  | _ => []
def eOi : List (Nat × Nat) := [(6, 1), (4, 1), (3, 1), (5, 5), (1, 3), (0, 1), (2, 3), (7, 1)]
def eOip : List Nat := [87, 95, 168, 187, 250, 296, 306, 942]
def eAc : List (Nat × Nat) := [(4, 48), (5, 157), (10, 150), (2, 43)]
def eAcp : List Nat := [444, 693, 692, 936]
def eMp : List Nat := [86, 94, 167, 186, 249, 295, 305, 349, 352, 355, 358, 361, 365, 369, 373, 377, 381, 385, 389, 393, 397, 401, 405, 409, 413, 417, 421, 424, 431, 435, 439, 443, 450, 454, 458, 463, 494, 497, 553, 556, 561, 565, 569, 574, 578, 583, 587, 592, 596, 600, 604, 608, 613, 617, 621, 625, 631, 636, 640, 645, 649, 654, 658, 662, 670, 673, 676, 680, 683, 697, 701, 706, 710, 715, 719, 723, 726, 730, 735, 739, 743, 747, 752, 756, 759, 763, 767, 772, 776, 779, 783, 787, 791, 795, 799, 805, 809, 813, 817, 820, 823, 826, 831, 837, 842, 846, 850, 854, 858, 861, 864, 868, 872, 876, 880, 884, 888, 892, 897, 900, 904, 910, 914, 918, 922, 926, 930, 935, 941, 1056, 1060, 1065, 1069, 1073, 1078, 1082, 1085, 1089, 1093, 1098, 1102, 1106, 1110, 1114, 1122, 1126, 1130, 1134, 1138, 1144, 1148, 1152, 1156, 1160, 1164, 1168, 1172, 1176, 1180, 1184, 1188, 1191, 1195, 1200, 1204, 1208, 1213, 1217, 1221, 1225, 1229, 1233, 1237, 1241, 1245, 1250, 1254, 1258, 1262, 1265, 1268, 1272, 1276, 1280, 1283, 1288, 1292, 1296, 1299, 1303, 1307, 1311, 1315, 1319, 467, 471, 475, 481, 485, 488, 491, 500, 0]
end
section
-- written by wip/whole/gen03.py: the tables' words, by their places
def eWs : List Cond := lw_tbl.filter goodWord
theorem eWs_in {w : Cond} {p : Nat} (h : lw_tbl[p]? = some w) (hg : goodWord w = true) : w ∈ eWs := List.mem_filter.mpr ⟨List.mem_of_getElem? h, hg⟩
theorem eIn_of {α : Type} (w : α → Cond) (ps : List Nat) (qs : List α) (hg : ∀ q, goodWord (w q) = true) (h : ps.map (fun p => lw_tbl[p]?) = qs.map (fun q => some (w q))) : ∀ q ∈ qs, w q ∈ eWs := by
  intro q hq
  have h1 : some (w q) ∈ qs.map (fun q => some (w q)) := List.mem_map.mpr ⟨q, hq, rfl⟩
  rw [← h] at h1
  obtain ⟨p, -, hp⟩ := List.mem_map.mp h1
  exact eWs_in hp (hg q)
def eN (own : Nat) : String := eCN.getD own ""
def eM (k : Nat) : MethodName := eY.getD k ⟨"", "", ""⟩
set_option maxRecDepth 100000 in
theorem eLf_w0 : (eLfp 0).map (fun p => lw_tbl[p]?) = (eLf 0).map (fun q => some (Cond.fieldLink (eN 0) q.1 (eU q.2.1 q.2.2).1 (eU q.2.1 q.2.2).2.1 (eU q.2.1 q.2.2).2.2.1)) := by decide +kernel
set_option maxRecDepth 100000 in
theorem eLf_w1 : (eLfp 1).map (fun p => lw_tbl[p]?) = (eLf 1).map (fun q => some (Cond.fieldLink (eN 1) q.1 (eU q.2.1 q.2.2).1 (eU q.2.1 q.2.2).2.1 (eU q.2.1 q.2.2).2.2.1)) := by decide +kernel
set_option maxRecDepth 100000 in
theorem eLf_w2 : (eLfp 2).map (fun p => lw_tbl[p]?) = (eLf 2).map (fun q => some (Cond.fieldLink (eN 2) q.1 (eU q.2.1 q.2.2).1 (eU q.2.1 q.2.2).2.1 (eU q.2.1 q.2.2).2.2.1)) := by decide +kernel
set_option maxRecDepth 100000 in
theorem eLf_w3 : (eLfp 3).map (fun p => lw_tbl[p]?) = (eLf 3).map (fun q => some (Cond.fieldLink (eN 3) q.1 (eU q.2.1 q.2.2).1 (eU q.2.1 q.2.2).2.1 (eU q.2.1 q.2.2).2.2.1)) := by decide +kernel
set_option maxRecDepth 100000 in
theorem eLf_w4 : (eLfp 4).map (fun p => lw_tbl[p]?) = (eLf 4).map (fun q => some (Cond.fieldLink (eN 4) q.1 (eU q.2.1 q.2.2).1 (eU q.2.1 q.2.2).2.1 (eU q.2.1 q.2.2).2.2.1)) := by decide +kernel
set_option maxRecDepth 100000 in
theorem eLf_w5 : (eLfp 5).map (fun p => lw_tbl[p]?) = (eLf 5).map (fun q => some (Cond.fieldLink (eN 5) q.1 (eU q.2.1 q.2.2).1 (eU q.2.1 q.2.2).2.1 (eU q.2.1 q.2.2).2.2.1)) := by decide +kernel
set_option maxRecDepth 100000 in
theorem eLf_w6 : (eLfp 6).map (fun p => lw_tbl[p]?) = (eLf 6).map (fun q => some (Cond.fieldLink (eN 6) q.1 (eU q.2.1 q.2.2).1 (eU q.2.1 q.2.2).2.1 (eU q.2.1 q.2.2).2.2.1)) := by decide +kernel
set_option maxRecDepth 100000 in
theorem eLf_w7 : (eLfp 7).map (fun p => lw_tbl[p]?) = (eLf 7).map (fun q => some (Cond.fieldLink (eN 7) q.1 (eU q.2.1 q.2.2).1 (eU q.2.1 q.2.2).2.1 (eU q.2.1 q.2.2).2.2.1)) := by decide +kernel
theorem eLf_in (own : Nat) : ∀ q ∈ eLf own, Cond.fieldLink (eN own) q.1 (eU q.2.1 q.2.2).1 (eU q.2.1 q.2.2).2.1 (eU q.2.1 q.2.2).2.2.1 ∈ eWs := by
  match own with
  | 0 => exact eIn_of (fun q : Nat × Nat × Nat => Cond.fieldLink (eN 0) q.1 (eU q.2.1 q.2.2).1 (eU q.2.1 q.2.2).2.1 (eU q.2.1 q.2.2).2.2.1) (eLfp 0) _ (fun _ => rfl) eLf_w0
  | 1 => exact eIn_of (fun q : Nat × Nat × Nat => Cond.fieldLink (eN 1) q.1 (eU q.2.1 q.2.2).1 (eU q.2.1 q.2.2).2.1 (eU q.2.1 q.2.2).2.2.1) (eLfp 1) _ (fun _ => rfl) eLf_w1
  | 2 => exact eIn_of (fun q : Nat × Nat × Nat => Cond.fieldLink (eN 2) q.1 (eU q.2.1 q.2.2).1 (eU q.2.1 q.2.2).2.1 (eU q.2.1 q.2.2).2.2.1) (eLfp 2) _ (fun _ => rfl) eLf_w2
  | 3 => exact eIn_of (fun q : Nat × Nat × Nat => Cond.fieldLink (eN 3) q.1 (eU q.2.1 q.2.2).1 (eU q.2.1 q.2.2).2.1 (eU q.2.1 q.2.2).2.2.1) (eLfp 3) _ (fun _ => rfl) eLf_w3
  | 4 => exact eIn_of (fun q : Nat × Nat × Nat => Cond.fieldLink (eN 4) q.1 (eU q.2.1 q.2.2).1 (eU q.2.1 q.2.2).2.1 (eU q.2.1 q.2.2).2.2.1) (eLfp 4) _ (fun _ => rfl) eLf_w4
  | 5 => exact eIn_of (fun q : Nat × Nat × Nat => Cond.fieldLink (eN 5) q.1 (eU q.2.1 q.2.2).1 (eU q.2.1 q.2.2).2.1 (eU q.2.1 q.2.2).2.2.1) (eLfp 5) _ (fun _ => rfl) eLf_w5
  | 6 => exact eIn_of (fun q : Nat × Nat × Nat => Cond.fieldLink (eN 6) q.1 (eU q.2.1 q.2.2).1 (eU q.2.1 q.2.2).2.1 (eU q.2.1 q.2.2).2.2.1) (eLfp 6) _ (fun _ => rfl) eLf_w6
  | 7 => exact eIn_of (fun q : Nat × Nat × Nat => Cond.fieldLink (eN 7) q.1 (eU q.2.1 q.2.2).1 (eU q.2.1 q.2.2).2.1 (eU q.2.1 q.2.2).2.2.1) (eLfp 7) _ (fun _ => rfl) eLf_w7
  | 8 => exact fun q h => absurd h List.not_mem_nil
  | 9 => exact fun q h => absurd h List.not_mem_nil
  | 10 => exact fun q h => absurd h List.not_mem_nil
  | 11 => exact fun q h => absurd h List.not_mem_nil
  | 12 => exact fun q h => absurd h List.not_mem_nil
  | 13 => exact fun q h => absurd h List.not_mem_nil
  | n + 14 => exact fun q h => absurd h List.not_mem_nil
set_option maxRecDepth 100000 in
theorem eLn_w6 : (eLnp 6).map (fun p => lw_tbl[p]?) = (eLn 6).map (fun q => some (Cond.classLink (eN 6) q.1 (eN q.2))) := by decide +kernel
set_option maxRecDepth 100000 in
theorem eLn_w13 : (eLnp 13).map (fun p => lw_tbl[p]?) = (eLn 13).map (fun q => some (Cond.classLink (eN 13) q.1 (eN q.2))) := by decide +kernel
theorem eLn_in (own : Nat) : ∀ q ∈ eLn own, Cond.classLink (eN own) q.1 (eN q.2) ∈ eWs := by
  match own with
  | 0 => exact fun q h => absurd h List.not_mem_nil
  | 1 => exact fun q h => absurd h List.not_mem_nil
  | 2 => exact fun q h => absurd h List.not_mem_nil
  | 3 => exact fun q h => absurd h List.not_mem_nil
  | 4 => exact fun q h => absurd h List.not_mem_nil
  | 5 => exact fun q h => absurd h List.not_mem_nil
  | 6 => exact eIn_of (fun q : Nat × Nat => Cond.classLink (eN 6) q.1 (eN q.2)) ((eLnp 6).map (fun p => p)) _ (fun _ => rfl) (by rw [List.map_map]; exact eLn_w6)
  | 7 => exact fun q h => absurd h List.not_mem_nil
  | 8 => exact fun q h => absurd h List.not_mem_nil
  | 9 => exact fun q h => absurd h List.not_mem_nil
  | 10 => exact fun q h => absurd h List.not_mem_nil
  | 11 => exact fun q h => absurd h List.not_mem_nil
  | 12 => exact fun q h => absurd h List.not_mem_nil
  | 13 => exact eIn_of (fun q : Nat × Nat => Cond.classLink (eN 13) q.1 (eN q.2)) ((eLnp 13).map (fun p => p)) _ (fun _ => rfl) (by rw [List.map_map]; exact eLn_w13)
  | n + 14 => exact fun q h => absurd h List.not_mem_nil
set_option maxRecDepth 100000 in
theorem eLk_w1 : (eLkp 1).map (fun p => lw_tbl[p]?) = (eLk 1).map (fun q => some (Cond.constant (eN 1) q.1 q.2)) := by decide +kernel
set_option maxRecDepth 100000 in
theorem eLk_w7 : (eLkp 7).map (fun p => lw_tbl[p]?) = (eLk 7).map (fun q => some (Cond.constant (eN 7) q.1 q.2)) := by decide +kernel
set_option maxRecDepth 100000 in
theorem eLk_w9 : (eLkp 9).map (fun p => lw_tbl[p]?) = (eLk 9).map (fun q => some (Cond.constant (eN 9) q.1 q.2)) := by decide +kernel
theorem eLk_in (own : Nat) : ∀ q ∈ eLk own, Cond.constant (eN own) q.1 q.2 ∈ eWs := by
  match own with
  | 0 => exact fun q h => absurd h List.not_mem_nil
  | 1 => exact eIn_of (fun q : Nat × Int32 => Cond.constant (eN 1) q.1 q.2) ((eLkp 1).map (fun p => p)) _ (fun _ => rfl) (by rw [List.map_map]; exact eLk_w1)
  | 2 => exact fun q h => absurd h List.not_mem_nil
  | 3 => exact fun q h => absurd h List.not_mem_nil
  | 4 => exact fun q h => absurd h List.not_mem_nil
  | 5 => exact fun q h => absurd h List.not_mem_nil
  | 6 => exact fun q h => absurd h List.not_mem_nil
  | 7 => exact eIn_of (fun q : Nat × Int32 => Cond.constant (eN 7) q.1 q.2) ((eLkp 7).map (fun p => p)) _ (fun _ => rfl) (by rw [List.map_map]; exact eLk_w7)
  | 8 => exact fun q h => absurd h List.not_mem_nil
  | 9 => exact eIn_of (fun q : Nat × Int32 => Cond.constant (eN 9) q.1 q.2) ((eLkp 9).map (fun p => p)) _ (fun _ => rfl) (by rw [List.map_map]; exact eLk_w9)
  | 10 => exact fun q h => absurd h List.not_mem_nil
  | 11 => exact fun q h => absurd h List.not_mem_nil
  | 12 => exact fun q h => absurd h List.not_mem_nil
  | 13 => exact fun q h => absurd h List.not_mem_nil
  | n + 14 => exact fun q h => absurd h List.not_mem_nil
set_option maxRecDepth 100000 in
theorem eLl_w3 : (eLlp 3).map (fun p => lw_tbl[p]?) = (eLl 3).map (fun q => some (Cond.constantLong (eN 3) q.1 q.2)) := by decide +kernel
set_option maxRecDepth 100000 in
theorem eLl_w7 : (eLlp 7).map (fun p => lw_tbl[p]?) = (eLl 7).map (fun q => some (Cond.constantLong (eN 7) q.1 q.2)) := by decide +kernel
set_option maxRecDepth 100000 in
theorem eLl_w13 : (eLlp 13).map (fun p => lw_tbl[p]?) = (eLl 13).map (fun q => some (Cond.constantLong (eN 13) q.1 q.2)) := by decide +kernel
theorem eLl_in (own : Nat) : ∀ q ∈ eLl own, Cond.constantLong (eN own) q.1 q.2 ∈ eWs := by
  match own with
  | 0 => exact fun q h => absurd h List.not_mem_nil
  | 1 => exact fun q h => absurd h List.not_mem_nil
  | 2 => exact fun q h => absurd h List.not_mem_nil
  | 3 => exact eIn_of (fun q : Nat × Int64 => Cond.constantLong (eN 3) q.1 q.2) ((eLlp 3).map (fun p => p)) _ (fun _ => rfl) (by rw [List.map_map]; exact eLl_w3)
  | 4 => exact fun q h => absurd h List.not_mem_nil
  | 5 => exact fun q h => absurd h List.not_mem_nil
  | 6 => exact fun q h => absurd h List.not_mem_nil
  | 7 => exact eIn_of (fun q : Nat × Int64 => Cond.constantLong (eN 7) q.1 q.2) ((eLlp 7).map (fun p => p)) _ (fun _ => rfl) (by rw [List.map_map]; exact eLl_w7)
  | 8 => exact fun q h => absurd h List.not_mem_nil
  | 9 => exact fun q h => absurd h List.not_mem_nil
  | 10 => exact fun q h => absurd h List.not_mem_nil
  | 11 => exact fun q h => absurd h List.not_mem_nil
  | 12 => exact fun q h => absurd h List.not_mem_nil
  | 13 => exact eIn_of (fun q : Nat × Int64 => Cond.constantLong (eN 13) q.1 q.2) ((eLlp 13).map (fun p => p)) _ (fun _ => rfl) (by rw [List.map_map]; exact eLl_w13)
  | n + 14 => exact fun q h => absurd h List.not_mem_nil
set_option maxRecDepth 100000 in
theorem eLs_w1 : (eLsp 1).map (fun p => lw_tbl[p.1]?) = (eLs 1).map (fun q => some (Cond.methodLink (eN 1) q.1 (eM q.2))) := by decide +kernel
set_option maxRecDepth 100000 in
theorem eLs_w2 : (eLsp 2).map (fun p => lw_tbl[p.1]?) = (eLs 2).map (fun q => some (Cond.methodLink (eN 2) q.1 (eM q.2))) := by decide +kernel
set_option maxRecDepth 100000 in
theorem eLs_w3 : (eLsp 3).map (fun p => lw_tbl[p.1]?) = (eLs 3).map (fun q => some (Cond.methodLink (eN 3) q.1 (eM q.2))) := by decide +kernel
set_option maxRecDepth 100000 in
theorem eLs_w4 : (eLsp 4).map (fun p => lw_tbl[p.1]?) = (eLs 4).map (fun q => some (Cond.methodLink (eN 4) q.1 (eM q.2))) := by decide +kernel
set_option maxRecDepth 100000 in
theorem eLs_w5 : (eLsp 5).map (fun p => lw_tbl[p.1]?) = (eLs 5).map (fun q => some (Cond.methodLink (eN 5) q.1 (eM q.2))) := by decide +kernel
set_option maxRecDepth 100000 in
theorem eLs_w6 : (eLsp 6).map (fun p => lw_tbl[p.1]?) = (eLs 6).map (fun q => some (Cond.methodLink (eN 6) q.1 (eM q.2))) := by decide +kernel
set_option maxRecDepth 100000 in
theorem eLs_w7 : (eLsp 7).map (fun p => lw_tbl[p.1]?) = (eLs 7).map (fun q => some (Cond.methodLink (eN 7) q.1 (eM q.2))) := by decide +kernel
set_option maxRecDepth 100000 in
theorem eLs_w10 : (eLsp 10).map (fun p => lw_tbl[p.1]?) = (eLs 10).map (fun q => some (Cond.methodLink (eN 10) q.1 (eM q.2))) := by decide +kernel
set_option maxRecDepth 100000 in
theorem eLs_w11 : (eLsp 11).map (fun p => lw_tbl[p.1]?) = (eLs 11).map (fun q => some (Cond.methodLink (eN 11) q.1 (eM q.2))) := by decide +kernel
set_option maxRecDepth 100000 in
theorem eLs_w12 : (eLsp 12).map (fun p => lw_tbl[p.1]?) = (eLs 12).map (fun q => some (Cond.methodLink (eN 12) q.1 (eM q.2))) := by decide +kernel
theorem eLs_in (own : Nat) : ∀ q ∈ eLs own, Cond.methodLink (eN own) q.1 (eM q.2) ∈ eWs := by
  match own with
  | 0 => exact fun q h => absurd h List.not_mem_nil
  | 1 => exact eIn_of (fun q : Nat × Nat => Cond.methodLink (eN 1) q.1 (eM q.2)) ((eLsp 1).map (fun p => p.1)) _ (fun _ => rfl) (by rw [List.map_map]; exact eLs_w1)
  | 2 => exact eIn_of (fun q : Nat × Nat => Cond.methodLink (eN 2) q.1 (eM q.2)) ((eLsp 2).map (fun p => p.1)) _ (fun _ => rfl) (by rw [List.map_map]; exact eLs_w2)
  | 3 => exact eIn_of (fun q : Nat × Nat => Cond.methodLink (eN 3) q.1 (eM q.2)) ((eLsp 3).map (fun p => p.1)) _ (fun _ => rfl) (by rw [List.map_map]; exact eLs_w3)
  | 4 => exact eIn_of (fun q : Nat × Nat => Cond.methodLink (eN 4) q.1 (eM q.2)) ((eLsp 4).map (fun p => p.1)) _ (fun _ => rfl) (by rw [List.map_map]; exact eLs_w4)
  | 5 => exact eIn_of (fun q : Nat × Nat => Cond.methodLink (eN 5) q.1 (eM q.2)) ((eLsp 5).map (fun p => p.1)) _ (fun _ => rfl) (by rw [List.map_map]; exact eLs_w5)
  | 6 => exact eIn_of (fun q : Nat × Nat => Cond.methodLink (eN 6) q.1 (eM q.2)) ((eLsp 6).map (fun p => p.1)) _ (fun _ => rfl) (by rw [List.map_map]; exact eLs_w6)
  | 7 => exact eIn_of (fun q : Nat × Nat => Cond.methodLink (eN 7) q.1 (eM q.2)) ((eLsp 7).map (fun p => p.1)) _ (fun _ => rfl) (by rw [List.map_map]; exact eLs_w7)
  | 8 => exact fun q h => absurd h List.not_mem_nil
  | 9 => exact fun q h => absurd h List.not_mem_nil
  | 10 => exact eIn_of (fun q : Nat × Nat => Cond.methodLink (eN 10) q.1 (eM q.2)) ((eLsp 10).map (fun p => p.1)) _ (fun _ => rfl) (by rw [List.map_map]; exact eLs_w10)
  | 11 => exact eIn_of (fun q : Nat × Nat => Cond.methodLink (eN 11) q.1 (eM q.2)) ((eLsp 11).map (fun p => p.1)) _ (fun _ => rfl) (by rw [List.map_map]; exact eLs_w11)
  | 12 => exact eIn_of (fun q : Nat × Nat => Cond.methodLink (eN 12) q.1 (eM q.2)) ((eLsp 12).map (fun p => p.1)) _ (fun _ => rfl) (by rw [List.map_map]; exact eLs_w12)
  | 13 => exact fun q h => absurd h List.not_mem_nil
  | n + 14 => exact fun q h => absurd h List.not_mem_nil
set_option maxRecDepth 100000 in
theorem eLsS_w1 : (eLsp 1).map (fun p => lw_tbl[p.2.1]?) = (eLs 1).map (fun q => some (Cond.static (eM q.2))) := by decide +kernel
set_option maxRecDepth 100000 in
theorem eLsS_w2 : (eLsp 2).map (fun p => lw_tbl[p.2.1]?) = (eLs 2).map (fun q => some (Cond.static (eM q.2))) := by decide +kernel
set_option maxRecDepth 100000 in
theorem eLsS_w3 : (eLsp 3).map (fun p => lw_tbl[p.2.1]?) = (eLs 3).map (fun q => some (Cond.static (eM q.2))) := by decide +kernel
set_option maxRecDepth 100000 in
theorem eLsS_w4 : (eLsp 4).map (fun p => lw_tbl[p.2.1]?) = (eLs 4).map (fun q => some (Cond.static (eM q.2))) := by decide +kernel
set_option maxRecDepth 100000 in
theorem eLsS_w5 : (eLsp 5).map (fun p => lw_tbl[p.2.1]?) = (eLs 5).map (fun q => some (Cond.static (eM q.2))) := by decide +kernel
set_option maxRecDepth 100000 in
theorem eLsS_w6 : (eLsp 6).map (fun p => lw_tbl[p.2.1]?) = (eLs 6).map (fun q => some (Cond.static (eM q.2))) := by decide +kernel
set_option maxRecDepth 100000 in
theorem eLsS_w7 : (eLsp 7).map (fun p => lw_tbl[p.2.1]?) = (eLs 7).map (fun q => some (Cond.static (eM q.2))) := by decide +kernel
set_option maxRecDepth 100000 in
theorem eLsS_w10 : (eLsp 10).map (fun p => lw_tbl[p.2.1]?) = (eLs 10).map (fun q => some (Cond.static (eM q.2))) := by decide +kernel
set_option maxRecDepth 100000 in
theorem eLsS_w11 : (eLsp 11).map (fun p => lw_tbl[p.2.1]?) = (eLs 11).map (fun q => some (Cond.static (eM q.2))) := by decide +kernel
set_option maxRecDepth 100000 in
theorem eLsS_w12 : (eLsp 12).map (fun p => lw_tbl[p.2.1]?) = (eLs 12).map (fun q => some (Cond.static (eM q.2))) := by decide +kernel
theorem eLsS_in (own : Nat) : ∀ q ∈ eLs own, Cond.static (eM q.2) ∈ eWs := by
  match own with
  | 0 => exact fun q h => absurd h List.not_mem_nil
  | 1 => exact eIn_of (fun q : Nat × Nat => Cond.static (eM q.2)) ((eLsp 1).map (fun p => p.2.1)) _ (fun _ => rfl) (by rw [List.map_map]; exact eLsS_w1)
  | 2 => exact eIn_of (fun q : Nat × Nat => Cond.static (eM q.2)) ((eLsp 2).map (fun p => p.2.1)) _ (fun _ => rfl) (by rw [List.map_map]; exact eLsS_w2)
  | 3 => exact eIn_of (fun q : Nat × Nat => Cond.static (eM q.2)) ((eLsp 3).map (fun p => p.2.1)) _ (fun _ => rfl) (by rw [List.map_map]; exact eLsS_w3)
  | 4 => exact eIn_of (fun q : Nat × Nat => Cond.static (eM q.2)) ((eLsp 4).map (fun p => p.2.1)) _ (fun _ => rfl) (by rw [List.map_map]; exact eLsS_w4)
  | 5 => exact eIn_of (fun q : Nat × Nat => Cond.static (eM q.2)) ((eLsp 5).map (fun p => p.2.1)) _ (fun _ => rfl) (by rw [List.map_map]; exact eLsS_w5)
  | 6 => exact eIn_of (fun q : Nat × Nat => Cond.static (eM q.2)) ((eLsp 6).map (fun p => p.2.1)) _ (fun _ => rfl) (by rw [List.map_map]; exact eLsS_w6)
  | 7 => exact eIn_of (fun q : Nat × Nat => Cond.static (eM q.2)) ((eLsp 7).map (fun p => p.2.1)) _ (fun _ => rfl) (by rw [List.map_map]; exact eLsS_w7)
  | 8 => exact fun q h => absurd h List.not_mem_nil
  | 9 => exact fun q h => absurd h List.not_mem_nil
  | 10 => exact eIn_of (fun q : Nat × Nat => Cond.static (eM q.2)) ((eLsp 10).map (fun p => p.2.1)) _ (fun _ => rfl) (by rw [List.map_map]; exact eLsS_w10)
  | 11 => exact eIn_of (fun q : Nat × Nat => Cond.static (eM q.2)) ((eLsp 11).map (fun p => p.2.1)) _ (fun _ => rfl) (by rw [List.map_map]; exact eLsS_w11)
  | 12 => exact eIn_of (fun q : Nat × Nat => Cond.static (eM q.2)) ((eLsp 12).map (fun p => p.2.1)) _ (fun _ => rfl) (by rw [List.map_map]; exact eLsS_w12)
  | 13 => exact fun q h => absurd h List.not_mem_nil
  | n + 14 => exact fun q h => absurd h List.not_mem_nil
set_option maxRecDepth 100000 in
theorem eLsI_w1 : (eLsp 1).map (fun p => lw_tbl[p.2.2]?) = (eLs 1).map (fun q => some (Cond.initialized (eM q.2).cls)) := by decide +kernel
set_option maxRecDepth 100000 in
theorem eLsI_w2 : (eLsp 2).map (fun p => lw_tbl[p.2.2]?) = (eLs 2).map (fun q => some (Cond.initialized (eM q.2).cls)) := by decide +kernel
set_option maxRecDepth 100000 in
theorem eLsI_w3 : (eLsp 3).map (fun p => lw_tbl[p.2.2]?) = (eLs 3).map (fun q => some (Cond.initialized (eM q.2).cls)) := by decide +kernel
set_option maxRecDepth 100000 in
theorem eLsI_w4 : (eLsp 4).map (fun p => lw_tbl[p.2.2]?) = (eLs 4).map (fun q => some (Cond.initialized (eM q.2).cls)) := by decide +kernel
set_option maxRecDepth 100000 in
theorem eLsI_w5 : (eLsp 5).map (fun p => lw_tbl[p.2.2]?) = (eLs 5).map (fun q => some (Cond.initialized (eM q.2).cls)) := by decide +kernel
set_option maxRecDepth 100000 in
theorem eLsI_w6 : (eLsp 6).map (fun p => lw_tbl[p.2.2]?) = (eLs 6).map (fun q => some (Cond.initialized (eM q.2).cls)) := by decide +kernel
set_option maxRecDepth 100000 in
theorem eLsI_w7 : (eLsp 7).map (fun p => lw_tbl[p.2.2]?) = (eLs 7).map (fun q => some (Cond.initialized (eM q.2).cls)) := by decide +kernel
set_option maxRecDepth 100000 in
theorem eLsI_w10 : (eLsp 10).map (fun p => lw_tbl[p.2.2]?) = (eLs 10).map (fun q => some (Cond.initialized (eM q.2).cls)) := by decide +kernel
set_option maxRecDepth 100000 in
theorem eLsI_w11 : (eLsp 11).map (fun p => lw_tbl[p.2.2]?) = (eLs 11).map (fun q => some (Cond.initialized (eM q.2).cls)) := by decide +kernel
set_option maxRecDepth 100000 in
theorem eLsI_w12 : (eLsp 12).map (fun p => lw_tbl[p.2.2]?) = (eLs 12).map (fun q => some (Cond.initialized (eM q.2).cls)) := by decide +kernel
theorem eLsI_in (own : Nat) : ∀ q ∈ eLs own, Cond.initialized (eM q.2).cls ∈ eWs := by
  match own with
  | 0 => exact fun q h => absurd h List.not_mem_nil
  | 1 => exact eIn_of (fun q : Nat × Nat => Cond.initialized (eM q.2).cls) ((eLsp 1).map (fun p => p.2.2)) _ (fun _ => rfl) (by rw [List.map_map]; exact eLsI_w1)
  | 2 => exact eIn_of (fun q : Nat × Nat => Cond.initialized (eM q.2).cls) ((eLsp 2).map (fun p => p.2.2)) _ (fun _ => rfl) (by rw [List.map_map]; exact eLsI_w2)
  | 3 => exact eIn_of (fun q : Nat × Nat => Cond.initialized (eM q.2).cls) ((eLsp 3).map (fun p => p.2.2)) _ (fun _ => rfl) (by rw [List.map_map]; exact eLsI_w3)
  | 4 => exact eIn_of (fun q : Nat × Nat => Cond.initialized (eM q.2).cls) ((eLsp 4).map (fun p => p.2.2)) _ (fun _ => rfl) (by rw [List.map_map]; exact eLsI_w4)
  | 5 => exact eIn_of (fun q : Nat × Nat => Cond.initialized (eM q.2).cls) ((eLsp 5).map (fun p => p.2.2)) _ (fun _ => rfl) (by rw [List.map_map]; exact eLsI_w5)
  | 6 => exact eIn_of (fun q : Nat × Nat => Cond.initialized (eM q.2).cls) ((eLsp 6).map (fun p => p.2.2)) _ (fun _ => rfl) (by rw [List.map_map]; exact eLsI_w6)
  | 7 => exact eIn_of (fun q : Nat × Nat => Cond.initialized (eM q.2).cls) ((eLsp 7).map (fun p => p.2.2)) _ (fun _ => rfl) (by rw [List.map_map]; exact eLsI_w7)
  | 8 => exact fun q h => absurd h List.not_mem_nil
  | 9 => exact fun q h => absurd h List.not_mem_nil
  | 10 => exact eIn_of (fun q : Nat × Nat => Cond.initialized (eM q.2).cls) ((eLsp 10).map (fun p => p.2.2)) _ (fun _ => rfl) (by rw [List.map_map]; exact eLsI_w10)
  | 11 => exact eIn_of (fun q : Nat × Nat => Cond.initialized (eM q.2).cls) ((eLsp 11).map (fun p => p.2.2)) _ (fun _ => rfl) (by rw [List.map_map]; exact eLsI_w11)
  | 12 => exact eIn_of (fun q : Nat × Nat => Cond.initialized (eM q.2).cls) ((eLsp 12).map (fun p => p.2.2)) _ (fun _ => rfl) (by rw [List.map_map]; exact eLsI_w12)
  | 13 => exact fun q h => absurd h List.not_mem_nil
  | n + 14 => exact fun q h => absurd h List.not_mem_nil
set_option maxRecDepth 100000 in
theorem eLv_w0 : (eLvp 0).map (fun p => lw_tbl[p.1]?) = (eLv 0).map (fun q => some (Cond.methodLink (eN 0) q.1 (eM q.2))) := by decide +kernel
set_option maxRecDepth 100000 in
theorem eLv_w1 : (eLvp 1).map (fun p => lw_tbl[p.1]?) = (eLv 1).map (fun q => some (Cond.methodLink (eN 1) q.1 (eM q.2))) := by decide +kernel
set_option maxRecDepth 100000 in
theorem eLv_w2 : (eLvp 2).map (fun p => lw_tbl[p.1]?) = (eLv 2).map (fun q => some (Cond.methodLink (eN 2) q.1 (eM q.2))) := by decide +kernel
set_option maxRecDepth 100000 in
theorem eLv_w3 : (eLvp 3).map (fun p => lw_tbl[p.1]?) = (eLv 3).map (fun q => some (Cond.methodLink (eN 3) q.1 (eM q.2))) := by decide +kernel
set_option maxRecDepth 100000 in
theorem eLv_w4 : (eLvp 4).map (fun p => lw_tbl[p.1]?) = (eLv 4).map (fun q => some (Cond.methodLink (eN 4) q.1 (eM q.2))) := by decide +kernel
set_option maxRecDepth 100000 in
theorem eLv_w5 : (eLvp 5).map (fun p => lw_tbl[p.1]?) = (eLv 5).map (fun q => some (Cond.methodLink (eN 5) q.1 (eM q.2))) := by decide +kernel
set_option maxRecDepth 100000 in
theorem eLv_w6 : (eLvp 6).map (fun p => lw_tbl[p.1]?) = (eLv 6).map (fun q => some (Cond.methodLink (eN 6) q.1 (eM q.2))) := by decide +kernel
set_option maxRecDepth 100000 in
theorem eLv_w7 : (eLvp 7).map (fun p => lw_tbl[p.1]?) = (eLv 7).map (fun q => some (Cond.methodLink (eN 7) q.1 (eM q.2))) := by decide +kernel
set_option maxRecDepth 100000 in
theorem eLv_w11 : (eLvp 11).map (fun p => lw_tbl[p.1]?) = (eLv 11).map (fun q => some (Cond.methodLink (eN 11) q.1 (eM q.2))) := by decide +kernel
set_option maxRecDepth 100000 in
theorem eLv_w13 : (eLvp 13).map (fun p => lw_tbl[p.1]?) = (eLv 13).map (fun q => some (Cond.methodLink (eN 13) q.1 (eM q.2))) := by decide +kernel
theorem eLv_in (own : Nat) : ∀ q ∈ eLv own, Cond.methodLink (eN own) q.1 (eM q.2) ∈ eWs := by
  match own with
  | 0 => exact eIn_of (fun q : Nat × Nat => Cond.methodLink (eN 0) q.1 (eM q.2)) ((eLvp 0).map (fun p => p.1)) _ (fun _ => rfl) (by rw [List.map_map]; exact eLv_w0)
  | 1 => exact eIn_of (fun q : Nat × Nat => Cond.methodLink (eN 1) q.1 (eM q.2)) ((eLvp 1).map (fun p => p.1)) _ (fun _ => rfl) (by rw [List.map_map]; exact eLv_w1)
  | 2 => exact eIn_of (fun q : Nat × Nat => Cond.methodLink (eN 2) q.1 (eM q.2)) ((eLvp 2).map (fun p => p.1)) _ (fun _ => rfl) (by rw [List.map_map]; exact eLv_w2)
  | 3 => exact eIn_of (fun q : Nat × Nat => Cond.methodLink (eN 3) q.1 (eM q.2)) ((eLvp 3).map (fun p => p.1)) _ (fun _ => rfl) (by rw [List.map_map]; exact eLv_w3)
  | 4 => exact eIn_of (fun q : Nat × Nat => Cond.methodLink (eN 4) q.1 (eM q.2)) ((eLvp 4).map (fun p => p.1)) _ (fun _ => rfl) (by rw [List.map_map]; exact eLv_w4)
  | 5 => exact eIn_of (fun q : Nat × Nat => Cond.methodLink (eN 5) q.1 (eM q.2)) ((eLvp 5).map (fun p => p.1)) _ (fun _ => rfl) (by rw [List.map_map]; exact eLv_w5)
  | 6 => exact eIn_of (fun q : Nat × Nat => Cond.methodLink (eN 6) q.1 (eM q.2)) ((eLvp 6).map (fun p => p.1)) _ (fun _ => rfl) (by rw [List.map_map]; exact eLv_w6)
  | 7 => exact eIn_of (fun q : Nat × Nat => Cond.methodLink (eN 7) q.1 (eM q.2)) ((eLvp 7).map (fun p => p.1)) _ (fun _ => rfl) (by rw [List.map_map]; exact eLv_w7)
  | 8 => exact fun q h => absurd h List.not_mem_nil
  | 9 => exact fun q h => absurd h List.not_mem_nil
  | 10 => exact fun q h => absurd h List.not_mem_nil
  | 11 => exact eIn_of (fun q : Nat × Nat => Cond.methodLink (eN 11) q.1 (eM q.2)) ((eLvp 11).map (fun p => p.1)) _ (fun _ => rfl) (by rw [List.map_map]; exact eLv_w11)
  | 12 => exact fun q h => absurd h List.not_mem_nil
  | 13 => exact eIn_of (fun q : Nat × Nat => Cond.methodLink (eN 13) q.1 (eM q.2)) ((eLvp 13).map (fun p => p.1)) _ (fun _ => rfl) (by rw [List.map_map]; exact eLv_w13)
  | n + 14 => exact fun q h => absurd h List.not_mem_nil
set_option maxRecDepth 100000 in
theorem eLvM_w0 : (eLvp 0).map (fun p => lw_tbl[p.2.1]?) = (eLv 0).map (fun q => some (Cond.instanceMethod (eM q.2))) := by decide +kernel
set_option maxRecDepth 100000 in
theorem eLvM_w1 : (eLvp 1).map (fun p => lw_tbl[p.2.1]?) = (eLv 1).map (fun q => some (Cond.instanceMethod (eM q.2))) := by decide +kernel
set_option maxRecDepth 100000 in
theorem eLvM_w2 : (eLvp 2).map (fun p => lw_tbl[p.2.1]?) = (eLv 2).map (fun q => some (Cond.instanceMethod (eM q.2))) := by decide +kernel
set_option maxRecDepth 100000 in
theorem eLvM_w3 : (eLvp 3).map (fun p => lw_tbl[p.2.1]?) = (eLv 3).map (fun q => some (Cond.instanceMethod (eM q.2))) := by decide +kernel
set_option maxRecDepth 100000 in
theorem eLvM_w4 : (eLvp 4).map (fun p => lw_tbl[p.2.1]?) = (eLv 4).map (fun q => some (Cond.instanceMethod (eM q.2))) := by decide +kernel
set_option maxRecDepth 100000 in
theorem eLvM_w5 : (eLvp 5).map (fun p => lw_tbl[p.2.1]?) = (eLv 5).map (fun q => some (Cond.instanceMethod (eM q.2))) := by decide +kernel
set_option maxRecDepth 100000 in
theorem eLvM_w6 : (eLvp 6).map (fun p => lw_tbl[p.2.1]?) = (eLv 6).map (fun q => some (Cond.instanceMethod (eM q.2))) := by decide +kernel
set_option maxRecDepth 100000 in
theorem eLvM_w7 : (eLvp 7).map (fun p => lw_tbl[p.2.1]?) = (eLv 7).map (fun q => some (Cond.instanceMethod (eM q.2))) := by decide +kernel
set_option maxRecDepth 100000 in
theorem eLvM_w11 : (eLvp 11).map (fun p => lw_tbl[p.2.1]?) = (eLv 11).map (fun q => some (Cond.instanceMethod (eM q.2))) := by decide +kernel
set_option maxRecDepth 100000 in
theorem eLvM_w13 : (eLvp 13).map (fun p => lw_tbl[p.2.1]?) = (eLv 13).map (fun q => some (Cond.instanceMethod (eM q.2))) := by decide +kernel
theorem eLvM_in (own : Nat) : ∀ q ∈ eLv own, Cond.instanceMethod (eM q.2) ∈ eWs := by
  match own with
  | 0 => exact eIn_of (fun q : Nat × Nat => Cond.instanceMethod (eM q.2)) ((eLvp 0).map (fun p => p.2.1)) _ (fun _ => rfl) (by rw [List.map_map]; exact eLvM_w0)
  | 1 => exact eIn_of (fun q : Nat × Nat => Cond.instanceMethod (eM q.2)) ((eLvp 1).map (fun p => p.2.1)) _ (fun _ => rfl) (by rw [List.map_map]; exact eLvM_w1)
  | 2 => exact eIn_of (fun q : Nat × Nat => Cond.instanceMethod (eM q.2)) ((eLvp 2).map (fun p => p.2.1)) _ (fun _ => rfl) (by rw [List.map_map]; exact eLvM_w2)
  | 3 => exact eIn_of (fun q : Nat × Nat => Cond.instanceMethod (eM q.2)) ((eLvp 3).map (fun p => p.2.1)) _ (fun _ => rfl) (by rw [List.map_map]; exact eLvM_w3)
  | 4 => exact eIn_of (fun q : Nat × Nat => Cond.instanceMethod (eM q.2)) ((eLvp 4).map (fun p => p.2.1)) _ (fun _ => rfl) (by rw [List.map_map]; exact eLvM_w4)
  | 5 => exact eIn_of (fun q : Nat × Nat => Cond.instanceMethod (eM q.2)) ((eLvp 5).map (fun p => p.2.1)) _ (fun _ => rfl) (by rw [List.map_map]; exact eLvM_w5)
  | 6 => exact eIn_of (fun q : Nat × Nat => Cond.instanceMethod (eM q.2)) ((eLvp 6).map (fun p => p.2.1)) _ (fun _ => rfl) (by rw [List.map_map]; exact eLvM_w6)
  | 7 => exact eIn_of (fun q : Nat × Nat => Cond.instanceMethod (eM q.2)) ((eLvp 7).map (fun p => p.2.1)) _ (fun _ => rfl) (by rw [List.map_map]; exact eLvM_w7)
  | 8 => exact fun q h => absurd h List.not_mem_nil
  | 9 => exact fun q h => absurd h List.not_mem_nil
  | 10 => exact fun q h => absurd h List.not_mem_nil
  | 11 => exact eIn_of (fun q : Nat × Nat => Cond.instanceMethod (eM q.2)) ((eLvp 11).map (fun p => p.2.1)) _ (fun _ => rfl) (by rw [List.map_map]; exact eLvM_w11)
  | 12 => exact fun q h => absurd h List.not_mem_nil
  | 13 => exact eIn_of (fun q : Nat × Nat => Cond.instanceMethod (eM q.2)) ((eLvp 13).map (fun p => p.2.1)) _ (fun _ => rfl) (by rw [List.map_map]; exact eLvM_w13)
  | n + 14 => exact fun q h => absurd h List.not_mem_nil
set_option maxRecDepth 100000 in
theorem eLvS_w0 : (eLvp 0).map (fun p => lw_tbl[p.2.2.1]?) = (eLv 0).map (fun q => some (Cond.selects (eM q.2).cls (eM q.2) (eM q.2))) := by decide +kernel
set_option maxRecDepth 100000 in
theorem eLvS_w1 : (eLvp 1).map (fun p => lw_tbl[p.2.2.1]?) = (eLv 1).map (fun q => some (Cond.selects (eM q.2).cls (eM q.2) (eM q.2))) := by decide +kernel
set_option maxRecDepth 100000 in
theorem eLvS_w2 : (eLvp 2).map (fun p => lw_tbl[p.2.2.1]?) = (eLv 2).map (fun q => some (Cond.selects (eM q.2).cls (eM q.2) (eM q.2))) := by decide +kernel
set_option maxRecDepth 100000 in
theorem eLvS_w3 : (eLvp 3).map (fun p => lw_tbl[p.2.2.1]?) = (eLv 3).map (fun q => some (Cond.selects (eM q.2).cls (eM q.2) (eM q.2))) := by decide +kernel
set_option maxRecDepth 100000 in
theorem eLvS_w4 : (eLvp 4).map (fun p => lw_tbl[p.2.2.1]?) = (eLv 4).map (fun q => some (Cond.selects (eM q.2).cls (eM q.2) (eM q.2))) := by decide +kernel
set_option maxRecDepth 100000 in
theorem eLvS_w5 : (eLvp 5).map (fun p => lw_tbl[p.2.2.1]?) = (eLv 5).map (fun q => some (Cond.selects (eM q.2).cls (eM q.2) (eM q.2))) := by decide +kernel
set_option maxRecDepth 100000 in
theorem eLvS_w6 : (eLvp 6).map (fun p => lw_tbl[p.2.2.1]?) = (eLv 6).map (fun q => some (Cond.selects (eM q.2).cls (eM q.2) (eM q.2))) := by decide +kernel
set_option maxRecDepth 100000 in
theorem eLvS_w7 : (eLvp 7).map (fun p => lw_tbl[p.2.2.1]?) = (eLv 7).map (fun q => some (Cond.selects (eM q.2).cls (eM q.2) (eM q.2))) := by decide +kernel
set_option maxRecDepth 100000 in
theorem eLvS_w11 : (eLvp 11).map (fun p => lw_tbl[p.2.2.1]?) = (eLv 11).map (fun q => some (Cond.selects (eM q.2).cls (eM q.2) (eM q.2))) := by decide +kernel
set_option maxRecDepth 100000 in
theorem eLvS_w13 : (eLvp 13).map (fun p => lw_tbl[p.2.2.1]?) = (eLv 13).map (fun q => some (Cond.selects (eM q.2).cls (eM q.2) (eM q.2))) := by decide +kernel
theorem eLvS_in (own : Nat) : ∀ q ∈ eLv own, Cond.selects (eM q.2).cls (eM q.2) (eM q.2) ∈ eWs := by
  match own with
  | 0 => exact eIn_of (fun q : Nat × Nat => Cond.selects (eM q.2).cls (eM q.2) (eM q.2)) ((eLvp 0).map (fun p => p.2.2.1)) _ (fun _ => rfl) (by rw [List.map_map]; exact eLvS_w0)
  | 1 => exact eIn_of (fun q : Nat × Nat => Cond.selects (eM q.2).cls (eM q.2) (eM q.2)) ((eLvp 1).map (fun p => p.2.2.1)) _ (fun _ => rfl) (by rw [List.map_map]; exact eLvS_w1)
  | 2 => exact eIn_of (fun q : Nat × Nat => Cond.selects (eM q.2).cls (eM q.2) (eM q.2)) ((eLvp 2).map (fun p => p.2.2.1)) _ (fun _ => rfl) (by rw [List.map_map]; exact eLvS_w2)
  | 3 => exact eIn_of (fun q : Nat × Nat => Cond.selects (eM q.2).cls (eM q.2) (eM q.2)) ((eLvp 3).map (fun p => p.2.2.1)) _ (fun _ => rfl) (by rw [List.map_map]; exact eLvS_w3)
  | 4 => exact eIn_of (fun q : Nat × Nat => Cond.selects (eM q.2).cls (eM q.2) (eM q.2)) ((eLvp 4).map (fun p => p.2.2.1)) _ (fun _ => rfl) (by rw [List.map_map]; exact eLvS_w4)
  | 5 => exact eIn_of (fun q : Nat × Nat => Cond.selects (eM q.2).cls (eM q.2) (eM q.2)) ((eLvp 5).map (fun p => p.2.2.1)) _ (fun _ => rfl) (by rw [List.map_map]; exact eLvS_w5)
  | 6 => exact eIn_of (fun q : Nat × Nat => Cond.selects (eM q.2).cls (eM q.2) (eM q.2)) ((eLvp 6).map (fun p => p.2.2.1)) _ (fun _ => rfl) (by rw [List.map_map]; exact eLvS_w6)
  | 7 => exact eIn_of (fun q : Nat × Nat => Cond.selects (eM q.2).cls (eM q.2) (eM q.2)) ((eLvp 7).map (fun p => p.2.2.1)) _ (fun _ => rfl) (by rw [List.map_map]; exact eLvS_w7)
  | 8 => exact fun q h => absurd h List.not_mem_nil
  | 9 => exact fun q h => absurd h List.not_mem_nil
  | 10 => exact fun q h => absurd h List.not_mem_nil
  | 11 => exact eIn_of (fun q : Nat × Nat => Cond.selects (eM q.2).cls (eM q.2) (eM q.2)) ((eLvp 11).map (fun p => p.2.2.1)) _ (fun _ => rfl) (by rw [List.map_map]; exact eLvS_w11)
  | 12 => exact fun q h => absurd h List.not_mem_nil
  | 13 => exact eIn_of (fun q : Nat × Nat => Cond.selects (eM q.2).cls (eM q.2) (eM q.2)) ((eLvp 13).map (fun p => p.2.2.1)) _ (fun _ => rfl) (by rw [List.map_map]; exact eLvS_w13)
  | n + 14 => exact fun q h => absurd h List.not_mem_nil
set_option maxRecDepth 100000 in
theorem eLvI_w0 : (eLvp 0).map (fun p => lw_tbl[p.2.2.2]?) = (eLv 0).map (fun q => some (Cond.initialized (eM q.2).cls)) := by decide +kernel
set_option maxRecDepth 100000 in
theorem eLvI_w1 : (eLvp 1).map (fun p => lw_tbl[p.2.2.2]?) = (eLv 1).map (fun q => some (Cond.initialized (eM q.2).cls)) := by decide +kernel
set_option maxRecDepth 100000 in
theorem eLvI_w2 : (eLvp 2).map (fun p => lw_tbl[p.2.2.2]?) = (eLv 2).map (fun q => some (Cond.initialized (eM q.2).cls)) := by decide +kernel
set_option maxRecDepth 100000 in
theorem eLvI_w3 : (eLvp 3).map (fun p => lw_tbl[p.2.2.2]?) = (eLv 3).map (fun q => some (Cond.initialized (eM q.2).cls)) := by decide +kernel
set_option maxRecDepth 100000 in
theorem eLvI_w4 : (eLvp 4).map (fun p => lw_tbl[p.2.2.2]?) = (eLv 4).map (fun q => some (Cond.initialized (eM q.2).cls)) := by decide +kernel
set_option maxRecDepth 100000 in
theorem eLvI_w5 : (eLvp 5).map (fun p => lw_tbl[p.2.2.2]?) = (eLv 5).map (fun q => some (Cond.initialized (eM q.2).cls)) := by decide +kernel
set_option maxRecDepth 100000 in
theorem eLvI_w6 : (eLvp 6).map (fun p => lw_tbl[p.2.2.2]?) = (eLv 6).map (fun q => some (Cond.initialized (eM q.2).cls)) := by decide +kernel
set_option maxRecDepth 100000 in
theorem eLvI_w7 : (eLvp 7).map (fun p => lw_tbl[p.2.2.2]?) = (eLv 7).map (fun q => some (Cond.initialized (eM q.2).cls)) := by decide +kernel
set_option maxRecDepth 100000 in
theorem eLvI_w11 : (eLvp 11).map (fun p => lw_tbl[p.2.2.2]?) = (eLv 11).map (fun q => some (Cond.initialized (eM q.2).cls)) := by decide +kernel
set_option maxRecDepth 100000 in
theorem eLvI_w13 : (eLvp 13).map (fun p => lw_tbl[p.2.2.2]?) = (eLv 13).map (fun q => some (Cond.initialized (eM q.2).cls)) := by decide +kernel
theorem eLvI_in (own : Nat) : ∀ q ∈ eLv own, Cond.initialized (eM q.2).cls ∈ eWs := by
  match own with
  | 0 => exact eIn_of (fun q : Nat × Nat => Cond.initialized (eM q.2).cls) ((eLvp 0).map (fun p => p.2.2.2)) _ (fun _ => rfl) (by rw [List.map_map]; exact eLvI_w0)
  | 1 => exact eIn_of (fun q : Nat × Nat => Cond.initialized (eM q.2).cls) ((eLvp 1).map (fun p => p.2.2.2)) _ (fun _ => rfl) (by rw [List.map_map]; exact eLvI_w1)
  | 2 => exact eIn_of (fun q : Nat × Nat => Cond.initialized (eM q.2).cls) ((eLvp 2).map (fun p => p.2.2.2)) _ (fun _ => rfl) (by rw [List.map_map]; exact eLvI_w2)
  | 3 => exact eIn_of (fun q : Nat × Nat => Cond.initialized (eM q.2).cls) ((eLvp 3).map (fun p => p.2.2.2)) _ (fun _ => rfl) (by rw [List.map_map]; exact eLvI_w3)
  | 4 => exact eIn_of (fun q : Nat × Nat => Cond.initialized (eM q.2).cls) ((eLvp 4).map (fun p => p.2.2.2)) _ (fun _ => rfl) (by rw [List.map_map]; exact eLvI_w4)
  | 5 => exact eIn_of (fun q : Nat × Nat => Cond.initialized (eM q.2).cls) ((eLvp 5).map (fun p => p.2.2.2)) _ (fun _ => rfl) (by rw [List.map_map]; exact eLvI_w5)
  | 6 => exact eIn_of (fun q : Nat × Nat => Cond.initialized (eM q.2).cls) ((eLvp 6).map (fun p => p.2.2.2)) _ (fun _ => rfl) (by rw [List.map_map]; exact eLvI_w6)
  | 7 => exact eIn_of (fun q : Nat × Nat => Cond.initialized (eM q.2).cls) ((eLvp 7).map (fun p => p.2.2.2)) _ (fun _ => rfl) (by rw [List.map_map]; exact eLvI_w7)
  | 8 => exact fun q h => absurd h List.not_mem_nil
  | 9 => exact fun q h => absurd h List.not_mem_nil
  | 10 => exact fun q h => absurd h List.not_mem_nil
  | 11 => exact eIn_of (fun q : Nat × Nat => Cond.initialized (eM q.2).cls) ((eLvp 11).map (fun p => p.2.2.2)) _ (fun _ => rfl) (by rw [List.map_map]; exact eLvI_w11)
  | 12 => exact fun q h => absurd h List.not_mem_nil
  | 13 => exact eIn_of (fun q : Nat × Nat => Cond.initialized (eM q.2).cls) ((eLvp 13).map (fun p => p.2.2.2)) _ (fun _ => rfl) (by rw [List.map_map]; exact eLvI_w13)
  | n + 14 => exact fun q h => absurd h List.not_mem_nil
set_option maxRecDepth 100000 in
theorem eLi_w13 : (eLip 13).map (fun p => lw_tbl[p.1]?) = (eLi 13).map (fun q => some (Cond.methodLink (eN 13) q.1 (eM q.2))) := by decide +kernel
theorem eLi_in (own : Nat) : ∀ q ∈ eLi own, Cond.methodLink (eN own) q.1 (eM q.2) ∈ eWs := by
  match own with
  | 0 => exact fun q h => absurd h List.not_mem_nil
  | 1 => exact fun q h => absurd h List.not_mem_nil
  | 2 => exact fun q h => absurd h List.not_mem_nil
  | 3 => exact fun q h => absurd h List.not_mem_nil
  | 4 => exact fun q h => absurd h List.not_mem_nil
  | 5 => exact fun q h => absurd h List.not_mem_nil
  | 6 => exact fun q h => absurd h List.not_mem_nil
  | 7 => exact fun q h => absurd h List.not_mem_nil
  | 8 => exact fun q h => absurd h List.not_mem_nil
  | 9 => exact fun q h => absurd h List.not_mem_nil
  | 10 => exact fun q h => absurd h List.not_mem_nil
  | 11 => exact fun q h => absurd h List.not_mem_nil
  | 12 => exact fun q h => absurd h List.not_mem_nil
  | 13 => exact eIn_of (fun q : Nat × Nat => Cond.methodLink (eN 13) q.1 (eM q.2)) ((eLip 13).map (fun p => p.1)) _ (fun _ => rfl) (by rw [List.map_map]; exact eLi_w13)
  | n + 14 => exact fun q h => absurd h List.not_mem_nil
set_option maxRecDepth 100000 in
theorem eLiM_w13 : (eLip 13).map (fun p => lw_tbl[p.2.1]?) = (eLi 13).map (fun q => some (Cond.instanceMethod (eM q.2))) := by decide +kernel
theorem eLiM_in (own : Nat) : ∀ q ∈ eLi own, Cond.instanceMethod (eM q.2) ∈ eWs := by
  match own with
  | 0 => exact fun q h => absurd h List.not_mem_nil
  | 1 => exact fun q h => absurd h List.not_mem_nil
  | 2 => exact fun q h => absurd h List.not_mem_nil
  | 3 => exact fun q h => absurd h List.not_mem_nil
  | 4 => exact fun q h => absurd h List.not_mem_nil
  | 5 => exact fun q h => absurd h List.not_mem_nil
  | 6 => exact fun q h => absurd h List.not_mem_nil
  | 7 => exact fun q h => absurd h List.not_mem_nil
  | 8 => exact fun q h => absurd h List.not_mem_nil
  | 9 => exact fun q h => absurd h List.not_mem_nil
  | 10 => exact fun q h => absurd h List.not_mem_nil
  | 11 => exact fun q h => absurd h List.not_mem_nil
  | 12 => exact fun q h => absurd h List.not_mem_nil
  | 13 => exact eIn_of (fun q : Nat × Nat => Cond.instanceMethod (eM q.2)) ((eLip 13).map (fun p => p.2.1)) _ (fun _ => rfl) (by rw [List.map_map]; exact eLiM_w13)
  | n + 14 => exact fun q h => absurd h List.not_mem_nil
set_option maxRecDepth 100000 in
theorem eLiI_w13 : (eLip 13).map (fun p => lw_tbl[p.2.2]?) = (eLi 13).map (fun q => some (Cond.initialized (eM q.2).cls)) := by decide +kernel
theorem eLiI_in (own : Nat) : ∀ q ∈ eLi own, Cond.initialized (eM q.2).cls ∈ eWs := by
  match own with
  | 0 => exact fun q h => absurd h List.not_mem_nil
  | 1 => exact fun q h => absurd h List.not_mem_nil
  | 2 => exact fun q h => absurd h List.not_mem_nil
  | 3 => exact fun q h => absurd h List.not_mem_nil
  | 4 => exact fun q h => absurd h List.not_mem_nil
  | 5 => exact fun q h => absurd h List.not_mem_nil
  | 6 => exact fun q h => absurd h List.not_mem_nil
  | 7 => exact fun q h => absurd h List.not_mem_nil
  | 8 => exact fun q h => absurd h List.not_mem_nil
  | 9 => exact fun q h => absurd h List.not_mem_nil
  | 10 => exact fun q h => absurd h List.not_mem_nil
  | 11 => exact fun q h => absurd h List.not_mem_nil
  | 12 => exact fun q h => absurd h List.not_mem_nil
  | 13 => exact eIn_of (fun q : Nat × Nat => Cond.initialized (eM q.2).cls) ((eLip 13).map (fun p => p.2.2)) _ (fun _ => rfl) (by rw [List.map_map]; exact eLiI_w13)
  | n + 14 => exact fun q h => absurd h List.not_mem_nil
set_option maxRecDepth 100000 in
theorem eLmM_w6 : (eLmp 6).map (fun p => lw_tbl[p.2.1]?) = (eLm 6).map (fun q => some (Cond.instanceMethod (eM q.2))) := by decide +kernel
theorem eLmM_in (own : Nat) : ∀ q ∈ eLm own, Cond.instanceMethod (eM q.2) ∈ eWs := by
  match own with
  | 0 => exact fun q h => absurd h List.not_mem_nil
  | 1 => exact fun q h => absurd h List.not_mem_nil
  | 2 => exact fun q h => absurd h List.not_mem_nil
  | 3 => exact fun q h => absurd h List.not_mem_nil
  | 4 => exact fun q h => absurd h List.not_mem_nil
  | 5 => exact fun q h => absurd h List.not_mem_nil
  | 6 => exact eIn_of (fun q : Nat × Nat => Cond.instanceMethod (eM q.2)) ((eLmp 6).map (fun p => p.2.1)) _ (fun _ => rfl) (by rw [List.map_map]; exact eLmM_w6)
  | 7 => exact fun q h => absurd h List.not_mem_nil
  | 8 => exact fun q h => absurd h List.not_mem_nil
  | 9 => exact fun q h => absurd h List.not_mem_nil
  | 10 => exact fun q h => absurd h List.not_mem_nil
  | 11 => exact fun q h => absurd h List.not_mem_nil
  | 12 => exact fun q h => absurd h List.not_mem_nil
  | 13 => exact fun q h => absurd h List.not_mem_nil
  | n + 14 => exact fun q h => absurd h List.not_mem_nil
set_option maxRecDepth 100000 in
theorem eLmI_w6 : (eLmp 6).map (fun p => lw_tbl[p.2.2]?) = (eLm 6).map (fun q => some (Cond.initialized (eM q.2).cls)) := by decide +kernel
theorem eLmI_in (own : Nat) : ∀ q ∈ eLm own, Cond.initialized (eM q.2).cls ∈ eWs := by
  match own with
  | 0 => exact fun q h => absurd h List.not_mem_nil
  | 1 => exact fun q h => absurd h List.not_mem_nil
  | 2 => exact fun q h => absurd h List.not_mem_nil
  | 3 => exact fun q h => absurd h List.not_mem_nil
  | 4 => exact fun q h => absurd h List.not_mem_nil
  | 5 => exact fun q h => absurd h List.not_mem_nil
  | 6 => exact eIn_of (fun q : Nat × Nat => Cond.initialized (eM q.2).cls) ((eLmp 6).map (fun p => p.2.2)) _ (fun _ => rfl) (by rw [List.map_map]; exact eLmI_w6)
  | 7 => exact fun q h => absurd h List.not_mem_nil
  | 8 => exact fun q h => absurd h List.not_mem_nil
  | 9 => exact fun q h => absurd h List.not_mem_nil
  | 10 => exact fun q h => absurd h List.not_mem_nil
  | 11 => exact fun q h => absurd h List.not_mem_nil
  | 12 => exact fun q h => absurd h List.not_mem_nil
  | 13 => exact fun q h => absurd h List.not_mem_nil
  | n + 14 => exact fun q h => absurd h List.not_mem_nil
set_option maxRecDepth 100000 in
theorem eOi_w : eOip.map (fun p => lw_tbl[p]?) = eOi.map (fun q => some (Cond.methodLink (eN q.1) q.2 Lib.objectInit)) := by decide +kernel
set_option maxRecDepth 100000 in
theorem eAc_w : eAcp.map (fun p => lw_tbl[p]?) = eAc.map (fun q => some (Cond.methodLink (eN q.1) q.2 arraycopyName)) := by decide +kernel
set_option maxRecDepth 100000 in
theorem eFp_w0 : (eFp 0).map (fun p => lw_tbl[p]?) = (List.range 1).map (fun k => some (u_lay (eN 0) (eU 0) k)) := by decide +kernel
set_option maxRecDepth 100000 in
theorem eFt_w0 : ∀ k, k < 1 → parseFieldDescriptor ((eU 0) k).2.2.1 = some ((eFt 0).getD k .int) := by decide +kernel
set_option maxRecDepth 100000 in
theorem eFn_w0 : ∀ a, a < 1 → ∀ b, b < 1 → a ≠ b → ((eU 0) a).2.1 ≠ ((eU 0) b).2.1 := by decide +kernel
set_option maxRecDepth 100000 in
theorem eIn_w0 : lw_tbl[292]? = some (Cond.instantiable (eN 0) 1) ∧ lw_tbl[70]? = some (Cond.initialized (eN 0)) := by decide +kernel
set_option maxRecDepth 100000 in
theorem eFp_w1 : (eFp 1).map (fun p => lw_tbl[p]?) = (List.range 13).map (fun k => some (u_lay (eN 1) (eU 1) k)) := by decide +kernel
set_option maxRecDepth 100000 in
theorem eFt_w1 : ∀ k, k < 13 → parseFieldDescriptor ((eU 1) k).2.2.1 = some ((eFt 1).getD k .int) := by decide +kernel
set_option maxRecDepth 100000 in
theorem eFn_w1 : ∀ a, a < 13 → ∀ b, b < 13 → a ≠ b → ((eU 1) a).2.1 ≠ ((eU 1) b).2.1 := by decide +kernel
set_option maxRecDepth 100000 in
theorem eIn_w1 : lw_tbl[246]? = some (Cond.instantiable (eN 1) 13) ∧ lw_tbl[69]? = some (Cond.initialized (eN 1)) := by decide +kernel
set_option maxRecDepth 100000 in
theorem eFp_w2 : (eFp 2).map (fun p => lw_tbl[p]?) = (List.range 3).map (fun k => some (u_lay (eN 2) (eU 2) k)) := by decide +kernel
set_option maxRecDepth 100000 in
theorem eFt_w2 : ∀ k, k < 3 → parseFieldDescriptor ((eU 2) k).2.2.1 = some ((eFt 2).getD k .int) := by decide +kernel
set_option maxRecDepth 100000 in
theorem eFn_w2 : ∀ a, a < 3 → ∀ b, b < 3 → a ≠ b → ((eU 2) a).2.1 ≠ ((eU 2) b).2.1 := by decide +kernel
set_option maxRecDepth 100000 in
theorem eIn_w2 : lw_tbl[302]? = some (Cond.instantiable (eN 2) 3) ∧ lw_tbl[71]? = some (Cond.initialized (eN 2)) := by decide +kernel
set_option maxRecDepth 100000 in
theorem eFp_w3 : (eFp 3).map (fun p => lw_tbl[p]?) = (List.range 3).map (fun k => some (u_lay (eN 3) (eU 3) k)) := by decide +kernel
set_option maxRecDepth 100000 in
theorem eFt_w3 : ∀ k, k < 3 → parseFieldDescriptor ((eU 3) k).2.2.1 = some ((eFt 3).getD k .int) := by decide +kernel
set_option maxRecDepth 100000 in
theorem eFn_w3 : ∀ a, a < 3 → ∀ b, b < 3 → a ≠ b → ((eU 3) a).2.1 ≠ ((eU 3) b).2.1 := by decide +kernel
set_option maxRecDepth 100000 in
theorem eIn_w3 : lw_tbl[164]? = some (Cond.instantiable (eN 3) 3) ∧ lw_tbl[67]? = some (Cond.initialized (eN 3)) := by decide +kernel
set_option maxRecDepth 100000 in
theorem eFp_w4 : (eFp 4).map (fun p => lw_tbl[p]?) = (List.range 12).map (fun k => some (u_lay (eN 4) (eU 4) k)) := by decide +kernel
set_option maxRecDepth 100000 in
theorem eFt_w4 : ∀ k, k < 12 → parseFieldDescriptor ((eU 4) k).2.2.1 = some ((eFt 4).getD k .int) := by decide +kernel
set_option maxRecDepth 100000 in
theorem eFn_w4 : ∀ a, a < 12 → ∀ b, b < 12 → a ≠ b → ((eU 4) a).2.1 ≠ ((eU 4) b).2.1 := by decide +kernel
set_option maxRecDepth 100000 in
theorem eIn_w4 : lw_tbl[91]? = some (Cond.instantiable (eN 4) 12) ∧ lw_tbl[66]? = some (Cond.initialized (eN 4)) := by decide +kernel
set_option maxRecDepth 100000 in
theorem eFp_w5 : (eFp 5).map (fun p => lw_tbl[p]?) = (List.range 17).map (fun k => some (u_lay (eN 5) (eU 5) k)) := by decide +kernel
set_option maxRecDepth 100000 in
theorem eFt_w5 : ∀ k, k < 17 → parseFieldDescriptor ((eU 5) k).2.2.1 = some ((eFt 5).getD k .int) := by decide +kernel
set_option maxRecDepth 100000 in
theorem eFn_w5 : ∀ a, a < 17 → ∀ b, b < 17 → a ≠ b → ((eU 5) a).2.1 ≠ ((eU 5) b).2.1 := by decide +kernel
set_option maxRecDepth 100000 in
theorem eIn_w5 : lw_tbl[183]? = some (Cond.instantiable (eN 5) 17) ∧ lw_tbl[68]? = some (Cond.initialized (eN 5)) := by decide +kernel
set_option maxRecDepth 100000 in
theorem eFp_w6 : (eFp 6).map (fun p => lw_tbl[p]?) = (List.range 9).map (fun k => some (u_lay (eN 6) (eU 6) k)) := by decide +kernel
set_option maxRecDepth 100000 in
theorem eFt_w6 : ∀ k, k < 9 → parseFieldDescriptor ((eU 6) k).2.2.1 = some ((eFt 6).getD k .int) := by decide +kernel
set_option maxRecDepth 100000 in
theorem eFn_w6 : ∀ a, a < 9 → ∀ b, b < 9 → a ≠ b → ((eU 6) a).2.1 ≠ ((eU 6) b).2.1 := by decide +kernel
set_option maxRecDepth 100000 in
theorem eIn_w6 : lw_tbl[83]? = some (Cond.instantiable (eN 6) 9) ∧ lw_tbl[65]? = some (Cond.initialized (eN 6)) := by decide +kernel
set_option maxRecDepth 100000 in
theorem eFp_w7 : (eFp 7).map (fun p => lw_tbl[p]?) = (List.range 36).map (fun k => some (u_lay (eN 7) (eU 7) k)) := by decide +kernel
set_option maxRecDepth 100000 in
theorem eFt_w7 : ∀ k, k < 36 → parseFieldDescriptor ((eU 7) k).2.2.1 = some ((eFt 7).getD k .int) := by decide +kernel
set_option maxRecDepth 100000 in
theorem eFn_w7 : ∀ a, a < 36 → ∀ b, b < 36 → a ≠ b → ((eU 7) a).2.1 ≠ ((eU 7) b).2.1 := by decide +kernel
set_option maxRecDepth 100000 in
theorem eIn_w7 : lw_tbl[938]? = some (Cond.instantiable (eN 7) 36) ∧ lw_tbl[72]? = some (Cond.initialized (eN 7)) := by decide +kernel
/-- what the tables say of a class by its number -/
theorem eCl_ok (ci : Nat) (hci : ci < 8) : ∃ N, eCl[ci]? = some (eN ci, eU ci, N) ∧ (eFt ci).length = N ∧ (eFd ci).length = N ∧ (∀ w ∈ u_ws (eN ci) (eU ci) N, w ∈ eWs) ∧ (∀ k, k < N → parseFieldDescriptor ((eU ci) k).2.2.1 = some ((eFt ci).getD k .int)) ∧ (∀ a, a < N → ∀ b, b < N → a ≠ b → ((eU ci) a).2.1 ≠ ((eU ci) b).2.1) ∧ Cond.instantiable (eN ci) N ∈ eWs ∧ Cond.initialized (eN ci) ∈ eWs := by
  match ci, hci with
  | 0, _ => exact ⟨1, rfl, rfl, rfl, fun w hw => by obtain ⟨k, hk, rfl⟩ := List.mem_map.mp hw; exact eIn_of (fun k => u_lay (eN 0) (eU 0) k) (eFp 0) _ (fun k => by unfold u_lay; split <;> rfl) eFp_w0 k hk, eFt_w0, eFn_w0, eWs_in eIn_w0.1 rfl, eWs_in eIn_w0.2 rfl⟩
  | 1, _ => exact ⟨13, rfl, rfl, rfl, fun w hw => by obtain ⟨k, hk, rfl⟩ := List.mem_map.mp hw; exact eIn_of (fun k => u_lay (eN 1) (eU 1) k) (eFp 1) _ (fun k => by unfold u_lay; split <;> rfl) eFp_w1 k hk, eFt_w1, eFn_w1, eWs_in eIn_w1.1 rfl, eWs_in eIn_w1.2 rfl⟩
  | 2, _ => exact ⟨3, rfl, rfl, rfl, fun w hw => by obtain ⟨k, hk, rfl⟩ := List.mem_map.mp hw; exact eIn_of (fun k => u_lay (eN 2) (eU 2) k) (eFp 2) _ (fun k => by unfold u_lay; split <;> rfl) eFp_w2 k hk, eFt_w2, eFn_w2, eWs_in eIn_w2.1 rfl, eWs_in eIn_w2.2 rfl⟩
  | 3, _ => exact ⟨3, rfl, rfl, rfl, fun w hw => by obtain ⟨k, hk, rfl⟩ := List.mem_map.mp hw; exact eIn_of (fun k => u_lay (eN 3) (eU 3) k) (eFp 3) _ (fun k => by unfold u_lay; split <;> rfl) eFp_w3 k hk, eFt_w3, eFn_w3, eWs_in eIn_w3.1 rfl, eWs_in eIn_w3.2 rfl⟩
  | 4, _ => exact ⟨12, rfl, rfl, rfl, fun w hw => by obtain ⟨k, hk, rfl⟩ := List.mem_map.mp hw; exact eIn_of (fun k => u_lay (eN 4) (eU 4) k) (eFp 4) _ (fun k => by unfold u_lay; split <;> rfl) eFp_w4 k hk, eFt_w4, eFn_w4, eWs_in eIn_w4.1 rfl, eWs_in eIn_w4.2 rfl⟩
  | 5, _ => exact ⟨17, rfl, rfl, rfl, fun w hw => by obtain ⟨k, hk, rfl⟩ := List.mem_map.mp hw; exact eIn_of (fun k => u_lay (eN 5) (eU 5) k) (eFp 5) _ (fun k => by unfold u_lay; split <;> rfl) eFp_w5 k hk, eFt_w5, eFn_w5, eWs_in eIn_w5.1 rfl, eWs_in eIn_w5.2 rfl⟩
  | 6, _ => exact ⟨9, rfl, rfl, rfl, fun w hw => by obtain ⟨k, hk, rfl⟩ := List.mem_map.mp hw; exact eIn_of (fun k => u_lay (eN 6) (eU 6) k) (eFp 6) _ (fun k => by unfold u_lay; split <;> rfl) eFp_w6 k hk, eFt_w6, eFn_w6, eWs_in eIn_w6.1 rfl, eWs_in eIn_w6.2 rfl⟩
  | 7, _ => exact ⟨36, rfl, rfl, rfl, fun w hw => by obtain ⟨k, hk, rfl⟩ := List.mem_map.mp hw; exact eIn_of (fun k => u_lay (eN 7) (eU 7) k) (eFp 7) _ (fun k => by unfold u_lay; split <;> rfl) eFp_w7 k hk, eFt_w7, eFn_w7, eWs_in eIn_w7.1 rfl, eWs_in eIn_w7.2 rfl⟩
set_option maxRecDepth 100000 in
theorem eAr_int : lw_tbl[162]? = some (Cond.arrayClass .int) := by decide +kernel
set_option maxRecDepth 100000 in
theorem eAr_long : lw_tbl[317]? = some (Cond.arrayClass .long) := by decide +kernel
set_option maxRecDepth 100000 in
theorem eAr_boolean : lw_tbl[244]? = some (Cond.arrayClass .boolean) := by decide +kernel
set_option maxRecDepth 100000 in
theorem eAr_char : lw_tbl[181]? = some (Cond.arrayClass .char) := by decide +kernel
set_option maxRecDepth 100000 in
theorem eAr_byte : lw_tbl[579]? = some (Cond.arrayClass .byte) := by decide +kernel
set_option maxRecDepth 100000 in
theorem eOb_m : lw_tbl[88]? = some (Cond.instanceMethod Lib.objectInit) ∧ lw_tbl[89]? = some (Cond.code Lib.objectInit ⟨#[0xb1]⟩ 1 none) := by decide +kernel
set_option maxRecDepth 100000 in
theorem eAcm : lw_tbl[446]? = some (Cond.native arraycopyName) ∧ lw_tbl[445]? = some (Cond.static arraycopyName) ∧ lw_tbl[73]? = some (Cond.initialized "java/lang/System") := by decide +kernel
end
section
set_option maxRecDepth 100000 in
theorem eCd_w0 : (eCd0.all fun q => decide (decode (eBy 0) q.1 = .ok q.2)) = true := by decide +kernel
set_option maxRecDepth 100000 in
theorem eCd_w1 : (eCd1.all fun q => decide (decode (eBy 1) q.1 = .ok q.2)) = true := by decide +kernel
set_option maxRecDepth 100000 in
theorem eCd_w2 : (eCd2.all fun q => decide (decode (eBy 2) q.1 = .ok q.2)) = true := by decide +kernel
set_option maxRecDepth 100000 in
theorem eCd_w3 : (eCd3.all fun q => decide (decode (eBy 3) q.1 = .ok q.2)) = true := by decide +kernel
set_option maxRecDepth 100000 in
theorem eCd_w4 : (eCd4.all fun q => decide (decode (eBy 4) q.1 = .ok q.2)) = true := by decide +kernel
set_option maxRecDepth 100000 in
theorem eCd_w5 : (eCd5.all fun q => decide (decode (eBy 5) q.1 = .ok q.2)) = true := by decide +kernel
set_option maxRecDepth 100000 in
theorem eCd_w6 : (eCd6.all fun q => decide (decode (eBy 6) q.1 = .ok q.2)) = true := by decide +kernel
set_option maxRecDepth 100000 in
theorem eCd_w7 : (eCd7.all fun q => decide (decode (eBy 7) q.1 = .ok q.2)) = true := by decide +kernel
set_option maxRecDepth 100000 in
theorem eCd_w8 : (eCd8.all fun q => decide (decode (eBy 8) q.1 = .ok q.2)) = true := by decide +kernel
set_option maxRecDepth 100000 in
theorem eCd_w9 : (eCd9.all fun q => decide (decode (eBy 9) q.1 = .ok q.2)) = true := by decide +kernel
set_option maxRecDepth 100000 in
theorem eCd_w10 : (eCd10.all fun q => decide (decode (eBy 10) q.1 = .ok q.2)) = true := by decide +kernel
set_option maxRecDepth 100000 in
theorem eCd_w11 : (eCd11.all fun q => decide (decode (eBy 11) q.1 = .ok q.2)) = true := by decide +kernel
set_option maxRecDepth 100000 in
theorem eCd_w12 : (eCd12.all fun q => decide (decode (eBy 12) q.1 = .ok q.2)) = true := by decide +kernel
set_option maxRecDepth 100000 in
theorem eCd_w13 : (eCd13.all fun q => decide (decode (eBy 13) q.1 = .ok q.2)) = true := by decide +kernel
set_option maxRecDepth 100000 in
theorem eCd_w14 : (eCd14.all fun q => decide (decode (eBy 14) q.1 = .ok q.2)) = true := by decide +kernel
set_option maxRecDepth 100000 in
theorem eCd_w15 : (eCd15.all fun q => decide (decode (eBy 15) q.1 = .ok q.2)) = true := by decide +kernel
set_option maxRecDepth 100000 in
theorem eCd_w16 : (eCd16.all fun q => decide (decode (eBy 16) q.1 = .ok q.2)) = true := by decide +kernel
set_option maxRecDepth 100000 in
theorem eCd_w17 : (eCd17.all fun q => decide (decode (eBy 17) q.1 = .ok q.2)) = true := by decide +kernel
set_option maxRecDepth 100000 in
theorem eCd_w18 : (eCd18.all fun q => decide (decode (eBy 18) q.1 = .ok q.2)) = true := by decide +kernel
set_option maxRecDepth 100000 in
theorem eCd_w19 : (eCd19.all fun q => decide (decode (eBy 19) q.1 = .ok q.2)) = true := by decide +kernel
set_option maxRecDepth 100000 in
theorem eCd_w20 : (eCd20.all fun q => decide (decode (eBy 20) q.1 = .ok q.2)) = true := by decide +kernel
set_option maxRecDepth 100000 in
theorem eCd_w21 : (eCd21.all fun q => decide (decode (eBy 21) q.1 = .ok q.2)) = true := by decide +kernel
set_option maxRecDepth 100000 in
theorem eCd_w22 : (eCd22.all fun q => decide (decode (eBy 22) q.1 = .ok q.2)) = true := by decide +kernel
set_option maxRecDepth 100000 in
theorem eCd_w23 : (eCd23.all fun q => decide (decode (eBy 23) q.1 = .ok q.2)) = true := by decide +kernel
set_option maxRecDepth 100000 in
theorem eCd_w24 : (eCd24.all fun q => decide (decode (eBy 24) q.1 = .ok q.2)) = true := by decide +kernel
set_option maxRecDepth 100000 in
theorem eCd_w25 : (eCd25.all fun q => decide (decode (eBy 25) q.1 = .ok q.2)) = true := by decide +kernel
set_option maxRecDepth 100000 in
theorem eCd_w26 : (eCd26.all fun q => decide (decode (eBy 26) q.1 = .ok q.2)) = true := by decide +kernel
set_option maxRecDepth 100000 in
theorem eCd_w27 : (eCd27.all fun q => decide (decode (eBy 27) q.1 = .ok q.2)) = true := by decide +kernel
set_option maxRecDepth 100000 in
theorem eCd_w28 : (eCd28.all fun q => decide (decode (eBy 28) q.1 = .ok q.2)) = true := by decide +kernel
set_option maxRecDepth 100000 in
theorem eCd_w29 : (eCd29.all fun q => decide (decode (eBy 29) q.1 = .ok q.2)) = true := by decide +kernel
set_option maxRecDepth 100000 in
theorem eCd_w30 : (eCd30.all fun q => decide (decode (eBy 30) q.1 = .ok q.2)) = true := by decide +kernel
set_option maxRecDepth 100000 in
theorem eCd_w31 : (eCd31.all fun q => decide (decode (eBy 31) q.1 = .ok q.2)) = true := by decide +kernel
set_option maxRecDepth 100000 in
theorem eCd_w32 : (eCd32.all fun q => decide (decode (eBy 32) q.1 = .ok q.2)) = true := by decide +kernel
set_option maxRecDepth 100000 in
theorem eCd_w33 : (eCd33.all fun q => decide (decode (eBy 33) q.1 = .ok q.2)) = true := by decide +kernel
set_option maxRecDepth 100000 in
theorem eCd_w34 : (eCd34.all fun q => decide (decode (eBy 34) q.1 = .ok q.2)) = true := by decide +kernel
set_option maxRecDepth 100000 in
theorem eCd_w35 : (eCd35.all fun q => decide (decode (eBy 35) q.1 = .ok q.2)) = true := by decide +kernel
set_option maxRecDepth 100000 in
theorem eCd_w36 : (eCd36.all fun q => decide (decode (eBy 36) q.1 = .ok q.2)) = true := by decide +kernel
set_option maxRecDepth 100000 in
theorem eCd_w37 : (eCd37.all fun q => decide (decode (eBy 37) q.1 = .ok q.2)) = true := by decide +kernel
set_option maxRecDepth 100000 in
theorem eCd_w38 : (eCd38.all fun q => decide (decode (eBy 38) q.1 = .ok q.2)) = true := by decide +kernel
set_option maxRecDepth 100000 in
theorem eCd_w39 : (eCd39.all fun q => decide (decode (eBy 39) q.1 = .ok q.2)) = true := by decide +kernel
set_option maxRecDepth 100000 in
theorem eCd_w40 : (eCd40.all fun q => decide (decode (eBy 40) q.1 = .ok q.2)) = true := by decide +kernel
set_option maxRecDepth 100000 in
theorem eCd_w41 : (eCd41.all fun q => decide (decode (eBy 41) q.1 = .ok q.2)) = true := by decide +kernel
set_option maxRecDepth 100000 in
theorem eCd_w42 : (eCd42.all fun q => decide (decode (eBy 42) q.1 = .ok q.2)) = true := by decide +kernel
set_option maxRecDepth 100000 in
theorem eCd_w43 : (eCd43.all fun q => decide (decode (eBy 43) q.1 = .ok q.2)) = true := by decide +kernel
set_option maxRecDepth 100000 in
theorem eCd_w44 : (eCd44.all fun q => decide (decode (eBy 44) q.1 = .ok q.2)) = true := by decide +kernel
set_option maxRecDepth 100000 in
theorem eCd_w45 : (eCd45.all fun q => decide (decode (eBy 45) q.1 = .ok q.2)) = true := by decide +kernel
set_option maxRecDepth 100000 in
theorem eCd_w46 : (eCd46.all fun q => decide (decode (eBy 46) q.1 = .ok q.2)) = true := by decide +kernel
set_option maxRecDepth 100000 in
theorem eCd_w47 : (eCd47.all fun q => decide (decode (eBy 47) q.1 = .ok q.2)) = true := by decide +kernel
set_option maxRecDepth 100000 in
theorem eCd_w48 : (eCd48.all fun q => decide (decode (eBy 48) q.1 = .ok q.2)) = true := by decide +kernel
set_option maxRecDepth 100000 in
theorem eCd_w49 : (eCd49.all fun q => decide (decode (eBy 49) q.1 = .ok q.2)) = true := by decide +kernel
set_option maxRecDepth 100000 in
theorem eCd_w50 : (eCd50.all fun q => decide (decode (eBy 50) q.1 = .ok q.2)) = true := by decide +kernel
set_option maxRecDepth 100000 in
theorem eCd_w51 : (eCd51.all fun q => decide (decode (eBy 51) q.1 = .ok q.2)) = true := by decide +kernel
set_option maxRecDepth 100000 in
theorem eCd_w52 : (eCd52.all fun q => decide (decode (eBy 52) q.1 = .ok q.2)) = true := by decide +kernel
set_option maxRecDepth 100000 in
theorem eCd_w53 : (eCd53.all fun q => decide (decode (eBy 53) q.1 = .ok q.2)) = true := by decide +kernel
set_option maxRecDepth 100000 in
theorem eCd_w54 : (eCd54.all fun q => decide (decode (eBy 54) q.1 = .ok q.2)) = true := by decide +kernel
set_option maxRecDepth 100000 in
theorem eCd_w55 : (eCd55.all fun q => decide (decode (eBy 55) q.1 = .ok q.2)) = true := by decide +kernel
set_option maxRecDepth 100000 in
theorem eCd_w56 : (eCd56.all fun q => decide (decode (eBy 56) q.1 = .ok q.2)) = true := by decide +kernel
set_option maxRecDepth 100000 in
theorem eCd_w57 : (eCd57.all fun q => decide (decode (eBy 57) q.1 = .ok q.2)) = true := by decide +kernel
end
section
set_option maxRecDepth 100000 in
theorem eCd_w58 : (eCd58.all fun q => decide (decode (eBy 58) q.1 = .ok q.2)) = true := by decide +kernel
set_option maxRecDepth 100000 in
theorem eCd_w59 : (eCd59.all fun q => decide (decode (eBy 59) q.1 = .ok q.2)) = true := by decide +kernel
set_option maxRecDepth 100000 in
theorem eCd_w60 : (eCd60.all fun q => decide (decode (eBy 60) q.1 = .ok q.2)) = true := by decide +kernel
set_option maxRecDepth 100000 in
theorem eCd_w61 : (eCd61.all fun q => decide (decode (eBy 61) q.1 = .ok q.2)) = true := by decide +kernel
set_option maxRecDepth 100000 in
theorem eCd_w62 : (eCd62.all fun q => decide (decode (eBy 62) q.1 = .ok q.2)) = true := by decide +kernel
set_option maxRecDepth 100000 in
theorem eCd_w63 : (eCd63.all fun q => decide (decode (eBy 63) q.1 = .ok q.2)) = true := by decide +kernel
set_option maxRecDepth 100000 in
theorem eCd_w64 : (eCd64.all fun q => decide (decode (eBy 64) q.1 = .ok q.2)) = true := by decide +kernel
set_option maxRecDepth 100000 in
theorem eCd_w65 : (eCd65.all fun q => decide (decode (eBy 65) q.1 = .ok q.2)) = true := by decide +kernel
set_option maxRecDepth 100000 in
theorem eCd_w66 : (eCd66.all fun q => decide (decode (eBy 66) q.1 = .ok q.2)) = true := by decide +kernel
set_option maxRecDepth 100000 in
theorem eCd_w67 : (eCd67.all fun q => decide (decode (eBy 67) q.1 = .ok q.2)) = true := by decide +kernel
set_option maxRecDepth 100000 in
theorem eCd_w68 : (eCd68.all fun q => decide (decode (eBy 68) q.1 = .ok q.2)) = true := by decide +kernel
set_option maxRecDepth 100000 in
theorem eCd_w69 : (eCd69.all fun q => decide (decode (eBy 69) q.1 = .ok q.2)) = true := by decide +kernel
set_option maxRecDepth 100000 in
theorem eCd_w70 : (eCd70.all fun q => decide (decode (eBy 70) q.1 = .ok q.2)) = true := by decide +kernel
set_option maxRecDepth 100000 in
theorem eCd_w71 : (eCd71.all fun q => decide (decode (eBy 71) q.1 = .ok q.2)) = true := by decide +kernel
set_option maxRecDepth 100000 in
theorem eCd_w72 : (eCd72.all fun q => decide (decode (eBy 72) q.1 = .ok q.2)) = true := by decide +kernel
set_option maxRecDepth 100000 in
theorem eCd_w73 : (eCd73.all fun q => decide (decode (eBy 73) q.1 = .ok q.2)) = true := by decide +kernel
set_option maxRecDepth 100000 in
theorem eCd_w74 : (eCd74.all fun q => decide (decode (eBy 74) q.1 = .ok q.2)) = true := by decide +kernel
set_option maxRecDepth 100000 in
theorem eCd_w75 : (eCd75.all fun q => decide (decode (eBy 75) q.1 = .ok q.2)) = true := by decide +kernel
set_option maxRecDepth 100000 in
theorem eCd_w76 : (eCd76.all fun q => decide (decode (eBy 76) q.1 = .ok q.2)) = true := by decide +kernel
set_option maxRecDepth 100000 in
theorem eCd_w77 : (eCd77.all fun q => decide (decode (eBy 77) q.1 = .ok q.2)) = true := by decide +kernel
set_option maxRecDepth 100000 in
theorem eCd_w78 : (eCd78.all fun q => decide (decode (eBy 78) q.1 = .ok q.2)) = true := by decide +kernel
set_option maxRecDepth 100000 in
theorem eCd_w79 : (eCd79.all fun q => decide (decode (eBy 79) q.1 = .ok q.2)) = true := by decide +kernel
set_option maxRecDepth 100000 in
theorem eCd_w80 : (eCd80.all fun q => decide (decode (eBy 80) q.1 = .ok q.2)) = true := by decide +kernel
set_option maxRecDepth 100000 in
theorem eCd_w81 : (eCd81.all fun q => decide (decode (eBy 81) q.1 = .ok q.2)) = true := by decide +kernel
set_option maxRecDepth 100000 in
theorem eCd_w82 : (eCd82.all fun q => decide (decode (eBy 82) q.1 = .ok q.2)) = true := by decide +kernel
set_option maxRecDepth 100000 in
theorem eCd_w83 : (eCd83.all fun q => decide (decode (eBy 83) q.1 = .ok q.2)) = true := by decide +kernel
set_option maxRecDepth 100000 in
theorem eCd_w84 : (eCd84.all fun q => decide (decode (eBy 84) q.1 = .ok q.2)) = true := by decide +kernel
set_option maxRecDepth 100000 in
theorem eCd_w85 : (eCd85.all fun q => decide (decode (eBy 85) q.1 = .ok q.2)) = true := by decide +kernel
set_option maxRecDepth 100000 in
theorem eCd_w86 : (eCd86.all fun q => decide (decode (eBy 86) q.1 = .ok q.2)) = true := by decide +kernel
set_option maxRecDepth 100000 in
theorem eCd_w87 : (eCd87.all fun q => decide (decode (eBy 87) q.1 = .ok q.2)) = true := by decide +kernel
set_option maxRecDepth 100000 in
theorem eCd_w88 : (eCd88.all fun q => decide (decode (eBy 88) q.1 = .ok q.2)) = true := by decide +kernel
set_option maxRecDepth 100000 in
theorem eCd_w89 : (eCd89.all fun q => decide (decode (eBy 89) q.1 = .ok q.2)) = true := by decide +kernel
set_option maxRecDepth 100000 in
theorem eCd_w90 : (eCd90.all fun q => decide (decode (eBy 90) q.1 = .ok q.2)) = true := by decide +kernel
set_option maxRecDepth 100000 in
theorem eCd_w91 : (eCd91.all fun q => decide (decode (eBy 91) q.1 = .ok q.2)) = true := by decide +kernel
set_option maxRecDepth 100000 in
theorem eCd_w92 : (eCd92.all fun q => decide (decode (eBy 92) q.1 = .ok q.2)) = true := by decide +kernel
set_option maxRecDepth 100000 in
theorem eCd_w93 : (eCd93.all fun q => decide (decode (eBy 93) q.1 = .ok q.2)) = true := by decide +kernel
set_option maxRecDepth 100000 in
theorem eCd_w94 : (eCd94.all fun q => decide (decode (eBy 94) q.1 = .ok q.2)) = true := by decide +kernel
set_option maxRecDepth 100000 in
theorem eCd_w95 : (eCd95.all fun q => decide (decode (eBy 95) q.1 = .ok q.2)) = true := by decide +kernel
end
section
set_option maxRecDepth 100000 in
theorem eCd_w96 : (eCd96.all fun q => decide (decode (eBy 96) q.1 = .ok q.2)) = true := by decide +kernel
set_option maxRecDepth 100000 in
theorem eCd_w97 : (eCd97.all fun q => decide (decode (eBy 97) q.1 = .ok q.2)) = true := by decide +kernel
set_option maxRecDepth 100000 in
theorem eCd_w98 : (eCd98.all fun q => decide (decode (eBy 98) q.1 = .ok q.2)) = true := by decide +kernel
set_option maxRecDepth 100000 in
theorem eCd_w99 : (eCd99.all fun q => decide (decode (eBy 99) q.1 = .ok q.2)) = true := by decide +kernel
set_option maxRecDepth 100000 in
theorem eCd_w100 : (eCd100.all fun q => decide (decode (eBy 100) q.1 = .ok q.2)) = true := by decide +kernel
set_option maxRecDepth 100000 in
theorem eCd_w101 : (eCd101.all fun q => decide (decode (eBy 101) q.1 = .ok q.2)) = true := by decide +kernel
set_option maxRecDepth 100000 in
theorem eCd_w102 : (eCd102.all fun q => decide (decode (eBy 102) q.1 = .ok q.2)) = true := by decide +kernel
set_option maxRecDepth 100000 in
theorem eCd_w103 : (eCd103.all fun q => decide (decode (eBy 103) q.1 = .ok q.2)) = true := by decide +kernel
set_option maxRecDepth 100000 in
theorem eCd_w104 : (eCd104.all fun q => decide (decode (eBy 104) q.1 = .ok q.2)) = true := by decide +kernel
set_option maxRecDepth 100000 in
theorem eCd_w105 : (eCd105.all fun q => decide (decode (eBy 105) q.1 = .ok q.2)) = true := by decide +kernel
set_option maxRecDepth 100000 in
theorem eCd_w106 : (eCd106.all fun q => decide (decode (eBy 106) q.1 = .ok q.2)) = true := by decide +kernel
set_option maxRecDepth 100000 in
theorem eCd_w107 : (eCd107.all fun q => decide (decode (eBy 107) q.1 = .ok q.2)) = true := by decide +kernel
set_option maxRecDepth 100000 in
theorem eCd_w108 : (eCd108.all fun q => decide (decode (eBy 108) q.1 = .ok q.2)) = true := by decide +kernel
set_option maxRecDepth 100000 in
theorem eCd_w109 : (eCd109.all fun q => decide (decode (eBy 109) q.1 = .ok q.2)) = true := by decide +kernel
set_option maxRecDepth 100000 in
theorem eCd_w110 : (eCd110.all fun q => decide (decode (eBy 110) q.1 = .ok q.2)) = true := by decide +kernel
set_option maxRecDepth 100000 in
theorem eCd_w111 : (eCd111.all fun q => decide (decode (eBy 111) q.1 = .ok q.2)) = true := by decide +kernel
set_option maxRecDepth 100000 in
theorem eCd_w112 : (eCd112.all fun q => decide (decode (eBy 112) q.1 = .ok q.2)) = true := by decide +kernel
set_option maxRecDepth 100000 in
theorem eCd_w113 : (eCd113.all fun q => decide (decode (eBy 113) q.1 = .ok q.2)) = true := by decide +kernel
set_option maxRecDepth 100000 in
theorem eCd_w114 : (eCd114.all fun q => decide (decode (eBy 114) q.1 = .ok q.2)) = true := by decide +kernel
set_option maxRecDepth 100000 in
theorem eCd_w115 : (eCd115.all fun q => decide (decode (eBy 115) q.1 = .ok q.2)) = true := by decide +kernel
set_option maxRecDepth 100000 in
theorem eCd_w116 : (eCd116.all fun q => decide (decode (eBy 116) q.1 = .ok q.2)) = true := by decide +kernel
set_option maxRecDepth 100000 in
theorem eCd_w117 : (eCd117.all fun q => decide (decode (eBy 117) q.1 = .ok q.2)) = true := by decide +kernel
set_option maxRecDepth 100000 in
theorem eCd_w118 : (eCd118.all fun q => decide (decode (eBy 118) q.1 = .ok q.2)) = true := by decide +kernel
set_option maxRecDepth 100000 in
theorem eCd_w119 : (eCd119.all fun q => decide (decode (eBy 119) q.1 = .ok q.2)) = true := by decide +kernel
set_option maxRecDepth 100000 in
theorem eCd_w120 : (eCd120.all fun q => decide (decode (eBy 120) q.1 = .ok q.2)) = true := by decide +kernel
set_option maxRecDepth 100000 in
theorem eCd_w121 : (eCd121.all fun q => decide (decode (eBy 121) q.1 = .ok q.2)) = true := by decide +kernel
set_option maxRecDepth 100000 in
theorem eCd_w122 : (eCd122.all fun q => decide (decode (eBy 122) q.1 = .ok q.2)) = true := by decide +kernel
set_option maxRecDepth 100000 in
theorem eCd_w123 : (eCd123.all fun q => decide (decode (eBy 123) q.1 = .ok q.2)) = true := by decide +kernel
set_option maxRecDepth 100000 in
theorem eCd_w124 : (eCd124.all fun q => decide (decode (eBy 124) q.1 = .ok q.2)) = true := by decide +kernel
set_option maxRecDepth 100000 in
theorem eCd_w125 : (eCd125.all fun q => decide (decode (eBy 125) q.1 = .ok q.2)) = true := by decide +kernel
set_option maxRecDepth 100000 in
theorem eCd_w126 : (eCd126.all fun q => decide (decode (eBy 126) q.1 = .ok q.2)) = true := by decide +kernel
set_option maxRecDepth 100000 in
theorem eCd_w127 : (eCd127.all fun q => decide (decode (eBy 127) q.1 = .ok q.2)) = true := by decide +kernel
set_option maxRecDepth 100000 in
theorem eCd_w128 : (eCd128.all fun q => decide (decode (eBy 128) q.1 = .ok q.2)) = true := by decide +kernel
set_option maxRecDepth 100000 in
theorem eCd_w129 : (eCd129.all fun q => decide (decode (eBy 129) q.1 = .ok q.2)) = true := by decide +kernel
set_option maxRecDepth 100000 in
theorem eCd_w130 : (eCd130.all fun q => decide (decode (eBy 130) q.1 = .ok q.2)) = true := by decide +kernel
set_option maxRecDepth 100000 in
theorem eCd_w131 : (eCd131.all fun q => decide (decode (eBy 131) q.1 = .ok q.2)) = true := by decide +kernel
set_option maxRecDepth 100000 in
theorem eCd_w132 : (eCd132.all fun q => decide (decode (eBy 132) q.1 = .ok q.2)) = true := by decide +kernel
set_option maxRecDepth 100000 in
theorem eCd_w133 : (eCd133.all fun q => decide (decode (eBy 133) q.1 = .ok q.2)) = true := by decide +kernel
set_option maxRecDepth 100000 in
theorem eCd_w134 : (eCd134.all fun q => decide (decode (eBy 134) q.1 = .ok q.2)) = true := by decide +kernel
set_option maxRecDepth 100000 in
theorem eCd_w135 : (eCd135.all fun q => decide (decode (eBy 135) q.1 = .ok q.2)) = true := by decide +kernel
set_option maxRecDepth 100000 in
theorem eCd_w136 : (eCd136.all fun q => decide (decode (eBy 136) q.1 = .ok q.2)) = true := by decide +kernel
set_option maxRecDepth 100000 in
theorem eCd_w137 : (eCd137.all fun q => decide (decode (eBy 137) q.1 = .ok q.2)) = true := by decide +kernel
set_option maxRecDepth 100000 in
theorem eCd_w138 : (eCd138.all fun q => decide (decode (eBy 138) q.1 = .ok q.2)) = true := by decide +kernel
set_option maxRecDepth 100000 in
theorem eCd_w139 : (eCd139.all fun q => decide (decode (eBy 139) q.1 = .ok q.2)) = true := by decide +kernel
set_option maxRecDepth 100000 in
theorem eCd_w140 : (eCd140.all fun q => decide (decode (eBy 140) q.1 = .ok q.2)) = true := by decide +kernel
set_option maxRecDepth 100000 in
theorem eCd_w141 : (eCd141.all fun q => decide (decode (eBy 141) q.1 = .ok q.2)) = true := by decide +kernel
set_option maxRecDepth 100000 in
theorem eCd_w142 : (eCd142.all fun q => decide (decode (eBy 142) q.1 = .ok q.2)) = true := by decide +kernel
set_option maxRecDepth 100000 in
theorem eCd_w143 : (eCd143.all fun q => decide (decode (eBy 143) q.1 = .ok q.2)) = true := by decide +kernel
set_option maxRecDepth 100000 in
theorem eCd_w144 : (eCd144.all fun q => decide (decode (eBy 144) q.1 = .ok q.2)) = true := by decide +kernel
set_option maxRecDepth 100000 in
theorem eCd_w145 : (eCd145.all fun q => decide (decode (eBy 145) q.1 = .ok q.2)) = true := by decide +kernel
end
section
set_option maxRecDepth 100000 in
theorem eCd_w146 : (eCd146.all fun q => decide (decode (eBy 146) q.1 = .ok q.2)) = true := by decide +kernel
set_option maxRecDepth 100000 in
theorem eCd_w147 : (eCd147.all fun q => decide (decode (eBy 147) q.1 = .ok q.2)) = true := by decide +kernel
set_option maxRecDepth 100000 in
theorem eCd_w148 : (eCd148.all fun q => decide (decode (eBy 148) q.1 = .ok q.2)) = true := by decide +kernel
set_option maxRecDepth 100000 in
theorem eCd_w149 : (eCd149.all fun q => decide (decode (eBy 149) q.1 = .ok q.2)) = true := by decide +kernel
set_option maxRecDepth 100000 in
theorem eCd_w150 : (eCd150.all fun q => decide (decode (eBy 150) q.1 = .ok q.2)) = true := by decide +kernel
set_option maxRecDepth 100000 in
theorem eCd_w151 : (eCd151.all fun q => decide (decode (eBy 151) q.1 = .ok q.2)) = true := by decide +kernel
set_option maxRecDepth 100000 in
theorem eCd_w152 : (eCd152.all fun q => decide (decode (eBy 152) q.1 = .ok q.2)) = true := by decide +kernel
set_option maxRecDepth 100000 in
theorem eCd_w153 : (eCd153.all fun q => decide (decode (eBy 153) q.1 = .ok q.2)) = true := by decide +kernel
set_option maxRecDepth 100000 in
theorem eCd_w154 : (eCd154.all fun q => decide (decode (eBy 154) q.1 = .ok q.2)) = true := by decide +kernel
set_option maxRecDepth 100000 in
theorem eCd_w155 : (eCd155.all fun q => decide (decode (eBy 155) q.1 = .ok q.2)) = true := by decide +kernel
set_option maxRecDepth 100000 in
theorem eCd_w156 : (eCd156.all fun q => decide (decode (eBy 156) q.1 = .ok q.2)) = true := by decide +kernel
set_option maxRecDepth 100000 in
theorem eCd_w157 : (eCd157.all fun q => decide (decode (eBy 157) q.1 = .ok q.2)) = true := by decide +kernel
set_option maxRecDepth 100000 in
theorem eCd_w158 : (eCd158.all fun q => decide (decode (eBy 158) q.1 = .ok q.2)) = true := by decide +kernel
set_option maxRecDepth 100000 in
theorem eCd_w159 : (eCd159.all fun q => decide (decode (eBy 159) q.1 = .ok q.2)) = true := by decide +kernel
set_option maxRecDepth 100000 in
theorem eCd_w160 : (eCd160.all fun q => decide (decode (eBy 160) q.1 = .ok q.2)) = true := by decide +kernel
set_option maxRecDepth 100000 in
theorem eCd_w161 : (eCd161.all fun q => decide (decode (eBy 161) q.1 = .ok q.2)) = true := by decide +kernel
set_option maxRecDepth 100000 in
theorem eCd_w162 : (eCd162.all fun q => decide (decode (eBy 162) q.1 = .ok q.2)) = true := by decide +kernel
set_option maxRecDepth 100000 in
theorem eCd_w163 : (eCd163.all fun q => decide (decode (eBy 163) q.1 = .ok q.2)) = true := by decide +kernel
set_option maxRecDepth 100000 in
theorem eCd_w164 : (eCd164.all fun q => decide (decode (eBy 164) q.1 = .ok q.2)) = true := by decide +kernel
set_option maxRecDepth 100000 in
theorem eCd_w165 : (eCd165.all fun q => decide (decode (eBy 165) q.1 = .ok q.2)) = true := by decide +kernel
set_option maxRecDepth 100000 in
theorem eCd_w166 : (eCd166.all fun q => decide (decode (eBy 166) q.1 = .ok q.2)) = true := by decide +kernel
set_option maxRecDepth 100000 in
theorem eCd_w167 : (eCd167.all fun q => decide (decode (eBy 167) q.1 = .ok q.2)) = true := by decide +kernel
set_option maxRecDepth 100000 in
theorem eCd_w168 : (eCd168.all fun q => decide (decode (eBy 168) q.1 = .ok q.2)) = true := by decide +kernel
set_option maxRecDepth 100000 in
theorem eCd_w169 : (eCd169.all fun q => decide (decode (eBy 169) q.1 = .ok q.2)) = true := by decide +kernel
set_option maxRecDepth 100000 in
theorem eCd_w170 : (eCd170.all fun q => decide (decode (eBy 170) q.1 = .ok q.2)) = true := by decide +kernel
set_option maxRecDepth 100000 in
theorem eCd_w171 : (eCd171.all fun q => decide (decode (eBy 171) q.1 = .ok q.2)) = true := by decide +kernel
set_option maxRecDepth 100000 in
theorem eCd_w172 : (eCd172.all fun q => decide (decode (eBy 172) q.1 = .ok q.2)) = true := by decide +kernel
set_option maxRecDepth 100000 in
theorem eCd_w173 : (eCd173.all fun q => decide (decode (eBy 173) q.1 = .ok q.2)) = true := by decide +kernel
end
section
set_option maxRecDepth 100000 in
theorem eCd_w174 : (eCd174.all fun q => decide (decode (eBy 174) q.1 = .ok q.2)) = true := by decide +kernel
set_option maxRecDepth 100000 in
theorem eCd_w175 : (eCd175.all fun q => decide (decode (eBy 175) q.1 = .ok q.2)) = true := by decide +kernel
set_option maxRecDepth 100000 in
theorem eCd_w176 : (eCd176.all fun q => decide (decode (eBy 176) q.1 = .ok q.2)) = true := by decide +kernel
set_option maxRecDepth 100000 in
theorem eCd_w177 : (eCd177.all fun q => decide (decode (eBy 177) q.1 = .ok q.2)) = true := by decide +kernel
set_option maxRecDepth 100000 in
theorem eCd_w178 : (eCd178.all fun q => decide (decode (eBy 178) q.1 = .ok q.2)) = true := by decide +kernel
set_option maxRecDepth 100000 in
theorem eCd_w179 : (eCd179.all fun q => decide (decode (eBy 179) q.1 = .ok q.2)) = true := by decide +kernel
set_option maxRecDepth 100000 in
theorem eCd_w180 : (eCd180.all fun q => decide (decode (eBy 180) q.1 = .ok q.2)) = true := by decide +kernel
set_option maxRecDepth 100000 in
theorem eCd_w181 : (eCd181.all fun q => decide (decode (eBy 181) q.1 = .ok q.2)) = true := by decide +kernel
set_option maxRecDepth 100000 in
theorem eCd_w182 : (eCd182.all fun q => decide (decode (eBy 182) q.1 = .ok q.2)) = true := by decide +kernel
set_option maxRecDepth 100000 in
theorem eCd_w183 : (eCd183.all fun q => decide (decode (eBy 183) q.1 = .ok q.2)) = true := by decide +kernel
set_option maxRecDepth 100000 in
theorem eCd_w184 : (eCd184.all fun q => decide (decode (eBy 184) q.1 = .ok q.2)) = true := by decide +kernel
set_option maxRecDepth 100000 in
theorem eCd_w185 : (eCd185.all fun q => decide (decode (eBy 185) q.1 = .ok q.2)) = true := by decide +kernel
set_option maxRecDepth 100000 in
theorem eCd_w186 : (eCd186.all fun q => decide (decode (eBy 186) q.1 = .ok q.2)) = true := by decide +kernel
set_option maxRecDepth 100000 in
theorem eCd_w187 : (eCd187.all fun q => decide (decode (eBy 187) q.1 = .ok q.2)) = true := by decide +kernel
set_option maxRecDepth 100000 in
theorem eCd_w188 : (eCd188.all fun q => decide (decode (eBy 188) q.1 = .ok q.2)) = true := by decide +kernel
set_option maxRecDepth 100000 in
theorem eCd_w189 : (eCd189.all fun q => decide (decode (eBy 189) q.1 = .ok q.2)) = true := by decide +kernel
set_option maxRecDepth 100000 in
theorem eCd_w190 : (eCd190.all fun q => decide (decode (eBy 190) q.1 = .ok q.2)) = true := by decide +kernel
set_option maxRecDepth 100000 in
theorem eCd_w191 : (eCd191.all fun q => decide (decode (eBy 191) q.1 = .ok q.2)) = true := by decide +kernel
set_option maxRecDepth 100000 in
theorem eCd_w192 : (eCd192.all fun q => decide (decode (eBy 192) q.1 = .ok q.2)) = true := by decide +kernel
set_option maxRecDepth 100000 in
theorem eCd_w193 : (eCd193.all fun q => decide (decode (eBy 193) q.1 = .ok q.2)) = true := by decide +kernel
set_option maxRecDepth 100000 in
theorem eCd_w194 : (eCd194.all fun q => decide (decode (eBy 194) q.1 = .ok q.2)) = true := by decide +kernel
set_option maxRecDepth 100000 in
theorem eCd_w195 : (eCd195.all fun q => decide (decode (eBy 195) q.1 = .ok q.2)) = true := by decide +kernel
set_option maxRecDepth 100000 in
theorem eCd_w196 : (eCd196.all fun q => decide (decode (eBy 196) q.1 = .ok q.2)) = true := by decide +kernel
set_option maxRecDepth 100000 in
theorem eCd_w197 : (eCd197.all fun q => decide (decode (eBy 197) q.1 = .ok q.2)) = true := by decide +kernel
set_option maxRecDepth 100000 in
theorem eCd_w198 : (eCd198.all fun q => decide (decode (eBy 198) q.1 = .ok q.2)) = true := by decide +kernel
set_option maxRecDepth 100000 in
theorem eCd_w199 : (eCd199.all fun q => decide (decode (eBy 199) q.1 = .ok q.2)) = true := by decide +kernel
set_option maxRecDepth 100000 in
theorem eCd_w200 : (eCd200.all fun q => decide (decode (eBy 200) q.1 = .ok q.2)) = true := by decide +kernel
set_option maxRecDepth 100000 in
theorem eCd_w201 : (eCd201.all fun q => decide (decode (eBy 201) q.1 = .ok q.2)) = true := by decide +kernel
end
section
set_option maxRecDepth 100000 in
theorem eCd_l0 : (((eCd202.drop 0).take 48).all fun q => decide (decode code q.1 = .ok q.2)) = true := by decide +kernel
end
section
set_option maxRecDepth 100000 in
theorem eCd_l1 : (((eCd202.drop 48).take 48).all fun q => decide (decode code q.1 = .ok q.2)) = true := by decide +kernel
end
section
set_option maxRecDepth 100000 in
theorem eCd_l2 : (((eCd202.drop 96).take 48).all fun q => decide (decode code q.1 = .ok q.2)) = true := by decide +kernel
end
section
set_option maxRecDepth 100000 in
theorem eCd_l3 : (((eCd202.drop 144).take 48).all fun q => decide (decode code q.1 = .ok q.2)) = true := by decide +kernel
end
section
set_option maxRecDepth 100000 in
theorem eCd_l4 : (((eCd202.drop 192).take 48).all fun q => decide (decode code q.1 = .ok q.2)) = true := by decide +kernel
end
section
set_option maxRecDepth 100000 in
theorem eCd_l5 : (((eCd202.drop 240).take 48).all fun q => decide (decode code q.1 = .ok q.2)) = true := by decide +kernel
end
section
set_option maxRecDepth 100000 in
theorem eCd_l6 : (((eCd202.drop 288).take 48).all fun q => decide (decode code q.1 = .ok q.2)) = true := by decide +kernel
end
section
set_option maxRecDepth 100000 in
theorem eCd_l7 : (((eCd202.drop 336).take 48).all fun q => decide (decode code q.1 = .ok q.2)) = true := by decide +kernel
end
section
set_option maxRecDepth 100000 in
theorem eCd_l8 : (((eCd202.drop 384).take 48).all fun q => decide (decode code q.1 = .ok q.2)) = true := by decide +kernel
end
section
set_option maxRecDepth 100000 in
theorem eCd_l9 : (((eCd202.drop 432).take 48).all fun q => decide (decode code q.1 = .ok q.2)) = true := by decide +kernel
end
section
set_option maxRecDepth 100000 in
theorem eCd_l10 : (((eCd202.drop 480).take 48).all fun q => decide (decode code q.1 = .ok q.2)) = true := by decide +kernel
end
section
set_option maxRecDepth 100000 in
theorem eCd_l11 : (((eCd202.drop 528).take 48).all fun q => decide (decode code q.1 = .ok q.2)) = true := by decide +kernel
end
section
set_option maxRecDepth 100000 in
theorem eCd_l12 : (((eCd202.drop 576).take 48).all fun q => decide (decode code q.1 = .ok q.2)) = true := by decide +kernel
end
section
set_option maxRecDepth 100000 in
theorem eCd_l13 : (((eCd202.drop 624).take 48).all fun q => decide (decode code q.1 = .ok q.2)) = true := by decide +kernel
end
section
set_option maxRecDepth 100000 in
theorem eCd_l14 : (((eCd202.drop 672).take 48).all fun q => decide (decode code q.1 = .ok q.2)) = true := by decide +kernel
end
section
set_option maxRecDepth 100000 in
theorem eCd_l15 : (((eCd202.drop 720).take 48).all fun q => decide (decode code q.1 = .ok q.2)) = true := by decide +kernel
end
section
set_option maxRecDepth 100000 in
theorem eMp_w0 : lw_tbl[86]? = some (Cond.code (eM 0) (eBy 0) (eMx.getD 0 0) (eRt.getD 0 none)) := rfl
set_option maxRecDepth 100000 in
theorem eMp_w1 : lw_tbl[94]? = some (Cond.code (eM 1) (eBy 1) (eMx.getD 1 0) (eRt.getD 1 none)) := rfl
set_option maxRecDepth 100000 in
theorem eMp_w2 : lw_tbl[167]? = some (Cond.code (eM 2) (eBy 2) (eMx.getD 2 0) (eRt.getD 2 none)) := rfl
set_option maxRecDepth 100000 in
theorem eMp_w3 : lw_tbl[186]? = some (Cond.code (eM 3) (eBy 3) (eMx.getD 3 0) (eRt.getD 3 none)) := rfl
set_option maxRecDepth 100000 in
theorem eMp_w4 : lw_tbl[249]? = some (Cond.code (eM 4) (eBy 4) (eMx.getD 4 0) (eRt.getD 4 none)) := rfl
set_option maxRecDepth 100000 in
theorem eMp_w5 : lw_tbl[295]? = some (Cond.code (eM 5) (eBy 5) (eMx.getD 5 0) (eRt.getD 5 none)) := rfl
set_option maxRecDepth 100000 in
theorem eMp_w6 : lw_tbl[305]? = some (Cond.code (eM 6) (eBy 6) (eMx.getD 6 0) (eRt.getD 6 none)) := rfl
set_option maxRecDepth 100000 in
theorem eMp_w7 : lw_tbl[349]? = some (Cond.code (eM 7) (eBy 7) (eMx.getD 7 0) (eRt.getD 7 none)) := rfl
set_option maxRecDepth 100000 in
theorem eMp_w8 : lw_tbl[352]? = some (Cond.code (eM 8) (eBy 8) (eMx.getD 8 0) (eRt.getD 8 none)) := rfl
set_option maxRecDepth 100000 in
theorem eMp_w9 : lw_tbl[355]? = some (Cond.code (eM 9) (eBy 9) (eMx.getD 9 0) (eRt.getD 9 none)) := rfl
set_option maxRecDepth 100000 in
theorem eMp_w10 : lw_tbl[358]? = some (Cond.code (eM 10) (eBy 10) (eMx.getD 10 0) (eRt.getD 10 none)) := rfl
set_option maxRecDepth 100000 in
theorem eMp_w11 : lw_tbl[361]? = some (Cond.code (eM 11) (eBy 11) (eMx.getD 11 0) (eRt.getD 11 none)) := rfl
set_option maxRecDepth 100000 in
theorem eMp_w12 : lw_tbl[365]? = some (Cond.code (eM 12) (eBy 12) (eMx.getD 12 0) (eRt.getD 12 none)) := rfl
set_option maxRecDepth 100000 in
theorem eMp_w13 : lw_tbl[369]? = some (Cond.code (eM 13) (eBy 13) (eMx.getD 13 0) (eRt.getD 13 none)) := rfl
set_option maxRecDepth 100000 in
theorem eMp_w14 : lw_tbl[373]? = some (Cond.code (eM 14) (eBy 14) (eMx.getD 14 0) (eRt.getD 14 none)) := rfl
set_option maxRecDepth 100000 in
theorem eMp_w15 : lw_tbl[377]? = some (Cond.code (eM 15) (eBy 15) (eMx.getD 15 0) (eRt.getD 15 none)) := rfl
set_option maxRecDepth 100000 in
theorem eMp_w16 : lw_tbl[381]? = some (Cond.code (eM 16) (eBy 16) (eMx.getD 16 0) (eRt.getD 16 none)) := rfl
set_option maxRecDepth 100000 in
theorem eMp_w17 : lw_tbl[385]? = some (Cond.code (eM 17) (eBy 17) (eMx.getD 17 0) (eRt.getD 17 none)) := rfl
set_option maxRecDepth 100000 in
theorem eMp_w18 : lw_tbl[389]? = some (Cond.code (eM 18) (eBy 18) (eMx.getD 18 0) (eRt.getD 18 none)) := rfl
set_option maxRecDepth 100000 in
theorem eMp_w19 : lw_tbl[393]? = some (Cond.code (eM 19) (eBy 19) (eMx.getD 19 0) (eRt.getD 19 none)) := rfl
set_option maxRecDepth 100000 in
theorem eMp_w20 : lw_tbl[397]? = some (Cond.code (eM 20) (eBy 20) (eMx.getD 20 0) (eRt.getD 20 none)) := rfl
set_option maxRecDepth 100000 in
theorem eMp_w21 : lw_tbl[401]? = some (Cond.code (eM 21) (eBy 21) (eMx.getD 21 0) (eRt.getD 21 none)) := rfl
set_option maxRecDepth 100000 in
theorem eMp_w22 : lw_tbl[405]? = some (Cond.code (eM 22) (eBy 22) (eMx.getD 22 0) (eRt.getD 22 none)) := rfl
set_option maxRecDepth 100000 in
theorem eMp_w23 : lw_tbl[409]? = some (Cond.code (eM 23) (eBy 23) (eMx.getD 23 0) (eRt.getD 23 none)) := rfl
set_option maxRecDepth 100000 in
theorem eMp_w24 : lw_tbl[413]? = some (Cond.code (eM 24) (eBy 24) (eMx.getD 24 0) (eRt.getD 24 none)) := rfl
set_option maxRecDepth 100000 in
theorem eMp_w25 : lw_tbl[417]? = some (Cond.code (eM 25) (eBy 25) (eMx.getD 25 0) (eRt.getD 25 none)) := rfl
set_option maxRecDepth 100000 in
theorem eMp_w26 : lw_tbl[421]? = some (Cond.code (eM 26) (eBy 26) (eMx.getD 26 0) (eRt.getD 26 none)) := rfl
set_option maxRecDepth 100000 in
theorem eMp_w27 : lw_tbl[424]? = some (Cond.code (eM 27) (eBy 27) (eMx.getD 27 0) (eRt.getD 27 none)) := rfl
set_option maxRecDepth 100000 in
theorem eMp_w28 : lw_tbl[431]? = some (Cond.code (eM 28) (eBy 28) (eMx.getD 28 0) (eRt.getD 28 none)) := rfl
set_option maxRecDepth 100000 in
theorem eMp_w29 : lw_tbl[435]? = some (Cond.code (eM 29) (eBy 29) (eMx.getD 29 0) (eRt.getD 29 none)) := rfl
set_option maxRecDepth 100000 in
theorem eMp_w30 : lw_tbl[439]? = some (Cond.code (eM 30) (eBy 30) (eMx.getD 30 0) (eRt.getD 30 none)) := rfl
set_option maxRecDepth 100000 in
theorem eMp_w31 : lw_tbl[443]? = some (Cond.code (eM 31) (eBy 31) (eMx.getD 31 0) (eRt.getD 31 none)) := rfl
set_option maxRecDepth 100000 in
theorem eMp_w32 : lw_tbl[450]? = some (Cond.code (eM 32) (eBy 32) (eMx.getD 32 0) (eRt.getD 32 none)) := rfl
set_option maxRecDepth 100000 in
theorem eMp_w33 : lw_tbl[454]? = some (Cond.code (eM 33) (eBy 33) (eMx.getD 33 0) (eRt.getD 33 none)) := rfl
set_option maxRecDepth 100000 in
theorem eMp_w34 : lw_tbl[458]? = some (Cond.code (eM 34) (eBy 34) (eMx.getD 34 0) (eRt.getD 34 none)) := rfl
set_option maxRecDepth 100000 in
theorem eMp_w35 : lw_tbl[463]? = some (Cond.code (eM 35) (eBy 35) (eMx.getD 35 0) (eRt.getD 35 none)) := rfl
set_option maxRecDepth 100000 in
theorem eMp_w36 : lw_tbl[494]? = some (Cond.code (eM 36) (eBy 36) (eMx.getD 36 0) (eRt.getD 36 none)) := rfl
set_option maxRecDepth 100000 in
theorem eMp_w37 : lw_tbl[497]? = some (Cond.code (eM 37) (eBy 37) (eMx.getD 37 0) (eRt.getD 37 none)) := rfl
set_option maxRecDepth 100000 in
theorem eMp_w38 : lw_tbl[553]? = some (Cond.code (eM 38) (eBy 38) (eMx.getD 38 0) (eRt.getD 38 none)) := rfl
set_option maxRecDepth 100000 in
theorem eMp_w39 : lw_tbl[556]? = some (Cond.code (eM 39) (eBy 39) (eMx.getD 39 0) (eRt.getD 39 none)) := rfl
set_option maxRecDepth 100000 in
theorem eMp_w40 : lw_tbl[561]? = some (Cond.code (eM 40) (eBy 40) (eMx.getD 40 0) (eRt.getD 40 none)) := rfl
set_option maxRecDepth 100000 in
theorem eMp_w41 : lw_tbl[565]? = some (Cond.code (eM 41) (eBy 41) (eMx.getD 41 0) (eRt.getD 41 none)) := rfl
set_option maxRecDepth 100000 in
theorem eMp_w42 : lw_tbl[569]? = some (Cond.code (eM 42) (eBy 42) (eMx.getD 42 0) (eRt.getD 42 none)) := rfl
set_option maxRecDepth 100000 in
theorem eMp_w43 : lw_tbl[574]? = some (Cond.code (eM 43) (eBy 43) (eMx.getD 43 0) (eRt.getD 43 none)) := rfl
set_option maxRecDepth 100000 in
theorem eMp_w44 : lw_tbl[578]? = some (Cond.code (eM 44) (eBy 44) (eMx.getD 44 0) (eRt.getD 44 none)) := rfl
set_option maxRecDepth 100000 in
theorem eMp_w45 : lw_tbl[583]? = some (Cond.code (eM 45) (eBy 45) (eMx.getD 45 0) (eRt.getD 45 none)) := rfl
set_option maxRecDepth 100000 in
theorem eMp_w46 : lw_tbl[587]? = some (Cond.code (eM 46) (eBy 46) (eMx.getD 46 0) (eRt.getD 46 none)) := rfl
set_option maxRecDepth 100000 in
theorem eMp_w47 : lw_tbl[592]? = some (Cond.code (eM 47) (eBy 47) (eMx.getD 47 0) (eRt.getD 47 none)) := rfl
set_option maxRecDepth 100000 in
theorem eMp_w48 : lw_tbl[596]? = some (Cond.code (eM 48) (eBy 48) (eMx.getD 48 0) (eRt.getD 48 none)) := rfl
set_option maxRecDepth 100000 in
theorem eMp_w49 : lw_tbl[600]? = some (Cond.code (eM 49) (eBy 49) (eMx.getD 49 0) (eRt.getD 49 none)) := rfl
set_option maxRecDepth 100000 in
theorem eMp_w50 : lw_tbl[604]? = some (Cond.code (eM 50) (eBy 50) (eMx.getD 50 0) (eRt.getD 50 none)) := rfl
set_option maxRecDepth 100000 in
theorem eMp_w51 : lw_tbl[608]? = some (Cond.code (eM 51) (eBy 51) (eMx.getD 51 0) (eRt.getD 51 none)) := rfl
set_option maxRecDepth 100000 in
theorem eMp_w52 : lw_tbl[613]? = some (Cond.code (eM 52) (eBy 52) (eMx.getD 52 0) (eRt.getD 52 none)) := rfl
set_option maxRecDepth 100000 in
theorem eMp_w53 : lw_tbl[617]? = some (Cond.code (eM 53) (eBy 53) (eMx.getD 53 0) (eRt.getD 53 none)) := rfl
set_option maxRecDepth 100000 in
theorem eMp_w54 : lw_tbl[621]? = some (Cond.code (eM 54) (eBy 54) (eMx.getD 54 0) (eRt.getD 54 none)) := rfl
set_option maxRecDepth 100000 in
theorem eMp_w55 : lw_tbl[625]? = some (Cond.code (eM 55) (eBy 55) (eMx.getD 55 0) (eRt.getD 55 none)) := rfl
set_option maxRecDepth 100000 in
theorem eMp_w56 : lw_tbl[631]? = some (Cond.code (eM 56) (eBy 56) (eMx.getD 56 0) (eRt.getD 56 none)) := rfl
set_option maxRecDepth 100000 in
theorem eMp_w57 : lw_tbl[636]? = some (Cond.code (eM 57) (eBy 57) (eMx.getD 57 0) (eRt.getD 57 none)) := rfl
set_option maxRecDepth 100000 in
theorem eMp_w58 : lw_tbl[640]? = some (Cond.code (eM 58) (eBy 58) (eMx.getD 58 0) (eRt.getD 58 none)) := rfl
set_option maxRecDepth 100000 in
theorem eMp_w59 : lw_tbl[645]? = some (Cond.code (eM 59) (eBy 59) (eMx.getD 59 0) (eRt.getD 59 none)) := rfl
set_option maxRecDepth 100000 in
theorem eMp_w60 : lw_tbl[649]? = some (Cond.code (eM 60) (eBy 60) (eMx.getD 60 0) (eRt.getD 60 none)) := rfl
set_option maxRecDepth 100000 in
theorem eMp_w61 : lw_tbl[654]? = some (Cond.code (eM 61) (eBy 61) (eMx.getD 61 0) (eRt.getD 61 none)) := rfl
set_option maxRecDepth 100000 in
theorem eMp_w62 : lw_tbl[658]? = some (Cond.code (eM 62) (eBy 62) (eMx.getD 62 0) (eRt.getD 62 none)) := rfl
set_option maxRecDepth 100000 in
theorem eMp_w63 : lw_tbl[662]? = some (Cond.code (eM 63) (eBy 63) (eMx.getD 63 0) (eRt.getD 63 none)) := rfl
set_option maxRecDepth 100000 in
theorem eMp_w64 : lw_tbl[670]? = some (Cond.code (eM 64) (eBy 64) (eMx.getD 64 0) (eRt.getD 64 none)) := rfl
set_option maxRecDepth 100000 in
theorem eMp_w65 : lw_tbl[673]? = some (Cond.code (eM 65) (eBy 65) (eMx.getD 65 0) (eRt.getD 65 none)) := rfl
set_option maxRecDepth 100000 in
theorem eMp_w66 : lw_tbl[676]? = some (Cond.code (eM 66) (eBy 66) (eMx.getD 66 0) (eRt.getD 66 none)) := rfl
set_option maxRecDepth 100000 in
theorem eMp_w67 : lw_tbl[680]? = some (Cond.code (eM 67) (eBy 67) (eMx.getD 67 0) (eRt.getD 67 none)) := rfl
set_option maxRecDepth 100000 in
theorem eMp_w68 : lw_tbl[683]? = some (Cond.code (eM 68) (eBy 68) (eMx.getD 68 0) (eRt.getD 68 none)) := rfl
set_option maxRecDepth 100000 in
theorem eMp_w69 : lw_tbl[697]? = some (Cond.code (eM 69) (eBy 69) (eMx.getD 69 0) (eRt.getD 69 none)) := rfl
set_option maxRecDepth 100000 in
theorem eMp_w70 : lw_tbl[701]? = some (Cond.code (eM 70) (eBy 70) (eMx.getD 70 0) (eRt.getD 70 none)) := rfl
set_option maxRecDepth 100000 in
theorem eMp_w71 : lw_tbl[706]? = some (Cond.code (eM 71) (eBy 71) (eMx.getD 71 0) (eRt.getD 71 none)) := rfl
set_option maxRecDepth 100000 in
theorem eMp_w72 : lw_tbl[710]? = some (Cond.code (eM 72) (eBy 72) (eMx.getD 72 0) (eRt.getD 72 none)) := rfl
set_option maxRecDepth 100000 in
theorem eMp_w73 : lw_tbl[715]? = some (Cond.code (eM 73) (eBy 73) (eMx.getD 73 0) (eRt.getD 73 none)) := rfl
set_option maxRecDepth 100000 in
theorem eMp_w74 : lw_tbl[719]? = some (Cond.code (eM 74) (eBy 74) (eMx.getD 74 0) (eRt.getD 74 none)) := rfl
set_option maxRecDepth 100000 in
theorem eMp_w75 : lw_tbl[723]? = some (Cond.code (eM 75) (eBy 75) (eMx.getD 75 0) (eRt.getD 75 none)) := rfl
set_option maxRecDepth 100000 in
theorem eMp_w76 : lw_tbl[726]? = some (Cond.code (eM 76) (eBy 76) (eMx.getD 76 0) (eRt.getD 76 none)) := rfl
set_option maxRecDepth 100000 in
theorem eMp_w77 : lw_tbl[730]? = some (Cond.code (eM 77) (eBy 77) (eMx.getD 77 0) (eRt.getD 77 none)) := rfl
set_option maxRecDepth 100000 in
theorem eMp_w78 : lw_tbl[735]? = some (Cond.code (eM 78) (eBy 78) (eMx.getD 78 0) (eRt.getD 78 none)) := rfl
set_option maxRecDepth 100000 in
theorem eMp_w79 : lw_tbl[739]? = some (Cond.code (eM 79) (eBy 79) (eMx.getD 79 0) (eRt.getD 79 none)) := rfl
set_option maxRecDepth 100000 in
theorem eMp_w80 : lw_tbl[743]? = some (Cond.code (eM 80) (eBy 80) (eMx.getD 80 0) (eRt.getD 80 none)) := rfl
set_option maxRecDepth 100000 in
theorem eMp_w81 : lw_tbl[747]? = some (Cond.code (eM 81) (eBy 81) (eMx.getD 81 0) (eRt.getD 81 none)) := rfl
set_option maxRecDepth 100000 in
theorem eMp_w82 : lw_tbl[752]? = some (Cond.code (eM 82) (eBy 82) (eMx.getD 82 0) (eRt.getD 82 none)) := rfl
set_option maxRecDepth 100000 in
theorem eMp_w83 : lw_tbl[756]? = some (Cond.code (eM 83) (eBy 83) (eMx.getD 83 0) (eRt.getD 83 none)) := rfl
set_option maxRecDepth 100000 in
theorem eMp_w84 : lw_tbl[759]? = some (Cond.code (eM 84) (eBy 84) (eMx.getD 84 0) (eRt.getD 84 none)) := rfl
set_option maxRecDepth 100000 in
theorem eMp_w85 : lw_tbl[763]? = some (Cond.code (eM 85) (eBy 85) (eMx.getD 85 0) (eRt.getD 85 none)) := rfl
set_option maxRecDepth 100000 in
theorem eMp_w86 : lw_tbl[767]? = some (Cond.code (eM 86) (eBy 86) (eMx.getD 86 0) (eRt.getD 86 none)) := rfl
set_option maxRecDepth 100000 in
theorem eMp_w87 : lw_tbl[772]? = some (Cond.code (eM 87) (eBy 87) (eMx.getD 87 0) (eRt.getD 87 none)) := rfl
set_option maxRecDepth 100000 in
theorem eMp_w88 : lw_tbl[776]? = some (Cond.code (eM 88) (eBy 88) (eMx.getD 88 0) (eRt.getD 88 none)) := rfl
set_option maxRecDepth 100000 in
theorem eMp_w89 : lw_tbl[779]? = some (Cond.code (eM 89) (eBy 89) (eMx.getD 89 0) (eRt.getD 89 none)) := rfl
set_option maxRecDepth 100000 in
theorem eMp_w90 : lw_tbl[783]? = some (Cond.code (eM 90) (eBy 90) (eMx.getD 90 0) (eRt.getD 90 none)) := rfl
set_option maxRecDepth 100000 in
theorem eMp_w91 : lw_tbl[787]? = some (Cond.code (eM 91) (eBy 91) (eMx.getD 91 0) (eRt.getD 91 none)) := rfl
set_option maxRecDepth 100000 in
theorem eMp_w92 : lw_tbl[791]? = some (Cond.code (eM 92) (eBy 92) (eMx.getD 92 0) (eRt.getD 92 none)) := rfl
set_option maxRecDepth 100000 in
theorem eMp_w93 : lw_tbl[795]? = some (Cond.code (eM 93) (eBy 93) (eMx.getD 93 0) (eRt.getD 93 none)) := rfl
set_option maxRecDepth 100000 in
theorem eMp_w94 : lw_tbl[799]? = some (Cond.code (eM 94) (eBy 94) (eMx.getD 94 0) (eRt.getD 94 none)) := rfl
set_option maxRecDepth 100000 in
theorem eMp_w95 : lw_tbl[805]? = some (Cond.code (eM 95) (eBy 95) (eMx.getD 95 0) (eRt.getD 95 none)) := rfl
set_option maxRecDepth 100000 in
theorem eMp_w96 : lw_tbl[809]? = some (Cond.code (eM 96) (eBy 96) (eMx.getD 96 0) (eRt.getD 96 none)) := rfl
set_option maxRecDepth 100000 in
theorem eMp_w97 : lw_tbl[813]? = some (Cond.code (eM 97) (eBy 97) (eMx.getD 97 0) (eRt.getD 97 none)) := rfl
set_option maxRecDepth 100000 in
theorem eMp_w98 : lw_tbl[817]? = some (Cond.code (eM 98) (eBy 98) (eMx.getD 98 0) (eRt.getD 98 none)) := rfl
set_option maxRecDepth 100000 in
theorem eMp_w99 : lw_tbl[820]? = some (Cond.code (eM 99) (eBy 99) (eMx.getD 99 0) (eRt.getD 99 none)) := rfl
set_option maxRecDepth 100000 in
theorem eMp_w100 : lw_tbl[823]? = some (Cond.code (eM 100) (eBy 100) (eMx.getD 100 0) (eRt.getD 100 none)) := rfl
set_option maxRecDepth 100000 in
theorem eMp_w101 : lw_tbl[826]? = some (Cond.code (eM 101) (eBy 101) (eMx.getD 101 0) (eRt.getD 101 none)) := rfl
set_option maxRecDepth 100000 in
theorem eMp_w102 : lw_tbl[831]? = some (Cond.code (eM 102) (eBy 102) (eMx.getD 102 0) (eRt.getD 102 none)) := rfl
set_option maxRecDepth 100000 in
theorem eMp_w103 : lw_tbl[837]? = some (Cond.code (eM 103) (eBy 103) (eMx.getD 103 0) (eRt.getD 103 none)) := rfl
set_option maxRecDepth 100000 in
theorem eMp_w104 : lw_tbl[842]? = some (Cond.code (eM 104) (eBy 104) (eMx.getD 104 0) (eRt.getD 104 none)) := rfl
set_option maxRecDepth 100000 in
theorem eMp_w105 : lw_tbl[846]? = some (Cond.code (eM 105) (eBy 105) (eMx.getD 105 0) (eRt.getD 105 none)) := rfl
set_option maxRecDepth 100000 in
theorem eMp_w106 : lw_tbl[850]? = some (Cond.code (eM 106) (eBy 106) (eMx.getD 106 0) (eRt.getD 106 none)) := rfl
set_option maxRecDepth 100000 in
theorem eMp_w107 : lw_tbl[854]? = some (Cond.code (eM 107) (eBy 107) (eMx.getD 107 0) (eRt.getD 107 none)) := rfl
set_option maxRecDepth 100000 in
theorem eMp_w108 : lw_tbl[858]? = some (Cond.code (eM 108) (eBy 108) (eMx.getD 108 0) (eRt.getD 108 none)) := rfl
set_option maxRecDepth 100000 in
theorem eMp_w109 : lw_tbl[861]? = some (Cond.code (eM 109) (eBy 109) (eMx.getD 109 0) (eRt.getD 109 none)) := rfl
set_option maxRecDepth 100000 in
theorem eMp_w110 : lw_tbl[864]? = some (Cond.code (eM 110) (eBy 110) (eMx.getD 110 0) (eRt.getD 110 none)) := rfl
set_option maxRecDepth 100000 in
theorem eMp_w111 : lw_tbl[868]? = some (Cond.code (eM 111) (eBy 111) (eMx.getD 111 0) (eRt.getD 111 none)) := rfl
set_option maxRecDepth 100000 in
theorem eMp_w112 : lw_tbl[872]? = some (Cond.code (eM 112) (eBy 112) (eMx.getD 112 0) (eRt.getD 112 none)) := rfl
set_option maxRecDepth 100000 in
theorem eMp_w113 : lw_tbl[876]? = some (Cond.code (eM 113) (eBy 113) (eMx.getD 113 0) (eRt.getD 113 none)) := rfl
set_option maxRecDepth 100000 in
theorem eMp_w114 : lw_tbl[880]? = some (Cond.code (eM 114) (eBy 114) (eMx.getD 114 0) (eRt.getD 114 none)) := rfl
set_option maxRecDepth 100000 in
theorem eMp_w115 : lw_tbl[884]? = some (Cond.code (eM 115) (eBy 115) (eMx.getD 115 0) (eRt.getD 115 none)) := rfl
set_option maxRecDepth 100000 in
theorem eMp_w116 : lw_tbl[888]? = some (Cond.code (eM 116) (eBy 116) (eMx.getD 116 0) (eRt.getD 116 none)) := rfl
set_option maxRecDepth 100000 in
theorem eMp_w117 : lw_tbl[892]? = some (Cond.code (eM 117) (eBy 117) (eMx.getD 117 0) (eRt.getD 117 none)) := rfl
set_option maxRecDepth 100000 in
theorem eMp_w118 : lw_tbl[897]? = some (Cond.code (eM 118) (eBy 118) (eMx.getD 118 0) (eRt.getD 118 none)) := rfl
set_option maxRecDepth 100000 in
theorem eMp_w119 : lw_tbl[900]? = some (Cond.code (eM 119) (eBy 119) (eMx.getD 119 0) (eRt.getD 119 none)) := rfl
set_option maxRecDepth 100000 in
theorem eMp_w120 : lw_tbl[904]? = some (Cond.code (eM 120) (eBy 120) (eMx.getD 120 0) (eRt.getD 120 none)) := rfl
set_option maxRecDepth 100000 in
theorem eMp_w121 : lw_tbl[910]? = some (Cond.code (eM 121) (eBy 121) (eMx.getD 121 0) (eRt.getD 121 none)) := rfl
set_option maxRecDepth 100000 in
theorem eMp_w122 : lw_tbl[914]? = some (Cond.code (eM 122) (eBy 122) (eMx.getD 122 0) (eRt.getD 122 none)) := rfl
set_option maxRecDepth 100000 in
theorem eMp_w123 : lw_tbl[918]? = some (Cond.code (eM 123) (eBy 123) (eMx.getD 123 0) (eRt.getD 123 none)) := rfl
set_option maxRecDepth 100000 in
theorem eMp_w124 : lw_tbl[922]? = some (Cond.code (eM 124) (eBy 124) (eMx.getD 124 0) (eRt.getD 124 none)) := rfl
set_option maxRecDepth 100000 in
theorem eMp_w125 : lw_tbl[926]? = some (Cond.code (eM 125) (eBy 125) (eMx.getD 125 0) (eRt.getD 125 none)) := rfl
set_option maxRecDepth 100000 in
theorem eMp_w126 : lw_tbl[930]? = some (Cond.code (eM 126) (eBy 126) (eMx.getD 126 0) (eRt.getD 126 none)) := rfl
set_option maxRecDepth 100000 in
theorem eMp_w127 : lw_tbl[935]? = some (Cond.code (eM 127) (eBy 127) (eMx.getD 127 0) (eRt.getD 127 none)) := rfl
set_option maxRecDepth 100000 in
theorem eMp_w128 : lw_tbl[941]? = some (Cond.code (eM 128) (eBy 128) (eMx.getD 128 0) (eRt.getD 128 none)) := rfl
set_option maxRecDepth 100000 in
theorem eMp_w129 : lw_tbl[1056]? = some (Cond.code (eM 129) (eBy 129) (eMx.getD 129 0) (eRt.getD 129 none)) := rfl
set_option maxRecDepth 100000 in
theorem eMp_w130 : lw_tbl[1060]? = some (Cond.code (eM 130) (eBy 130) (eMx.getD 130 0) (eRt.getD 130 none)) := rfl
set_option maxRecDepth 100000 in
theorem eMp_w131 : lw_tbl[1065]? = some (Cond.code (eM 131) (eBy 131) (eMx.getD 131 0) (eRt.getD 131 none)) := rfl
set_option maxRecDepth 100000 in
theorem eMp_w132 : lw_tbl[1069]? = some (Cond.code (eM 132) (eBy 132) (eMx.getD 132 0) (eRt.getD 132 none)) := rfl
set_option maxRecDepth 100000 in
theorem eMp_w133 : lw_tbl[1073]? = some (Cond.code (eM 133) (eBy 133) (eMx.getD 133 0) (eRt.getD 133 none)) := rfl
set_option maxRecDepth 100000 in
theorem eMp_w134 : lw_tbl[1078]? = some (Cond.code (eM 134) (eBy 134) (eMx.getD 134 0) (eRt.getD 134 none)) := rfl
set_option maxRecDepth 100000 in
theorem eMp_w135 : lw_tbl[1082]? = some (Cond.code (eM 135) (eBy 135) (eMx.getD 135 0) (eRt.getD 135 none)) := rfl
set_option maxRecDepth 100000 in
theorem eMp_w136 : lw_tbl[1085]? = some (Cond.code (eM 136) (eBy 136) (eMx.getD 136 0) (eRt.getD 136 none)) := rfl
set_option maxRecDepth 100000 in
theorem eMp_w137 : lw_tbl[1089]? = some (Cond.code (eM 137) (eBy 137) (eMx.getD 137 0) (eRt.getD 137 none)) := rfl
set_option maxRecDepth 100000 in
theorem eMp_w138 : lw_tbl[1093]? = some (Cond.code (eM 138) (eBy 138) (eMx.getD 138 0) (eRt.getD 138 none)) := rfl
set_option maxRecDepth 100000 in
theorem eMp_w139 : lw_tbl[1098]? = some (Cond.code (eM 139) (eBy 139) (eMx.getD 139 0) (eRt.getD 139 none)) := rfl
set_option maxRecDepth 100000 in
theorem eMp_w140 : lw_tbl[1102]? = some (Cond.code (eM 140) (eBy 140) (eMx.getD 140 0) (eRt.getD 140 none)) := rfl
set_option maxRecDepth 100000 in
theorem eMp_w141 : lw_tbl[1106]? = some (Cond.code (eM 141) (eBy 141) (eMx.getD 141 0) (eRt.getD 141 none)) := rfl
set_option maxRecDepth 100000 in
theorem eMp_w142 : lw_tbl[1110]? = some (Cond.code (eM 142) (eBy 142) (eMx.getD 142 0) (eRt.getD 142 none)) := rfl
set_option maxRecDepth 100000 in
theorem eMp_w143 : lw_tbl[1114]? = some (Cond.code (eM 143) (eBy 143) (eMx.getD 143 0) (eRt.getD 143 none)) := rfl
set_option maxRecDepth 100000 in
theorem eMp_w144 : lw_tbl[1122]? = some (Cond.code (eM 144) (eBy 144) (eMx.getD 144 0) (eRt.getD 144 none)) := rfl
set_option maxRecDepth 100000 in
theorem eMp_w145 : lw_tbl[1126]? = some (Cond.code (eM 145) (eBy 145) (eMx.getD 145 0) (eRt.getD 145 none)) := rfl
set_option maxRecDepth 100000 in
theorem eMp_w146 : lw_tbl[1130]? = some (Cond.code (eM 146) (eBy 146) (eMx.getD 146 0) (eRt.getD 146 none)) := rfl
set_option maxRecDepth 100000 in
theorem eMp_w147 : lw_tbl[1134]? = some (Cond.code (eM 147) (eBy 147) (eMx.getD 147 0) (eRt.getD 147 none)) := rfl
set_option maxRecDepth 100000 in
theorem eMp_w148 : lw_tbl[1138]? = some (Cond.code (eM 148) (eBy 148) (eMx.getD 148 0) (eRt.getD 148 none)) := rfl
set_option maxRecDepth 100000 in
theorem eMp_w149 : lw_tbl[1144]? = some (Cond.code (eM 149) (eBy 149) (eMx.getD 149 0) (eRt.getD 149 none)) := rfl
set_option maxRecDepth 100000 in
theorem eMp_w150 : lw_tbl[1148]? = some (Cond.code (eM 150) (eBy 150) (eMx.getD 150 0) (eRt.getD 150 none)) := rfl
set_option maxRecDepth 100000 in
theorem eMp_w151 : lw_tbl[1152]? = some (Cond.code (eM 151) (eBy 151) (eMx.getD 151 0) (eRt.getD 151 none)) := rfl
set_option maxRecDepth 100000 in
theorem eMp_w152 : lw_tbl[1156]? = some (Cond.code (eM 152) (eBy 152) (eMx.getD 152 0) (eRt.getD 152 none)) := rfl
set_option maxRecDepth 100000 in
theorem eMp_w153 : lw_tbl[1160]? = some (Cond.code (eM 153) (eBy 153) (eMx.getD 153 0) (eRt.getD 153 none)) := rfl
set_option maxRecDepth 100000 in
theorem eMp_w154 : lw_tbl[1164]? = some (Cond.code (eM 154) (eBy 154) (eMx.getD 154 0) (eRt.getD 154 none)) := rfl
set_option maxRecDepth 100000 in
theorem eMp_w155 : lw_tbl[1168]? = some (Cond.code (eM 155) (eBy 155) (eMx.getD 155 0) (eRt.getD 155 none)) := rfl
set_option maxRecDepth 100000 in
theorem eMp_w156 : lw_tbl[1172]? = some (Cond.code (eM 156) (eBy 156) (eMx.getD 156 0) (eRt.getD 156 none)) := rfl
set_option maxRecDepth 100000 in
theorem eMp_w157 : lw_tbl[1176]? = some (Cond.code (eM 157) (eBy 157) (eMx.getD 157 0) (eRt.getD 157 none)) := rfl
set_option maxRecDepth 100000 in
theorem eMp_w158 : lw_tbl[1180]? = some (Cond.code (eM 158) (eBy 158) (eMx.getD 158 0) (eRt.getD 158 none)) := rfl
set_option maxRecDepth 100000 in
theorem eMp_w159 : lw_tbl[1184]? = some (Cond.code (eM 159) (eBy 159) (eMx.getD 159 0) (eRt.getD 159 none)) := rfl
set_option maxRecDepth 100000 in
theorem eMp_w160 : lw_tbl[1188]? = some (Cond.code (eM 160) (eBy 160) (eMx.getD 160 0) (eRt.getD 160 none)) := rfl
set_option maxRecDepth 100000 in
theorem eMp_w161 : lw_tbl[1191]? = some (Cond.code (eM 161) (eBy 161) (eMx.getD 161 0) (eRt.getD 161 none)) := rfl
set_option maxRecDepth 100000 in
theorem eMp_w162 : lw_tbl[1195]? = some (Cond.code (eM 162) (eBy 162) (eMx.getD 162 0) (eRt.getD 162 none)) := rfl
set_option maxRecDepth 100000 in
theorem eMp_w163 : lw_tbl[1200]? = some (Cond.code (eM 163) (eBy 163) (eMx.getD 163 0) (eRt.getD 163 none)) := rfl
set_option maxRecDepth 100000 in
theorem eMp_w164 : lw_tbl[1204]? = some (Cond.code (eM 164) (eBy 164) (eMx.getD 164 0) (eRt.getD 164 none)) := rfl
set_option maxRecDepth 100000 in
theorem eMp_w165 : lw_tbl[1208]? = some (Cond.code (eM 165) (eBy 165) (eMx.getD 165 0) (eRt.getD 165 none)) := rfl
set_option maxRecDepth 100000 in
theorem eMp_w166 : lw_tbl[1213]? = some (Cond.code (eM 166) (eBy 166) (eMx.getD 166 0) (eRt.getD 166 none)) := rfl
set_option maxRecDepth 100000 in
theorem eMp_w167 : lw_tbl[1217]? = some (Cond.code (eM 167) (eBy 167) (eMx.getD 167 0) (eRt.getD 167 none)) := rfl
set_option maxRecDepth 100000 in
theorem eMp_w168 : lw_tbl[1221]? = some (Cond.code (eM 168) (eBy 168) (eMx.getD 168 0) (eRt.getD 168 none)) := rfl
set_option maxRecDepth 100000 in
theorem eMp_w169 : lw_tbl[1225]? = some (Cond.code (eM 169) (eBy 169) (eMx.getD 169 0) (eRt.getD 169 none)) := rfl
set_option maxRecDepth 100000 in
theorem eMp_w170 : lw_tbl[1229]? = some (Cond.code (eM 170) (eBy 170) (eMx.getD 170 0) (eRt.getD 170 none)) := rfl
set_option maxRecDepth 100000 in
theorem eMp_w171 : lw_tbl[1233]? = some (Cond.code (eM 171) (eBy 171) (eMx.getD 171 0) (eRt.getD 171 none)) := rfl
set_option maxRecDepth 100000 in
theorem eMp_w172 : lw_tbl[1237]? = some (Cond.code (eM 172) (eBy 172) (eMx.getD 172 0) (eRt.getD 172 none)) := rfl
set_option maxRecDepth 100000 in
theorem eMp_w173 : lw_tbl[1241]? = some (Cond.code (eM 173) (eBy 173) (eMx.getD 173 0) (eRt.getD 173 none)) := rfl
set_option maxRecDepth 100000 in
theorem eMp_w174 : lw_tbl[1245]? = some (Cond.code (eM 174) (eBy 174) (eMx.getD 174 0) (eRt.getD 174 none)) := rfl
set_option maxRecDepth 100000 in
theorem eMp_w175 : lw_tbl[1250]? = some (Cond.code (eM 175) (eBy 175) (eMx.getD 175 0) (eRt.getD 175 none)) := rfl
set_option maxRecDepth 100000 in
theorem eMp_w176 : lw_tbl[1254]? = some (Cond.code (eM 176) (eBy 176) (eMx.getD 176 0) (eRt.getD 176 none)) := rfl
set_option maxRecDepth 100000 in
theorem eMp_w177 : lw_tbl[1258]? = some (Cond.code (eM 177) (eBy 177) (eMx.getD 177 0) (eRt.getD 177 none)) := rfl
set_option maxRecDepth 100000 in
theorem eMp_w178 : lw_tbl[1262]? = some (Cond.code (eM 178) (eBy 178) (eMx.getD 178 0) (eRt.getD 178 none)) := rfl
set_option maxRecDepth 100000 in
theorem eMp_w179 : lw_tbl[1265]? = some (Cond.code (eM 179) (eBy 179) (eMx.getD 179 0) (eRt.getD 179 none)) := rfl
set_option maxRecDepth 100000 in
theorem eMp_w180 : lw_tbl[1268]? = some (Cond.code (eM 180) (eBy 180) (eMx.getD 180 0) (eRt.getD 180 none)) := rfl
set_option maxRecDepth 100000 in
theorem eMp_w181 : lw_tbl[1272]? = some (Cond.code (eM 181) (eBy 181) (eMx.getD 181 0) (eRt.getD 181 none)) := rfl
set_option maxRecDepth 100000 in
theorem eMp_w182 : lw_tbl[1276]? = some (Cond.code (eM 182) (eBy 182) (eMx.getD 182 0) (eRt.getD 182 none)) := rfl
set_option maxRecDepth 100000 in
theorem eMp_w183 : lw_tbl[1280]? = some (Cond.code (eM 183) (eBy 183) (eMx.getD 183 0) (eRt.getD 183 none)) := rfl
set_option maxRecDepth 100000 in
theorem eMp_w184 : lw_tbl[1283]? = some (Cond.code (eM 184) (eBy 184) (eMx.getD 184 0) (eRt.getD 184 none)) := rfl
set_option maxRecDepth 100000 in
theorem eMp_w185 : lw_tbl[1288]? = some (Cond.code (eM 185) (eBy 185) (eMx.getD 185 0) (eRt.getD 185 none)) := rfl
set_option maxRecDepth 100000 in
theorem eMp_w186 : lw_tbl[1292]? = some (Cond.code (eM 186) (eBy 186) (eMx.getD 186 0) (eRt.getD 186 none)) := rfl
set_option maxRecDepth 100000 in
theorem eMp_w187 : lw_tbl[1296]? = some (Cond.code (eM 187) (eBy 187) (eMx.getD 187 0) (eRt.getD 187 none)) := rfl
set_option maxRecDepth 100000 in
theorem eMp_w188 : lw_tbl[1299]? = some (Cond.code (eM 188) (eBy 188) (eMx.getD 188 0) (eRt.getD 188 none)) := rfl
set_option maxRecDepth 100000 in
theorem eMp_w189 : lw_tbl[1303]? = some (Cond.code (eM 189) (eBy 189) (eMx.getD 189 0) (eRt.getD 189 none)) := rfl
set_option maxRecDepth 100000 in
theorem eMp_w190 : lw_tbl[1307]? = some (Cond.code (eM 190) (eBy 190) (eMx.getD 190 0) (eRt.getD 190 none)) := rfl
set_option maxRecDepth 100000 in
theorem eMp_w191 : lw_tbl[1311]? = some (Cond.code (eM 191) (eBy 191) (eMx.getD 191 0) (eRt.getD 191 none)) := rfl
set_option maxRecDepth 100000 in
theorem eMp_w192 : lw_tbl[1315]? = some (Cond.code (eM 192) (eBy 192) (eMx.getD 192 0) (eRt.getD 192 none)) := rfl
set_option maxRecDepth 100000 in
theorem eMp_w193 : lw_tbl[1319]? = some (Cond.code (eM 193) (eBy 193) (eMx.getD 193 0) (eRt.getD 193 none)) := rfl
set_option maxRecDepth 100000 in
theorem eMp_w194 : lw_tbl[467]? = some (Cond.code (eM 194) (eBy 194) (eMx.getD 194 0) (eRt.getD 194 none)) := rfl
set_option maxRecDepth 100000 in
theorem eMp_w195 : lw_tbl[471]? = some (Cond.code (eM 195) (eBy 195) (eMx.getD 195 0) (eRt.getD 195 none)) := rfl
set_option maxRecDepth 100000 in
theorem eMp_w196 : lw_tbl[475]? = some (Cond.code (eM 196) (eBy 196) (eMx.getD 196 0) (eRt.getD 196 none)) := rfl
set_option maxRecDepth 100000 in
theorem eMp_w197 : lw_tbl[481]? = some (Cond.code (eM 197) (eBy 197) (eMx.getD 197 0) (eRt.getD 197 none)) := rfl
set_option maxRecDepth 100000 in
theorem eMp_w198 : lw_tbl[485]? = some (Cond.code (eM 198) (eBy 198) (eMx.getD 198 0) (eRt.getD 198 none)) := rfl
set_option maxRecDepth 100000 in
theorem eMp_w199 : lw_tbl[488]? = some (Cond.code (eM 199) (eBy 199) (eMx.getD 199 0) (eRt.getD 199 none)) := rfl
set_option maxRecDepth 100000 in
theorem eMp_w200 : lw_tbl[491]? = some (Cond.code (eM 200) (eBy 200) (eMx.getD 200 0) (eRt.getD 200 none)) := rfl
set_option maxRecDepth 100000 in
theorem eMp_w201 : lw_tbl[500]? = some (Cond.code (eM 201) (eBy 201) (eMx.getD 201 0) (eRt.getD 201 none)) := rfl
theorem eMp_in (k : Nat) (hk : k < 202) : Cond.code (eM k) (eBy k) (eMx.getD k 0) (eRt.getD k none) ∈ eWs := by
  match k, hk with
  | 0, _ => exact eWs_in eMp_w0 rfl
  | 1, _ => exact eWs_in eMp_w1 rfl
  | 2, _ => exact eWs_in eMp_w2 rfl
  | 3, _ => exact eWs_in eMp_w3 rfl
  | 4, _ => exact eWs_in eMp_w4 rfl
  | 5, _ => exact eWs_in eMp_w5 rfl
  | 6, _ => exact eWs_in eMp_w6 rfl
  | 7, _ => exact eWs_in eMp_w7 rfl
  | 8, _ => exact eWs_in eMp_w8 rfl
  | 9, _ => exact eWs_in eMp_w9 rfl
  | 10, _ => exact eWs_in eMp_w10 rfl
  | 11, _ => exact eWs_in eMp_w11 rfl
  | 12, _ => exact eWs_in eMp_w12 rfl
  | 13, _ => exact eWs_in eMp_w13 rfl
  | 14, _ => exact eWs_in eMp_w14 rfl
  | 15, _ => exact eWs_in eMp_w15 rfl
  | 16, _ => exact eWs_in eMp_w16 rfl
  | 17, _ => exact eWs_in eMp_w17 rfl
  | 18, _ => exact eWs_in eMp_w18 rfl
  | 19, _ => exact eWs_in eMp_w19 rfl
  | 20, _ => exact eWs_in eMp_w20 rfl
  | 21, _ => exact eWs_in eMp_w21 rfl
  | 22, _ => exact eWs_in eMp_w22 rfl
  | 23, _ => exact eWs_in eMp_w23 rfl
  | 24, _ => exact eWs_in eMp_w24 rfl
  | 25, _ => exact eWs_in eMp_w25 rfl
  | 26, _ => exact eWs_in eMp_w26 rfl
  | 27, _ => exact eWs_in eMp_w27 rfl
  | 28, _ => exact eWs_in eMp_w28 rfl
  | 29, _ => exact eWs_in eMp_w29 rfl
  | 30, _ => exact eWs_in eMp_w30 rfl
  | 31, _ => exact eWs_in eMp_w31 rfl
  | 32, _ => exact eWs_in eMp_w32 rfl
  | 33, _ => exact eWs_in eMp_w33 rfl
  | 34, _ => exact eWs_in eMp_w34 rfl
  | 35, _ => exact eWs_in eMp_w35 rfl
  | 36, _ => exact eWs_in eMp_w36 rfl
  | 37, _ => exact eWs_in eMp_w37 rfl
  | 38, _ => exact eWs_in eMp_w38 rfl
  | 39, _ => exact eWs_in eMp_w39 rfl
  | 40, _ => exact eWs_in eMp_w40 rfl
  | 41, _ => exact eWs_in eMp_w41 rfl
  | 42, _ => exact eWs_in eMp_w42 rfl
  | 43, _ => exact eWs_in eMp_w43 rfl
  | 44, _ => exact eWs_in eMp_w44 rfl
  | 45, _ => exact eWs_in eMp_w45 rfl
  | 46, _ => exact eWs_in eMp_w46 rfl
  | 47, _ => exact eWs_in eMp_w47 rfl
  | 48, _ => exact eWs_in eMp_w48 rfl
  | 49, _ => exact eWs_in eMp_w49 rfl
  | 50, _ => exact eWs_in eMp_w50 rfl
  | 51, _ => exact eWs_in eMp_w51 rfl
  | 52, _ => exact eWs_in eMp_w52 rfl
  | 53, _ => exact eWs_in eMp_w53 rfl
  | 54, _ => exact eWs_in eMp_w54 rfl
  | 55, _ => exact eWs_in eMp_w55 rfl
  | 56, _ => exact eWs_in eMp_w56 rfl
  | 57, _ => exact eWs_in eMp_w57 rfl
  | 58, _ => exact eWs_in eMp_w58 rfl
  | 59, _ => exact eWs_in eMp_w59 rfl
  | 60, _ => exact eWs_in eMp_w60 rfl
  | 61, _ => exact eWs_in eMp_w61 rfl
  | 62, _ => exact eWs_in eMp_w62 rfl
  | 63, _ => exact eWs_in eMp_w63 rfl
  | 64, _ => exact eWs_in eMp_w64 rfl
  | 65, _ => exact eWs_in eMp_w65 rfl
  | 66, _ => exact eWs_in eMp_w66 rfl
  | 67, _ => exact eWs_in eMp_w67 rfl
  | 68, _ => exact eWs_in eMp_w68 rfl
  | 69, _ => exact eWs_in eMp_w69 rfl
  | 70, _ => exact eWs_in eMp_w70 rfl
  | 71, _ => exact eWs_in eMp_w71 rfl
  | 72, _ => exact eWs_in eMp_w72 rfl
  | 73, _ => exact eWs_in eMp_w73 rfl
  | 74, _ => exact eWs_in eMp_w74 rfl
  | 75, _ => exact eWs_in eMp_w75 rfl
  | 76, _ => exact eWs_in eMp_w76 rfl
  | 77, _ => exact eWs_in eMp_w77 rfl
  | 78, _ => exact eWs_in eMp_w78 rfl
  | 79, _ => exact eWs_in eMp_w79 rfl
  | 80, _ => exact eWs_in eMp_w80 rfl
  | 81, _ => exact eWs_in eMp_w81 rfl
  | 82, _ => exact eWs_in eMp_w82 rfl
  | 83, _ => exact eWs_in eMp_w83 rfl
  | 84, _ => exact eWs_in eMp_w84 rfl
  | 85, _ => exact eWs_in eMp_w85 rfl
  | 86, _ => exact eWs_in eMp_w86 rfl
  | 87, _ => exact eWs_in eMp_w87 rfl
  | 88, _ => exact eWs_in eMp_w88 rfl
  | 89, _ => exact eWs_in eMp_w89 rfl
  | 90, _ => exact eWs_in eMp_w90 rfl
  | 91, _ => exact eWs_in eMp_w91 rfl
  | 92, _ => exact eWs_in eMp_w92 rfl
  | 93, _ => exact eWs_in eMp_w93 rfl
  | 94, _ => exact eWs_in eMp_w94 rfl
  | 95, _ => exact eWs_in eMp_w95 rfl
  | 96, _ => exact eWs_in eMp_w96 rfl
  | 97, _ => exact eWs_in eMp_w97 rfl
  | 98, _ => exact eWs_in eMp_w98 rfl
  | 99, _ => exact eWs_in eMp_w99 rfl
  | 100, _ => exact eWs_in eMp_w100 rfl
  | 101, _ => exact eWs_in eMp_w101 rfl
  | 102, _ => exact eWs_in eMp_w102 rfl
  | 103, _ => exact eWs_in eMp_w103 rfl
  | 104, _ => exact eWs_in eMp_w104 rfl
  | 105, _ => exact eWs_in eMp_w105 rfl
  | 106, _ => exact eWs_in eMp_w106 rfl
  | 107, _ => exact eWs_in eMp_w107 rfl
  | 108, _ => exact eWs_in eMp_w108 rfl
  | 109, _ => exact eWs_in eMp_w109 rfl
  | 110, _ => exact eWs_in eMp_w110 rfl
  | 111, _ => exact eWs_in eMp_w111 rfl
  | 112, _ => exact eWs_in eMp_w112 rfl
  | 113, _ => exact eWs_in eMp_w113 rfl
  | 114, _ => exact eWs_in eMp_w114 rfl
  | 115, _ => exact eWs_in eMp_w115 rfl
  | 116, _ => exact eWs_in eMp_w116 rfl
  | 117, _ => exact eWs_in eMp_w117 rfl
  | 118, _ => exact eWs_in eMp_w118 rfl
  | 119, _ => exact eWs_in eMp_w119 rfl
  | 120, _ => exact eWs_in eMp_w120 rfl
  | 121, _ => exact eWs_in eMp_w121 rfl
  | 122, _ => exact eWs_in eMp_w122 rfl
  | 123, _ => exact eWs_in eMp_w123 rfl
  | 124, _ => exact eWs_in eMp_w124 rfl
  | 125, _ => exact eWs_in eMp_w125 rfl
  | 126, _ => exact eWs_in eMp_w126 rfl
  | 127, _ => exact eWs_in eMp_w127 rfl
  | 128, _ => exact eWs_in eMp_w128 rfl
  | 129, _ => exact eWs_in eMp_w129 rfl
  | 130, _ => exact eWs_in eMp_w130 rfl
  | 131, _ => exact eWs_in eMp_w131 rfl
  | 132, _ => exact eWs_in eMp_w132 rfl
  | 133, _ => exact eWs_in eMp_w133 rfl
  | 134, _ => exact eWs_in eMp_w134 rfl
  | 135, _ => exact eWs_in eMp_w135 rfl
  | 136, _ => exact eWs_in eMp_w136 rfl
  | 137, _ => exact eWs_in eMp_w137 rfl
  | 138, _ => exact eWs_in eMp_w138 rfl
  | 139, _ => exact eWs_in eMp_w139 rfl
  | 140, _ => exact eWs_in eMp_w140 rfl
  | 141, _ => exact eWs_in eMp_w141 rfl
  | 142, _ => exact eWs_in eMp_w142 rfl
  | 143, _ => exact eWs_in eMp_w143 rfl
  | 144, _ => exact eWs_in eMp_w144 rfl
  | 145, _ => exact eWs_in eMp_w145 rfl
  | 146, _ => exact eWs_in eMp_w146 rfl
  | 147, _ => exact eWs_in eMp_w147 rfl
  | 148, _ => exact eWs_in eMp_w148 rfl
  | 149, _ => exact eWs_in eMp_w149 rfl
  | 150, _ => exact eWs_in eMp_w150 rfl
  | 151, _ => exact eWs_in eMp_w151 rfl
  | 152, _ => exact eWs_in eMp_w152 rfl
  | 153, _ => exact eWs_in eMp_w153 rfl
  | 154, _ => exact eWs_in eMp_w154 rfl
  | 155, _ => exact eWs_in eMp_w155 rfl
  | 156, _ => exact eWs_in eMp_w156 rfl
  | 157, _ => exact eWs_in eMp_w157 rfl
  | 158, _ => exact eWs_in eMp_w158 rfl
  | 159, _ => exact eWs_in eMp_w159 rfl
  | 160, _ => exact eWs_in eMp_w160 rfl
  | 161, _ => exact eWs_in eMp_w161 rfl
  | 162, _ => exact eWs_in eMp_w162 rfl
  | 163, _ => exact eWs_in eMp_w163 rfl
  | 164, _ => exact eWs_in eMp_w164 rfl
  | 165, _ => exact eWs_in eMp_w165 rfl
  | 166, _ => exact eWs_in eMp_w166 rfl
  | 167, _ => exact eWs_in eMp_w167 rfl
  | 168, _ => exact eWs_in eMp_w168 rfl
  | 169, _ => exact eWs_in eMp_w169 rfl
  | 170, _ => exact eWs_in eMp_w170 rfl
  | 171, _ => exact eWs_in eMp_w171 rfl
  | 172, _ => exact eWs_in eMp_w172 rfl
  | 173, _ => exact eWs_in eMp_w173 rfl
  | 174, _ => exact eWs_in eMp_w174 rfl
  | 175, _ => exact eWs_in eMp_w175 rfl
  | 176, _ => exact eWs_in eMp_w176 rfl
  | 177, _ => exact eWs_in eMp_w177 rfl
  | 178, _ => exact eWs_in eMp_w178 rfl
  | 179, _ => exact eWs_in eMp_w179 rfl
  | 180, _ => exact eWs_in eMp_w180 rfl
  | 181, _ => exact eWs_in eMp_w181 rfl
  | 182, _ => exact eWs_in eMp_w182 rfl
  | 183, _ => exact eWs_in eMp_w183 rfl
  | 184, _ => exact eWs_in eMp_w184 rfl
  | 185, _ => exact eWs_in eMp_w185 rfl
  | 186, _ => exact eWs_in eMp_w186 rfl
  | 187, _ => exact eWs_in eMp_w187 rfl
  | 188, _ => exact eWs_in eMp_w188 rfl
  | 189, _ => exact eWs_in eMp_w189 rfl
  | 190, _ => exact eWs_in eMp_w190 rfl
  | 191, _ => exact eWs_in eMp_w191 rfl
  | 192, _ => exact eWs_in eMp_w192 rfl
  | 193, _ => exact eWs_in eMp_w193 rfl
  | 194, _ => exact eWs_in eMp_w194 rfl
  | 195, _ => exact eWs_in eMp_w195 rfl
  | 196, _ => exact eWs_in eMp_w196 rfl
  | 197, _ => exact eWs_in eMp_w197 rfl
  | 198, _ => exact eWs_in eMp_w198 rfl
  | 199, _ => exact eWs_in eMp_w199 rfl
  | 200, _ => exact eWs_in eMp_w200 rfl
  | 201, _ => exact eWs_in eMp_w201 rfl
  | n + 202, h => exact absurd h (by omega)
end
section
theorem eAll_cut {α : Type} {f : α → Bool} {l : List α} (n k : Nat) (h1 : ((l.drop n).take k).all f = true) (h2 : (l.drop (n + k)).all f = true) : (l.drop n).all f = true := by
  rw [← List.take_append_drop k (l.drop n), List.all_append, h1, List.drop_drop, h2]; rfl
theorem eCd_of {l : List (Nat × Instr × Nat)} {c : ByteArray} (h : (l.all fun q => decide (decode c q.1 = .ok q.2)) = true) : ∀ q ∈ l, decode c q.1 = .ok q.2 := fun q hq => of_decide_eq_true (List.all_eq_true.mp h q hq)

set_option maxRecDepth 100000 in
theorem eCd_w202 : (eCd202.all fun q => decide (decode (eBy 202) q.1 = .ok q.2)) = true := by
  have h : ((eCd202.drop 0).all fun q => decide (decode code q.1 = .ok q.2)) = true := eAll_cut 0 48 eCd_l0 (eAll_cut 48 48 eCd_l1 (eAll_cut 96 48 eCd_l2 (eAll_cut 144 48 eCd_l3 (eAll_cut 192 48 eCd_l4 (eAll_cut 240 48 eCd_l5 (eAll_cut 288 48 eCd_l6 (eAll_cut 336 48 eCd_l7 (eAll_cut 384 48 eCd_l8 (eAll_cut 432 48 eCd_l9 (eAll_cut 480 48 eCd_l10 (eAll_cut 528 48 eCd_l11 (eAll_cut 576 48 eCd_l12 (eAll_cut 624 48 eCd_l13 (eAll_cut 672 48 eCd_l14 (eAll_cut 720 48 eCd_l15 (by decide +kernel))))))))))))))))
  exact h
theorem eCd_ok (k : Nat) : ∀ q ∈ eCd k, decode (eBy k) q.1 = .ok q.2 := by
  match k with
  | 0 => exact eCd_of eCd_w0
  | 1 => exact eCd_of eCd_w1
  | 2 => exact eCd_of eCd_w2
  | 3 => exact eCd_of eCd_w3
  | 4 => exact eCd_of eCd_w4
  | 5 => exact eCd_of eCd_w5
  | 6 => exact eCd_of eCd_w6
  | 7 => exact eCd_of eCd_w7
  | 8 => exact eCd_of eCd_w8
  | 9 => exact eCd_of eCd_w9
  | 10 => exact eCd_of eCd_w10
  | 11 => exact eCd_of eCd_w11
  | 12 => exact eCd_of eCd_w12
  | 13 => exact eCd_of eCd_w13
  | 14 => exact eCd_of eCd_w14
  | 15 => exact eCd_of eCd_w15
  | 16 => exact eCd_of eCd_w16
  | 17 => exact eCd_of eCd_w17
  | 18 => exact eCd_of eCd_w18
  | 19 => exact eCd_of eCd_w19
  | 20 => exact eCd_of eCd_w20
  | 21 => exact eCd_of eCd_w21
  | 22 => exact eCd_of eCd_w22
  | 23 => exact eCd_of eCd_w23
  | 24 => exact eCd_of eCd_w24
  | 25 => exact eCd_of eCd_w25
  | 26 => exact eCd_of eCd_w26
  | 27 => exact eCd_of eCd_w27
  | 28 => exact eCd_of eCd_w28
  | 29 => exact eCd_of eCd_w29
  | 30 => exact eCd_of eCd_w30
  | 31 => exact eCd_of eCd_w31
  | 32 => exact eCd_of eCd_w32
  | 33 => exact eCd_of eCd_w33
  | 34 => exact eCd_of eCd_w34
  | 35 => exact eCd_of eCd_w35
  | 36 => exact eCd_of eCd_w36
  | 37 => exact eCd_of eCd_w37
  | 38 => exact eCd_of eCd_w38
  | 39 => exact eCd_of eCd_w39
  | 40 => exact eCd_of eCd_w40
  | 41 => exact eCd_of eCd_w41
  | 42 => exact eCd_of eCd_w42
  | 43 => exact eCd_of eCd_w43
  | 44 => exact eCd_of eCd_w44
  | 45 => exact eCd_of eCd_w45
  | 46 => exact eCd_of eCd_w46
  | 47 => exact eCd_of eCd_w47
  | 48 => exact eCd_of eCd_w48
  | 49 => exact eCd_of eCd_w49
  | 50 => exact eCd_of eCd_w50
  | 51 => exact eCd_of eCd_w51
  | 52 => exact eCd_of eCd_w52
  | 53 => exact eCd_of eCd_w53
  | 54 => exact eCd_of eCd_w54
  | 55 => exact eCd_of eCd_w55
  | 56 => exact eCd_of eCd_w56
  | 57 => exact eCd_of eCd_w57
  | 58 => exact eCd_of eCd_w58
  | 59 => exact eCd_of eCd_w59
  | 60 => exact eCd_of eCd_w60
  | 61 => exact eCd_of eCd_w61
  | 62 => exact eCd_of eCd_w62
  | 63 => exact eCd_of eCd_w63
  | 64 => exact eCd_of eCd_w64
  | 65 => exact eCd_of eCd_w65
  | 66 => exact eCd_of eCd_w66
  | 67 => exact eCd_of eCd_w67
  | 68 => exact eCd_of eCd_w68
  | 69 => exact eCd_of eCd_w69
  | 70 => exact eCd_of eCd_w70
  | 71 => exact eCd_of eCd_w71
  | 72 => exact eCd_of eCd_w72
  | 73 => exact eCd_of eCd_w73
  | 74 => exact eCd_of eCd_w74
  | 75 => exact eCd_of eCd_w75
  | 76 => exact eCd_of eCd_w76
  | 77 => exact eCd_of eCd_w77
  | 78 => exact eCd_of eCd_w78
  | 79 => exact eCd_of eCd_w79
  | 80 => exact eCd_of eCd_w80
  | 81 => exact eCd_of eCd_w81
  | 82 => exact eCd_of eCd_w82
  | 83 => exact eCd_of eCd_w83
  | 84 => exact eCd_of eCd_w84
  | 85 => exact eCd_of eCd_w85
  | 86 => exact eCd_of eCd_w86
  | 87 => exact eCd_of eCd_w87
  | 88 => exact eCd_of eCd_w88
  | 89 => exact eCd_of eCd_w89
  | 90 => exact eCd_of eCd_w90
  | 91 => exact eCd_of eCd_w91
  | 92 => exact eCd_of eCd_w92
  | 93 => exact eCd_of eCd_w93
  | 94 => exact eCd_of eCd_w94
  | 95 => exact eCd_of eCd_w95
  | 96 => exact eCd_of eCd_w96
  | 97 => exact eCd_of eCd_w97
  | 98 => exact eCd_of eCd_w98
  | 99 => exact eCd_of eCd_w99
  | 100 => exact eCd_of eCd_w100
  | 101 => exact eCd_of eCd_w101
  | 102 => exact eCd_of eCd_w102
  | 103 => exact eCd_of eCd_w103
  | 104 => exact eCd_of eCd_w104
  | 105 => exact eCd_of eCd_w105
  | 106 => exact eCd_of eCd_w106
  | 107 => exact eCd_of eCd_w107
  | 108 => exact eCd_of eCd_w108
  | 109 => exact eCd_of eCd_w109
  | 110 => exact eCd_of eCd_w110
  | 111 => exact eCd_of eCd_w111
  | 112 => exact eCd_of eCd_w112
  | 113 => exact eCd_of eCd_w113
  | 114 => exact eCd_of eCd_w114
  | 115 => exact eCd_of eCd_w115
  | 116 => exact eCd_of eCd_w116
  | 117 => exact eCd_of eCd_w117
  | 118 => exact eCd_of eCd_w118
  | 119 => exact eCd_of eCd_w119
  | 120 => exact eCd_of eCd_w120
  | 121 => exact eCd_of eCd_w121
  | 122 => exact eCd_of eCd_w122
  | 123 => exact eCd_of eCd_w123
  | 124 => exact eCd_of eCd_w124
  | 125 => exact eCd_of eCd_w125
  | 126 => exact eCd_of eCd_w126
  | 127 => exact eCd_of eCd_w127
  | 128 => exact eCd_of eCd_w128
  | 129 => exact eCd_of eCd_w129
  | 130 => exact eCd_of eCd_w130
  | 131 => exact eCd_of eCd_w131
  | 132 => exact eCd_of eCd_w132
  | 133 => exact eCd_of eCd_w133
  | 134 => exact eCd_of eCd_w134
  | 135 => exact eCd_of eCd_w135
  | 136 => exact eCd_of eCd_w136
  | 137 => exact eCd_of eCd_w137
  | 138 => exact eCd_of eCd_w138
  | 139 => exact eCd_of eCd_w139
  | 140 => exact eCd_of eCd_w140
  | 141 => exact eCd_of eCd_w141
  | 142 => exact eCd_of eCd_w142
  | 143 => exact eCd_of eCd_w143
  | 144 => exact eCd_of eCd_w144
  | 145 => exact eCd_of eCd_w145
  | 146 => exact eCd_of eCd_w146
  | 147 => exact eCd_of eCd_w147
  | 148 => exact eCd_of eCd_w148
  | 149 => exact eCd_of eCd_w149
  | 150 => exact eCd_of eCd_w150
  | 151 => exact eCd_of eCd_w151
  | 152 => exact eCd_of eCd_w152
  | 153 => exact eCd_of eCd_w153
  | 154 => exact eCd_of eCd_w154
  | 155 => exact eCd_of eCd_w155
  | 156 => exact eCd_of eCd_w156
  | 157 => exact eCd_of eCd_w157
  | 158 => exact eCd_of eCd_w158
  | 159 => exact eCd_of eCd_w159
  | 160 => exact eCd_of eCd_w160
  | 161 => exact eCd_of eCd_w161
  | 162 => exact eCd_of eCd_w162
  | 163 => exact eCd_of eCd_w163
  | 164 => exact eCd_of eCd_w164
  | 165 => exact eCd_of eCd_w165
  | 166 => exact eCd_of eCd_w166
  | 167 => exact eCd_of eCd_w167
  | 168 => exact eCd_of eCd_w168
  | 169 => exact eCd_of eCd_w169
  | 170 => exact eCd_of eCd_w170
  | 171 => exact eCd_of eCd_w171
  | 172 => exact eCd_of eCd_w172
  | 173 => exact eCd_of eCd_w173
  | 174 => exact eCd_of eCd_w174
  | 175 => exact eCd_of eCd_w175
  | 176 => exact eCd_of eCd_w176
  | 177 => exact eCd_of eCd_w177
  | 178 => exact eCd_of eCd_w178
  | 179 => exact eCd_of eCd_w179
  | 180 => exact eCd_of eCd_w180
  | 181 => exact eCd_of eCd_w181
  | 182 => exact eCd_of eCd_w182
  | 183 => exact eCd_of eCd_w183
  | 184 => exact eCd_of eCd_w184
  | 185 => exact eCd_of eCd_w185
  | 186 => exact eCd_of eCd_w186
  | 187 => exact eCd_of eCd_w187
  | 188 => exact eCd_of eCd_w188
  | 189 => exact eCd_of eCd_w189
  | 190 => exact eCd_of eCd_w190
  | 191 => exact eCd_of eCd_w191
  | 192 => exact eCd_of eCd_w192
  | 193 => exact eCd_of eCd_w193
  | 194 => exact eCd_of eCd_w194
  | 195 => exact eCd_of eCd_w195
  | 196 => exact eCd_of eCd_w196
  | 197 => exact eCd_of eCd_w197
  | 198 => exact eCd_of eCd_w198
  | 199 => exact eCd_of eCd_w199
  | 200 => exact eCd_of eCd_w200
  | 201 => exact eCd_of eCd_w201
  | 202 => exact eCd_of eCd_w202
  | n + 203 => exact fun q h => absurd h List.not_mem_nil
end
section
/-! THE ENGINE: a machine of our own over the same instructions, whose cells are numbered from 0 and whose arrays are functions; part 04 says that what it does the real one does. -/
abbrev eC : Type := (Nat × Nat × ((Nat → Int32) ⊕ (Nat → Int64))) ⊕ (Nat × List Value)
abbrev eH : Type := List eC
abbrev eL : Type := List (Option Value)
abbrev eO : Type := Nat × (Nat → Int32)
abbrev eF : Type := Nat × eL × List Value × eH
abbrev eR : Type := eF ⊕ ((Option Value × eH) ⊕ (Nat × List Value × eF))
def eFind {α : Type} : List (Nat × α) → Nat → Option α
  | [], _ => none
  | (a, b) :: l, k => match Nat.beq a k with
    | true => some b
    | false => eFind l k
theorem eFind_mem {α : Type} : ∀ {l : List (Nat × α)} {k : Nat} {b : α}, eFind l k = some b → (k, b) ∈ l
  | [], _, _, h => by cases h
  | (a, c) :: l, k, b, h => by
    unfold eFind at h
    split at h
    · next hb =>
      have := Nat.eq_of_beq_eq_true hb
      subst this
      cases h
      exact List.mem_cons_self
    · exact List.mem_cons_of_mem _ (eFind_mem h)
/-- cells that nobody writes: 0 the script, 1 ORDERS_BEHIND, 2 the text, 3 its bytes -/
def eRoA (o : eO) (k : Nat) : Option (Nat × Nat × (Nat → Int32)) := match k with
  | 0 => some (0, o.1, o.2)
  | 1 => some (0, 4, fun j => ([6, 2, 2, 6] : List Int32).getD j 0)
  | 3 => some (4, 4, fun j => ([104, 98, 99, 114] : List Int32).getD j 0)
  | _ => none
def eOwn (k : Nat) : Nat := eOw.getD k 0
def eGs (own idx : Nat) : Option Value := match own, idx with
  | 5, 88 => some (.retAddr 1)
  | 11, 38 => some (.int 1)
  | _, _ => none
def eRf (own idx : Nat) : Option Value := match own, idx with
  | 11, 9 => some (.retAddr 3)
  | 11, 15 => some (.int 0)
  | _, _ => none
def eLs1 (own idx : Nat) : Bool := match own, idx with
  | 3, 51 => true
  | _, _ => false
def eHas : List (Nat × Nat) → Nat → Nat → Bool
  | [], _, _ => false
  | (a, b) :: l, x, y => match Nat.beq a x, Nat.beq b y with
    | true, true => true
    | _, _ => eHas l x y
def eLd (L : eL) (i : Nat) : Option Value := match L[i]? with
  | some (some v) => some v
  | _ => none
def eKill (L : eL) : Nat → eL
  | 0 => L
  | i + 1 => match L[i]? with
    | some (some (.long _)) => L.set i none
    | some (some (.double _)) => L.set i none
    | _ => L
def eSt1 (L : eL) (i : Nat) (v : Value) : eL := (eKill L i).set i (some v)
def eSt2 (L : eL) (i : Nat) (v : Value) : eL := ((eKill L i).set i (some v)).set (i + 1) none
def eFit : FieldType → Value → Bool
  | .int, .int _ => true
  | .boolean, .int x => x == 0 || x == 1
  | .char, .int x => 0 ≤ x && x ≤ 65535
  | .byte, .int x => -128 ≤ x && x ≤ 127
  | .long, .long _ => true
  | .array _, .ref _ => true
  | .object _, .ref _ => true
  | _, _ => false
def eCmp : ClassFile.Cond → Int32 → Int32 → Bool
  | .eq, x, y => decide (x = y)
  | .ne, x, y => !decide (x = y)
  | .lt, x, y => decide (x < y)
  | .ge, x, y => decide (y ≤ x)
  | .gt, x, y => decide (y < x)
  | .le, x, y => decide (x ≤ y)
def eTgt (pc : Nat) (off : Int) : Nat := ((pc : Int) + off).toNat
/-- the first locals of a method, out of its arguments -/
def eArgs : List Value → eL
  | [] => []
  | .long x :: vs => some (.long x) :: none :: eArgs vs
  | .double x :: vs => some (.double x) :: none :: eArgs vs
  | v :: vs => some v :: eArgs vs
def eEnt (k : Nat) (vs : List Value) : eL := eArgs vs ++ List.replicate (eMx.getD k 0 - (eArgs vs).length) none
def eOut (i : Int32) (n : Nat) : Bool := decide (i < 0) || Nat.ble n i.toNatClampNeg
def eTag : ArrayType → Option Nat
  | .int => some 0
  | .long => some 1
  | .boolean => some 2
  | .char => some 3
  | _ => none
def eNew (t n : Nat) : eC := match t with
  | 1 => .inl (1, n, .inr (fun _ => 0))
  | t => .inl (t, n, .inl (fun _ => 0))
def eDef : FieldType → Value
  | .int => .int 0
  | .boolean => .int 0
  | .char => .int 0
  | .byte => .int 0
  | .short => .int 0
  | .long => .long 0
  | .float => .float 0
  | .double => .double 0
  | _ => .null
/-- n arguments off the stack, the first one first -/
def ePop : Nat → List Value → List Value → Option (List Value × List Value)
  | 0, acc, st => some (acc, st)
  | n + 1, acc, v :: st => ePop n (v :: acc) st
  | _ + 1, _, [] => none
def eCat2 : Value → Bool
  | .long _ => true
  | .double _ => true
  | _ => false
def eWords : List Value → Nat
  | [] => 0
  | v :: l => (match eCat2 v with | true => 2 | false => 1) + eWords l
/-- pushes -/
def ePush (pc : Nat) (L : eL) (st : List Value) (H : eH) (v : Value) : Option eR := some (.inl (pc, L, v :: st, H))
/-- instructions on the operand stack and the locals alone -/
def eLoc (own : Nat) (i : Instr) (pc : Nat) (L : eL) (st : List Value) (H : eH) : Option eR := match i with
  | .iconst n => ePush (pc + 1) L st H (.int (Int32.ofInt n))
  | .bipush n => ePush (pc + 2) L st H (.int (Int8.ofInt n).toInt32)
  | .sipush n => ePush (pc + 3) L st H (.int (Int16.ofInt n).toInt32)
  | .lconst n => ePush (pc + 1) L st H (.long (Int64.ofNat (n : Nat)))
  | .ldc idx => match eLs1 own idx with
    | true => ePush (pc + 2) L st H (.retAddr 2)
    | false => match eFind (eLk own) idx with
      | some x => ePush (pc + 2) L st H (.int x)
      | none => none
  | .ldc_w idx => match eFind (eLk own) idx with
    | some x => ePush (pc + 3) L st H (.int x)
    | none => none
  | .ldc2_w idx => match eFind (eLl own) idx with
    | some x => ePush (pc + 3) L st H (.long x)
    | none => none
  | .iload j => match eLd L j with
    | some (.int x) => ePush (pc + 2) L st H (.int x)
    | _ => none
  | .iload_n j => match eLd L (j : Nat) with
    | some (.int x) => ePush (pc + 1) L st H (.int x)
    | _ => none
  | .lload j => match eLd L j with
    | some (.long x) => ePush (pc + 2) L st H (.long x)
    | _ => none
  | .lload_n j => match eLd L (j : Nat) with
    | some (.long x) => ePush (pc + 1) L st H (.long x)
    | _ => none
  | .aload j => match eLd L j with
    | some (.ref x) => ePush (pc + 2) L st H (.ref x)
    | some (.retAddr x) => ePush (pc + 2) L st H (.retAddr x)
    | _ => none
  | .aload_n j => match eLd L (j : Nat) with
    | some (.ref x) => ePush (pc + 1) L st H (.ref x)
    | some (.retAddr x) => ePush (pc + 1) L st H (.retAddr x)
    | _ => none
  | .istore j => match st with
    | .int x :: st => some (.inl (pc + 2, eSt1 L j (.int x), st, H))
    | _ => none
  | .istore_n j => match st with
    | .int x :: st => some (.inl (pc + 1, eSt1 L (j : Nat) (.int x), st, H))
    | _ => none
  | .lstore j => match st with
    | .long x :: st => some (.inl (pc + 2, eSt2 L j (.long x), st, H))
    | _ => none
  | .lstore_n j => match st with
    | .long x :: st => some (.inl (pc + 1, eSt2 L (j : Nat) (.long x), st, H))
    | _ => none
  | .astore_n j => match st with
    | .ref x :: st => some (.inl (pc + 1, eSt1 L (j : Nat) (.ref x), st, H))
    | _ => none
  | .iinc j n => match eLd L j with
    | some (.int x) => some (.inl (pc + 3, eSt1 L j (.int (x + Int32.ofInt n)), st, H))
    | _ => none
  | .pop => match st with
    | .int _ :: st => some (.inl (pc + 1, L, st, H))
    | _ => none
  | .dup => match st with
    | .int x :: st => some (.inl (pc + 1, L, .int x :: .int x :: st, H))
    | .ref x :: st => some (.inl (pc + 1, L, .ref x :: .ref x :: st, H))
    | _ => none
  | .dup2 => match st with
    | .int x :: .ref y :: st => some (.inl (pc + 1, L, .int x :: .ref y :: .int x :: .ref y :: st, H))
    | _ => none
  | .goto off => some (.inl (eTgt pc off, L, st, H))
  | .ifCond c off => match st with
    | .int x :: st => some (.inl (match eCmp c x 0 with | true => eTgt pc off | false => pc + 3, L, st, H))
    | _ => none
  | .if_icmp c off => match st with
    | .int y :: .int x :: st => some (.inl (match eCmp c x y with | true => eTgt pc off | false => pc + 3, L, st, H))
    | _ => none
  | .tableswitch d lo hi offs => match st with
    | .int x :: st => some (.inl (if x.toInt < lo ∨ hi < x.toInt then eTgt pc d else eTgt pc (offs.toList.getD (x.toInt - lo).toNat d), L, st, H))
    | _ => none
  | _ => none
/-- arithmetic -/
def eAri (i : Instr) (pc : Nat) (L : eL) (st : List Value) (H : eH) : Option eR := match i, st with
  | .iadd, .int y :: .int x :: st => ePush (pc + 1) L st H (.int (x + y))
  | .isub, .int y :: .int x :: st => ePush (pc + 1) L st H (.int (x - y))
  | .imul, .int y :: .int x :: st => ePush (pc + 1) L st H (.int (x * y))
  | .iand, .int y :: .int x :: st => ePush (pc + 1) L st H (.int (x &&& y))
  | .ior, .int y :: .int x :: st => ePush (pc + 1) L st H (.int (x ||| y))
  | .ixor, .int y :: .int x :: st => ePush (pc + 1) L st H (.int (x ^^^ y))
  | .ishl, .int y :: .int x :: st => ePush (pc + 1) L st H (.int (x <<< (y &&& 31)))
  | .ishr, .int y :: .int x :: st => ePush (pc + 1) L st H (.int (x >>> (y &&& 31)))
  | .iushr, .int y :: .int x :: st => ePush (pc + 1) L st H (.int (x.toUInt32 >>> (y.toUInt32 &&& Int32.toUInt32 31)).toInt32)
  | .idiv, .int y :: .int x :: st => if y = 0 then none else ePush (pc + 1) L st H (.int (x / y))
  | .irem, .int y :: .int x :: st => if y = 0 then none else ePush (pc + 1) L st H (.int (x - x / y * y))
  | .ineg, .int x :: st => ePush (pc + 1) L st H (.int (-x))
  | .i2l, .int x :: st => ePush (pc + 1) L st H (.long x.toInt64)
  | .i2b, .int x :: st => ePush (pc + 1) L st H (.int x.toInt8.toInt32)
  | .i2c, .int x :: st => ePush (pc + 1) L st H (.int (x.toUInt32 % 65536).toInt32)
  | .i2s, .int x :: st => ePush (pc + 1) L st H (.int x.toInt16.toInt32)
  | .l2i, .long x :: st => ePush (pc + 1) L st H (.int x.toInt32)
  | .lsub, .long y :: .long x :: st => ePush (pc + 1) L st H (.long (x - y))
  | .land, .long y :: .long x :: st => ePush (pc + 1) L st H (.long (x &&& y))
  | .lor, .long y :: .long x :: st => ePush (pc + 1) L st H (.long (x ||| y))
  | .lshl, .int y :: .long x :: st => ePush (pc + 1) L st H (.long (x <<< (y.toInt64 &&& 63)))
  | .lshr, .int y :: .long x :: st => ePush (pc + 1) L st H (.long (x >>> (y.toInt64 &&& 63)))
  | .lushr, .int y :: .long x :: st => ePush (pc + 1) L st H (.long (x.toUInt64 >>> (y.toInt64.toUInt64 &&& Int64.toUInt64 63)).toInt64)
  | .lcmp, .long y :: .long x :: st => ePush (pc + 1) L st H (.int (lg_cmp x y))
  | _, _ => none
/-- cells -/
def eHp (o : eO) (own : Nat) (ini : Bool) (i : Instr) (pc : Nat) (L : eL) (st : List Value) (H : eH) : Option eR := match i, st with
  | .getfield idx, .ref h :: st => match eFind (eLf own) idx, H[h]? with
    | some (ci, k), some (.inr (cj, fs)) => match Nat.beq ci cj, fs[k]? with
      | true, some v => ePush (pc + 3) L st H v
      | _, _ => none
    | _, _ => none
  | .getfield idx, .retAddr 2 :: st => match eRf own idx with
    | some v => ePush (pc + 3) L st H v
    | none => none
  | .putfield idx, v :: .ref h :: st => match eFind (eLf own) idx, H[h]? with
    | some (ci, k), some (.inr (cj, fs)) => match Nat.beq ci cj, Nat.blt k fs.length, (eFd ci)[k]?, (eFt ci)[k]? with
      | true, true, some (_, _, _, fin), some ty => match eFit ty v, fin, ini && Nat.beq own ci with
        | true, false, _ => some (.inl (pc + 3, L, st, H.set h (.inr (ci, fs.set k v))))
        | true, true, true => some (.inl (pc + 3, L, st, H.set h (.inr (ci, fs.set k v))))
        | _, _, _ => none
      | _, _, _, _ => none
    | _, _ => none
  | .getstatic idx, st => match eGs own idx with
    | some v => ePush (pc + 3) L st H v
    | none => none
  | .iaload, .int i :: .ref h :: st => match H[h]? with
    | some (.inl (0, n, .inl f)) => match eOut i n with
      | true => none
      | false => ePush (pc + 1) L st H (.int (f i.toNatClampNeg))
    | _ => none
  | .iaload, .int i :: .retAddr k :: st => match eRoA o k with
    | some (0, n, f) => match eOut i n with
      | true => none
      | false => ePush (pc + 1) L st H (.int (f i.toNatClampNeg))
    | _ => none
  | .baload, .int i :: .ref h :: st => match H[h]? with
    | some (.inl (2, n, .inl f)) => match eOut i n with
      | true => none
      | false => ePush (pc + 1) L st H (.int (f i.toNatClampNeg))
    | _ => none
  | .baload, .int i :: .retAddr k :: st => match eRoA o k with
    | some (4, n, f) => match eOut i n with
      | true => none
      | false => ePush (pc + 1) L st H (.int (f i.toNatClampNeg))
    | _ => none
  | .caload, .int i :: .ref h :: st => match H[h]? with
    | some (.inl (3, n, .inl f)) => match eOut i n with
      | true => none
      | false => ePush (pc + 1) L st H (.int (f i.toNatClampNeg))
    | _ => none
  | .laload, .int i :: .ref h :: st => match H[h]? with
    | some (.inl (1, n, .inr f)) => match eOut i n with
      | true => none
      | false => ePush (pc + 1) L st H (.long (f i.toNatClampNeg))
    | _ => none
  | .iastore, .int x :: .int i :: .ref h :: st => match H[h]? with
    | some (.inl (0, n, .inl f)) => match eOut i n with
      | true => none
      | false => some (.inl (pc + 1, L, st, H.set h (.inl (0, n, .inl (upd f i.toNatClampNeg x)))))
    | _ => none
  | .bastore, .int x :: .int i :: .ref h :: st => match H[h]? with
    | some (.inl (2, n, .inl f)) => match eOut i n with
      | true => none
      | false => some (.inl (pc + 1, L, st, H.set h (.inl (2, n, .inl (upd f i.toNatClampNeg (vp_nar .boolean x))))))
    | _ => none
  | .castore, .int x :: .int i :: .ref h :: st => match H[h]? with
    | some (.inl (3, n, .inl f)) => match eOut i n with
      | true => none
      | false => some (.inl (pc + 1, L, st, H.set h (.inl (3, n, .inl (upd f i.toNatClampNeg (vp_nar .char x))))))
    | _ => none
  | .lastore, .long x :: .int i :: .ref h :: st => match H[h]? with
    | some (.inl (1, n, .inr f)) => match eOut i n with
      | true => none
      | false => some (.inl (pc + 1, L, st, H.set h (.inl (1, n, .inr (vp_updL f i.toNatClampNeg x)))))
    | _ => none
  | .arraylength, .ref h :: st => match H[h]? with
    | some (.inl (t, n, _)) => match Nat.blt t 5 with
      | true => ePush (pc + 1) L st H (.int (Int32.ofNat n))
      | false => none
    | _ => none
  | .arraylength, .retAddr k :: st => match eRoA o k with
    | some (_, n, _) => ePush (pc + 1) L st H (.int (Int32.ofNat n))
    | none => none
  | .newarray ty, .int n :: st => match eTag ty with
    | some t => if n < 0 ∨ 67108864 < n.toNatClampNeg then none else some (.inl (pc + 2, L, .ref H.length :: st, H ++ [eNew t n.toNatClampNeg]))
    | none => none
  | .new idx, st => match eFind (eLn own) idx with
    | some ci => some (.inl (pc + 3, L, .ref H.length :: st, H ++ [.inr (ci, (eFt ci).map eDef)]))
    | none => none
  | _, _ => none
/-- arraycopy of one kind of array -/
def eCpy (st : List Value) (H : eH) : Option (List Value × eH) := match st with
  | .int n :: .int dp :: .ref b :: .int sp :: .ref a :: st => if sp < 0 ∨ dp < 0 ∨ n < 0 then none else match H[a]?, H[b]? with
    | some (.inl (0, n0, .inl f)), some (.inl (0, n1, .inl g)) => match Nat.ble (sp.toNatClampNeg + n.toNatClampNeg) n0, Nat.ble (dp.toNatClampNeg + n.toNatClampNeg) n1, Nat.ble (eWords st) 8 with
      | true, true, true => some (st, H.set b (.inl (0, n1, .inl (va_cpy f g sp.toNatClampNeg dp.toNatClampNeg n.toNatClampNeg))))
      | _, _, _ => none
    | some (.inl (1, n0, .inr f)), some (.inl (1, n1, .inr g)) => match Nat.ble (sp.toNatClampNeg + n.toNatClampNeg) n0, Nat.ble (dp.toNatClampNeg + n.toNatClampNeg) n1, Nat.ble (eWords st) 8 with
      | true, true, true => some (st, H.set b (.inl (1, n1, .inr (va_cpy f g sp.toNatClampNeg dp.toNatClampNeg n.toNatClampNeg))))
      | _, _, _ => none
    | _, _ => none
  | _ => none
/-- Math's own: the machine runs them by entries of its own -/
def eMth (q : Nat) (st : List Value) : Option (Option (Value × List Value)) := match q, st with
  | 36, .int y :: .int x :: st => some (some (.int (if x < y then y else x), st))
  | 37, .int y :: .int x :: st => some (some (.int (if y < x then y else x), st))
  | 84, .int x :: st => some (some (.int (if 0 ≤ x then x else 0 - x), st))
  | 36, _ => some none
  | 37, _ => some none
  | 84, _ => some none
  | _, _ => none
/-- calls and returns -/
def eCall (k own : Nat) (i : Instr) (pc : Nat) (L : eL) (st : List Value) (H : eH) : Option eR := match i with
  | .invokestatic idx => match eHas eAc own idx with
    | true => match eCpy st H with
      | some (st, H) => some (.inl (pc + 3, L, st, H))
      | none => none
    | false => match eFind (eLs own) idx with
      | some q => match eMth q st with
        | some (some (v, st)) => match Nat.ble (eWords st) 7 with
          | true => some (.inl (pc + 3, L, v :: st, H))
          | false => none
        | some none => none
        | none => match ePop (eNa.getD q 0) [] st with
          | some (as, st) => match Nat.ble (eWords st) 8 with
            | true => some (.inr (.inr (q, as, (pc + 3, L, st, H))))
            | false => none
          | none => none
      | none => none
  | .invokevirtual idx => match eFind (eLv own) idx with
    | some q => match ePop (eNa.getD q 0) [] st with
      | some (as, .ref h :: st) => match H[h]?, Nat.ble (eWords st) 8 with
        | some (.inr (cj, _)), true => match Nat.beq cj (eOwn q) with
          | true => some (.inr (.inr (q, .ref h :: as, (pc + 3, L, st, H))))
          | false => none
        | _, _ => none
      | some (as, .retAddr 2 :: st) => match Nat.beq 11 (eOwn q), Nat.ble (eWords st) 8 with
        | true, true => some (.inr (.inr (q, .retAddr 2 :: as, (pc + 3, L, st, H))))
        | _, _ => none
      | _ => none
    | none => none
  | .invokespecial idx => match eHas eOi own idx with
    | true => match st with
      | .ref _ :: st => match Nat.ble (eWords st) 8 with
        | true => some (.inl (pc + 3, L, st, H))
        | false => none
      | _ => none
    | false => match eFind (eLi own) idx, eFind (eLm own) idx, st with
      | some q, _, .ref h :: st => match Nat.ble (eWords st) 8, eNa.getD q 1 with
        | true, 0 => some (.inr (.inr (q, [.ref h], (pc + 3, L, st, H))))
        | _, _ => none
      | none, some q, .ref h :: st => match Nat.ble (eWords st) 8, eNa.getD q 1 with
        | true, 0 => some (.inr (.inr (q, [.ref h], (pc + 3, L, st, H))))
        | _, _ => none
      | _, _, _ => none
  | .ireturn => match st, eRt.getD k none with
    | [.int x], some ty => match eFit ty (.int x) with
      | true => some (.inr (.inl (some (.int x), H)))
      | false => none
    | _, _ => none
  | .lreturn => match st, eRt.getD k none with
    | [.long x], some .long => some (.inr (.inl (some (.long x), H)))
    | _, _ => none
  | .areturn => match st, eRt.getD k none with
    | [.ref h], some (.array _) => some (.inr (.inl (some (.ref h), H)))
    | _, _ => none
  | .return_ => match st, eRt.getD k (some .int) with
    | [], none => some (.inr (.inl (none, H)))
    | _, _ => none
  | _ => none
/-- 0 stack and locals, 1 arithmetic, 2 cells, 3 calls -/
def eKd : Instr → Nat
  | .iadd | .isub | .imul | .iand | .ior | .ixor | .ishl | .ishr | .iushr | .idiv | .irem | .ineg | .i2l | .i2b | .i2c | .i2s | .l2i | .lsub | .land | .lor | .lshl | .lshr | .lushr | .lcmp => 1
  | .getfield _ | .putfield _ | .getstatic _ | .iaload | .baload | .caload | .laload | .iastore | .bastore | .castore | .lastore | .arraylength | .newarray _ | .new _ => 2
  | .invokestatic _ | .invokevirtual _ | .invokespecial _ | .ireturn | .lreturn | .areturn | .return_ => 3
  | _ => 0
def eIni (k : Nat) : Bool := match k with
  | 0 | 1 | 2 | 3 | 4 | 5 | 6 | 128 => true
  | _ => false
def eStep (o : eO) (k : Nat) (i : Instr) (pc : Nat) (L : eL) (st : List Value) (H : eH) : Option eR := match eKd i with
  | 0 => eLoc (eOwn k) i pc L st H
  | 1 => eAri i pc L st H
  | 2 => eHp o (eOwn k) (eIni k) i pc L st H
  | _ => eCall k (eOwn k) i pc L st H
def eAt (k pc : Nat) : Option (Instr × Nat) := eFind (eCd k) pc
/-- a method from a place on, within n steps -/
def eX (o : eO) : Nat → Nat → Nat → eL → List Value → eH → Option (Option Value × eH)
  | 0, _, _, _, _, _ => none
  | n + 1, k, pc, L, st, H => match eAt k pc with
    | none => none
    | some (i, _) => match eStep o k i pc L st H with
      | none => none
      | some (.inl (pc', L', st', H')) => eX o n k pc' L' st' H'
      | some (.inr (.inl r)) => some r
      | some (.inr (.inr (q, as, (pc', L', st', H')))) => match Nat.ble (eArgs as).length (eMx.getD q 0), eX o n q 0 (eEnt q as) [] H' with
        | true, some (v, H1) => eX o n k pc' L' (v.toList ++ st') H1
        | _, _ => none
/-- how long an instruction is, which locals it touches, where it may go: looked at once for every row of the tables -/
def eLen (i : Instr) (d : Nat) : Nat := match i with
  | .bipush _ | .ldc _ | .iload _ | .lload _ | .aload _ | .istore _ | .lstore _ | .newarray _ => 2
  | .sipush _ | .ldc_w _ | .ldc2_w _ | .iinc _ _ | .goto _ | .ifCond _ _ | .if_icmp _ _ | .getfield _ | .putfield _ | .getstatic _ | .new _ | .invokestatic _ | .invokevirtual _ | .invokespecial _ => 3
  | .tableswitch _ _ _ _ => d
  | .checkcast _ => d
  | _ => 1
def eIx : Instr → Nat
  | .istore j => j
  | .istore_n j => (j : Nat)
  | .lstore j => j + 1
  | .lstore_n j => (j : Nat) + 1
  | .astore_n j => (j : Nat)
  | .iinc j _ => j
  | _ => 0
def eOff : Instr → List Int
  | .goto off => [off]
  | .ifCond _ off => [off]
  | .if_icmp _ off => [off]
  | .tableswitch d _ _ offs => d :: offs.toList
  | _ => []
def eSwi : Instr → Bool
  | .tableswitch _ lo hi offs => decide (lo ≤ hi) && decide (offs.toList.length = (hi - lo + 1).toNat)
  | _ => true
/-- the room of a call among the caller's -/
def eFits (k q : Nat) : Bool := Nat.ble (eFr.getD q 0 + 1) (eFr.getD k 0) && Nat.ble (8 + (eMx.getD q 0 + 11) + eLo.getD q 0) (eLo.getD k 0)
def eEdge (k : Nat) (i : Instr) : Bool := match i with
  | .invokestatic idx => match eHas eAc (eOwn k) idx with
    | true => Nat.ble 1 (eFr.getD k 0) && Nat.ble 26 (eLo.getD k 0)
    | false => match eFind (eLs (eOwn k)) idx with
      | some q => eFits k q
      | none => true
  | .invokevirtual idx => match eFind (eLv (eOwn k)) idx with
    | some q => eFits k q
    | none => true
  | .invokespecial idx => match eHas eOi (eOwn k) idx with
    | true => Nat.ble 1 (eFr.getD k 0) && Nat.ble 20 (eLo.getD k 0)
    | false => match eFind (eLi (eOwn k)) idx, eFind (eLm (eOwn k)) idx with
      | some q, _ => eFits k q
      | none, some q => eFits k q
      | none, none => true
  | _ => true
def eChk (k : Nat) (q : Nat × Instr × Nat) : Bool := Nat.beq q.2.2 (eLen q.2.1 q.2.2) && Nat.blt (eIx q.2.1) (eMx.getD k 0) && ((eOff q.2.1).all fun off => decide (0 ≤ (q.1 : Int) + off)) && eSwi q.2.1 && eEdge k q.2.1
end
section
set_option maxRecDepth 100000 in
theorem eChk_w : ((List.range 203).all fun k => (eCd k).all (eChk k)) = true := by decide +kernel
theorem eCd_big (n : Nat) : eCd (n + 203) = [] := rfl
theorem eChk_ok (k : Nat) : ∀ q ∈ eCd k, eChk k q = true := by
  intro q hq
  by_cases hk : k < 203
  · exact List.all_eq_true.mp (List.all_eq_true.mp eChk_w k (List.mem_range.mpr hk)) q hq
  · rw [show k = (k - 203) + 203 by omega, eCd_big] at hq
    exact absurd hq List.not_mem_nil
set_option maxRecDepth 100000 in
theorem eMok_w1 : ((List.range 203).all fun k => decide (eN (eOwn k) = (eM k).cls)) = true := by decide +kernel
set_option maxRecDepth 100000 in
theorem eMok_w2 : ((List.range 203).all fun k => decide ((eM k).cls ≠ "java/lang/invoke/MethodHandle") && decide ((eM k).cls ≠ "java/lang/invoke/VarHandle")) = true := by decide +kernel
set_option maxRecDepth 100000 in
theorem eMok_w3 : ((List.range 203).all fun k => decide ((parseMethodDescriptor (eM k).desc).map (fun d => d.parameters.length) = some (eNa.getD k 0))) = true := by decide +kernel
set_option maxRecDepth 100000 in
theorem eMok_w4 : ((List.range 203).all fun k => plainName (eM k).cls || Nat.beq k 36 || Nat.beq k 37 || Nat.beq k 84) = true := by decide +kernel
set_option maxRecDepth 100000 in
theorem eMth_n : eM 36 = Lib.Math.max.name ∧ eM 37 = Lib.Math.min.name ∧ eM 84 = Lib.Math.abs.name ∧ eBy 36 = Lib.Math.max.code ∧ eBy 37 = Lib.Math.min.code ∧ eBy 84 = Lib.Math.abs.code := by decide +kernel
set_option maxRecDepth 100000 in
theorem eMok_w5 : ((List.range 203).all fun k => (!(eIni k) || decide ((eM k).name = "<init>"))) = true := by decide +kernel
set_option maxRecDepth 100000 in
theorem eLi_ini : ((List.range 14).all fun own => ((eLi own).all fun q => eIni q.2 && Nat.blt q.2 202) && ((eLm own).all fun q => eIni q.2 && Nat.blt q.2 202 && Nat.beq own 6) && ((eLs own).all fun q => Nat.blt q.2 202) && ((eLv own).all fun q => Nat.blt q.2 202) && ((eLf own).all fun q => Nat.blt q.2.1 8 && Nat.blt q.2.2 (eFt q.2.1).length) && ((eLn own).all fun q => Nat.blt q.2 8)) = true := by decide +kernel
theorem eOwn_lt : ((List.range 203).all fun k => Nat.blt (eOwn k) 14) = true := by decide +kernel
end
section
/-! ===== what the engine's words are over the real machine ===== -/
def eRe (B : Nat) (ro : Nat → Nat) : Value → Value
  | .ref h => .ref (B + h)
  | .retAddr k => .ref (ro k)
  | v => v
def eReC (B : Nat) (ro : Nat → Nat) (cA : Nat → ClassId) : eC → va_E
  | .inl (t, n, .inl f) => .inl (cA t, n, .inl f)
  | .inl (t, n, .inr f) => .inl (cA t, n, .inr (.inl f))
  | .inr (ci, fs) => .inr (ci, fs.map (eRe B ro))
def eWd (B : Nat) (ro : Nat → Nat) (cA : Nat → ClassId) (H : eH) : va_W := H.mapIdx (fun i e => (B + i, eReC B ro cA e))
def eTys (cA : Nat → ClassId) : List (ClassId × FieldType) := [(cA 0, .int), (cA 1, .long), (cA 2, .boolean), (cA 3, .char), (cA 4, .byte)]
def eA (B : Nat) : Nat → Prop := fun q => B ≤ q
theorem eRe_cat (B : Nat) (ro : Nat → Nat) (v : Value) : (eRe B ro v).category = v.category := by cases v <;> rfl
theorem eWd_get {B : Nat} {ro : Nat → Nat} {cA : Nat → ClassId} {H : eH} {h : Nat} {e : eC} (he : H[h]? = some e) : (eWd B ro cA H)[h]? = some (B + h, eReC B ro cA e) := by
  simp [eWd, he]
theorem eWd_set {B : Nat} {ro : Nat → Nat} {cA : Nat → ClassId} {H : eH} {h : Nat} {e : eC} : (eWd B ro cA H).set h (B + h, eReC B ro cA e) = eWd B ro cA (H.set h e) := by
  apply List.ext_getElem?
  intro i
  simp only [eWd, List.getElem?_set, List.getElem?_mapIdx, List.length_mapIdx]
  by_cases hi : h = i
  · subst hi
    by_cases hl : h < H.length <;> simp [hl]
  · simp [hi]
theorem eWd_app {B : Nat} {ro : Nat → Nat} {cA : Nat → ClassId} {H : eH} {e : eC} : eWd B ro cA (H ++ [e]) = eWd B ro cA H ++ [(B + H.length, eReC B ro cA e)] := by
  simp [eWd, List.mapIdx_append]
theorem eWd_at {B : Nat} {ro : Nat → Nat} {cA : Nat → ClassId} {H : eH} {k : Nat} {q : Nat × va_E} (h : (eWd B ro cA H)[k]? = some q) : q.1 = B + k ∧ k < H.length := by
  simp only [eWd, List.getElem?_mapIdx, Option.map_eq_some_iff] at h
  obtain ⟨e, he, rfl⟩ := h
  exact ⟨rfl, (List.getElem?_eq_some_iff.mp he).1⟩
theorem eWd_D (B : Nat) (ro : Nat → Nat) (cA : Nat → ClassId) (H : eH) : va_D (eA B) (eWd B ro cA H) := by
  refine ⟨fun i j p q hi hj hpq => ?_, fun k q hk => ?_⟩
  · have h1 := (eWd_at hi).1
    have h2 := (eWd_at hj).1
    omega
  · have h1 := (eWd_at hk).1
    show B ≤ q.1
    omega
/-! locals -/
def ePairs (B : Nat) (ro : Nat → Nat) (L : eL) : List (Nat × Value) := (List.range L.length).filterMap (fun i => (eLd L i).map (fun v => (i, eRe B ro v)))
theorem eLd_lt {L : eL} {i : Nat} {v : Value} (h : eLd L i = some v) : L[i]? = some (some v) := by
  unfold eLd at h
  split at h
  · next w hw => cases h; exact hw
  · cases h
theorem eLd_of {L : eL} {i : Nat} {v : Value} (h : L[i]? = some (some v)) : eLd L i = some v := by
  unfold eLd; rw [h]
theorem ePairs_in {B : Nat} {ro : Nat → Nat} {L : eL} {i : Nat} {v : Value} (h : eLd L i = some v) : (i, eRe B ro v) ∈ ePairs B ro L := by
  have hl : i < L.length := (List.getElem?_eq_some_iff.mp (eLd_lt h)).1
  exact List.mem_filterMap.mpr ⟨i, List.mem_range.mpr hl, by rw [h]; rfl⟩
theorem ePairs_of {B : Nat} {ro : Nat → Nat} {L : eL} {q : Nat × Value} (h : q ∈ ePairs B ro L) : ∃ v, eLd L q.1 = some v ∧ q.2 = eRe B ro v := by
  obtain ⟨i, -, hi⟩ := List.mem_filterMap.mp h
  obtain ⟨v, hv, rfl⟩ := Option.map_eq_some_iff.mp hi
  exact ⟨v, hv, rfl⟩
def eLc (B : Nat) (ro : Nat → Nat) (ls : Array Slot) (n : Nat) (L : eL) : Prop := lv_has ls n (ePairs B ro L) ∧ L.length = n
theorem eLc_get {B : Nat} {ro : Nat → Nat} {ls : Array Slot} {n : Nat} {L : eL} {i : Nat} {v : Value} (h : eLc B ro ls n L) (hv : eLd L i = some v) : ls[i]? = some (.val (eRe B ro v)) := h.1.2.2 (i, eRe B ro v) (ePairs_in hv)
theorem eLc_of {B : Nat} {ro : Nat → Nat} {ls : Array Slot} {n : Nat} {L : eL} {lv : List (Nat × Value)} (h : lv_has ls n lv) (hl : L.length = n) (hi : ∀ i v, eLd L i = some v → (i, eRe B ro v) ∈ lv) : eLc B ro ls n L := by
  refine ⟨⟨h.1, h.2.1, fun q hq => ?_⟩, hl⟩
  obtain ⟨v, hv, e⟩ := ePairs_of hq
  rw [e]
  exact h.2.2 _ (hi _ _ hv)
theorem eKill_len (L : eL) (i : Nat) : (eKill L i).length = L.length := by
  cases i with
  | zero => rfl
  | succ i => simp only [eKill]; split <;> first | rfl | simp
theorem eKill_get {L : eL} {i j : Nat} {w : Value} (h : eLd (eKill L i) j = some w) : eLd L j = some w ∧ ¬ (j + 1 = i ∧ w.category = 2) := by
  cases i with
  | zero => exact ⟨h, fun q => absurd q.1 (by omega)⟩
  | succ i =>
    simp only [eKill] at h
    have key : ∀ (hs : eLd (L.set i none) j = some w), eLd L j = some w ∧ ¬ (j + 1 = i + 1 ∧ w.category = 2) := by
      intro hs
      have h1 := eLd_lt hs
      by_cases hj : i = j
      · subst hj
        rw [List.getElem?_set_self'] at h1
        cases hq : L[i]? <;> rw [hq] at h1 <;> simp at h1
      · rw [List.getElem?_set_ne hj] at h1
        exact ⟨eLd_of h1, fun q => hj (by omega)⟩
    split at h
    · exact key h
    · exact key h
    · next h2 h3 =>
      refine ⟨h, fun q => ?_⟩
      have h1 := eLd_lt h
      have hj : j = i := by omega
      subst hj
      cases w with
      | long x => exact h2 x h1
      | double x => exact h3 x h1
      | _ => exact absurd q.2 (by simp [Value.category])
theorem eSt1_get {L : eL} {i j : Nat} {v w : Value} (h : eLd (eSt1 L i v) j = some w) : (j = i ∧ w = v) ∨ (j ≠ i ∧ eLd L j = some w ∧ ¬ (j + 1 = i ∧ w.category = 2)) := by
  by_cases hj : j = i
  · subst hj
    have h1 := eLd_lt h
    unfold eSt1 at h1
    rw [List.getElem?_set_self'] at h1
    cases hq : (eKill L j)[j]? <;> rw [hq] at h1 <;> simp at h1
    exact Or.inl ⟨rfl, h1.symm⟩
  · have h1 := eLd_lt h
    unfold eSt1 at h1
    rw [List.getElem?_set_ne (Ne.symm hj)] at h1
    exact Or.inr ⟨hj, eKill_get (eLd_of h1)⟩
theorem eLc_st1 {B : Nat} {ro : Nat → Nat} {ls' : Array Slot} {n : Nat} {L : eL} {i : Nat} {v : Value} (hlen : L.length = n)
    (h : lv_has ls' n ((i, eRe B ro v) :: (ePairs B ro L).filter (fun q => !(q.1 == i) && !(q.1 + 1 == i && q.2.category == 2)))) : eLc B ro ls' n (eSt1 L i v) := by
  refine eLc_of h (by unfold eSt1; rw [List.length_set, eKill_len, hlen]) fun j w hw => ?_
  rcases eSt1_get hw with ⟨rfl, rfl⟩ | ⟨h1, h2, h3⟩
  · exact List.mem_cons_self
  · refine List.mem_cons_of_mem _ (List.mem_filter.mpr ⟨ePairs_in h2, ?_⟩)
    simp only [Bool.and_eq_true, Bool.not_eq_true', beq_eq_false_iff_ne, ne_eq, Bool.and_eq_false_iff, eRe_cat]
    refine ⟨h1, ?_⟩
    by_cases h4 : j + 1 = i
    · exact Or.inr fun q => h3 ⟨h4, q⟩
    · exact Or.inl h4
theorem eLc_st2 {B : Nat} {ro : Nat → Nat} {ls' : Array Slot} {n : Nat} {L : eL} {i : Nat} {v : Value} (hlen : L.length = n)
    (h : lv_has ls' n ((i, eRe B ro v) :: (ePairs B ro L).filter (fun q => !(q.1 == i) && (!(q.1 == i + 1) && !(q.1 + 1 == i && q.2.category == 2))))) : eLc B ro ls' n (eSt2 L i v) := by
  refine eLc_of h (by unfold eSt2; rw [List.length_set, List.length_set, eKill_len, hlen]) fun j w hw => ?_
  by_cases hj : j = i + 1
  · subst hj
    have h1 := eLd_lt hw
    unfold eSt2 at h1
    rw [List.getElem?_set_self'] at h1
    cases hq : ((eKill L i).set i (some v))[i + 1]? <;> rw [hq] at h1 <;> simp at h1
  · have hw' : eLd (eSt1 L i v) j = some w := by
      have h1 := eLd_lt hw
      unfold eSt2 at h1
      rw [List.getElem?_set_ne (Ne.symm hj)] at h1
      exact eLd_of h1
    rcases eSt1_get hw' with ⟨rfl, rfl⟩ | ⟨h1, h2, h3⟩
    · exact List.mem_cons_self
    · refine List.mem_cons_of_mem _ (List.mem_filter.mpr ⟨ePairs_in h2, ?_⟩)
      simp only [Bool.and_eq_true, Bool.not_eq_true', beq_eq_false_iff_ne, ne_eq, Bool.and_eq_false_iff, eRe_cat]
      refine ⟨h1, hj, ?_⟩
      by_cases h4 : j + 1 = i
      · exact Or.inr fun q => h3 ⟨h4, q⟩
      · exact Or.inl h4
end
section
/-! ===== the frame's facts ===== -/
/-- cells that nobody writes, and the words that are no tables' -/
def eRo (o : eO) (B : Nat) (ro : Nat → Nat) (U : State) (H : Heap) : Prop :=
  va_T .int (ro 0) o.1 (fun j => .int (o.2 j)) (eA B) U H ∧ va_T .int (ro 1) 4 (fun j => .int (([6, 2, 2, 6] : List Int32).getD j 0)) (eA B) U H ∧ va_T .byte (ro 3) 4 (fun j => .int (([104, 98, 99, 114] : List Int32).getD j 0)) (eA B) U H ∧
  va_Z "DownAsUp$Ways" "ORDERS_BEHIND" "[I" (.ref (ro 1)) (eA B) U H ∧ va_Z "java/lang/String" "COMPACT_STRINGS" "Z" (.int 1) (eA B) U H ∧ vk_R "DownAsUp$Tape" 51 "hbcr" (ro 2) U ∧ va_O "java/lang/String" (ro 2) (eA B) U H ∧
  va_OF "java/lang/String" "value" "[B" (.ref (ro 3)) (ro 2) (eA B) U H ∧ va_OF "java/lang/String" "coder" "B" (.int 0) (ro 2) (eA B) U H ∧ ∀ q ∈ eLm 6, va_Nw (.methodLinkNest "DownAsUp" q.1 (eM q.2) "DownAsUp") U
def eFx (o : eO) (B : Nat) (ro : Nat → Nat) (cA : Nat → ClassId) (D : va_G) (k : Nat) (p : Program) (s : State) (m : MethodId) (args : Array Value) (meth : Method) (c : Code) : Prop :=
  p.tables.exec = Jvm.exec ∧ c.code = eBy k ∧ c.maxLocals = eMx.getD k 0 ∧ meth.sig.returnType = eRt.getD k none ∧ meth.locks = false ∧ (eIni k = true → meth.name = "<init>") ∧ s.vm.findClass (eN (eOwn k)) = some m.cls ∧ (∀ w ∈ eWs, w.before args s = true) ∧ va_K D eCl (eTys cA) s ∧ eRo o B ro s s.heap
def eIv (B : Nat) (ro : Nat → Nat) (cA : Nat → ClassId) (D : va_G) (AH : eH) (s : State) (H : Heap) (locs : List Loc) : Prop :=
  va_P D eCl (eWd B ro cA AH) H ∧ va_S (eA B) s.heap H locs
theorem eLs1_eq {a b : Nat} (h : eLs1 a b = true) : a = 3 ∧ b = 51 := by
  unfold eLs1 at h
  split at h
  · exact ⟨rfl, rfl⟩
  · cases h
section E1
variable {p : Program} {l : Launch} {e : Env} {R : Room} {s : State} {m : MethodId} {args : Array Value} {below : List Frame} {meth : Method} {c : Code} {H : Heap} {locs : List Loc} {cells slots : Nat} {Q : State → Prop}
variable {o : eO} {B : Nat} {ro : Nat → Nat} {cA : Nat → ClassId} {D : va_G} {k : Nat}
theorem eTgt_eq {pc : Nat} {off : Int} (h : 0 ≤ (pc : Int) + off) : (pc : Int) + off = ((eTgt pc off : Nat) : Int) := by
  unfold eTgt; omega
/-- stack and locals -/
theorem eLoc_ok (hF : eFx o B ro cA D k p s m args meth c) {i : Instr} {pc len : Nat} {L : eL} {st : List Value} {AH : eH} {r : eR} {ls : Array Slot}
    (hd : decode (eBy k) pc = .ok (i, len)) (hc : eChk k (pc, i, len) = true) (hl : eLc B ro ls (eMx.getD k 0) L) (h : eLoc (eOwn k) i pc L st AH = some r) :
    ∃ pc' L' st', r = .inl (pc', L', st', AH) ∧ ((∀ ls', eLc B ro ls' (eMx.getD k 0) L' → W p l e R s m args below meth c H locs cells slots Q (F0 m pc' ls' (st'.map (eRe B ro)))) → W p l e R s m args below meth c H locs cells slots Q (F0 m pc ls (st.map (eRe B ro)))) := by
  obtain ⟨hx, hb, hml, hr, hlk, hin, hown, hts, hK, hRo⟩ := hF
  simp only [eChk, Bool.and_eq_true] at hc
  obtain ⟨⟨⟨⟨hc1, hc2⟩, hc3⟩, hc4⟩, -⟩ := hc
  have hlen := Nat.eq_of_beq_eq_true hc1
  have hix : eIx i < eMx.getD k 0 := Nat.blt_eq.mp hc2 
  have hoff : ∀ off ∈ eOff i, 0 ≤ (pc : Int) + off := fun off ho => of_decide_eq_true (List.all_eq_true.mp hc3 off ho)
  have hL := hl.2
  cases i with
  | iconst n =>
    have hlen : len = 1 := hlen
    subst hlen
    cases h
    exact ⟨_, _, _, rfl, fun kk => lv_iconst hx hb hd rfl (kk ls hl)⟩
  | bipush n =>
    have hlen : len = 2 := hlen
    subst hlen
    cases h
    exact ⟨_, _, _, rfl, fun kk => lv_bipush hx hb hd rfl (kk ls hl)⟩
  | sipush n =>
    have hlen : len = 3 := hlen
    subst hlen
    cases h
    exact ⟨_, _, _, rfl, fun kk => lv_sipush hx hb hd rfl (kk ls hl)⟩
  | lconst n =>
    have hlen : len = 1 := hlen
    subst hlen
    cases h
    exact ⟨_, _, _, rfl, fun kk => lv_lconst hx hb hd rfl (kk ls hl)⟩
  | goto off =>
    have hlen : len = 3 := hlen
    subst hlen
    cases h
    exact ⟨_, _, _, rfl, fun kk => lv_goto hx hb hd (eTgt_eq (hoff off List.mem_cons_self)) (kk ls hl)⟩
  | iload j =>
    have hlen : len = 2 := hlen
    subst hlen
    simp only [eLoc] at h
    split at h
    · next x hx1 =>
      cases h
      exact ⟨_, _, _, rfl, fun kk => lv_iload hx hb hd (eLc_get hl hx1) (kk ls hl)⟩
    · cases h
  | iload_n j =>
    have hlen : len = 1 := hlen
    subst hlen
    simp only [eLoc] at h
    split at h
    · next x hx1 =>
      cases h
      exact ⟨_, _, _, rfl, fun kk => lv_iload_n hx hb hd rfl (eLc_get hl hx1) (kk ls hl)⟩
    · cases h
  | lload j =>
    have hlen : len = 2 := hlen
    subst hlen
    simp only [eLoc] at h
    split at h
    · next x hx1 =>
      cases h
      exact ⟨_, _, _, rfl, fun kk => lv_lload hx hb hd (eLc_get hl hx1) (kk ls hl)⟩
    · cases h
  | lload_n j =>
    have hlen : len = 1 := hlen
    subst hlen
    simp only [eLoc] at h
    split at h
    · next x hx1 =>
      cases h
      exact ⟨_, _, _, rfl, fun kk => lv_lload_n hx hb hd rfl (eLc_get hl hx1) (kk ls hl)⟩
    · cases h
  | aload j =>
    have hlen : len = 2 := hlen
    subst hlen
    simp only [eLoc] at h
    split at h
    · next x hx1 =>
      cases h
      exact ⟨_, _, _, rfl, fun kk => lv_aload hx hb hd (eLc_get hl hx1) (kk ls hl)⟩
    · next x hx1 =>
      cases h
      exact ⟨_, _, _, rfl, fun kk => lv_aload hx hb hd (eLc_get hl hx1) (kk ls hl)⟩
    · cases h
  | aload_n j =>
    have hlen : len = 1 := hlen
    subst hlen
    simp only [eLoc] at h
    split at h
    · next x hx1 =>
      cases h
      exact ⟨_, _, _, rfl, fun kk => lv_aload_n hx hb hd rfl (eLc_get hl hx1) (kk ls hl)⟩
    · next x hx1 =>
      cases h
      exact ⟨_, _, _, rfl, fun kk => lv_aload_n hx hb hd rfl (eLc_get hl hx1) (kk ls hl)⟩
    · cases h
  | istore j =>
    have hlen : len = 2 := hlen
    subst hlen
    simp only [eLoc] at h
    split at h
    · cases h
      exact ⟨_, _, _, rfl, fun kk => lv_istore hx hb hd hl.1 hix rfl (fun ls' h' => kk ls' (eLc_st1 hL h'))⟩
    · cases h
  | istore_n j =>
    have hlen : len = 1 := hlen
    subst hlen
    simp only [eLoc] at h
    split at h
    · cases h
      exact ⟨_, _, _, rfl, fun kk => lv_istore_n hx hb hd rfl hl.1 hix rfl (fun ls' h' => kk ls' (eLc_st1 hL h'))⟩
    · cases h
  | lstore j =>
    have hlen : len = 2 := hlen
    subst hlen
    simp only [eLoc] at h
    split at h
    · cases h
      exact ⟨_, _, _, rfl, fun kk => lv_lstore hx hb hd hl.1 hix rfl (fun ls' h' => kk ls' (eLc_st2 hL h'))⟩
    · cases h
  | lstore_n j =>
    have hlen : len = 1 := hlen
    subst hlen
    simp only [eLoc] at h
    split at h
    · cases h
      exact ⟨_, _, _, rfl, fun kk => lv_lstore_n hx hb hd rfl hl.1 hix rfl (fun ls' h' => kk ls' (eLc_st2 hL h'))⟩
    · cases h
  | astore_n j =>
    have hlen : len = 1 := hlen
    subst hlen
    simp only [eLoc] at h
    split at h
    · next x st1 =>
      cases h
      exact ⟨_, _, _, rfl, fun kk => lv_astore_n hx hb hd rfl hl.1 hix rfl (fun ls' h' => kk ls' (eLc_st1 (v := .ref x) hL h'))⟩
    · cases h
  | iinc j n =>
    have hlen : len = 3 := hlen
    subst hlen
    simp only [eLoc] at h
    split at h
    · next x hx1 =>
      cases h
      obtain ⟨q, hq⟩ := List.getElem?_of_mem (ePairs_in (B := B) (ro := ro) hx1)
      exact ⟨_, _, _, rfl, fun kk => lv_iinc hx hb hd hl.1 hq rfl hix rfl (fun ls' h' => kk ls' (eLc_st1 (v := .int (x + Int32.ofInt n)) hL h'))⟩
    · cases h
  | pop =>
    have hlen : len = 1 := hlen
    subst hlen
    simp only [eLoc] at h
    split at h
    · cases h
      exact ⟨_, _, _, rfl, fun kk => lv_pop hx hb hd rfl (kk ls hl)⟩
    · cases h
  | dup =>
    have hlen : len = 1 := hlen
    subst hlen
    simp only [eLoc] at h
    split at h
    · cases h
      exact ⟨_, _, _, rfl, fun kk => lv_dup hx hb hd rfl (kk ls hl)⟩
    · cases h
      exact ⟨_, _, _, rfl, fun kk => lv_dup hx hb hd rfl (kk ls hl)⟩
    · cases h
  | dup2 =>
    have hlen : len = 1 := hlen
    subst hlen
    simp only [eLoc] at h
    split at h
    · cases h
      exact ⟨_, _, _, rfl, fun kk => lv_dup2_11 hx hb hd rfl rfl (kk ls hl)⟩
    · cases h
  | ifCond cd off =>
    have hlen : len = 3 := hlen
    subst hlen
    have ht := eTgt_eq (hoff off List.mem_cons_self)
    simp only [eLoc] at h
    split at h
    · next x st1 =>
      cases h
      refine ⟨_, _, _, rfl, fun kk => ?_⟩
      cases cd with
      | eq => exact lv_if_eq hx hb hd ht (fun q => by have := kk ls hl; simpa [eCmp, q] using this) (fun q => by have := kk ls hl; simpa [eCmp, q] using this)
      | ne => exact lv_if_ne hx hb hd ht (fun q => by have := kk ls hl; simpa [eCmp, q] using this) (fun q => by have := kk ls hl; simpa [eCmp, q] using this)
      | lt => exact lv_if_lt hx hb hd ht (fun q => by have := kk ls hl; simpa [eCmp, q] using this) (fun q => by have := kk ls hl; simpa only [eCmp, q, decide_false] using this)
      | ge => exact lv_if_ge hx hb hd ht (fun q => by have := kk ls hl; simpa only [eCmp, q, decide_true] using this) (fun q => by have := kk ls hl; simpa only [eCmp, q, decide_false] using this)
      | gt => exact lv_if_gt hx hb hd ht (fun q => by have := kk ls hl; simpa only [eCmp, q, decide_true] using this) (fun q => by have := kk ls hl; simpa only [eCmp, q, decide_false] using this)
      | le => exact lv_if_le hx hb hd ht (fun q => by have := kk ls hl; simpa only [eCmp, q, decide_true] using this) (fun q => by have := kk ls hl; simpa only [eCmp, q, decide_false] using this)
    · cases h
  | if_icmp cd off =>
    have hlen : len = 3 := hlen
    subst hlen
    have ht := eTgt_eq (hoff off List.mem_cons_self)
    simp only [eLoc] at h
    split at h
    · next y x st1 =>
      cases h
      refine ⟨_, _, _, rfl, fun kk => ?_⟩
      cases cd with
      | eq => exact lv_icmp_eq hx hb hd ht (fun q => by have := kk ls hl; simpa only [eCmp, q, decide_true] using this) (fun q => by have := kk ls hl; simpa only [eCmp, q, decide_false] using this)
      | ne => exact lv_icmp_ne hx hb hd ht (fun q => by have := kk ls hl; simpa only [eCmp, q, decide_false, Bool.not_false] using this) (fun q => by have := kk ls hl; simpa only [eCmp, q, decide_true, Bool.not_true] using this)
      | lt => exact lv_icmp_lt hx hb hd ht (fun q => by have := kk ls hl; simpa only [eCmp, q, decide_true] using this) (fun q => by have := kk ls hl; simpa only [eCmp, q, decide_false] using this)
      | ge => exact lv_icmp_ge hx hb hd ht (fun q => by have := kk ls hl; simpa only [eCmp, q, decide_true] using this) (fun q => by have := kk ls hl; simpa only [eCmp, q, decide_false] using this)
      | gt => exact lv_icmp_gt hx hb hd ht (fun q => by have := kk ls hl; simpa only [eCmp, q, decide_true] using this) (fun q => by have := kk ls hl; simpa only [eCmp, q, decide_false] using this)
      | le => exact lv_icmp_le hx hb hd ht (fun q => by have := kk ls hl; simpa only [eCmp, q, decide_true] using this) (fun q => by have := kk ls hl; simpa only [eCmp, q, decide_false] using this)
    · cases h
  | tableswitch d lo hi offs =>
    simp only [eLoc] at h
    split at h
    · next x st1 =>
      cases h
      refine ⟨_, _, _, rfl, fun kk => ?_⟩
      have k1 := kk ls hl
      simp only [eSwi, Bool.and_eq_true, decide_eq_true_eq] at hc4
      by_cases hq : x.toInt < lo ∨ hi < x.toInt
      · rw [if_pos hq] at k1
        exact lv_tableOut hx hb hd hq (eTgt_eq (hoff d List.mem_cons_self)) k1
      · rw [if_neg hq] at k1
        have hlt : (x.toInt - lo).toNat < offs.toList.length := by omega
        have hg : offs[(x.toInt - lo).toNat]? = some (offs.toList.getD (x.toInt - lo).toNat d) := by
          rw [← Array.getElem?_toList, List.getD_eq_getElem?_getD, List.getElem?_eq_getElem hlt]; rfl
        exact lv_tableIn hx hb hd (fun z => hq (Or.inl z)) (fun z => hq (Or.inr z)) hg (eTgt_eq (hoff _ (List.mem_cons_of_mem _ (by rw [← Array.getElem?_toList] at hg; exact List.mem_of_getElem? hg)))) k1
    · cases h
  | ldc idx =>
    have hlen : len = 2 := hlen
    subst hlen
    simp only [eLoc] at h
    split at h
    · next h3 =>
      obtain ⟨ho1, ho2⟩ := eLs1_eq h3
      subst ho2
      cases h
      rw [ho1] at hown
      exact ⟨_, _, _, rfl, fun kk => va_ldcS (own := "DownAsUp$Tape") hx hb hown hRo.2.2.2.2.2.1 hd (kk ls hl)⟩
    · split at h
      · next x hx1 =>
        cases h
        exact ⟨_, _, _, rfl, fun kk => lv_ldc hx hb hown (hts _ (eLk_in _ _ (eFind_mem hx1))) hd (kk ls hl)⟩
      · cases h
  | ldc_w idx =>
    have hlen : len = 3 := hlen
    subst hlen
    simp only [eLoc] at h
    split at h
    · next x hx1 =>
      cases h
      exact ⟨_, _, _, rfl, fun kk => lv_ldcw hx hb hown (hts _ (eLk_in _ _ (eFind_mem hx1))) hd (kk ls hl)⟩
    · cases h
  | ldc2_w idx =>
    have hlen : len = 3 := hlen
    subst hlen
    simp only [eLoc] at h
    split at h
    · next x hx1 =>
      cases h
      exact ⟨_, _, _, rfl, fun kk => lv_ldc2 hx hb hown (hts _ (eLl_in _ _ (eFind_mem hx1))) hd (kk ls hl)⟩
    · cases h
  | _ => cases h
end E1
end
section
section E2
variable {p : Program} {l : Launch} {e : Env} {R : Room} {s : State} {m : MethodId} {args : Array Value} {below : List Frame} {meth : Method} {c : Code} {H : Heap} {locs : List Loc} {cells slots : Nat} {Q : State → Prop}
variable {o : eO} {B : Nat} {ro : Nat → Nat} {cA : Nat → ClassId} {D : va_G} {k : Nat}
/-- arithmetic -/
theorem eAri_ok (hF : eFx o B ro cA D k p s m args meth c) {i : Instr} {pc len : Nat} {L : eL} {st : List Value} {AH : eH} {r : eR} {ls : Array Slot}
    (hd : decode (eBy k) pc = .ok (i, len)) (hc : eChk k (pc, i, len) = true) (h : eAri i pc L st AH = some r) :
    ∃ pc' st', r = .inl (pc', L, st', AH) ∧ (W p l e R s m args below meth c H locs cells slots Q (F0 m pc' ls (st'.map (eRe B ro))) → W p l e R s m args below meth c H locs cells slots Q (F0 m pc ls (st.map (eRe B ro)))) := by
  obtain ⟨hx, hb, -⟩ := hF
  simp only [eChk, Bool.and_eq_true] at hc
  have hlen := Nat.eq_of_beq_eq_true hc.1.1.1.1
  clear hc
  unfold eAri at h
  split at h
  · have hlen : len = 1 := hlen
    subst hlen
    cases h
    exact ⟨_, _, rfl, fun kk => lv_iadd hx hb hd kk⟩
  · have hlen : len = 1 := hlen
    subst hlen
    cases h
    exact ⟨_, _, rfl, fun kk => lv_isub hx hb hd kk⟩
  · have hlen : len = 1 := hlen
    subst hlen
    cases h
    exact ⟨_, _, rfl, fun kk => lv_imul hx hb hd kk⟩
  · have hlen : len = 1 := hlen
    subst hlen
    cases h
    exact ⟨_, _, rfl, fun kk => lv_iand hx hb hd kk⟩
  · have hlen : len = 1 := hlen
    subst hlen
    cases h
    exact ⟨_, _, rfl, fun kk => lv_ior hx hb hd kk⟩
  · have hlen : len = 1 := hlen
    subst hlen
    cases h
    exact ⟨_, _, rfl, fun kk => lv_ixor hx hb hd kk⟩
  · have hlen : len = 1 := hlen
    subst hlen
    cases h
    exact ⟨_, _, rfl, fun kk => lv_ishl hx hb hd kk⟩
  · have hlen : len = 1 := hlen
    subst hlen
    cases h
    exact ⟨_, _, rfl, fun kk => lv_ishr hx hb hd kk⟩
  · have hlen : len = 1 := hlen
    subst hlen
    cases h
    exact ⟨_, _, rfl, fun kk => lv_iushr hx hb hd rfl kk⟩
  · have hlen : len = 1 := hlen
    subst hlen
    split at h
    · cases h
    · next hne =>
      cases h
      exact ⟨_, _, rfl, fun kk => lv_idiv hx hb hd hne kk⟩
  · have hlen : len = 1 := hlen
    subst hlen
    split at h
    · cases h
    · next hne =>
      cases h
      exact ⟨_, _, rfl, fun kk => lv_irem hx hb hd hne kk⟩
  · have hlen : len = 1 := hlen
    subst hlen
    cases h
    exact ⟨_, _, rfl, fun kk => lv_ineg hx hb hd kk⟩
  · have hlen : len = 1 := hlen
    subst hlen
    cases h
    exact ⟨_, _, rfl, fun kk => lv_i2l hx hb hd rfl kk⟩
  · have hlen : len = 1 := hlen
    subst hlen
    cases h
    exact ⟨_, _, rfl, fun kk => lv_i2b hx hb hd rfl kk⟩
  · have hlen : len = 1 := hlen
    subst hlen
    cases h
    exact ⟨_, _, rfl, fun kk => lv_i2c hx hb hd rfl kk⟩
  · have hlen : len = 1 := hlen
    subst hlen
    cases h
    exact ⟨_, _, rfl, fun kk => lv_i2s hx hb hd rfl kk⟩
  · have hlen : len = 1 := hlen
    subst hlen
    cases h
    exact ⟨_, _, rfl, fun kk => lv_l2i hx hb hd rfl kk⟩
  · have hlen : len = 1 := hlen
    subst hlen
    cases h
    exact ⟨_, _, rfl, fun kk => lv_lsub hx hb hd kk⟩
  · have hlen : len = 1 := hlen
    subst hlen
    cases h
    exact ⟨_, _, rfl, fun kk => lv_land hx hb hd kk⟩
  · have hlen : len = 1 := hlen
    subst hlen
    cases h
    exact ⟨_, _, rfl, fun kk => lv_lor hx hb hd kk⟩
  · have hlen : len = 1 := hlen
    subst hlen
    cases h
    exact ⟨_, _, rfl, fun kk => lv_lshl hx hb hd rfl kk⟩
  · have hlen : len = 1 := hlen
    subst hlen
    cases h
    exact ⟨_, _, rfl, fun kk => lv_lshr hx hb hd rfl kk⟩
  · have hlen : len = 1 := hlen
    subst hlen
    cases h
    exact ⟨_, _, rfl, fun kk => lv_lushr hx hb hd rfl kk⟩
  · have hlen : len = 1 := hlen
    subst hlen
    cases h
    exact ⟨_, _, rfl, fun kk => W.lcmp hx hb hd kk⟩
  · cases h
end E2
/-! cells -/
def eSz : eC → Nat
  | .inl (_, n, _) => n
  | .inr (_, fs) => fs.length
def eTot (H : eH) : Nat := (H.map eSz).sum
theorem eTot_set {H : eH} {h : Nat} {e0 e : eC} (he : H[h]? = some e0) (hs : eSz e = eSz e0) : eTot (H.set h e) = eTot H := by
  unfold eTot
  rw [List.map_set, hs]
  have : (H.map eSz).set h (eSz e0) = H.map eSz := by
    apply List.ext_getElem?
    intro i
    rw [List.getElem?_set]
    split
    · next hi => subst hi; simp [he]; exact (List.getElem?_eq_some_iff.mp he).1
    · rfl
  rw [this]
theorem eTot_app (H : eH) (e : eC) : eTot (H ++ [e]) = eTot H + eSz e := by simp [eTot]
theorem eFit_ok {B : Nat} {ro : Nat → Nat} {ty : FieldType} {v : Value} (h : eFit ty v = true) : narrow ty (eRe B ro v) = eRe B ro v ∧ fits ty (eRe B ro v) = true := by
  have hf : fits ty (eRe B ro v) = true := by
    unfold eFit at h
    split at h <;> first | rfl | exact h | cases h
  exact ⟨narrow_of_fits hf, hf⟩
theorem eRange_all {f : Nat → Bool} {n k : Nat} (h : (List.range n).all f = true) (hk : k < n) : f k = true := List.all_eq_true.mp h k (List.mem_range.mpr hk)
theorem eLf_lt (own : Nat) : ∀ q ∈ eLf own, q.2.1 < 8 ∧ q.2.2 < (eFt q.2.1).length := by
  intro q hq
  by_cases ho : own < 14
  · have h := eRange_all eLi_ini ho
    simp only [Bool.and_eq_true, List.all_eq_true, Nat.blt_eq] at h
    exact h.1.2 q hq
  · rw [show own = (own - 14) + 14 by omega] at hq
    exact absurd hq List.not_mem_nil
theorem eLn_lt (own : Nat) : ∀ q ∈ eLn own, q.2 < 8 := by
  intro q hq
  by_cases ho : own < 14
  · have h := eRange_all eLi_ini ho
    simp only [Bool.and_eq_true, List.all_eq_true, Nat.blt_eq] at h
    exact h.2 q hq
  · rw [show own = (own - 14) + 14 by omega] at hq
    exact absurd hq List.not_mem_nil
end
section
theorem eOut_ok {i : Int32} {n : Nat} (h : eOut i n = false) : vp_in i n := by
  unfold eOut at h
  simp only [Bool.or_eq_false_iff, decide_eq_false_iff_not] at h
  intro q
  rcases q with q | q
  · exact h.1 q
  · rw [Nat.ble_eq_true_of_le q] at h
    exact absurd h.2 (by simp)
theorem eGs_eq {a b : Nat} {v : Value} (h : eGs a b = some v) : (a = 5 ∧ b = 88 ∧ v = .retAddr 1) ∨ (a = 11 ∧ b = 38 ∧ v = .int 1) := by
  unfold eGs at h
  split at h
  · cases h; exact Or.inl ⟨rfl, rfl, rfl⟩
  · cases h; exact Or.inr ⟨rfl, rfl, rfl⟩
  · cases h
theorem eRf_eq {a b : Nat} {v : Value} (h : eRf a b = some v) : (a = 11 ∧ b = 9 ∧ v = .retAddr 3) ∨ (a = 11 ∧ b = 15 ∧ v = .int 0) := by
  unfold eRf at h
  split at h
  · cases h; exact Or.inl ⟨rfl, rfl, rfl⟩
  · cases h; exact Or.inr ⟨rfl, rfl, rfl⟩
  · cases h
theorem eRoA_eq {o : eO} {B : Nat} {ro : Nat → Nat} {U : State} {H : Heap} {k t n : Nat} {f : Nat → Int32} (hR : eRo o B ro U H) (h : eRoA o k = some (t, n, f)) : (t = 0 ∧ va_T .int (ro k) n (fun j => .int (f j)) (eA B) U H) ∨ (t = 4 ∧ va_T .byte (ro k) n (fun j => .int (f j)) (eA B) U H) := by
  unfold eRoA at h
  split at h
  · cases h; exact Or.inl ⟨rfl, hR.1⟩
  · cases h; exact Or.inl ⟨rfl, hR.2.1⟩
  · cases h; exact Or.inr ⟨rfl, hR.2.2.1⟩
  · cases h
theorem eSt_w : lw_tbl[827]? = some (Cond.fieldLink "DownAsUp$Ways" 88 "DownAsUp$Ways" "ORDERS_BEHIND" "[I") ∧ lw_tbl[476]? = some (Cond.fieldLink "java/lang/String" 38 "java/lang/String" "COMPACT_STRINGS" "Z") ∧ lw_tbl[1322]? = some (Cond.fieldLink "java/lang/String" 9 "java/lang/String" "value" "[B") ∧ lw_tbl[1321]? = some (Cond.fieldLink "java/lang/String" 15 "java/lang/String" "coder" "B") := by decide +kernel
set_option maxRecDepth 100000 in
theorem eFc_w : ((List.range 8).all fun ci => (List.range (eFt ci).length).all fun kf => decide ((eU ci kf).1 = eN ci)) = true := by decide +kernel
theorem eFc_ok (ci kf : Nat) (h1 : ci < 8) (h2 : kf < (eFt ci).length) : (eU ci kf).1 = eN ci := of_decide_eq_true (eRange_all (eRange_all eFc_w h1) h2)
theorem eSz_new (t n : Nat) : eSz (eNew t n) = n := by
  unfold eNew
  split <;> rfl
theorem eDef_ok (B : Nat) (ro : Nat → Nat) (t : FieldType) : eRe B ro (eDef t) = defaultValue t := by cases t <;> rfl
section E3
variable {p : Program} {l : Launch} {e : Env} {R : Room} {s : State} {m : MethodId} {args : Array Value} {below : List Frame} {meth : Method} {c : Code} {H : Heap} {locs : List Loc} {cells slots : Nat} {Q : State → Prop}
variable {o : eO} {B : Nat} {ro : Nat → Nat} {cA : Nat → ClassId} {D : va_G} {k : Nat}
theorem eHp_ok (hF : eFx o B ro cA D k p s m args meth c) {i : Instr} {pc len : Nat} {L : eL} {st : List Value} {AH : eH} {r : eR} {ls : Array Slot}
    (hd : decode (eBy k) pc = .ok (i, len)) (hc : eChk k (pc, i, len) = true) (hI : eIv B ro cA D AH s H locs) (hsz : H.size = B + AH.length) (hB : B ≤ s.heap.size) (h : eHp o (eOwn k) (eIni k) i pc L st AH = some r) :
    ∃ pc' st' AH' dc ds, r = .inl (pc', L, st', AH') ∧ AH'.length = AH.length + dc ∧ eTot AH' = eTot AH + ds ∧ (cells + dc ≤ R.cells → slots + ds ≤ R.slots → (∀ H' locs', eIv B ro cA D AH' s H' locs' → W p l e R s m args below meth c H' locs' (cells + dc) (slots + ds) Q (F0 m pc' ls (st'.map (eRe B ro)))) → W p l e R s m args below meth c H locs cells slots Q (F0 m pc ls (st.map (eRe B ro)))) := by
  obtain ⟨hx, hb, hml, hr, hlk, hin, hown, hts, hK, hRo⟩ := hF
  simp only [eChk, Bool.and_eq_true] at hc
  have hlen := Nat.eq_of_beq_eq_true hc.1.1.1.1
  clear hc
  have hD := eWd_D B ro cA AH
  unfold eHp at h
  split at h
  · rename_i idx hh st1
    have hlen : len = 3 := hlen
    subst hlen
    split at h
    · rename_i ci kf cj fs h1 h2
      split at h
      · rename_i v h3 h4
        cases h
        have h3 := Nat.eq_of_beq_eq_true h3
        subst h3
        have hm := eFind_mem h1
        obtain ⟨hci, hkf⟩ := eLf_lt _ _ hm
        obtain ⟨N, hcl, hN, -, hin1, -⟩ := eCl_ok ci hci
        exact ⟨_, _, _, 0, 0, rfl, rfl, rfl, fun _ _ kk => va_get hx hb hts hin1 hown hK hI.1 hh (eWd_get h2) hcl kf (by rw [← hN]; exact hkf) (hts _ (eLf_in _ _ hm)) (fun _ z => z) (by rw [List.getElem?_map, h4]; rfl) hd (kk H locs hI)⟩
      · cases h
    · cases h
  · rename_i idx st1
    have hlen : len = 3 := hlen
    subst hlen
    split at h
    · rename_i v h1
      cases h
      rcases eRf_eq h1 with ⟨h2, rfl, rfl⟩ | ⟨h2, rfl, rfl⟩
      · rw [h2] at hown
        exact ⟨_, _, _, 0, 0, rfl, rfl, rfl, fun _ _ kk => vk_getf (own := "java/lang/String") hx hb hRo.2.2.2.2.2.2.2.1 hI.2 hown (hts _ (eWs_in eSt_w.2.2.1 rfl)) (fun _ z => z) hd (kk H locs hI)⟩
      · rw [h2] at hown
        exact ⟨_, _, _, 0, 0, rfl, rfl, rfl, fun _ _ kk => vk_getf (own := "java/lang/String") hx hb hRo.2.2.2.2.2.2.2.2.1 hI.2 hown (hts _ (eWs_in eSt_w.2.2.2 rfl)) (fun _ z => z) hd (kk H locs hI)⟩
    · cases h
  · rename_i idx v hh st1
    have hlen : len = 3 := hlen
    subst hlen
    split at h
    · rename_i ci kf cj fs h1 h2
      split at h
      · rename_i f1 f2 f3 fin ty h3 h4 h5 h6
        have h3 := Nat.eq_of_beq_eq_true h3
        subst h3
        have hm := eFind_mem h1
        obtain ⟨hci, hkf⟩ := eLf_lt _ _ hm
        obtain ⟨N, hcl, hN, -, hin1, hty, hnm, -⟩ := eCl_ok ci hci
        have hkN : kf < N := by rw [← hN]; exact hkf
        have hUk : (eU ci kf).2.2.2 = fin := by simp [eU, List.getD_eq_getElem?_getD, h5]
        have hdt : parseFieldDescriptor (eU ci kf).2.2.1 = some ty := by rw [hty kf hkN]; simp [List.getD_eq_getElem?_getD, h6]
        have hkl : kf < (fs.map (eRe B ro)).length := by rw [List.length_map]; exact Nat.blt_eq.mp h4
        have hws : ∀ w : Value, (eWd B ro cA AH).set hh (B + hh, .inr (ci, (fs.map (eRe B ro)).set kf (eRe B ro w))) = eWd B ro cA (AH.set hh (.inr (ci, fs.set kf w))) := by
          intro w
          rw [← eWd_set]
          simp [eReC, List.map_set]
        cases h7 : eFit ty v with
        | false => simp [h7] at h
        | true =>
          obtain ⟨hn, hf⟩ := eFit_ok (B := B) (ro := ro) h7
          cases fin with
          | false =>
            simp only [h7] at h
            cases h
            exact ⟨_, _, _, 0, 0, rfl, by simp, eTot_set h2 (by simp [eSz]), fun _ _ kk => va_put hx hb hts hin1 (fun j => (eFt ci).getD j .int) hty hnm hown hK hI.1 hD hI.2 hh (eWd_get h2) hcl kf hkN (hts _ (eLf_in _ _ hm)) (fun _ z => z) hUk hdt hn hf hkl hd (fun H1 locs1 hP1 _ hS1 => kk H1 locs1 ⟨by rw [← hws]; exact hP1, hS1⟩)⟩
          | true =>
            cases h8 : (eIni k && Nat.beq (eOwn k) ci) with
            | false => simp [h7, h8] at h
            | true =>
              simp only [h7, h8] at h
              cases h
              simp only [Bool.and_eq_true] at h8
              have ho := Nat.eq_of_beq_eq_true h8.2
              have hdc : (eU ci kf).1 = eN (eOwn k) := by rw [ho]; exact eFc_ok ci kf hci hkf
              exact ⟨_, _, _, 0, 0, rfl, by simp, eTot_set h2 (by simp [eSz]), fun _ _ kk => va_putF hx hb hts hin1 (fun j => (eFt ci).getD j .int) hty hnm hown hK hI.1 hD hI.2 hh (eWd_get h2) hcl kf hkN (hts _ (eLf_in _ _ hm)) (fun _ z => z) hUk (hin h8.1) hdc hdt hn hf hkl hd (fun H1 locs1 hP1 _ hS1 => kk H1 locs1 ⟨by rw [← hws]; exact hP1, hS1⟩)⟩
      · cases h
    · cases h
  · rename_i idx st1
    have hlen : len = 3 := hlen
    subst hlen
    split at h
    · rename_i v h1
      cases h
      rcases eGs_eq h1 with ⟨h2, rfl, rfl⟩ | ⟨h2, rfl, rfl⟩
      · rw [h2] at hown
        exact ⟨_, _, _, 0, 0, rfl, rfl, rfl, fun _ _ kk => va_gets (own := "DownAsUp$Ways") hx hb hRo.2.2.2.1 hI.2 hown (hts _ (eWs_in eSt_w.1 rfl)) (fun _ z => z) hd (kk H locs hI)⟩
      · rw [h2] at hown
        exact ⟨_, _, _, 0, 0, rfl, rfl, rfl, fun _ _ kk => va_gets (own := "java/lang/String") hx hb hRo.2.2.2.2.1 hI.2 hown (hts _ (eWs_in eSt_w.2.1 rfl)) (fun _ z => z) hd (kk H locs hI)⟩
    · cases h
  · rename_i ix hh st1
    have hlen : len = 1 := hlen
    subst hlen
    split at h
    · rename_i n f h1
      split at h
      · cases h
      · rename_i h2
        cases h
        exact ⟨_, _, _, 0, 0, rfl, rfl, rfl, fun _ _ kk => va_iald hx hb hK hI.1 hh 0 (eWd_get h1) rfl (eOut_ok h2) hd (kk H locs hI)⟩
    · cases h
  · rename_i ix kr st1
    have hlen : len = 1 := hlen
    subst hlen
    split at h
    · rename_i n f h1
      split at h
      · cases h
      · rename_i h2
        cases h
        rcases eRoA_eq hRo h1 with ⟨h3, h4⟩ | ⟨h3, h4⟩
        · exact ⟨_, _, _, 0, 0, rfl, rfl, rfl, fun _ _ kk => va_ti hx hb h4 hI.2 (eOut_ok h2) rfl hd (kk H locs hI)⟩
        · cases h3
    · cases h
  · rename_i ix hh st1
    have hlen : len = 1 := hlen
    subst hlen
    split at h
    · rename_i n f h1
      split at h
      · cases h
      · rename_i h2
        cases h
        exact ⟨_, _, _, 0, 0, rfl, rfl, rfl, fun _ _ kk => va_zald hx hb hK hI.1 hh 2 (eWd_get h1) rfl (eOut_ok h2) hd (kk H locs hI)⟩
    · cases h
  · rename_i ix kr st1
    have hlen : len = 1 := hlen
    subst hlen
    split at h
    · rename_i n f h1
      split at h
      · cases h
      · rename_i h2
        cases h
        rcases eRoA_eq hRo h1 with ⟨h3, h4⟩ | ⟨h3, h4⟩
        · cases h3
        · exact ⟨_, _, _, 0, 0, rfl, rfl, rfl, fun _ _ kk => va_tb hx hb h4 hI.2 (eOut_ok h2) rfl hd (kk H locs hI)⟩
    · cases h
  · rename_i ix hh st1
    have hlen : len = 1 := hlen
    subst hlen
    split at h
    · rename_i n f h1
      split at h
      · cases h
      · rename_i h2
        cases h
        exact ⟨_, _, _, 0, 0, rfl, rfl, rfl, fun _ _ kk => va_cald hx hb hK hI.1 hh 3 (eWd_get h1) rfl (eOut_ok h2) hd (kk H locs hI)⟩
    · cases h
  · rename_i ix hh st1
    have hlen : len = 1 := hlen
    subst hlen
    split at h
    · rename_i n f h1
      split at h
      · cases h
      · rename_i h2
        cases h
        exact ⟨_, _, _, 0, 0, rfl, rfl, rfl, fun _ _ kk => va_lald hx hb hK hI.1 hh 1 (eWd_get h1) rfl (eOut_ok h2) hd (kk H locs hI)⟩
    · cases h
  · rename_i xv ix hh st1
    have hlen : len = 1 := hlen
    subst hlen
    split at h
    · rename_i n f h1
      split at h
      · cases h
      · rename_i h2
        cases h
        exact ⟨_, _, _, 0, 0, rfl, by simp, eTot_set h1 rfl, fun _ _ kk => va_iast hx hb hK hI.1 hD hI.2 hh 0 (eWd_get h1) rfl (eOut_ok h2) hd (fun H1 locs1 hP1 _ hS1 => kk H1 locs1 ⟨by rw [← eWd_set]; exact hP1, hS1⟩)⟩
    · cases h
  · rename_i xv ix hh st1
    have hlen : len = 1 := hlen
    subst hlen
    split at h
    · rename_i n f h1
      split at h
      · cases h
      · rename_i h2
        cases h
        exact ⟨_, _, _, 0, 0, rfl, by simp, eTot_set h1 rfl, fun _ _ kk => va_zast hx hb hK hI.1 hD hI.2 hh 2 (eWd_get h1) rfl (eOut_ok h2) hd (fun H1 locs1 hP1 _ hS1 => kk H1 locs1 ⟨by rw [← eWd_set]; exact hP1, hS1⟩)⟩
    · cases h
  · rename_i xv ix hh st1
    have hlen : len = 1 := hlen
    subst hlen
    split at h
    · rename_i n f h1
      split at h
      · cases h
      · rename_i h2
        cases h
        exact ⟨_, _, _, 0, 0, rfl, by simp, eTot_set h1 rfl, fun _ _ kk => va_cast hx hb hK hI.1 hD hI.2 hh 3 (eWd_get h1) rfl (eOut_ok h2) hd (fun H1 locs1 hP1 _ hS1 => kk H1 locs1 ⟨by rw [← eWd_set]; exact hP1, hS1⟩)⟩
    · cases h
  · rename_i xv ix hh st1
    have hlen : len = 1 := hlen
    subst hlen
    split at h
    · rename_i n f h1
      split at h
      · cases h
      · rename_i h2
        cases h
        exact ⟨_, _, _, 0, 0, rfl, by simp, eTot_set h1 rfl, fun _ _ kk => va_last hx hb hK hI.1 hD hI.2 hh 1 (eWd_get h1) rfl (eOut_ok h2) hd (fun H1 locs1 hP1 _ hS1 => kk H1 locs1 ⟨by rw [← eWd_set]; exact hP1, hS1⟩)⟩
    · cases h
  · rename_i hh st1
    have hlen : len = 1 := hlen
    subst hlen
    split at h
    · rename_i t n f h1
      split at h
      · rename_i h2
        cases h
        have ht : t < 5 := Nat.blt_eq.mp h2
        refine ⟨_, _, _, 0, 0, rfl, rfl, rfl, fun _ _ kk => ?_⟩
        have hty : ∃ ty, (eTys cA)[t]? = some (cA t, ty) := by
          match t, ht with
          | 0, _ => exact ⟨_, rfl⟩
          | 1, _ => exact ⟨_, rfl⟩
          | 2, _ => exact ⟨_, rfl⟩
          | 3, _ => exact ⟨_, rfl⟩
          | 4, _ => exact ⟨_, rfl⟩
        obtain ⟨ty, hty⟩ := hty
        cases f with
        | inl f => exact va_alen hx hb hK hI.1 hh t (eWd_get h1) hty rfl hd (kk H locs hI)
        | inr f => exact va_alen hx hb hK hI.1 hh t (eWd_get h1) hty rfl hd (kk H locs hI)
      · cases h
    · cases h
  · rename_i kr st1
    have hlen : len = 1 := hlen
    subst hlen
    split at h
    · rename_i t n f h1
      cases h
      rcases eRoA_eq hRo h1 with ⟨h3, h4⟩ | ⟨h3, h4⟩
      · exact ⟨_, _, _, 0, 0, rfl, rfl, rfl, fun _ _ kk => va_tlen hx hb h4 hI.2 rfl hd (kk H locs hI)⟩
      · exact ⟨_, _, _, 0, 0, rfl, rfl, rfl, fun _ _ kk => va_tlen hx hb h4 hI.2 rfl hd (kk H locs hI)⟩
    · cases h
  · rename_i ty n st1
    have hlen : len = 2 := hlen
    subst hlen
    split at h
    · rename_i t h1
      split at h
      · cases h
      · rename_i h2
        cases h
        have hn0 : ¬ n < 0 := fun z => h2 (Or.inl z)
        have hn1 : n.toNatClampNeg ≤ 67108864 := Nat.le_of_not_lt fun z => h2 (Or.inr z)
        refine ⟨_, _, _, 1, n.toNatClampNeg, rfl, by simp, by rw [eTot_app, eSz_new], fun hcl hsl kk => ?_⟩
        have key : ∀ (fty : FieldType) (a0 : vp_A), newarray.typeOf ty = fty → Cond.arrayClass fty ∈ eWs → (eTys cA)[t]? = some (cA t, fty) → componentBytes fty ≤ 8 → (∀ z : ClassId, vp_cell z a0 = arrV z n.toNatClampNeg (fun _ => defaultValue fty)) → eReC B ro cA (eNew t n.toNatClampNeg) = .inl (cA t, a0) → (∀ z, va_RA s z fty = (s.vm.findClass ("[" ++ fty.toString) = some z)) → W p l e R s m args below meth c H locs cells slots Q (F0 m pc ls (.int n :: st1.map (eRe B ro))) := by
          intro fty a0 e1 e2 e3 e4 e5 e6 e7
          subst e1
          refine va_newaK hx hb (hts _ e2) rfl hd rfl hn0 rfl (Nat.le_trans (Nat.mul_le_mul hn1 e4) (by decide)) hcl hsl hsz fun H1 z g1 g2 g3 g4 g5 => ?_
          have hz : z = cA t := by
            have q := (hK.2 t _ e3).2
            rw [e7] at q
            exact Option.some.inj (g5.symm.trans q)
          subst hz
          refine kk H1 locs ⟨?_, ?_⟩
          · rw [eWd_app]
            refine (hI.1.kept fun q x hx1 => g3 x.1 (by rw [← hsz]; exact (hI.1 q x hx1).lt)).app fun q x hx1 => ?_
            have hq : q < 1 := (List.getElem?_eq_some_iff.mp hx1).1
            rw [show q = 0 by omega] at hx1
            cases hx1
            rw [e6]
            show H1[B + AH.length]? = some (vp_cell _ _)
            rw [e5]
            exact g1
          · exact ⟨Nat.le_trans hI.2.1 (by omega), fun x y1 y2 => (g3 x (by rw [← hsz]; exact Nat.lt_of_lt_of_le y1 hI.2.1)).trans (hI.2.2.1 x y1 y2), hI.2.2.2⟩
        cases ty with
        | int => cases h1; exact key .int (_, .inl fun _ => 0) rfl (eWs_in eAr_int rfl) rfl (by decide) (fun _ => rfl) rfl (fun _ => rfl)
        | long => cases h1; exact key .long (_, .inr (.inl fun _ => 0)) rfl (eWs_in eAr_long rfl) rfl (by decide) (fun _ => rfl) rfl (fun _ => rfl)
        | boolean => cases h1; exact key .boolean (_, .inl fun _ => 0) rfl (eWs_in eAr_boolean rfl) rfl (by decide) (fun _ => rfl) rfl (fun _ => rfl)
        | char => cases h1; exact key .char (_, .inl fun _ => 0) rfl (eWs_in eAr_char rfl) rfl (by decide) (fun _ => rfl) rfl (fun _ => rfl)
        | _ => cases h1
    · cases h
  · rename_i idx
    have hlen : len = 3 := hlen
    subst hlen
    split at h
    · rename_i ci h1
      cases h
      have hm := eFind_mem h1
      have hci := eLn_lt _ _ hm
      obtain ⟨N, hcl, hN, -, hin1, hty, hnm, hins, hini⟩ := eCl_ok ci hci
      refine ⟨_, _, _, 1, N, rfl, by simp, by rw [eTot_app]; simp [eSz, hN], fun hcel hslo kk => ?_⟩
      have hKn := hK.1 ci _ hcl
      refine W.newcK hx hb hown (hts _ (eLn_in _ _ hm)) (hts _ hins) (hts _ hini) rfl hd hcel hslo hKn.2.1 hsz fun H1 kC g0 g1 g2 g3 => ?_
      refine kk H1 locs ⟨?_, ?_⟩
      · rw [eWd_app]
        refine (hI.1.kept fun q x hx1 => g3 x.1 (by rw [← hsz]; exact (hI.1 q x hx1).lt)).app fun q x hx1 => ?_
        have hq : q < 1 := (List.getElem?_eq_some_iff.mp hx1).1
        rw [show q = 0 by omega] at hx1
        cases hx1
        refine ⟨_, hcl, (u_born (fun j => (eFt ci).getD j .int) hts hin1 hKn g0 g1 hty).to fun j hj => ?_⟩
        have hj' : j < (eFt ci).length := by rw [hN]; exact hj
        simp [vp_V, List.getD_eq_getElem?_getD, hj', eDef_ok]
      · exact ⟨Nat.le_trans hI.2.1 (by omega), fun x y1 y2 => (g3 x (by rw [← hsz]; exact Nat.lt_of_lt_of_le y1 hI.2.1)).trans (hI.2.2.1 x y1 y2), hI.2.2.2⟩
    · cases h
  · cases h
end E3
end
section
/-! calls: what they stand on -/
theorem eRo_warm {o : eO} {B : Nat} {ro : Nat → Nat} {s U : State} {H : Heap} (hW : s.WarmedH U.vm) (h : eRo o B ro s H) : eRo o B ro U H := by
  obtain ⟨h1, h2, h3, h4, h5, h6, h7, h8, h9, h10⟩ := h
  have ha := hW.alike
  exact ⟨h1.moved ha, h2.moved ha, h3.moved ha, h4.moved ha, h5.moved ha, h6.warm hW, h7.moved ha, h8.moved ha, h9.moved ha, fun q hq => (h10 q hq).warmM hW⟩
theorem eRo_kept {o : eO} {B : Nat} {ro : Nat → Nat} {U : State} {H H1 : Heap} (hq : ∀ a : Nat, a < H.size → ¬ eA B a → H1[a]? = H[a]?) (h : eRo o B ro U H) : eRo o B ro U H1 := by
  obtain ⟨h1, h2, h3, h4, h5, h6, h7, h8, h9, h10⟩ := h
  exact ⟨h1.kept hq, h2.kept hq, h3.kept hq, h4.kept hq, h5.kept hq, h6, h7.kept hq, h8.kept hq, h9.kept hq, h10⟩
theorem ePop_eq : ∀ {n : Nat} {acc st as st' : List Value}, ePop n acc st = some (as, st') → ∃ bs, bs.length = n ∧ st = bs ++ st' ∧ as = bs.reverse ++ acc
  | 0, acc, st, as, st', h => by
    unfold ePop at h
    cases h
    exact ⟨[], rfl, rfl, rfl⟩
  | n + 1, acc, [], as, st', h => by
    unfold ePop at h
    cases h
  | n + 1, acc, v :: st, as, st', h => by
    unfold ePop at h
    obtain ⟨bs, h1, h2, h3⟩ := ePop_eq h
    exact ⟨v :: bs, by simp [h1], by rw [h2]; rfl, by rw [h3]; simp⟩
theorem ePop_st {n : Nat} {st as st' : List Value} (h : ePop n [] st = some (as, st')) : as.length = n ∧ st = as.reverse ++ st' := by
  obtain ⟨bs, h1, h2, h3⟩ := ePop_eq h
  rw [List.append_nil] at h3
  subst h3
  exact ⟨by simp [h1], by simp [h2]⟩
theorem eWords_eq (B : Nat) (ro : Nat → Nat) : ∀ st : List Value, ((st.map (eRe B ro)).map fun v => v.category).sum = eWords st
  | [] => rfl
  | v :: st => by
    simp only [List.map_cons, List.sum_cons, eWords, eWords_eq B ro st, eRe_cat]
    cases v <;> rfl
theorem eArgs_len (B : Nat) (ro : Nat → Nat) : ∀ as : List Value, (lg_sl (as.map (eRe B ro))).length = (eArgs as).length
  | [] => rfl
  | v :: as => by
    have ih := eArgs_len B ro as
    have e1 : lg_sl ((v :: as).map (eRe B ro)) = (if (eRe B ro v).category = 2 then [.val (eRe B ro v), .second] else [.val (eRe B ro v)]) ++ lg_sl (as.map (eRe B ro)) := rfl
    rw [e1, List.length_append, ih, eRe_cat]
    cases v <;> simp only [eArgs, Value.category, List.length_cons] <;> first | rfl | (simp; omega)
theorem eArgs_in (B : Nat) (ro : Nat → Nat) : ∀ (as : List Value) (i j : Nat) (v : Value), eLd (eArgs as) j = some v → (i + j, eRe B ro v) ∈ lv_args i (as.map (eRe B ro))
  | [], i, j, v, h => by
    have := eLd_lt h
    simp [eArgs] at this
  | w :: as, i, j, v, h => by
    have h1 := eLd_lt h
    have hone : (eArgs (w :: as) = some w :: eArgs as ∧ w.category = 1) ∨ (eArgs (w :: as) = some w :: none :: eArgs as ∧ w.category = 2) := by cases w <;> first | exact Or.inl ⟨rfl, rfl⟩ | exact Or.inr ⟨rfl, rfl⟩
    simp only [List.map_cons, lv_args, eRe_cat]
    rcases hone with ⟨e1, e2⟩ | ⟨e1, e2⟩
    · rw [e1] at h1
      rw [e2]
      cases j with
      | zero => simp at h1; subst h1; exact List.mem_cons_self
      | succ j =>
        simp at h1
        have := eArgs_in B ro as (i + 1) j v (eLd_of h1)
        exact List.mem_cons_of_mem _ (by simpa [Nat.add_assoc, Nat.add_comm 1 j] using this)
    · rw [e1] at h1
      rw [e2]
      match j, h1 with
      | 0, h1 => simp at h1; subst h1; exact List.mem_cons_self
      | 1, h1 => simp at h1
      | j + 2, h1 =>
        simp at h1
        have := eArgs_in B ro as (i + 2) j v (eLd_of h1)
        exact List.mem_cons_of_mem _ (by simpa [Nat.add_assoc, Nat.add_comm 2 j] using this)
theorem eEnt_ok {B : Nat} {ro : Nat → Nat} {q : Nat} {as : List Value} (h : (eArgs as).length ≤ eMx.getD q 0) :
    eLc B ro ((lg_sl (as.map (eRe B ro)) ++ List.replicate (eMx.getD q 0 - (lg_sl (as.map (eRe B ro))).length) Slot.unset).toArray) (eMx.getD q 0) (eEnt q as) := by
  refine eLc_of (lv_entry (as.map (eRe B ro)) (by rw [eArgs_len]; exact h)) (by simp only [eEnt, List.length_append, List.length_replicate]; omega) fun j v hv => ?_
  have h1 := eLd_lt hv
  unfold eEnt at h1
  by_cases hj : j < (eArgs as).length
  · rw [List.getElem?_append_left hj] at h1
    simpa using eArgs_in B ro as 0 j v (eLd_of h1)
  · rw [List.getElem?_append_right (by omega), List.getElem?_replicate] at h1
    split at h1 <;> simp at h1
theorem eGoodIn {q : Nat} (hq : q < 202) : GoodIn eWs (Cond.code (eM q) (eBy q) (eMx.getD q 0) (eRt.getD q none) :: eWs) := by
  intro w hw
  rcases List.mem_cons.mp hw with rfl | h
  · exact ⟨eMp_in q hq, good_of_word (List.mem_filter.mp (eMp_in q hq)).2⟩
  · exact ⟨h, good_of_word (List.mem_filter.mp h).2⟩
theorem eM_ok {q : Nat} (hq : q < 203) : eN (eOwn q) = (eM q).cls ∧ ((eM q).cls ≠ "java/lang/invoke/MethodHandle" ∧ (eM q).cls ≠ "java/lang/invoke/VarHandle") ∧ (parseMethodDescriptor (eM q).desc).map (fun d => d.parameters.length) = some (eNa.getD q 0) ∧ (plainName (eM q).cls = true ∨ q = 36 ∨ q = 37 ∨ q = 84) ∧ (eIni q = true → (eM q).name = "<init>") := by
  have h1 := of_decide_eq_true (eRange_all eMok_w1 hq)
  have h2 := eRange_all eMok_w2 hq
  simp only [Bool.and_eq_true, decide_eq_true_eq] at h2
  have h3 := of_decide_eq_true (eRange_all eMok_w3 hq)
  have h4 := eRange_all eMok_w4 hq
  simp only [Bool.or_eq_true] at h4
  have h5 := eRange_all eMok_w5 hq
  simp only [Bool.or_eq_true, Bool.not_eq_true', decide_eq_true_eq] at h5
  refine ⟨h1, h2, h3, ?_, fun h => h5.resolve_left (by rw [h]; decide)⟩
  rcases h4 with ((h | h) | h) | h
  · exact Or.inl h
  · exact Or.inr (Or.inl (Nat.eq_of_beq_eq_true h))
  · exact Or.inr (Or.inr (Or.inl (Nat.eq_of_beq_eq_true h)))
  · exact Or.inr (Or.inr (Or.inr (Nat.eq_of_beq_eq_true h)))
theorem eLsv_lt (own : Nat) : (∀ q ∈ eLs own, q.2 < 202) ∧ (∀ q ∈ eLv own, q.2 < 202) ∧ (∀ q ∈ eLi own, eIni q.2 = true ∧ q.2 < 202) ∧ ∀ q ∈ eLm own, (eIni q.2 = true ∧ q.2 < 202) ∧ own = 6 := by
  by_cases ho : own < 14
  · have h := eRange_all eLi_ini ho
    simp only [Bool.and_eq_true, List.all_eq_true, Nat.blt_eq] at h
    refine ⟨fun q hq => h.1.1.1.2 q hq, fun q hq => h.1.1.2 q hq, fun q hq => h.1.1.1.1.1 q hq, fun q hq => ⟨(h.1.1.1.1.2 q hq).1, Nat.eq_of_beq_eq_true (h.1.1.1.1.2 q hq).2⟩⟩
  · rw [show own = (own - 14) + 14 by omega]
    exact ⟨fun q hq => absurd hq List.not_mem_nil, fun q hq => absurd hq List.not_mem_nil, fun q hq => absurd hq List.not_mem_nil, fun q hq => absurd hq List.not_mem_nil⟩
/-- what a contract of the engine says behind it -/
def eQc (B : Nat) (ro : Nat → Nat) (cA : Nat → ClassId) (D : va_G) (v : Option Value) (AH : eH) : Array Value → State → Outcome → State → Prop := fun _ st oc t => oc = .returned (v.map (eRe B ro)) ∧ va_P D eCl (eWd B ro cA AH) t.heap ∧ va_F (eA B) st t
def ePc (o : eO) (B : Nat) (ro : Nat → Nat) (cA : Nat → ClassId) (D : va_G) (as : List Value) (AH : eH) : Array Value → State → Prop := va_Pc (as.map (eRe B ro)) (fun U => U.heap.size = B + AH.length ∧ va_P D eCl (eWd B ro cA AH) U.heap ∧ va_K D eCl (eTys cA) U ∧ eRo o B ro U U.heap)
theorem ePc_blind (o : eO) (B : Nat) (ro : Nat → Nat) (cA : Nat → ClassId) (D : va_G) (as : List Value) (AH : eH) : FrameBlind (ePc o B ro cA D as AH) := by
  intro a U g mk h
  obtain ⟨h1, h2, h3, h4, h5⟩ := h
  exact ⟨h1, h2, h3, va_K.moved (u := U) (U := U.calling g mk a) (Vm.Alike.refl U.vm) h4, eRo_warm (s := U) (U := U.calling g mk a) (State.WarmedH.refl U) h5⟩
section E4
variable {p : Program} {l : Launch} {e : Env} {R : Room} {s : State} {m : MethodId} {args : Array Value} {below : List Frame} {meth : Method} {c : Code} {H : Heap} {locs : List Loc} {cells slots : Nat} {Q : State → Prop}
variable {o : eO} {B : Nat} {ro : Nat → Nat} {cA : Nat → ClassId} {D : va_G} {k : Nat}
theorem eSized {AH : eH} {len0 : Nat} {g : JFrame} (hI : eIv B ro cA D AH s H locs) (h0 : s.heap.size = B + len0) (hc : cells + len0 = AH.length) (kk : H.size = B + AH.length → W p l e R s m args below meth c H locs cells slots Q g) : W p l e R s m args below meth c H locs cells slots Q g := by
  intro T hT X
  have h1 := X.heapSize
  rw [hT] at h1
  have h2 : B + AH.length ≤ H.size := by
    have h3 := hI.2.1
    by_cases hz : AH.length = 0
    · omega
    · have hlt : AH.length - 1 < AH.length := by omega
      have h4 := (hI.1 _ _ (eWd_get (List.getElem?_eq_getElem hlt))).lt
      dsimp only at h4
      omega
  exact kk (by omega) T hT X
theorem eCalled {v : Option Value} {AH1 : eH} {rest : List Value} {mc ms pc : Nat} {ls : Array Slot} {st0 : List Value} {a : Array Value} (hS : va_S (eA B) s.heap H locs)
    (hr : va_Run p l e R s m args below meth c H locs cells slots mc ms (F0 m pc ls st0) rest (eQc B ro cA D v AH1 a) (eA B))
    (kk : ∀ H1 locs1, eIv B ro cA D AH1 s H1 locs1 → W p l e R s m args below meth c H1 locs1 (cells + mc) (slots + ms) Q (F0 m (pc + 3) ls ((v.map (eRe B ro)).toList ++ rest))) : W p l e R s m args below meth c H locs cells slots Q (F0 m pc ls st0) := by
  intro T hT X
  obtain ⟨w, st1, t, T', L, h0, X', hL, e1, e2, ⟨hv, hP, hz, hk⟩, st⟩ := hr T hT X
  have hv : w = v.map (eRe B ro) := by cases hv; rfl
  subst hv
  rw [h0] at hz hk
  obtain ⟨t2, a1, b1⟩ := kk T'.heap (locs ++ L) ⟨by rw [e1]; exact hP, Nat.le_trans hS.1 (by rw [e1]; exact hz), fun q g1 g2 => by rw [e1, hk q (Nat.lt_of_lt_of_le g1 hS.1) g2]; exact hS.2.1 q g1 g2, fun q hq => by
      rcases List.mem_append.mp hq with h | h
      · exact hS.2.2 q h
      · exact hL q h⟩ T' rfl X'
  exact ⟨t2, st t2 a1, b1⟩
end E4
end
section
theorem eHas_mem : ∀ {l : List (Nat × Nat)} {x y : Nat}, eHas l x y = true → (x, y) ∈ l
  | [], _, _, h => by cases h
  | (a, b) :: l, x, y, h => by
    unfold eHas at h
    split at h
    · rename_i h1 h2
      rw [Nat.eq_of_beq_eq_true h1, Nat.eq_of_beq_eq_true h2]
      exact List.mem_cons_self
    · exact List.mem_cons_of_mem _ (eHas_mem h)
theorem eOi_in : ∀ q ∈ eOi, Cond.methodLink (eN q.1) q.2 Lib.objectInit ∈ eWs := eIn_of (fun q : Nat × Nat => Cond.methodLink (eN q.1) q.2 Lib.objectInit) eOip eOi (fun _ => rfl) eOi_w
theorem eAc_in : ∀ q ∈ eAc, Cond.methodLink (eN q.1) q.2 arraycopyName ∈ eWs := eIn_of (fun q : Nat × Nat => Cond.methodLink (eN q.1) q.2 arraycopyName) eAcp eAc (fun _ => rfl) eAc_w
theorem eMth_eq {q : Nat} {st st' : List Value} {v : Value} (h : eMth q st = some (some (v, st'))) : (q = 36 ∧ ∃ x y : Int32, st = .int y :: .int x :: st' ∧ v = .int (if x < y then y else x)) ∨ (q = 37 ∧ ∃ x y : Int32, st = .int y :: .int x :: st' ∧ v = .int (if y < x then y else x)) ∨ (q = 84 ∧ ∃ x : Int32, st = .int x :: st' ∧ v = .int (if 0 ≤ x then x else 0 - x)) := by
  unfold eMth at h
  split at h
  · cases h; exact Or.inl ⟨rfl, _, _, rfl, rfl⟩
  · cases h; exact Or.inr (Or.inl ⟨rfl, _, _, rfl, rfl⟩)
  · cases h; exact Or.inr (Or.inr ⟨rfl, _, rfl, rfl⟩)
  · cases h
  · cases h
  · cases h
  · cases h
theorem eMth_none {q : Nat} {st : List Value} (h : eMth q st = none) : q ≠ 36 ∧ q ≠ 37 ∧ q ≠ 84 := by
  refine ⟨fun e => ?_, fun e => ?_, fun e => ?_⟩ <;> subst e <;> rcases st with _ | ⟨a, _ | ⟨b, t⟩⟩ <;> (try cases a) <;> (try cases b) <;> cases h
def eRet (k : Nat) (i : Instr) (v : Option Value) : Prop := match i with
  | .ireturn => ∃ x ty, v = some (.int x) ∧ eRt.getD k none = some ty ∧ eFit ty (.int x) = true
  | .lreturn => ∃ x, v = some (.long x) ∧ eRt.getD k none = some .long
  | .areturn => ∃ h t, v = some (.ref h) ∧ eRt.getD k none = some (.array t)
  | .return_ => v = none ∧ eRt.getD k none = none
  | _ => False
theorem eRt_none {k : Nat} (h : eRt.getD k (some .int) = none) : eRt.getD k none = none := by
  rw [List.getD_eq_getElem?_getD] at h ⊢
  cases hq : eRt[k]? with
  | none => rw [hq] at h; cases h
  | some z => rw [hq] at h; exact h
theorem eCpy_ok {st st' : List Value} {AH AH' : eH} (h : eCpy st AH = some (st', AH')) : ∃ (n dp sp : Int32) (a b : Nat), st = .int n :: .int dp :: .ref b :: .int sp :: .ref a :: st' ∧ ¬ sp < 0 ∧ ¬ dp < 0 ∧ ¬ n < 0 ∧ eWords st' ≤ 8 ∧
    ((∃ n0 n1 f g, AH[a]? = some (.inl (0, n0, .inl f)) ∧ AH[b]? = some (.inl (0, n1, .inl g)) ∧ sp.toNatClampNeg + n.toNatClampNeg ≤ n0 ∧ dp.toNatClampNeg + n.toNatClampNeg ≤ n1 ∧ AH' = AH.set b (.inl (0, n1, .inl (va_cpy f g sp.toNatClampNeg dp.toNatClampNeg n.toNatClampNeg)))) ∨
    (∃ n0 n1 f g, AH[a]? = some (.inl (1, n0, .inr f)) ∧ AH[b]? = some (.inl (1, n1, .inr g)) ∧ sp.toNatClampNeg + n.toNatClampNeg ≤ n0 ∧ dp.toNatClampNeg + n.toNatClampNeg ≤ n1 ∧ AH' = AH.set b (.inl (1, n1, .inr (va_cpy f g sp.toNatClampNeg dp.toNatClampNeg n.toNatClampNeg))))) := by
  unfold eCpy at h
  split at h
  · rename_i n dp b sp a st1
    split at h
    · cases h
    · rename_i hn
      have h1 : ¬ sp < 0 := fun z => hn (Or.inl z)
      have h2 : ¬ dp < 0 := fun z => hn (Or.inr (Or.inl z))
      have h3 : ¬ n < 0 := fun z => hn (Or.inr (Or.inr z))
      split at h
      · rename_i n0 f n1 g e1 e2
        split at h
        · rename_i q1 q2 q3
          cases h
          exact ⟨n, dp, sp, a, b, rfl, h1, h2, h3, Nat.le_of_ble_eq_true q3, Or.inl ⟨n0, n1, f, g, e1, e2, Nat.le_of_ble_eq_true q1, Nat.le_of_ble_eq_true q2, rfl⟩⟩
        · cases h
      · rename_i n0 f n1 g e1 e2
        split at h
        · rename_i q1 q2 q3
          cases h
          exact ⟨n, dp, sp, a, b, rfl, h1, h2, h3, Nat.le_of_ble_eq_true q3, Or.inr ⟨n0, n1, f, g, e1, e2, Nat.le_of_ble_eq_true q1, Nat.le_of_ble_eq_true q2, rfl⟩⟩
        · cases h
      · cases h
  · cases h
section E5
variable {p : Program} {l : Launch} {e : Env} {R : Room} {s : State} {m : MethodId} {args : Array Value} {below : List Frame} {meth : Method} {c : Code} {H : Heap} {locs : List Loc} {cells slots : Nat} {Q : State → Prop}
variable {o : eO} {B : Nat} {ro : Nat → Nat} {cA : Nat → ClassId} {D : va_G} {k : Nat}
/-- a call's road through a contract -/
def eThru (l : Launch) (o : eO) (B : Nat) (ro : Nat → Nat) (cA : Nat → ClassId) (D : va_G) (p : Program) (e : Env) (R : Room) (s : State) (m : MethodId) (args : Array Value) (below : List Frame) (meth : Method) (c : Code) (H : Heap) (locs : List Loc) (cells slots : Nat) (Q : State → Prop) (q : Nat) (as : List Value) (AH : eH) (pc : Nat) (ls : Array Slot) (st st' : List Value) : Prop :=
  ∀ (v : Option Value) (AH1 : eH) (mc ms : Nat), Met l (eM q) (Cond.code (eM q) (eBy q) (eMx.getD q 0) (eRt.getD q none) :: eWs) { frames := eFr.getD q 0, cells := mc, slots := ms, locals := eLo.getD q 0 } (ePc o B ro cA D as AH) (eQc B ro cA D v AH1) mc ms (eA B) → cells + mc ≤ R.cells → slots + ms ≤ R.slots →
    (∀ H1 locs1, eIv B ro cA D AH1 s H1 locs1 → W p l e R s m args below meth c H1 locs1 (cells + mc) (slots + ms) Q (F0 m (pc + 3) ls ((v.map (eRe B ro)).toList ++ st'.map (eRe B ro)))) → W p l e R s m args below meth c H locs cells slots Q (F0 m pc ls (st.map (eRe B ro)))
theorem ePre_at (hF : eFx o B ro cA D k p s m args meth c) {AH : eH} {as : List Value} (hI : eIv B ro cA D AH s H locs) (hsz : H.size = B + AH.length) : ∀ U : State, U.heap = H → s.WarmedH U.vm → ePc o B ro cA D as AH (as.map (eRe B ro)).toArray U := by
  intro U hU hW
  obtain ⟨hx, hb, hml, hr, hlk, hin, hown, hts, hK, hRo⟩ := hF
  refine ⟨rfl, by rw [hU]; exact hsz, by rw [hU]; exact hI.1, va_K.moved hW.alike hK, ?_⟩
  rw [hU]
  exact eRo_kept hI.2.2.1 (eRo_warm hW hRo)
theorem eFits_ok {k q : Nat} {R : Room} (h : eFits k q = true) (h1 : eFr.getD k 0 ≤ R.frames) (h2 : eLo.getD k 0 ≤ R.locals) : eFr.getD q 0 + 1 ≤ R.frames ∧ 8 + (eMx.getD q 0 + 11) + eLo.getD q 0 ≤ R.locals := by
  unfold eFits at h
  simp only [Bool.and_eq_true] at h
  exact ⟨Nat.le_trans (Nat.le_of_ble_eq_true h.1) h1, Nat.le_trans (Nat.le_of_ble_eq_true h.2) h2⟩
theorem eSta_ok (hF : eFx o B ro cA D k p s m args meth c) {idx pc q : Nat} {L : eL} {st st' as : List Value} {AH : eH} {ls : Array Slot} (hd : decode (eBy k) pc = .ok (.invokestatic idx, 3)) (hl : eLc B ro ls (eMx.getD k 0) L) (hI : eIv B ro cA D AH s H locs) (hsz : H.size = B + AH.length)
    (hfi : eFits k q = true) (h1 : eFr.getD k 0 ≤ R.frames) (h2 : eLo.getD k 0 ≤ R.locals) (hq : eFind (eLs (eOwn k)) idx = some q) (hpop : ePop (eNa.getD q 0) [] st = some (as, st')) (hw : eWords st' ≤ 8) :
    eThru l o B ro cA D p e R s m args below meth c H locs cells slots Q q as AH pc ls st st' := by
  intro v AH1 mc ms hM hc hs kk
  have hF' := hF
  obtain ⟨hx, hb, hml, hr, hlk, hin, hown, hts, hK, hRo⟩ := hF
  have hm := eFind_mem hq
  have hlt := (eLsv_lt (eOwn k)).1 _ hm
  obtain ⟨-, hy, hdsc, -⟩ := eM_ok (show q < 203 by omega)
  obtain ⟨hlen, hst⟩ := ePop_st hpop
  refine eCalled hI.2 (va_runS (As := as.map (eRe B ro)) (rest := st'.map (eRe B ro)) ⟨hx, hb, hml, hown, hts⟩ hM ⟨callB_of (eNa.getD q 0) hts (eGoodIn hlt) rfl rfl rfl (hts _ (eLsI_in _ _ hm)) (hts _ (eLs_in _ _ hm)) ⟨hy.1, hy.2, hdsc⟩ (eFits_ok hfi h1 h2), hts _ (eLsS_in _ _ hm)⟩ ⟨ePc_blind o B ro cA D as AH, ePre_at hF' hI hsz⟩ rfl (by simp [hlen]) hl.1.1 (by rw [hst]; simp) (lv_room (by rw [eWords_eq]; exact hw)) hd ⟨hc, hs⟩) kk
theorem eVir_ok (hF : eFx o B ro cA D k p s m args meth c) {idx pc q hh cj : Nat} {fs : List Value} {L : eL} {st st' as : List Value} {AH : eH} {ls : Array Slot} (hd : decode (eBy k) pc = .ok (.invokevirtual idx, 3)) (hl : eLc B ro ls (eMx.getD k 0) L) (hI : eIv B ro cA D AH s H locs) (hsz : H.size = B + AH.length)
    (hfi : eFits k q = true) (h1 : eFr.getD k 0 ≤ R.frames) (h2 : eLo.getD k 0 ≤ R.locals) (hq : eFind (eLv (eOwn k)) idx = some q) (hpop : ePop (eNa.getD q 0) [] st = some (as, .ref hh :: st')) (hw : eWords st' ≤ 8) (hob : AH[hh]? = some (.inr (cj, fs))) (hcj : cj = eOwn q) (hc8 : cj < 8) :
    eThru l o B ro cA D p e R s m args below meth c H locs cells slots Q q (.ref hh :: as) AH pc ls st st' := by
  intro v AH1 mc ms hM hc hs kk
  have hF' := hF
  obtain ⟨hx, hb, hml, hr, hlk, hin, hown, hts, hK, hRo⟩ := hF
  have hm := eFind_mem hq
  have hlt := (eLsv_lt (eOwn k)).2.1 _ hm
  obtain ⟨hcl, hy, hdsc, -⟩ := eM_ok (show q < 203 by omega)
  obtain ⟨hlen, hst⟩ := ePop_st hpop
  obtain ⟨N, hcC, -⟩ := eCl_ok cj hc8
  have hrec := va_recv hK hI.1 hcC (eWd_get hob)
  rw [show (eN cj, eU cj, N).1 = (eM q).cls by rw [← hcl, hcj]] at hrec
  refine eCalled hI.2 (va_runV (C := (eM q).cls) (As := as.map (eRe B ro)) (rest := st'.map (eRe B ro)) ⟨hx, hb, hml, hown, hts⟩ hM ⟨callB_of (eNa.getD q 0) hts (eGoodIn hlt) rfl rfl rfl (hts _ (eLvI_in _ _ hm)) (hts _ (eLv_in _ _ hm)) ⟨hy.1, hy.2, hdsc⟩ (eFits_ok hfi h1 h2), hts _ (eLvM_in _ _ hm), hts _ (eLvS_in _ _ hm)⟩ ⟨ePc_blind o B ro cA D _ AH, hrec, ePre_at hF' hI hsz⟩ rfl (by simp [hlen]) hl.1.1 (by rw [hst]; simp [eRe]) (lv_room (by rw [eWords_eq]; exact hw)) hd ⟨hc, hs⟩) kk
theorem eVis_ok (hF : eFx o B ro cA D k p s m args meth c) {idx pc q : Nat} {L : eL} {st st' as : List Value} {AH : eH} {ls : Array Slot} (hd : decode (eBy k) pc = .ok (.invokevirtual idx, 3)) (hl : eLc B ro ls (eMx.getD k 0) L) (hI : eIv B ro cA D AH s H locs) (hsz : H.size = B + AH.length)
    (hfi : eFits k q = true) (h1 : eFr.getD k 0 ≤ R.frames) (h2 : eLo.getD k 0 ≤ R.locals) (hq : eFind (eLv (eOwn k)) idx = some q) (hpop : ePop (eNa.getD q 0) [] st = some (as, .retAddr 2 :: st')) (hw : eWords st' ≤ 8) (hcj : 11 = eOwn q) :
    eThru l o B ro cA D p e R s m args below meth c H locs cells slots Q q (.retAddr 2 :: as) AH pc ls st st' := by
  intro v AH1 mc ms hM hc hs kk
  have hF' := hF
  obtain ⟨hx, hb, hml, hr, hlk, hin, hown, hts, hK, hRo⟩ := hF
  have hm := eFind_mem hq
  have hlt := (eLsv_lt (eOwn k)).2.1 _ hm
  obtain ⟨hcl, hy, hdsc, -⟩ := eM_ok (show q < 203 by omega)
  obtain ⟨hlen, hst⟩ := ePop_st hpop
  have hrec : ∃ cell : Cell, H[ro 2]? = some cell ∧ cell.vm.isStatics = false ∧ s.vm.findClass (eM q).cls = some cell.cls := by
    obtain ⟨cell, g1, g2, g3, -⟩ := (hRo.2.2.2.2.2.2.1).kept hI.2.2.1
    refine ⟨cell, g1, g2, ?_⟩
    rw [← hcl, ← hcj]
    exact g3
  refine eCalled hI.2 (va_runV (C := (eM q).cls) (b := ro 2) (As := as.map (eRe B ro)) (rest := st'.map (eRe B ro)) ⟨hx, hb, hml, hown, hts⟩ hM ⟨callB_of (eNa.getD q 0) hts (eGoodIn hlt) rfl rfl rfl (hts _ (eLvI_in _ _ hm)) (hts _ (eLv_in _ _ hm)) ⟨hy.1, hy.2, hdsc⟩ (eFits_ok hfi h1 h2), hts _ (eLvM_in _ _ hm), hts _ (eLvS_in _ _ hm)⟩ ⟨ePc_blind o B ro cA D _ AH, hrec, ePre_at hF' hI hsz⟩ rfl (by simp [hlen]) hl.1.1 (by rw [hst]; simp [eRe]) (lv_room (by rw [eWords_eq]; exact hw)) hd ⟨hc, hs⟩) kk
theorem eSpe_ok (hF : eFx o B ro cA D k p s m args meth c) {idx pc q hh : Nat} {L : eL} {st' : List Value} {AH : eH} {ls : Array Slot} (hd : decode (eBy k) pc = .ok (.invokespecial idx, 3)) (hl : eLc B ro ls (eMx.getD k 0) L) (hI : eIv B ro cA D AH s H locs) (hsz : H.size = B + AH.length)
    (hfi : eFits k q = true) (h1 : eFr.getD k 0 ≤ R.frames) (h2 : eLo.getD k 0 ≤ R.locals) (hq : eFind (eLi (eOwn k)) idx = some q) (hna : eNa.getD q 0 = 0) (hret : eRt.getD q none = none) (hw : eWords st' ≤ 8) :
    eThru l o B ro cA D p e R s m args below meth c H locs cells slots Q q [.ref hh] AH pc ls (.ref hh :: st') st' := by
  intro v AH1 mc ms hM hc hs kk
  have hF' := hF
  obtain ⟨hx, hb, hml, hr, hlk, hin, hown, hts, hK, hRo⟩ := hF
  have hm := eFind_mem hq
  obtain ⟨hini, hlt⟩ := (eLsv_lt (eOwn k)).2.2.1 _ hm
  obtain ⟨-, hy, hdsc, -, hnm⟩ := eM_ok (show q < 203 by omega)
  have hB := callB_of (R := R) (own := eN (eOwn k)) (index := idx) (mc := mc) (ms := ms) (rm := { frames := eFr.getD q 0, cells := mc, slots := ms, locals := eLo.getD q 0 }) (eNa.getD q 0) hts (eGoodIn hlt) rfl rfl rfl (hts _ (eLiI_in _ _ hm)) (hts _ (eLi_in _ _ hm)) ⟨hy.1, hy.2, hdsc⟩ (eFits_ok hfi h1 h2)
  rw [hret] at hM hB
  refine eCalled hI.2 (va_runI (b := B + hh) (As := []) (rest := st'.map (eRe B ro)) ⟨hx, hb, hml, hown, hts⟩ hM ⟨hB, hnm hini, hts _ (eLiM_in _ _ hm)⟩ ⟨ePc_blind o B ro cA D _ AH, ePre_at hF' hI hsz⟩ rfl hna.symm hl.1.1 rfl (lv_room (by rw [eWords_eq]; exact hw)) hd ⟨hc, hs⟩) kk
theorem eSpn_ok (hF : eFx o B ro cA D k p s m args meth c) {idx pc q hh : Nat} {L : eL} {st' : List Value} {AH : eH} {ls : Array Slot} (hd : decode (eBy k) pc = .ok (.invokespecial idx, 3)) (hl : eLc B ro ls (eMx.getD k 0) L) (hI : eIv B ro cA D AH s H locs) (hsz : H.size = B + AH.length)
    (hfi : eFits k q = true) (h1 : eFr.getD k 0 ≤ R.frames) (h2 : eLo.getD k 0 ≤ R.locals) (hq : eFind (eLm (eOwn k)) idx = some q) (hna : eNa.getD q 0 = 0) (hret : eRt.getD q none = none) (hw : eWords st' ≤ 8) :
    eThru l o B ro cA D p e R s m args below meth c H locs cells slots Q q [.ref hh] AH pc ls (.ref hh :: st') st' := by
  intro v AH1 mc ms hM hc hs kk
  have hF' := hF
  obtain ⟨hx, hb, hml, hr, hlk, hin, hown, hts, hK, hRo⟩ := hF
  have hm := eFind_mem hq
  obtain ⟨⟨hini, hlt⟩, ho6⟩ := (eLsv_lt (eOwn k)).2.2.2 _ hm
  obtain ⟨-, hy, hdsc, -, hnm⟩ := eM_ok (show q < 203 by omega)
  have hmM := eLmM_in _ _ hm
  have hmI := eLmI_in _ _ hm
  rw [ho6] at hm
  have hB := va_cnB (R := R) (own := eN (eOwn k)) (host := "DownAsUp") (index := idx) (mc := mc) (ms := ms) (rm := { frames := eFr.getD q 0, cells := mc, slots := ms, locals := eLo.getD q 0 }) (eNa.getD q 0) hts (eGoodIn hlt) rfl rfl rfl (by rw [ho6]; exact hRo.2.2.2.2.2.2.2.2.2 _ hm) (hts _ hmI) ⟨hy.1, hy.2, hdsc⟩ (eFits_ok hfi h1 h2)
  rw [hret] at hM hB
  refine eCalled hI.2 (va_runIN (b := B + hh) (As := []) (rest := st'.map (eRe B ro)) ⟨hx, hb, hml, hown, hts⟩ hM ⟨hB, hnm hini, hts _ hmM⟩ ⟨ePc_blind o B ro cA D _ AH, ePre_at hF' hI hsz⟩ rfl hna.symm hl.1.1 rfl (lv_room (by rw [eWords_eq]; exact hw)) hd ⟨hc, hs⟩) kk
end E5
end
section
/-! ===== the engine is sound ===== -/
def eSim (l : Launch) (o : eO) (B : Nat) (ro : Nat → Nat) (cA : Nat → ClassId) (D : va_G) (k pc : Nat) (L : eL) (st : List Value) (AH : eH) (v : Option Value) (AH1 : eH) : Prop :=
  ∀ (p : Program) (e : Env) (R : Room) (s : State) (m : MethodId) (args : Array Value) (below : List Frame) (meth : Method) (c : Code) (H : Heap) (locs : List Loc) (cells slots : Nat) (Q : State → Prop) (ls : Array Slot) (len0 tot0 : Nat),
    eFx o B ro cA D k p s m args meth c → eIv B ro cA D AH s H locs → eLc B ro ls (eMx.getD k 0) L → s.heap.size = B + len0 → cells + len0 = AH.length → slots + tot0 = eTot AH → AH1.length ≤ R.cells + len0 → eTot AH1 ≤ R.slots + tot0 → eFr.getD k 0 ≤ R.frames → eLo.getD k 0 ≤ R.locals →
    (∀ (i : Instr) (pc' : Nat) (ls' : Array Slot) (H' : Heap) (locs' : List Loc) (cells' slots' : Nat), decode (eBy k) pc' = .ok (i, 1) → eRet k i v → eIv B ro cA D AH1 s H' locs' → cells' + len0 = AH1.length → slots' + tot0 = eTot AH1 → W p l e R s m args below meth c H' locs' cells' slots' Q (F0 m pc' ls' ((v.map (eRe B ro)).toList))) →
    W p l e R s m args below meth c H locs cells slots Q (F0 m pc ls (st.map (eRe B ro)))
theorem eMet {l : Launch} {o : eO} {B : Nat} {ro : Nat → Nat} {cA : Nat → ClassId} {D : va_G} {q : Nat} {as : List Value} {AH AH1 : eH} {v : Option Value} (hs : eSim l o B ro cA D q 0 (eEnt q as) [] AH v AH1) (hm1 : AH.length ≤ AH1.length) (hm2 : eTot AH ≤ eTot AH1) (hq : q < 202) (hne : q ≠ 36 ∧ q ≠ 37 ∧ q ≠ 84) (ha : (eArgs as).length ≤ eMx.getD q 0) :
    Met l (eM q) (Cond.code (eM q) (eBy q) (eMx.getD q 0) (eRt.getD q none) :: eWs) { frames := eFr.getD q 0, cells := AH1.length - AH.length, slots := eTot AH1 - eTot AH, locals := eLo.getD q 0 } (ePc o B ro cA D as AH) (eQc B ro cA D v AH1) (AH1.length - AH.length) (eTot AH1 - eTot AH) (eA B) := by
  obtain ⟨hcl, hy, hdsc, hpl, hnm⟩ := eM_ok (show q < 203 by omega)
  have hpl : plainName (eM q).cls = true := by
    rcases hpl with h | h | h | h
    · exact h
    · exact absurd h hne.1
    · exact absurd h hne.2.1
    · exact absurd h hne.2.2
  refine Met.ofW (cc := eBy q) (maxL := eMx.getD q 0) (ret := eRt.getD q none) hpl rfl ?_
  intro p e s m args below meth c s₁ Bd hml hv
  obtain ⟨rfl, hsz, hP, hK, hRo⟩ := hv
  have hts0 := atoms_spec (ws := Cond.code (eM q) (eBy q) (eMx.getD q 0) (eRt.getD q none) :: eWs) Bd.pre
  have hts : ∀ w ∈ eWs, w.before (as.map (eRe B ro)).toArray s = true := fun w hw => hts0 w (List.mem_cons_of_mem _ hw)
  have hown : s.vm.findClass (eM q).cls = some m.cls := findClass_of_methodNamed Bd.named
  rw [lg_entry_eq]
  refine hs p e _ s m _ below meth c s.heap [] 0 0 _ _ AH.length (eTot AH) ⟨Bd.exec, Bd.bytes, hml, Bd.returns, Bd.notSynchronized, fun hi => (name_of_methodNamed Bd.named Bd.method).1.trans (hnm hi), by rw [hcl]; exact hown, hts, hK, hRo⟩ ⟨hP, va_S.rf⟩ (eEnt_ok ha) hsz (Nat.zero_add _) (Nat.zero_add _) (by show AH1.length ≤ AH1.length - AH.length + AH.length; omega) (by show eTot AH1 ≤ eTot AH1 - eTot AH + eTot AH; omega) (Nat.le_refl _) (Nat.le_refl _) ?_
  intro i pc' ls' H' locs' cells' slots' hd hr hI hc1 hc2
  have e1 : cells' = AH1.length - AH.length := by omega
  have e2 : slots' = eTot AH1 - eTot AH := by omega
  subst e1
  subst e2
  have hqc : ∀ t : State, t.heap = H' → s.WarmedH t.vm → eQc B ro cA D v AH1 (as.map (eRe B ro)).toArray s (.returned (v.map (eRe B ro))) t := by
    intro t ht _
    refine ⟨rfl, by rw [ht]; exact hI.1, by rw [ht]; exact hI.2.1, fun a g1 g2 => by rw [ht]; exact hI.2.2.1 a g1 g2⟩
  cases i with
  | ireturn =>
    obtain ⟨x, ty, rfl, h1, h2⟩ := hr
    exact W.zret (v := x) Bd.exec Bd.bytes (Bd.returns.trans h1) (eFit_ok (B := B) (ro := ro) h2).1 hqc hI.2.2.2 hd Bd.notSynchronized
  | lreturn =>
    obtain ⟨x, rfl, h1⟩ := hr
    exact W.lret (v := x) Bd.exec Bd.bytes (Bd.returns.trans h1) hqc hI.2.2.2 hd Bd.notSynchronized
  | areturn =>
    obtain ⟨x, t, rfl, h1⟩ := hr
    exact W.aret (v := .ref (B + x)) Bd.exec Bd.bytes (Bd.returns.trans h1) (Or.inr ⟨_, rfl⟩) (Or.inr ⟨_, rfl⟩) hqc hI.2.2.2 hd Bd.notSynchronized
  | return_ =>
    obtain ⟨rfl, h1⟩ := hr
    exact W.vret Bd.exec Bd.bytes (Bd.returns.trans h1) hqc hI.2.2.2 hd Bd.notSynchronized
  | _ => exact hr.elim
/-! shapes -/
theorem eLoc_sh {own : Nat} {i : Instr} {pc : Nat} {L : eL} {st : List Value} {AH : eH} {r : eR} (h : eLoc own i pc L st AH = some r) : ∃ pc' L' st', r = .inl (pc', L', st', AH) := by
  cases i <;> simp only [eLoc, ePush] at h <;> (repeat' split at h) <;> first | (cases h; exact ⟨_, _, _, rfl⟩) | cases h
theorem eAri_sh {i : Instr} {pc : Nat} {L : eL} {st : List Value} {AH : eH} {r : eR} (h : eAri i pc L st AH = some r) : ∃ pc' st', r = .inl (pc', L, st', AH) := by
  unfold eAri ePush at h
  (repeat' split at h) <;> first | (cases h; exact ⟨_, _, rfl⟩) | cases h
theorem eHp_sh {o : eO} {own : Nat} {ini : Bool} {i : Instr} {pc : Nat} {L : eL} {st : List Value} {AH : eH} {r : eR} (h : eHp o own ini i pc L st AH = some r) : ∃ pc' st' AH', r = .inl (pc', L, st', AH') ∧ AH.length ≤ AH'.length ∧ eTot AH ≤ eTot AH' := by
  unfold eHp ePush at h
  (repeat' split at h) <;> first | (cases h; exact ⟨_, _, _, rfl, Nat.le_refl _, Nat.le_refl _⟩) | (cases h; refine ⟨_, _, _, rfl, by simp, ?_⟩; rw [eTot_app]; omega) | (cases h; refine ⟨_, _, _, rfl, by simp, ?_⟩; rw [eTot_set (by assumption) (by simp [eSz])]; exact Nat.le_refl _) | cases h
end
section
theorem eIni_ret {q : Nat} (h : eIni q = true) : eRt.getD q none = none ∧ (q ≠ 36 ∧ q ≠ 37 ∧ q ≠ 84) := by
  unfold eIni at h
  split at h <;> first | exact ⟨rfl, by decide, by decide, by decide⟩ | cases h
theorem eNa_0 {q : Nat} (h : eNa.getD q 1 = 0) : eNa.getD q 0 = 0 := by
  rw [List.getD_eq_getElem?_getD] at h ⊢
  cases hq : eNa[q]? with
  | none => rfl
  | some z => rw [hq] at h; exact h
theorem eOwn_math {q c : Nat} (h : c = eOwn q) (hc : c < 8 ∨ c = 11) : q ≠ 36 ∧ q ≠ 37 ∧ q ≠ 84 := by
  refine ⟨fun e => ?_, fun e => ?_, fun e => ?_⟩ <;> subst e <;> rw [h] at hc <;> revert hc <;> decide
theorem eEdge_of {k : Nat} {q : Nat × Instr × Nat} (h : eChk k q = true) : eEdge k q.2.1 = true ∧ q.2.2 = eLen q.2.1 q.2.2 := by
  simp only [eChk, Bool.and_eq_true] at h
  exact ⟨h.2, Nat.eq_of_beq_eq_true h.1.1.1.1⟩
section E6
variable {p : Program} {l : Launch} {e : Env} {R : Room} {s : State} {m : MethodId} {args : Array Value} {below : List Frame} {meth : Method} {c : Code} {H : Heap} {locs : List Loc} {cells slots : Nat} {Q : State → Prop}
variable {o : eO} {B : Nat} {ro : Nat → Nat} {cA : Nat → ClassId} {D : va_G} {k : Nat}
set_option maxHeartbeats 4000000 in
theorem eCall_ok (hF : eFx o B ro cA D k p s m args meth c) {i : Instr} {pc len : Nat} {L : eL} {st : List Value} {AH : eH} {r : eR} {ls : Array Slot}
    (hd : decode (eBy k) pc = .ok (i, len)) (hc : eChk k (pc, i, len) = true) (hl : eLc B ro ls (eMx.getD k 0) L) (hI : eIv B ro cA D AH s H locs) (hsz : H.size = B + AH.length) (hfr : eFr.getD k 0 ≤ R.frames) (hlo : eLo.getD k 0 ≤ R.locals) (hcs : cells ≤ R.cells) (hss : slots ≤ R.slots) (h : eCall k (eOwn k) i pc L st AH = some r) :
    (∃ pc' st' AH', r = .inl (pc', L, st', AH') ∧ AH'.length = AH.length ∧ eTot AH' = eTot AH ∧ ((∀ H' locs', eIv B ro cA D AH' s H' locs' → W p l e R s m args below meth c H' locs' cells slots Q (F0 m pc' ls (st'.map (eRe B ro)))) → W p l e R s m args below meth c H locs cells slots Q (F0 m pc ls (st.map (eRe B ro))))) ∨
    (∃ v, r = .inr (.inl (v, AH)) ∧ eRet k i v ∧ st = v.toList ∧ len = 1) ∨
    (∃ q as st', r = .inr (.inr (q, as, (pc + 3, L, st', AH))) ∧ q < 202 ∧ (q ≠ 36 ∧ q ≠ 37 ∧ q ≠ 84) ∧ eThru l o B ro cA D p e R s m args below meth c H locs cells slots Q q as AH pc ls st st') := by
  obtain ⟨hed, hlen⟩ := eEdge_of hc
  have hF' := hF
  obtain ⟨hx, hb, hml, hr, hlk, hin, hown, hts, hK, hRo⟩ := hF
  have hmls : c.maxLocals = ls.size := hml.trans hl.1.1.symm
  have hD := eWd_D B ro cA AH
  cases i with
  | invokestatic idx =>
    have hlen : len = 3 := hlen
    subst hlen
    simp only [eCall] at h
    simp only [eEdge] at hed
    cases hac : eHas eAc (eOwn k) idx with
    | true =>
      rw [hac] at h hed
      simp only [Bool.and_eq_true] at hed
      have hf1 : 1 ≤ R.frames := Nat.le_trans (Nat.le_of_ble_eq_true hed.1) hfr
      have hl1 : 26 ≤ R.locals := Nat.le_trans (Nat.le_of_ble_eq_true hed.2) hlo
      cases hcp : eCpy st AH with
      | none => rw [hcp] at h; cases h
      | some z =>
        obtain ⟨st', AH'⟩ := z
        rw [hcp] at h
        cases h
        obtain ⟨n, dp, sp, a, b, rfl, h1, h2, h3, hw, hh⟩ := eCpy_ok hcp
        have hlk1 := hts _ (eAc_in _ (eHas_mem hac))
        have hwr : ((st'.map (eRe B ro)).map fun v => v.category).sum + (nativeFrameWords "java/lang/System" "arraycopy" 5 + 11) ≤ R.locals := by
          rw [eWords_eq, show nativeFrameWords "java/lang/System" "arraycopy" 5 = 7 by decide +kernel]
          omega
        rcases hh with ⟨n0, n1, f, g, e1, e2, e3, e4, rfl⟩ | ⟨n0, n1, f, g, e1, e2, e3, e4, rfl⟩
        · refine Or.inl ⟨_, _, _, rfl, by simp, eTot_set e2 rfl, fun kk => ?_⟩
          exact va_copyi hx hb hmls hown hlk1 (hts _ (eWs_in eAcm.1 rfl)) (hts _ (eWs_in eAcm.2.1 rfl)) (hts _ (eWs_in eAcm.2.2 rfl)) hK hI.1 hD hI.2 a b 0 0 (eWd_get e1) (eWd_get e2) rfl rfl rfl h1 h2 h3 e3 e4 (fun _ _ => rfl) hf1 hwr hd (fun H1 locs1 hP1 _ hS1 => kk H1 locs1 ⟨by rw [← eWd_set]; exact hP1, hS1⟩)
        · refine Or.inl ⟨_, _, _, rfl, by simp, eTot_set e2 rfl, fun kk => ?_⟩
          exact va_copyl hx hb hmls hown hlk1 (hts _ (eWs_in eAcm.1 rfl)) (hts _ (eWs_in eAcm.2.1 rfl)) (hts _ (eWs_in eAcm.2.2 rfl)) hK hI.1 hD hI.2 a b 1 1 (eWd_get e1) (eWd_get e2) rfl rfl rfl h1 h2 h3 e3 e4 (fun _ _ => rfl) hf1 hwr hd (fun H1 locs1 hP1 _ hS1 => kk H1 locs1 ⟨by rw [← eWd_set]; exact hP1, hS1⟩)
    | false =>
      rw [hac] at h hed
      dsimp only at h hed
      cases hq : eFind (eLs (eOwn k)) idx with
      | none => rw [hq] at h; cases h
      | some q =>
        rw [hq] at h hed
        dsimp only at h hed
        have hm := eFind_mem hq
        have hlt := (eLsv_lt (eOwn k)).1 _ hm
        cases hmt : eMth q st with
        | none =>
          rw [hmt] at h
          dsimp only at h
          cases hpop : ePop (eNa.getD q 0) [] st with
          | none => rw [hpop] at h; cases h
          | some z =>
            obtain ⟨as, st'⟩ := z
            rw [hpop] at h
            dsimp only at h
            cases hw : Nat.ble (eWords st') 8 with
            | false => rw [hw] at h; cases h
            | true =>
              rw [hw] at h
              cases h
              exact Or.inr (Or.inr ⟨q, as, st', rfl, hlt, eMth_none hmt, eSta_ok hF' hd hl hI hsz hed hfr hlo hq hpop (Nat.le_of_ble_eq_true hw)⟩)
        | some z =>
          cases z with
          | none => rw [hmt] at h; cases h
          | some w =>
            obtain ⟨v, st'⟩ := w
            rw [hmt] at h
            dsimp only at h
            cases hw : Nat.ble (eWords st') 7 with
            | false => rw [hw] at h; cases h
            | true =>
              rw [hw] at h
              cases h
              have hw := Nat.le_of_ble_eq_true hw
              have hro := eFits_ok hed hfr hlo
              have hwr : ((st'.map (eRe B ro)).map fun v => v.category).sum + 13 ≤ R.locals := by
                rw [eWords_eq]
                have := hro.2
                have : 1 ≤ eMx.getD q 0 := by rcases eMth_eq hmt with ⟨rfl, -⟩ | ⟨rfl, -⟩ | ⟨rfl, -⟩ <;> decide
                omega
              have hf1 : 1 ≤ R.frames := by have := hro.1; omega
              have hlk1 := hts _ (eLs_in _ _ hm)
              have hst1 := hts _ (eLsS_in _ _ hm)
              have hin1 := hts _ (eLsI_in _ _ hm)
              have hco := hts _ (eMp_in q hlt)
              dsimp only at hlk1 hst1 hin1
              rcases eMth_eq hmt with ⟨rfl, x, y, rfl, rfl⟩ | ⟨rfl, x, y, rfl, rfl⟩ | ⟨rfl, x, rfl, rfl⟩
              · rw [eMth_n.1] at hlk1 hst1 hin1 hco
                rw [eMth_n.2.2.2.1] at hco
                exact Or.inl ⟨_, _, _, rfl, rfl, rfl, fun kk => va_mmax hx hb hmls hown hlk1 hst1 hin1 hco hf1 hwr hcs hss hd (kk H locs hI)⟩
              · rw [eMth_n.2.1] at hlk1 hst1 hin1 hco
                rw [eMth_n.2.2.2.2.1] at hco
                exact Or.inl ⟨_, _, _, rfl, rfl, rfl, fun kk => va_mmin hx hb hmls hown hlk1 hst1 hin1 hco hf1 hwr hcs hss hd (kk H locs hI)⟩
              · rw [eMth_n.2.2.1] at hlk1 hst1 hin1 hco
                rw [eMth_n.2.2.2.2.2] at hco
                exact Or.inl ⟨_, _, _, rfl, rfl, rfl, fun kk => va_mabs hx hb hmls hown hlk1 hst1 hin1 hco hf1 (by omega) hcs hss hd (kk H locs hI)⟩
  | invokevirtual idx =>
    have hlen : len = 3 := hlen
    subst hlen
    simp only [eCall] at h
    simp only [eEdge] at hed
    cases hq : eFind (eLv (eOwn k)) idx with
    | none => rw [hq] at h; cases h
    | some q =>
      rw [hq] at h hed
      dsimp only at h hed
      have hm := eFind_mem hq
      have hlt := (eLsv_lt (eOwn k)).2.1 _ hm
      cases hpop : ePop (eNa.getD q 0) [] st with
      | none => rw [hpop] at h; cases h
      | some z =>
        obtain ⟨as, st2⟩ := z
        rw [hpop] at h
        cases st2 with
        | nil => cases h
        | cons rv st' =>
          cases rv with
          | ref hh =>
            dsimp only at h
            cases hob : AH[hh]? with
            | none => rw [hob] at h; cases h
            | some ce =>
              cases ce with
              | inl z => rw [hob] at h; cases h
              | inr z =>
                obtain ⟨cj, fs⟩ := z
                cases hw : Nat.ble (eWords st') 8 with
                | false => rw [hob, hw] at h; cases h
                | true =>
                  rw [hob, hw] at h
                  dsimp only at h
                  cases hcj : Nat.beq cj (eOwn q) with
                  | false => rw [hcj] at h; cases h
                  | true =>
                    rw [hcj] at h
                    cases h
                    have hcj := Nat.eq_of_beq_eq_true hcj
                    have hc8 : cj < 8 := by
                      obtain ⟨rr, hr1, -⟩ := hI.1 hh _ (eWd_get hob)
                      exact (List.getElem?_eq_some_iff.mp hr1).1
                    exact Or.inr (Or.inr ⟨q, _, st', rfl, hlt, eOwn_math hcj (Or.inl hc8), eVir_ok hF' hd hl hI hsz hed hfr hlo hq hpop (Nat.le_of_ble_eq_true hw) hob hcj hc8⟩)
          | retAddr kr =>
            match kr, hpop, h with
            | 2, hpop, h =>
              split at h
              · rename_i e1
                cases e1
              · rename_i e1
                cases e1
                split at h
                · rename_i hcj hw
                  cases h
                  have hcj := Nat.eq_of_beq_eq_true hcj
                  exact Or.inr (Or.inr ⟨q, _, st', rfl, hlt, eOwn_math hcj (Or.inr rfl), eVis_ok hF' hd hl hI hsz hed hfr hlo hq hpop (Nat.le_of_ble_eq_true hw) hcj⟩)
                · cases h
              · cases h
            | 0, hpop, h => cases h
            | 1, hpop, h => cases h
            | kr + 3, hpop, h => cases h
          | _ => cases h
  | invokespecial idx =>
    have hlen : len = 3 := hlen
    subst hlen
    simp only [eCall] at h
    simp only [eEdge] at hed
    cases hoi : eHas eOi (eOwn k) idx with
    | true =>
      rw [hoi] at h hed
      simp only [Bool.and_eq_true] at hed
      have hf1 : 1 ≤ R.frames := Nat.le_trans (Nat.le_of_ble_eq_true hed.1) hfr
      have hl1 : 20 ≤ R.locals := Nat.le_trans (Nat.le_of_ble_eq_true hed.2) hlo
      dsimp only at h
      split at h
      · rename_i hh st'
        split at h
        · rename_i hw
          cases h
          have hw := Nat.le_of_ble_eq_true hw
          refine Or.inl ⟨_, _, _, rfl, rfl, rfl, fun kk => ?_⟩
          exact W.objInit hx hb hown (hts _ (eOi_in _ (eHas_mem hoi))) (hts _ (eWs_in eOb_m.1 rfl)) (hts _ (eWs_in eOb_m.2 rfl)) rfl hmls.symm rfl hd hf1 (by have := eWords_eq B ro st'; show 2 * 0 + _ + 12 ≤ _; rw [this]; omega) (kk H locs hI)
        · cases h
      · cases h
    | false =>
      rw [hoi] at h hed
      dsimp only at h hed
      cases hq : eFind (eLi (eOwn k)) idx with
      | some q =>
        rw [hq] at h hed
        have hed : eFits k q = true := by
          cases hq2 : eFind (eLm (eOwn k)) idx <;> rw [hq2] at hed <;> exact hed
        obtain ⟨hini, hlt⟩ := (eLsv_lt (eOwn k)).2.2.1 _ (eFind_mem hq)
        cases hq2 : eFind (eLm (eOwn k)) idx with
          | none =>
            rw [hq2] at h
            cases st with
            | nil => cases h
            | cons rv st' =>
              cases rv with
              | ref hh =>
                dsimp only at h
                split at h
                · rename_i hw hna
                  cases h
                  exact Or.inr (Or.inr ⟨q, _, _, rfl, hlt, (eIni_ret hini).2, eSpe_ok hF' hd hl hI hsz hed hfr hlo hq (eNa_0 hna) (eIni_ret hini).1 (Nat.le_of_ble_eq_true hw)⟩)
                · cases h
              | _ => cases h
          | some q2 =>
            rw [hq2] at h
            cases st with
            | nil => cases h
            | cons rv st' =>
              cases rv with
              | ref hh =>
                dsimp only at h
                split at h
                · rename_i hw hna
                  cases h
                  exact Or.inr (Or.inr ⟨q, _, _, rfl, hlt, (eIni_ret hini).2, eSpe_ok hF' hd hl hI hsz hed hfr hlo hq (eNa_0 hna) (eIni_ret hini).1 (Nat.le_of_ble_eq_true hw)⟩)
                · cases h
              | _ => cases h
      | none =>
        cases hq2 : eFind (eLm (eOwn k)) idx with
        | none => rw [hq, hq2] at h; cases h
        | some q =>
          rw [hq, hq2] at h hed
          obtain ⟨⟨hini, hlt⟩, -⟩ := (eLsv_lt (eOwn k)).2.2.2 _ (eFind_mem hq2)
          cases st with
          | nil => cases h
          | cons rv st' =>
            cases rv with
            | ref hh =>
              dsimp only at h
              split at h
              · rename_i hw hna
                cases h
                exact Or.inr (Or.inr ⟨q, _, _, rfl, hlt, (eIni_ret hini).2, eSpn_ok hF' hd hl hI hsz hed hfr hlo hq2 (eNa_0 hna) (eIni_ret hini).1 (Nat.le_of_ble_eq_true hw)⟩)
              · cases h
            | _ => cases h
  | ireturn =>
    simp only [eCall] at h
    split at h
    · rename_i x ty hty
      split at h
      · rename_i hfi
        cases h
        exact Or.inr (Or.inl ⟨_, rfl, ⟨x, ty, rfl, hty, hfi⟩, rfl, hlen⟩)
      · cases h
    · cases h
  | lreturn =>
    simp only [eCall] at h
    split at h
    · rename_i x hty
      cases h
      exact Or.inr (Or.inl ⟨_, rfl, ⟨x, rfl, hty⟩, rfl, hlen⟩)
    · cases h
  | areturn =>
    simp only [eCall] at h
    split at h
    · rename_i x ty hty
      cases h
      exact Or.inr (Or.inl ⟨_, rfl, ⟨x, ty, rfl, hty⟩, rfl, hlen⟩)
    · cases h
  | return_ =>
    simp only [eCall] at h
    split at h
    · rename_i hty
      cases h
      exact Or.inr (Or.inl ⟨_, rfl, ⟨rfl, eRt_none hty⟩, rfl, hlen⟩)
    · cases h
  | _ => cases h
end E6
end
section
theorem eCall_sh {k own : Nat} {i : Instr} {pc : Nat} {L : eL} {st : List Value} {AH : eH} {r : eR} (h : eCall k own i pc L st AH = some r) : (∃ pc' st' AH', r = .inl (pc', L, st', AH') ∧ AH.length ≤ AH'.length ∧ eTot AH ≤ eTot AH') ∨ (∃ v, r = .inr (.inl (v, AH))) ∨ ∃ q as st', r = .inr (.inr (q, as, (pc + 3, L, st', AH))) := by
  unfold eCall at h
  split at h
  · split at h
    · split at h
      · rename_i st' AH' hcp
        cases h
        obtain ⟨n, dp, sp, a, b, -, -, -, -, -, hh⟩ := eCpy_ok hcp
        rcases hh with ⟨n0, n1, f, g, e1, e2, e3, e4, rfl⟩ | ⟨n0, n1, f, g, e1, e2, e3, e4, rfl⟩
        · exact Or.inl ⟨_, _, _, rfl, by simp, by refine Nat.le_of_eq (Eq.symm (eTot_set e2 ?_)); rfl⟩
        · exact Or.inl ⟨_, _, _, rfl, by simp, by refine Nat.le_of_eq (Eq.symm (eTot_set e2 ?_)); rfl⟩
      · cases h
    · (repeat' split at h) <;> first | (cases h; exact Or.inl ⟨_, _, _, rfl, Nat.le_refl _, Nat.le_refl _⟩) | (cases h; exact Or.inr (Or.inr ⟨_, _, _, rfl⟩)) | cases h
  all_goals ((repeat' split at h) <;> first | (cases h; exact Or.inl ⟨_, _, _, rfl, Nat.le_refl _, Nat.le_refl _⟩) | (cases h; exact Or.inr (Or.inl ⟨_, rfl⟩)) | (cases h; exact Or.inr (Or.inr ⟨_, _, _, rfl⟩)) | cases h)
theorem eStep_sh {o : eO} {k : Nat} {i : Instr} {pc : Nat} {L : eL} {st : List Value} {AH : eH} {r : eR} (h : eStep o k i pc L st AH = some r) : (∃ pc' L' st' AH', r = .inl (pc', L', st', AH') ∧ AH.length ≤ AH'.length ∧ eTot AH ≤ eTot AH') ∨ (∃ v, r = .inr (.inl (v, AH))) ∨ ∃ q as st', r = .inr (.inr (q, as, (pc + 3, L, st', AH))) := by
  unfold eStep at h
  split at h
  · obtain ⟨a, b, c, rfl⟩ := eLoc_sh h
    exact Or.inl ⟨a, b, c, AH, rfl, Nat.le_refl _, Nat.le_refl _⟩
  · obtain ⟨a, c, rfl⟩ := eAri_sh h
    exact Or.inl ⟨a, L, c, AH, rfl, Nat.le_refl _, Nat.le_refl _⟩
  · obtain ⟨a, c, d, rfl, h1, h2⟩ := eHp_sh h
    exact Or.inl ⟨a, L, c, d, rfl, h1, h2⟩
  · rcases eCall_sh h with ⟨a, c, d, rfl, h1, h2⟩ | h1 | h1
    · exact Or.inl ⟨a, L, c, d, rfl, h1, h2⟩
    · exact Or.inr (Or.inl h1)
    · exact Or.inr (Or.inr h1)
set_option maxHeartbeats 4000000 in
/-- THE ENGINE IS SOUND: what it answers, the machine answers -/
theorem eX_ok (l : Launch) (o : eO) (B : Nat) (ro : Nat → Nat) (cA : Nat → ClassId) (D : va_G) : ∀ (n k pc : Nat) (L : eL) (st : List Value) (AH : eH) (v : Option Value) (AH1 : eH), eX o n k pc L st AH = some (v, AH1) → (AH.length ≤ AH1.length ∧ eTot AH ≤ eTot AH1) ∧ eSim l o B ro cA D k pc L st AH v AH1 := by
  intro n
  induction n with
  | zero => intro k pc L st AH v AH1 h; cases h
  | succ n ih =>
    intro k pc L st AH v AH1 h
    unfold eX at h
    cases hat : eAt k pc with
    | none => rw [hat] at h; cases h
    | some il =>
      obtain ⟨i, len⟩ := il
      have hmem : (pc, (i, len)) ∈ eCd k := eFind_mem hat
      have hd : decode (eBy k) pc = .ok (i, len) := eCd_ok k (pc, (i, len)) hmem
      have hc := eChk_ok k (pc, (i, len)) hmem
      rw [hat] at h
      dsimp only at h
      cases hst : eStep o k i pc L st AH with
      | none => rw [hst] at h; cases h
      | some r =>
        rw [hst] at h
        rcases eStep_sh hst with ⟨pc', L', st', AH', rfl, hm1, hm2⟩ | ⟨w, rfl⟩ | ⟨q, as, st', rfl⟩
        · dsimp only at h
          obtain ⟨⟨hn1, hn2⟩, hsim⟩ := ih _ _ _ _ _ _ _ h
          refine ⟨⟨Nat.le_trans hm1 hn1, Nat.le_trans hm2 hn2⟩, ?_⟩
          intro p e R s m args below meth c H locs cells slots Q ls len0 tot0 hF hI hl h0 hc1 hc2 hr1 hr2 hr3 hr4 hQ
          refine eSized hI h0 hc1 fun hsz => ?_
          unfold eStep at hst
          split at hst
          · obtain ⟨a, b, d, e1, kk⟩ := eLoc_ok (R := R) (H := H) (locs := locs) (cells := cells) (slots := slots) (Q := Q) (l := l) (e := e) (below := below) hF hd hc hl hst
            cases e1
            exact kk fun ls' hl' => hsim p e R s m args below meth c H locs cells slots Q ls' len0 tot0 hF hI hl' h0 hc1 hc2 hr1 hr2 hr3 hr4 hQ
          · obtain ⟨a, d, e1, kk⟩ := eAri_ok (R := R) (H := H) (locs := locs) (cells := cells) (slots := slots) (Q := Q) (l := l) (e := e) (below := below) (ls := ls) hF hd hc hst
            cases e1
            exact kk (hsim p e R s m args below meth c H locs cells slots Q ls len0 tot0 hF hI hl h0 hc1 hc2 hr1 hr2 hr3 hr4 hQ)
          · obtain ⟨a, d, AH2, dc, ds, e1, g1, g2, kk⟩ := eHp_ok (R := R) (cells := cells) (slots := slots) (Q := Q) (l := l) (e := e) (below := below) (ls := ls) hF hd hc hI hsz (by omega) hst
            cases e1
            exact kk (by omega) (by omega) fun H' locs' hI' => hsim p e R s m args below meth c H' locs' (cells + dc) (slots + ds) Q ls len0 tot0 hF hI' hl h0 (by omega) (by omega) hr1 hr2 hr3 hr4 hQ
          · rcases eCall_ok (R := R) (cells := cells) (slots := slots) (Q := Q) (l := l) (e := e) (below := below) hF hd hc hl hI hsz hr3 hr4 (by omega) (by omega) hst with ⟨a, d, AH2, e1, g1, g2, kk⟩ | ⟨w, e1, -⟩ | ⟨q, as, st2, e1, -⟩
            · cases e1
              exact kk fun H' locs' hI' => hsim p e R s m args below meth c H' locs' cells slots Q ls len0 tot0 hF hI' hl h0 (by omega) (by omega) hr1 hr2 hr3 hr4 hQ
            · cases e1
            · cases e1
        · cases h
          refine ⟨⟨Nat.le_refl _, Nat.le_refl _⟩, ?_⟩
          intro p e R s m args below meth c H locs cells slots Q ls len0 tot0 hF hI hl h0 hc1 hc2 hr1 hr2 hr3 hr4 hQ
          refine eSized hI h0 hc1 fun hsz => ?_
          unfold eStep at hst
          split at hst
          · obtain ⟨a, b, d, e1⟩ := eLoc_sh hst
            cases e1
          · obtain ⟨a, d, e1⟩ := eAri_sh hst
            cases e1
          · obtain ⟨a, d, AH2, e1, -⟩ := eHp_sh hst
            cases e1
          · rcases eCall_ok (R := R) (cells := cells) (slots := slots) (Q := Q) (l := l) (e := e) (below := below) hF hd hc hl hI hsz hr3 hr4 (by omega) (by omega) hst with ⟨a, d, AH2, e1, -⟩ | ⟨w, e1, g1, g2, g3⟩ | ⟨q, as, st2, e1, -⟩
            · cases e1
            · cases e1
              subst g3
              have := hQ i pc ls H locs cells slots hd g1 hI hc1 hc2
              rw [g2]
              cases v with
              | none => exact this
              | some z => exact this
            · cases e1
        · dsimp only at h
          cases hle : Nat.ble (eArgs as).length (eMx.getD q 0) with
          | false => rw [hle] at h; cases h
          | true =>
            cases hx : eX o n q 0 (eEnt q as) [] AH with
            | none => rw [hle, hx] at h; cases h
            | some z =>
              obtain ⟨w, AH2⟩ := z
              rw [hle, hx] at h
              dsimp only at h
              obtain ⟨⟨hm1, hm2⟩, hsim1⟩ := ih _ _ _ _ _ _ _ hx
              obtain ⟨⟨hn1, hn2⟩, hsim⟩ := ih _ _ _ _ _ _ _ h
              refine ⟨⟨Nat.le_trans hm1 hn1, Nat.le_trans hm2 hn2⟩, ?_⟩
              intro p e R s m args below meth c H locs cells slots Q ls len0 tot0 hF hI hl h0 hc1 hc2 hr1 hr2 hr3 hr4 hQ
              refine eSized hI h0 hc1 fun hsz => ?_
              unfold eStep at hst
              split at hst
              · obtain ⟨a, b, d, e1⟩ := eLoc_sh hst
                cases e1
              · obtain ⟨a, d, e1⟩ := eAri_sh hst
                cases e1
              · obtain ⟨a, d, AH3, e1, -⟩ := eHp_sh hst
                cases e1
              · rcases eCall_ok (R := R) (cells := cells) (slots := slots) (Q := Q) (l := l) (e := e) (below := below) hF hd hc hl hI hsz hr3 hr4 (by omega) (by omega) hst with ⟨a, d, AH3, e1, -⟩ | ⟨w, e1, -⟩ | ⟨q', as', st2, e1, g1, g2, g3⟩
                · cases e1
                · cases e1
                · cases e1
                  refine g3 w AH2 _ _ (eMet hsim1 hm1 hm2 g1 g2 (Nat.le_of_ble_eq_true hle)) (by omega) (by omega) fun H1 locs1 hI1 => ?_
                  have := hsim p e R s m args below meth c H1 locs1 (cells + (AH2.length - AH.length)) (slots + (eTot AH2 - eTot AH)) Q ls len0 tot0 hF hI1 hl h0 (by omega) (by omega) hr1 hr2 hr3 hr4 hQ
                  cases w with
                  | none => exact this
                  | some z => exact this
end
section
/-! THE CLAIM OUT OF ONE WALK OF THE LAW'S BODY. Your part is whole_start (and what it stands on); all else here is the same for every law, but numbers. -/
def R_law : String := "DownAsUpLaw"
def lw_P (b : Addr) (xs : List Int32) (args : Array Value) (s : State) : Prop := args = #[.ref b] ∧ s.IntsAt b xs ∧ xs.length ≤ 3072 ∧ (Jvm.Cond.and given_1 narrow_1).before args s = true
def lw_Q (_ : Array Value) (s : State) (o : Outcome) (t : State) : Prop := o = .returned (some (.int 1)) ∧ Framed s o t [] 600000 7302250
def lw_Z (below : List Frame) (a : Array Value) (s : State) : State → Prop := fun t => ∃ o, t.status = .running ∧ Ended t below o ∧ lw_Q a s o t
/-- the law's own end, with 1 on the stack, nothing written that was there before, its room as the claim has it -/
theorem lw_ret {p : Program} {l : Launch} {e : Env} {s : State} {m : MethodId} {below : List Frame} {meth : Method} {c : Code} {b : Nat} (hx : p.tables.exec = Jvm.exec) (hb : c.code = code) (hr : meth.sig.returnType = ret) (hlocks : meth.locks = false) {pc : Nat} {H : Heap} {ls : Array Slot} (hdg : decode code pc = .ok (.ireturn, 1)) : W p l e room_1 s m #[Value.ref b] below meth c H [] 600000 7302250 (lw_Z below #[Value.ref b] s) (F0 m pc ls [.int 1]) := by
  intro T hT X
  obtain ⟨fs, hret, hrun, hended, hW, hframe⟩ := X.leave (v := some (.int 1)) (hlocks := hlocks) (fun h => by rw [hr] at h; cases h)
  have hmeth' : T.vm.method? m = some meth := X.method'
  refine ⟨T.setFrames fs, ?_, .returned (some (.int 1)), hrun, hended, rfl, ⟨_, rfl⟩, hW, hframe⟩
  jvm_step X.here [X.here.top, hx, hb, hdg, hmeth', hr, ret, narrow_b1]
  (try refine ⟨rfl, ?_⟩); (try refine ⟨rfl, ?_⟩)
  first | (intro acts; rw [hret _ acts rfl rfl rfl]) | rw [hret _ _ rfl rfl rfl]
  exact Steps.refl _
/-- what holds at the law's entry: the machine, the code, the tables' words (any of lw_tbl by 'hts w (by decide +kernel)'), the script of L ints xs at the cell b, what the Statement gives of the start (any of its parts by flat_of_before) -/
def lw_At (p : Program) (s : State) (m : MethodId) (meth : Method) (c : Code) (b L : Nat) (xs : Nat → Int32) : Prop :=
  p.tables.exec = Jvm.exec ∧ c.code = code ∧ meth.sig.returnType = ret ∧ c.maxLocals = 4 ∧ s.vm.findClass R_law = some m.cls ∧ (∀ w ∈ lw_tbl, w.before #[Value.ref b] s = true) ∧ va_X b L xs s s.heap ∧ b < s.heap.size ∧ meth.locks = false ∧ (Jvm.Cond.and given_1 narrow_1).before #[Value.ref b] s = true
end
section
theorem eArrOf {args : Array Value} {s : State} {ty : FieldType} (h : (Cond.arrayClass ty).before args s = true) (hRA : ∀ z, va_RA s z ty = (s.vm.findClass ("[" ++ ty.toString) = some z)) : ∃ z : ClassId, ArrOfT s z ty ∧ va_RA s z ty := by
  obtain ⟨z, kA, comp, h1, h2, h3⟩ := Cond.arrayClass_spec h
  exact ⟨z, fun n f => ⟨fun k q => (by cases q), kA, h2, comp, h3⟩, by rw [hRA]; exact h1⟩
theorem eNest_w : (eLmp 6).map (fun p => lw_tbl[p.1]?) = (eLm 6).map (fun q => some (Cond.methodLinkNest "DownAsUp" q.1 (eM q.2) "DownAsUp")) := by decide +kernel
theorem eStat_w : lw_tbl[459]? = some (Cond.stringRef "DownAsUp$Tape" 51 "hbcr") := by decide +kernel
theorem eLaySt : Cond.laysStatic "DownAsUp$Ways" "ORDERS_BEHIND" "[I" ∈ lw_tbl ∧ Cond.laysStatic "java/lang/String" "COMPACT_STRINGS" "Z" ∈ lw_tbl ∧ Cond.initialized "DownAsUp$Ways" ∈ lw_tbl ∧ Cond.initialized "java/lang/String" ∈ lw_tbl := by decide +kernel
set_option maxHeartbeats 4000000 in
theorem eRo_start {s : State} {b L : Nat} {xs : Nat → Int32} (hts : ∀ w ∈ lw_tbl, w.before #[Value.ref b] s = true) (hX : va_X b L xs s s.heap) (hbl : b < s.heap.size) (hgv : (Jvm.Cond.and given_1 narrow_1).before #[Value.ref b] s = true) : ∃ ro : Nat → Nat, ro 0 = b ∧ eRo (L, xs) s.heap.size ro s s.heap := by
  have hs := flat_of_before _ hgv
  have hA : ∀ a : Nat, a < s.heap.size → ¬ eA s.heap.size a := fun a h z => Nat.not_le.mpr h z
  obtain ⟨t1, ht1, hT1⟩ := va_Tof (args := #[Value.ref b]) (s := s) (tm := .static "DownAsUp$Ways" "ORDERS_BEHIND" "[I") (ty := .int) (N := 4) (f := fun j => .int (([6, 2, 2, 6] : List Int32).getD j 0)) (A := eA s.heap.size) (by decide) (hs _ (by decide +kernel)) (va_eqt (hs _ (by decide +kernel))) (fun j hj => by
    match j, hj with
    | 0, _ => exact va_eqt (hs (Cond.eq (.elem (.static "DownAsUp$Ways" "ORDERS_BEHIND" "[I") (.int 0)) (.int 6)) (by decide +kernel))
    | 1, _ => exact va_eqt (hs (Cond.eq (.elem (.static "DownAsUp$Ways" "ORDERS_BEHIND" "[I") (.int 1)) (.int 2)) (by decide +kernel))
    | 2, _ => exact va_eqt (hs (Cond.eq (.elem (.static "DownAsUp$Ways" "ORDERS_BEHIND" "[I") (.int 2)) (.int 2)) (by decide +kernel))
    | 3, _ => exact va_eqt (hs (Cond.eq (.elem (.static "DownAsUp$Ways" "ORDERS_BEHIND" "[I") (.int 3)) (.int 6)) (by decide +kernel))) hA
  obtain ⟨adK, adV, hS, hE⟩ := vk_Sof (args := #[Value.ref b]) (s := s) (N := 1) (tm := fun _ => .string "DownAsUp$Tape" 51) (len := [4]) (byt := [[104, 98, 99, 114]]) (A := eA s.heap.size) (fun i hi => by rw [show i = 0 by omega]; decide) (fun i _ => hs _ (by decide +kernel)) (fun i _ => hs _ (by decide +kernel)) (fun i _ => hs _ (by decide +kernel)) (fun i hi => by rw [show i = 0 by omega]; exact hs _ (by decide +kernel)) (fun i hi j hj => by
    rw [show i = 0 by omega] at hj ⊢
    match j, hj with
    | 0, _ => exact hs (Cond.eq (.elem (.field (.string "DownAsUp$Tape" 51) "java/lang/String" "value" "[B") (.int 0)) (.int 104)) (by decide +kernel)
    | 1, _ => exact hs (Cond.eq (.elem (.field (.string "DownAsUp$Tape" 51) "java/lang/String" "value" "[B") (.int 1)) (.int 98)) (by decide +kernel)
    | 2, _ => exact hs (Cond.eq (.elem (.field (.string "DownAsUp$Tape" 51) "java/lang/String" "value" "[B") (.int 2)) (.int 99)) (by decide +kernel)
    | 3, _ => exact hs (Cond.eq (.elem (.field (.string "DownAsUp$Tape" 51) "java/lang/String" "value" "[B") (.int 3)) (.int 114)) (by decide +kernel)) (fun i j hi hj hij => absurd (by omega : i = j) hij) hA
  obtain ⟨g1, g2, g3, g4⟩ := hS.1 0 (by decide)
  refine ⟨fun k => match k with | 0 => b | 1 => t1 | 2 => adK 0 | _ => adV 0, rfl, ?_, hT1, g4, va_Zref (hts _ eLaySt.1) (hts _ eLaySt.2.2.1) ht1 hA, va_Zof (hts _ eLaySt.2.1) (hts _ eLaySt.2.2.2) (va_eqi (hs _ (by decide +kernel))) hA, ?_, g1, g3, g2, ?_⟩
  · obtain ⟨scr, h1, h2, h3, h4, h5⟩ := hX
    exact ⟨scr, h1, h2, h3, Nat.le_of_eq h4.symm, by rw [h4], h5, hA b hbl⟩
  · exact vk_R.of (hts _ (List.mem_of_getElem? eStat_w)) (hE 0 (by decide))
  · intro q hq
    have h1 : some (Cond.methodLinkNest "DownAsUp" q.1 (eM q.2) "DownAsUp") ∈ (eLm 6).map (fun q => some (Cond.methodLinkNest "DownAsUp" q.1 (eM q.2) "DownAsUp")) := List.mem_map.mpr ⟨q, hq, rfl⟩
    rw [← eNest_w] at h1
    obtain ⟨pp, -, hp⟩ := List.mem_map.mp h1
    exact va_Nw.of rfl (hts _ (List.mem_of_getElem? hp))
set_option maxHeartbeats 4000000 in
theorem eK_start {s : State} {args : Array Value} (hts : ∀ w ∈ eWs, w.before args s = true) : ∃ (D : va_G) (cA : Nat → ClassId), va_K D eCl (eTys cA) s := by
  have hk : ∀ ci : Nat, ∃ q : ClassId × (Nat → Nat), ci < 8 → ∀ N, eCl[ci]? = some (eN ci, eU ci, N) → u_Kn s (eN ci) (eU ci) N q.1 q.2 := by
    intro ci
    by_cases hci : ci < 8
    · obtain ⟨N, hcl, -, -, hin, -, -, hins, -⟩ := eCl_ok ci hci
      obtain ⟨c0, iS, hK⟩ := u_known (C := eN ci) (T := eU ci) (N := N) (n := N) hts hin (hts _ hins)
      refine ⟨(c0, iS), fun _ N' hN' => ?_⟩
      cases hcl.symm.trans hN'
      exact hK
    · exact ⟨(0, fun _ => 0), fun h => absurd h hci⟩
  obtain ⟨d, hd⟩ := Classical.axiomOfChoice hk
  obtain ⟨z0, h0⟩ := eArrOf (hts _ (eWs_in eAr_int rfl)) (fun _ => rfl)
  obtain ⟨z1, h1⟩ := eArrOf (hts _ (eWs_in eAr_long rfl)) (fun _ => rfl)
  obtain ⟨z2, h2⟩ := eArrOf (hts _ (eWs_in eAr_boolean rfl)) (fun _ => rfl)
  obtain ⟨z3, h3⟩ := eArrOf (hts _ (eWs_in eAr_char rfl)) (fun _ => rfl)
  obtain ⟨z4, h4⟩ := eArrOf (hts _ (eWs_in eAr_byte rfl)) (fun _ => rfl)
  refine ⟨(fun k => (d k).1, fun k => (d k).2), fun t => match t with | 0 => z0 | 1 => z1 | 2 => z2 | 3 => z3 | _ => z4, fun ci q hq => ?_, fun t q hq => ?_⟩
  · have hci : ci < 8 := (List.getElem?_eq_some_iff.mp hq).1
    obtain ⟨N, hcl, -⟩ := eCl_ok ci hci
    cases hcl.symm.trans hq
    exact hd ci hci N hcl
  · have ht : t < 5 := (List.getElem?_eq_some_iff.mp hq).1
    match t, ht, hq with
    | 0, _, hq => cases hq; exact h0
    | 1, _, hq => cases hq; exact h1
    | 2, _, hq => cases hq; exact h2
    | 3, _, hq => cases hq; exact h3
    | 4, _, hq => cases hq; exact h4
set_option maxHeartbeats 4000000 in
/-- the law's walk out of a run of the engine -/
theorem eStart {p : Program} {e : Env} {s : State} {m : MethodId} {below : List Frame} {meth : Method} {c : Code} (l : Launch) {b L : Nat} {xs : Nat → Int32} (C0 : lw_At p s m meth c b L xs)
    (hrun : ∃ n AH1, eX (L, xs) n 202 0 (eEnt 202 [.retAddr 0]) [] [] = some (some (.int 1), AH1) ∧ AH1.length ≤ 600000 ∧ eTot AH1 ≤ 7302250) :
    W p l e room_1 s m #[Value.ref b] below meth c s.heap [] 0 0 (lw_Z below #[Value.ref b] s) (entryFrame m ([Value.ref b] : List Value).toArray 4) := by
  obtain ⟨hx, hb, hr, hml, hown, hts, hX, hbl, hlocks, hgv⟩ := C0
  obtain ⟨n, AH1, hrun, hlen, htot⟩ := hrun
  have htg : ∀ w ∈ eWs, w.before #[Value.ref b] s = true := fun w hw => hts w (List.mem_filter.mp hw).1
  obtain ⟨ro, hro, hRo⟩ := eRo_start hts hX hbl hgv
  obtain ⟨D, cA, hK⟩ := eK_start htg
  have hsim := (eX_ok l (L, xs) s.heap.size ro cA D n 202 0 _ _ _ _ _ hrun).2
  have hen := eEnt_ok (B := s.heap.size) (ro := ro) (q := 202) (as := [.retAddr 0]) (by decide +kernel)
  rw [lg_entry_eq]
  have hre : ([.retAddr 0] : List Value).map (eRe s.heap.size ro) = [Value.ref b] := by simp [eRe, hro]
  rw [hre] at hen
  refine hsim p e room_1 s m #[Value.ref b] below meth c s.heap [] 0 0 _ _ 0 0 ⟨hx, hb, hml, hr, hlocks, fun h => (by cases h), hown, htg, hK, hRo⟩ ⟨fun k q h => by simp [eWd] at h, va_S.rf⟩ hen rfl rfl rfl hlen htot (by decide +kernel) (by decide +kernel) ?_
  intro i pc' ls' H' locs' cells' slots' hd hret hI hc1 hc2
  cases i with
  | ireturn =>
    refine va_forget hI.2.2.2 ?_
    refine W.widen (k := 600000) (n := 7302250) (by omega) (by omega) ?_
    exact lw_ret hx hb hr hlocks hd
  | lreturn => obtain ⟨x, h, -⟩ := hret; cases h
  | areturn => obtain ⟨x, t, h, -⟩ := hret; cases h
  | return_ => exact absurd hret.1 (by simp)
  | _ => exact hret.elim
end
section
/-! ===== THE PURE WORLD: what the engine does, by rules ===== -/
abbrev eP : Type := Option Value × eH → Prop
def eG (o : eO) (k pc : Nat) (L : eL) (st : List Value) (H : eH) (r : eP) : Prop := ∃ n v, eX o n k pc L st H = some v ∧ r v
/-- just this answer and this heap -/
abbrev rv (v : Option Value) (H : eH) : eP := fun z => z = (v, H)
theorem eX_succ {o : eO} : ∀ {n k pc : Nat} {L : eL} {st : List Value} {H : eH} {r : Option Value × eH}, eX o n k pc L st H = some r → eX o (n + 1) k pc L st H = some r := by
  intro n
  induction n with
  | zero => intro k pc L st H r h; cases h
  | succ n ih =>
    intro k pc L st H r h
    unfold eX at h ⊢
    cases hat : eAt k pc with
    | none => rw [hat] at h; cases h
    | some il =>
      obtain ⟨i, len⟩ := il
      rw [hat] at h
      dsimp only at h ⊢
      cases hst : eStep o k i pc L st H with
      | none => rw [hst] at h; cases h
      | some q =>
        rw [hst] at h
        rcases q with ⟨pc', L', st', H'⟩ | w | ⟨q, as, pc', L', st', H'⟩
        · exact ih h
        · exact h
        · dsimp only at h ⊢
          cases hle : Nat.ble (eArgs as).length (eMx.getD q 0) with
          | false => rw [hle] at h; cases h
          | true =>
            cases hx : eX o n q 0 (eEnt q as) [] H' with
            | none => rw [hle, hx] at h; cases h
            | some z =>
              obtain ⟨w, H1⟩ := z
              rw [hle, hx] at h
              rw [ih hx]
              exact ih h
theorem eX_le {o : eO} {n m k pc : Nat} {L : eL} {st : List Value} {H : eH} {r : Option Value × eH} (h : eX o n k pc L st H = some r) (hm : n ≤ m) : eX o m k pc L st H = some r := by
  obtain ⟨d, rfl⟩ := Nat.exists_eq_add_of_le hm
  clear hm
  induction d with
  | zero => exact h
  | succ d ih => exact eX_succ ih
/-- a stretch of steps without calls, all at once -/
def eRun (o : eO) (k : Nat) : Nat → eF → Option eF
  | 0, f => some f
  | n + 1, (pc, L, st, H) => match eAt k pc with
    | none => none
    | some (i, _) => match eStep o k i pc L st H with
      | some (.inl f) => eRun o k n f
      | _ => none
section G
variable {o : eO} {k pc l : Nat} {L : eL} {st : List Value} {H : eH} {r : eP}
theorem g_step {i : Instr} {pc' : Nat} {L' : eL} {st' : List Value} {H' : eH} (h : eAt k pc = some (i, l)) (hs : eStep o k i pc L st H = some (.inl (pc', L', st', H'))) (g : eG o k pc' L' st' H' r) : eG o k pc L st H r := by
  obtain ⟨n, v, hn, hv⟩ := g
  refine ⟨n + 1, v, ?_, hv⟩
  unfold eX
  rw [h]
  dsimp only
  rw [hs]
  exact hn
theorem g_run (n : Nat) (pc' : Nat) (L' : eL) (st' : List Value) (H' : eH) (h : eRun o k n (pc, L, st, H) = some (pc', L', st', H')) (g : eG o k pc' L' st' H' r) : eG o k pc L st H r := by
  induction n generalizing pc L st H with
  | zero => cases h; exact g
  | succ n ih =>
    unfold eRun at h
    cases hat : eAt k pc with
    | none => rw [hat] at h; cases h
    | some il =>
      obtain ⟨i, len⟩ := il
      rw [hat] at h
      dsimp only at h
      cases hst : eStep o k i pc L st H with
      | none => rw [hst] at h; cases h
      | some q =>
        rw [hst] at h
        rcases q with ⟨pc2, L2, st2, H2⟩ | q
        · exact g_step hat hst (ih h)
        · cases h
theorem g_ret {i : Instr} {v : Option Value × eH} (h : eAt k pc = some (i, l)) (hs : eStep o k i pc L st H = some (.inr (.inl v))) (hv : r v) : eG o k pc L st H r := by
  refine ⟨1, v, ?_, hv⟩
  unfold eX
  rw [h]
  dsimp only
  rw [hs]
theorem g_callS {i : Instr} {q pc' : Nat} {as : List Value} {L' : eL} {st' : List Value} {H' : eH} {P : eP} (h : eAt k pc = some (i, l)) (hs : eStep o k i pc L st H = some (.inr (.inr (q, as, (pc', L', st', H'))))) (hle : Nat.ble (eArgs as).length (eMx.getD q 0) = true) (gq : eG o q 0 (eEnt q as) [] H' P) (g : ∀ v H1, P (v, H1) → eG o k pc' L' (v.toList ++ st') H1 r) : eG o k pc L st H r := by
  obtain ⟨m, z, hm, hz⟩ := gq
  obtain ⟨v, H1⟩ := z
  obtain ⟨n, w, hn, hw⟩ := g v H1 hz
  refine ⟨max n m + 1, w, ?_, hw⟩
  unfold eX
  rw [h]
  dsimp only
  rw [hs]
  dsimp only
  rw [hle, eX_le hm (Nat.le_max_right n m)]
  exact eX_le hn (Nat.le_max_left n m)
theorem g_call {i : Instr} {q pc' : Nat} {as : List Value} {L' : eL} {st' : List Value} {H' H1 : eH} {v : Option Value} (h : eAt k pc = some (i, l)) (hs : eStep o k i pc L st H = some (.inr (.inr (q, as, (pc', L', st', H'))))) (hle : Nat.ble (eArgs as).length (eMx.getD q 0) = true) (gq : eG o q 0 (eEnt q as) [] H' (rv v H1)) (g : eG o k pc' L' (v.toList ++ st') H1 r) : eG o k pc L st H r :=
  g_callS h hs hle gq (fun v' H1' e => by cases e; exact g)
theorem g_getf {idx ci j a : Nat} {fs : List Value} {v : Value} (h : eAt k pc = some (.getfield idx, 3)) (hl : eFind (eLf (eOwn k)) idx = some (ci, j)) (hH : H[a]? = some (.inr (ci, fs))) (hv : fs[j]? = some v) (g : eG o k (pc + 3) L (v :: st) H r) : eG o k pc L (.ref a :: st) H r := by
  refine g_step h ?_ g
  show eHp o (eOwn k) (eIni k) (.getfield idx) pc L (.ref a :: st) H = _
  simp only [eHp, hl, hH, Nat.beq_refl, hv, ePush]
theorem g_putf {idx ci j a : Nat} {fs : List Value} {v : Value} {nm : String × String × String × Bool} {ty : FieldType} (h : eAt k pc = some (.putfield idx, 3)) (hl : eFind (eLf (eOwn k)) idx = some (ci, j)) (hH : H[a]? = some (.inr (ci, fs))) (hj : Nat.blt j fs.length = true) (hn : (eFd ci)[j]? = some nm) (ht : (eFt ci)[j]? = some ty) (hf : eFit ty v = true) (hfin : nm.2.2.2 = false ∨ (eIni k && Nat.beq (eOwn k) ci) = true) (g : eG o k (pc + 3) L st (H.set a (.inr (ci, fs.set j v))) r) : eG o k pc L (v :: .ref a :: st) H r := by
  refine g_step h ?_ g
  show eHp o (eOwn k) (eIni k) (.putfield idx) pc L (v :: .ref a :: st) H = _
  obtain ⟨n1, n2, n3, fin⟩ := nm
  simp only [eHp, hl, hH, Nat.beq_refl, hj, hn, ht, hf]
  rcases hfin with hf2 | hf2
  · dsimp only at hf2
    subst hf2
    rfl
  · rw [hf2]
    cases fin <;> rfl
theorem g_iald {a n : Nat} {f : Nat → Int32} {i : Int32} (h : eAt k pc = some (.iaload, 1)) (hH : H[a]? = some (.inl (0, n, .inl f))) (hi : eOut i n = false) (g : eG o k (pc + 1) L (.int (f i.toNatClampNeg) :: st) H r) : eG o k pc L (.int i :: .ref a :: st) H r := by
  refine g_step h ?_ g
  show eHp o (eOwn k) (eIni k) .iaload pc L (.int i :: .ref a :: st) H = _
  simp only [eHp, hH, hi, ePush]
theorem g_bald {a n : Nat} {f : Nat → Int32} {i : Int32} (h : eAt k pc = some (.baload, 1)) (hH : H[a]? = some (.inl (2, n, .inl f))) (hi : eOut i n = false) (g : eG o k (pc + 1) L (.int (f i.toNatClampNeg) :: st) H r) : eG o k pc L (.int i :: .ref a :: st) H r := by
  refine g_step h ?_ g
  show eHp o (eOwn k) (eIni k) .baload pc L (.int i :: .ref a :: st) H = _
  simp only [eHp, hH, hi, ePush]
theorem g_cald {a n : Nat} {f : Nat → Int32} {i : Int32} (h : eAt k pc = some (.caload, 1)) (hH : H[a]? = some (.inl (3, n, .inl f))) (hi : eOut i n = false) (g : eG o k (pc + 1) L (.int (f i.toNatClampNeg) :: st) H r) : eG o k pc L (.int i :: .ref a :: st) H r := by
  refine g_step h ?_ g
  show eHp o (eOwn k) (eIni k) .caload pc L (.int i :: .ref a :: st) H = _
  simp only [eHp, hH, hi, ePush]
theorem g_lald {a n : Nat} {f : Nat → Int64} {i : Int32} (h : eAt k pc = some (.laload, 1)) (hH : H[a]? = some (.inl (1, n, .inr f))) (hi : eOut i n = false) (g : eG o k (pc + 1) L (.long (f i.toNatClampNeg) :: st) H r) : eG o k pc L (.int i :: .ref a :: st) H r := by
  refine g_step h ?_ g
  show eHp o (eOwn k) (eIni k) .laload pc L (.int i :: .ref a :: st) H = _
  simp only [eHp, hH, hi, ePush]
theorem g_iast {a n : Nat} {f : Nat → Int32} {i x : Int32} (h : eAt k pc = some (.iastore, 1)) (hH : H[a]? = some (.inl (0, n, .inl f))) (hi : eOut i n = false) (g : eG o k (pc + 1) L st (H.set a (.inl (0, n, .inl (upd f i.toNatClampNeg x)))) r) : eG o k pc L (.int x :: .int i :: .ref a :: st) H r := by
  refine g_step h ?_ g
  show eHp o (eOwn k) (eIni k) .iastore pc L (.int x :: .int i :: .ref a :: st) H = _
  simp only [eHp, hH, hi]
theorem g_bast {a n : Nat} {f : Nat → Int32} {i x : Int32} (h : eAt k pc = some (.bastore, 1)) (hH : H[a]? = some (.inl (2, n, .inl f))) (hi : eOut i n = false) (g : eG o k (pc + 1) L st (H.set a (.inl (2, n, .inl (upd f i.toNatClampNeg (vp_nar .boolean x))))) r) : eG o k pc L (.int x :: .int i :: .ref a :: st) H r := by
  refine g_step h ?_ g
  show eHp o (eOwn k) (eIni k) .bastore pc L (.int x :: .int i :: .ref a :: st) H = _
  simp only [eHp, hH, hi]
theorem g_cast {a n : Nat} {f : Nat → Int32} {i x : Int32} (h : eAt k pc = some (.castore, 1)) (hH : H[a]? = some (.inl (3, n, .inl f))) (hi : eOut i n = false) (g : eG o k (pc + 1) L st (H.set a (.inl (3, n, .inl (upd f i.toNatClampNeg (vp_nar .char x))))) r) : eG o k pc L (.int x :: .int i :: .ref a :: st) H r := by
  refine g_step h ?_ g
  show eHp o (eOwn k) (eIni k) .castore pc L (.int x :: .int i :: .ref a :: st) H = _
  simp only [eHp, hH, hi]
theorem g_last {a n : Nat} {f : Nat → Int64} {i : Int32} {x : Int64} (h : eAt k pc = some (.lastore, 1)) (hH : H[a]? = some (.inl (1, n, .inr f))) (hi : eOut i n = false) (g : eG o k (pc + 1) L st (H.set a (.inl (1, n, .inr (vp_updL f i.toNatClampNeg x)))) r) : eG o k pc L (.long x :: .int i :: .ref a :: st) H r := by
  refine g_step h ?_ g
  show eHp o (eOwn k) (eIni k) .lastore pc L (.long x :: .int i :: .ref a :: st) H = _
  simp only [eHp, hH, hi]
theorem g_alen {a t n : Nat} {f : (Nat → Int32) ⊕ (Nat → Int64)} (h : eAt k pc = some (.arraylength, 1)) (hH : H[a]? = some (.inl (t, n, f))) (ht : Nat.blt t 5 = true) (g : eG o k (pc + 1) L (.int (Int32.ofNat n) :: st) H r) : eG o k pc L (.ref a :: st) H r := by
  refine g_step h ?_ g
  show eHp o (eOwn k) (eIni k) .arraylength pc L (.ref a :: st) H = _
  simp only [eHp, hH, ht, ePush]
theorem g_vir {idx q a pc' : Nat} {as st' : List Value} {fs : List Value} {H1 : eH} {v : Option Value} (h : eAt k pc = some (.invokevirtual idx, 3)) (hq : eFind (eLv (eOwn k)) idx = some q) (hp : ePop (eNa.getD q 0) [] st = some (as, .ref a :: st')) (hH : H[a]? = some (.inr (eOwn q, fs))) (hw : Nat.ble (eWords st') 8 = true) (hle : Nat.ble (eArgs (.ref a :: as)).length (eMx.getD q 0) = true) (gq : eG o q 0 (eEnt q (.ref a :: as)) [] H (rv v H1)) (hpc : pc + 3 = pc') (g : eG o k pc' L (v.toList ++ st') H1 r) : eG o k pc L st H r := by
  subst hpc
  refine g_call h ?_ hle gq g
  show eCall k (eOwn k) (.invokevirtual idx) pc L st H = _
  simp only [eCall, hq, hp, hH, hw, Nat.beq_refl]
theorem g_virS {idx q a pc' : Nat} {as st' : List Value} {fs : List Value} {P : eP} (h : eAt k pc = some (.invokevirtual idx, 3)) (hq : eFind (eLv (eOwn k)) idx = some q) (hp : ePop (eNa.getD q 0) [] st = some (as, .ref a :: st')) (hH : H[a]? = some (.inr (eOwn q, fs))) (hw : Nat.ble (eWords st') 8 = true) (hle : Nat.ble (eArgs (.ref a :: as)).length (eMx.getD q 0) = true) (gq : eG o q 0 (eEnt q (.ref a :: as)) [] H P) (hpc : pc + 3 = pc') (g : ∀ v H1, P (v, H1) → eG o k pc' L (v.toList ++ st') H1 r) : eG o k pc L st H r := by
  subst hpc
  refine g_callS h ?_ hle gq g
  show eCall k (eOwn k) (.invokevirtual idx) pc L st H = _
  simp only [eCall, hq, hp, hH, hw, Nat.beq_refl]
theorem eG_mono {P : eP} (h : eG o k pc L st H r) (hi : ∀ z, r z → P z) : eG o k pc L st H P := by
  obtain ⟨n, v, h1, h2⟩ := h
  exact ⟨n, v, h1, hi v h2⟩
theorem g_icmp {c : ClassFile.Cond} {off : Int} {x y : Int32} (h : eAt k pc = some (.if_icmp c off, 3)) (ht : eCmp c x y = true → eG o k (eTgt pc off) L st H r) (hf : eCmp c x y = false → eG o k (pc + 3) L st H r) : eG o k pc L (.int y :: .int x :: st) H r := by
  cases hc : eCmp c x y with
  | true =>
    refine g_step h ?_ (ht hc)
    show eLoc (eOwn k) (.if_icmp c off) pc L (.int y :: .int x :: st) H = _
    simp only [eLoc, hc]
  | false =>
    refine g_step h ?_ (hf hc)
    show eLoc (eOwn k) (.if_icmp c off) pc L (.int y :: .int x :: st) H = _
    simp only [eLoc, hc]
theorem g_if {c : ClassFile.Cond} {off : Int} {x : Int32} (h : eAt k pc = some (.ifCond c off, 3)) (ht : eCmp c x 0 = true → eG o k (eTgt pc off) L st H r) (hf : eCmp c x 0 = false → eG o k (pc + 3) L st H r) : eG o k pc L (.int x :: st) H r := by
  cases hc : eCmp c x 0 with
  | true =>
    refine g_step h ?_ (ht hc)
    show eLoc (eOwn k) (.ifCond c off) pc L (.int x :: st) H = _
    simp only [eLoc, hc]
  | false =>
    refine g_step h ?_ (hf hc)
    show eLoc (eOwn k) (.ifCond c off) pc L (.int x :: st) H = _
    simp only [eLoc, hc]
end G
end
section
def bI (b : Bool) : Int32 := match b with
  | true => 1
  | false => 0
theorem bI_fit (b : Bool) : eFit .boolean (.int (bI b)) = true := by cases b <;> rfl
theorem eOut_nI {p n : Nat} (hp : p < n) (hn : n ≤ 1000000) : eOut (nI p) n = false := by
  have h1 : (nI p).toNatClampNeg = p := nI_clamp (by omega)
  have h2 : ¬ nI p < 0 := nI_pos (by omega)
  unfold eOut
  rw [h1]
  simp only [h2, decide_false, Bool.false_or]
  cases hb : Nat.ble n p with
  | false => rfl
  | true => exact absurd (Nat.le_of_ble_eq_true hb) (by omega)
section G2
variable {o : eO} {k pc l : Nat} {L : eL} {st : List Value} {H : eH} {r : eP}
theorem g_icmp_eq {off : Int} {x y : Int32} (h : eAt k pc = some (.if_icmp .eq off, 3)) (ht : x = y → eG o k (eTgt pc off) L st H r) (hf : ¬ x = y → eG o k (pc + 3) L st H r) : eG o k pc L (.int y :: .int x :: st) H r := g_icmp h (fun c => ht (of_decide_eq_true c)) (fun c => hf (of_decide_eq_false c))
theorem g_icmp_ne {off : Int} {x y : Int32} (h : eAt k pc = some (.if_icmp .ne off, 3)) (ht : ¬ x = y → eG o k (eTgt pc off) L st H r) (hf : x = y → eG o k (pc + 3) L st H r) : eG o k pc L (.int y :: .int x :: st) H r := g_icmp h (fun c => ht (fun q => by simp [eCmp, q] at c)) (fun c => hf (by simpa [eCmp] using c))
theorem g_icmp_lt {off : Int} {x y : Int32} (h : eAt k pc = some (.if_icmp .lt off, 3)) (ht : x < y → eG o k (eTgt pc off) L st H r) (hf : ¬ x < y → eG o k (pc + 3) L st H r) : eG o k pc L (.int y :: .int x :: st) H r := g_icmp h (fun c => ht (of_decide_eq_true c)) (fun c => hf (of_decide_eq_false c))
theorem g_icmp_ge {off : Int} {x y : Int32} (h : eAt k pc = some (.if_icmp .ge off, 3)) (ht : y ≤ x → eG o k (eTgt pc off) L st H r) (hf : ¬ y ≤ x → eG o k (pc + 3) L st H r) : eG o k pc L (.int y :: .int x :: st) H r := g_icmp h (fun c => ht (of_decide_eq_true c)) (fun c => hf (of_decide_eq_false c))
theorem g_icmp_gt {off : Int} {x y : Int32} (h : eAt k pc = some (.if_icmp .gt off, 3)) (ht : y < x → eG o k (eTgt pc off) L st H r) (hf : ¬ y < x → eG o k (pc + 3) L st H r) : eG o k pc L (.int y :: .int x :: st) H r := g_icmp h (fun c => ht (of_decide_eq_true c)) (fun c => hf (of_decide_eq_false c))
theorem g_icmp_le {off : Int} {x y : Int32} (h : eAt k pc = some (.if_icmp .le off, 3)) (ht : x ≤ y → eG o k (eTgt pc off) L st H r) (hf : ¬ x ≤ y → eG o k (pc + 3) L st H r) : eG o k pc L (.int y :: .int x :: st) H r := g_icmp h (fun c => ht (of_decide_eq_true c)) (fun c => hf (of_decide_eq_false c))
theorem g_if_eq {off : Int} {x : Int32} (h : eAt k pc = some (.ifCond .eq off, 3)) (ht : x = 0 → eG o k (eTgt pc off) L st H r) (hf : ¬ x = 0 → eG o k (pc + 3) L st H r) : eG o k pc L (.int x :: st) H r := g_if h (fun c => ht (of_decide_eq_true c)) (fun c => hf (of_decide_eq_false c))
theorem g_if_ne {off : Int} {x : Int32} (h : eAt k pc = some (.ifCond .ne off, 3)) (ht : ¬ x = 0 → eG o k (eTgt pc off) L st H r) (hf : x = 0 → eG o k (pc + 3) L st H r) : eG o k pc L (.int x :: st) H r := g_if h (fun c => ht (fun q => by simp [eCmp, q] at c)) (fun c => hf (by simpa [eCmp] using c))
theorem g_if_lt {off : Int} {x : Int32} (h : eAt k pc = some (.ifCond .lt off, 3)) (ht : x < 0 → eG o k (eTgt pc off) L st H r) (hf : ¬ x < 0 → eG o k (pc + 3) L st H r) : eG o k pc L (.int x :: st) H r := g_if h (fun c => ht (of_decide_eq_true c)) (fun c => hf (of_decide_eq_false c))
theorem g_if_ge {off : Int} {x : Int32} (h : eAt k pc = some (.ifCond .ge off, 3)) (ht : 0 ≤ x → eG o k (eTgt pc off) L st H r) (hf : ¬ 0 ≤ x → eG o k (pc + 3) L st H r) : eG o k pc L (.int x :: st) H r := g_if h (fun c => ht (of_decide_eq_true c)) (fun c => hf (of_decide_eq_false c))
theorem g_if_gt {off : Int} {x : Int32} (h : eAt k pc = some (.ifCond .gt off, 3)) (ht : 0 < x → eG o k (eTgt pc off) L st H r) (hf : ¬ 0 < x → eG o k (pc + 3) L st H r) : eG o k pc L (.int x :: st) H r := g_if h (fun c => ht (of_decide_eq_true c)) (fun c => hf (of_decide_eq_false c))
theorem g_if_le {off : Int} {x : Int32} (h : eAt k pc = some (.ifCond .le off, 3)) (ht : x ≤ 0 → eG o k (eTgt pc off) L st H r) (hf : ¬ x ≤ 0 → eG o k (pc + 3) L st H r) : eG o k pc L (.int x :: st) H r := g_if h (fun c => ht (of_decide_eq_true c)) (fun c => hf (of_decide_eq_false c))
theorem g_ifb_eq {off : Int} {b : Bool} (h : eAt k pc = some (.ifCond .eq off, 3)) (ht : b = false → eG o k (eTgt pc off) L st H r) (hf : b = true → eG o k (pc + 3) L st H r) : eG o k pc L (.int (bI b) :: st) H r := g_if_eq h (fun c => ht (by cases b <;> first | rfl | exact absurd c (by decide))) (fun c => hf (by cases b <;> first | rfl | exact absurd rfl c))
theorem g_ifb_ne {off : Int} {b : Bool} (h : eAt k pc = some (.ifCond .ne off, 3)) (ht : b = true → eG o k (eTgt pc off) L st H r) (hf : b = false → eG o k (pc + 3) L st H r) : eG o k pc L (.int (bI b) :: st) H r := g_if_ne h (fun c => ht (by cases b <;> first | rfl | exact absurd rfl c)) (fun c => hf (by cases b <;> first | rfl | exact absurd c (by decide)))
theorem g_reti {x y : Int32} {ty : FieldType} (h : eAt k pc = some (.ireturn, 1)) (ht : eRt.getD k none = some ty) (hf : eFit ty (.int x) = true) (e : x = y) : eG o k pc L [.int x] H (rv (some (.int y)) H) := by
  subst e
  refine g_ret h ?_ rfl
  show eCall k (eOwn k) .ireturn pc L [.int x] H = _
  simp only [eCall, ht, hf]
theorem g_retl {x y : Int64} (h : eAt k pc = some (.lreturn, 1)) (ht : eRt.getD k none = some .long) (e : x = y) : eG o k pc L [.long x] H (rv (some (.long y)) H) := by
  subst e
  refine g_ret h ?_ rfl
  show eCall k (eOwn k) .lreturn pc L [.long x] H = _
  simp only [eCall, ht]
theorem g_retiS {x : Int32} {ty : FieldType} (h : eAt k pc = some (.ireturn, 1)) (ht : eRt.getD k none = some ty) (hf : eFit ty (.int x) = true) (e : r (some (.int x), H)) : eG o k pc L [.int x] H r := by
  refine g_ret h ?_ e
  show eCall k (eOwn k) .ireturn pc L [.int x] H = _
  simp only [eCall, ht, hf]
theorem g_retv (h : eAt k pc = some (.return_, 1)) (ht : eRt.getD k (some .int) = none) (e : r (none, H)) : eG o k pc L [] H r := by
  refine g_ret h ?_ e
  show eCall k (eOwn k) .return_ pc L [] H = _
  simp only [eCall, ht]
/-- places that are numbers -/
theorem g_iald_n {a n p : Nat} {f : Nat → Int32} (h : eAt k pc = some (.iaload, 1)) (hH : H[a]? = some (.inl (0, n, .inl f))) (hp : p < n) (hn : n ≤ 1000000) (g : eG o k (pc + 1) L (.int (f p) :: st) H r) : eG o k pc L (.int (nI p) :: .ref a :: st) H r :=
  g_iald h hH (eOut_nI hp hn) (by rw [nI_clamp (by omega)]; exact g)
theorem g_iast_n {a n p : Nat} {f : Nat → Int32} {x : Int32} (h : eAt k pc = some (.iastore, 1)) (hH : H[a]? = some (.inl (0, n, .inl f))) (hp : p < n) (hn : n ≤ 1000000) (g : eG o k (pc + 1) L st (H.set a (.inl (0, n, .inl (upd f p x)))) r) : eG o k pc L (.int x :: .int (nI p) :: .ref a :: st) H r :=
  g_iast h hH (eOut_nI hp hn) (by rw [nI_clamp (by omega)]; exact g)
theorem g_bald_n {a n p : Nat} {f : Nat → Int32} (h : eAt k pc = some (.baload, 1)) (hH : H[a]? = some (.inl (2, n, .inl f))) (hp : p < n) (hn : n ≤ 1000000) (g : eG o k (pc + 1) L (.int (f p) :: st) H r) : eG o k pc L (.int (nI p) :: .ref a :: st) H r :=
  g_bald h hH (eOut_nI hp hn) (by rw [nI_clamp (by omega)]; exact g)
theorem g_sta {idx q pc' : Nat} {as st' : List Value} {H1 : eH} {v : Option Value} (h : eAt k pc = some (.invokestatic idx, 3)) (hac : eHas eAc (eOwn k) idx = false) (hq : eFind (eLs (eOwn k)) idx = some q) (hm : eMth q st = none) (hp : ePop (eNa.getD q 0) [] st = some (as, st')) (hw : Nat.ble (eWords st') 8 = true) (hle : Nat.ble (eArgs as).length (eMx.getD q 0) = true) (gq : eG o q 0 (eEnt q as) [] H (rv v H1)) (hpc : pc + 3 = pc') (g : eG o k pc' L (v.toList ++ st') H1 r) : eG o k pc L st H r := by
  subst hpc
  refine g_call h ?_ hle gq g
  show eCall k (eOwn k) (.invokestatic idx) pc L st H = _
  simp only [eCall, hac, hq, hm, hp, hw]
theorem g_staS {idx q pc' : Nat} {as st' : List Value} {P : eP} (h : eAt k pc = some (.invokestatic idx, 3)) (hac : eHas eAc (eOwn k) idx = false) (hq : eFind (eLs (eOwn k)) idx = some q) (hm : eMth q st = none) (hp : ePop (eNa.getD q 0) [] st = some (as, st')) (hw : Nat.ble (eWords st') 8 = true) (hle : Nat.ble (eArgs as).length (eMx.getD q 0) = true) (gq : eG o q 0 (eEnt q as) [] H P) (hpc : pc + 3 = pc') (g : ∀ v H1, P (v, H1) → eG o k pc' L (v.toList ++ st') H1 r) : eG o k pc L st H r := by
  subst hpc
  refine g_callS h ?_ hle gq g
  show eCall k (eOwn k) (.invokestatic idx) pc L st H = _
  simp only [eCall, hac, hq, hm, hp, hw]
end G2
section G3
variable {o : eO} {k pc l : Nat} {L : eL} {st : List Value} {H : eH} {r : eP}
theorem g_tabv {d lo hi : Int} {offs : Array Int} {x : Int32} (v : Int32) (tgt : Nat) (h : eAt k pc = some (.tableswitch d lo hi offs, l)) (hx : x = v) (ht : (if v.toInt < lo ∨ hi < v.toInt then eTgt pc d else eTgt pc (offs.toList.getD (v.toInt - lo).toNat d)) = tgt) (g : eG o k tgt L st H r) : eG o k pc L (.int x :: st) H r := by
  subst hx
  refine g_step h ?_ g
  show eLoc (eOwn k) (.tableswitch d lo hi offs) pc L (.int x :: st) H = _
  simp only [eLoc, ht]
theorem g_tabd {d lo hi : Int} {offs : Array Int} {x : Int32} (tgt : Nat) (h : eAt k pc = some (.tableswitch d lo hi offs, l)) (hx : x.toInt < lo ∨ hi < x.toInt) (ht : eTgt pc d = tgt) (g : eG o k tgt L st H r) : eG o k pc L (.int x :: st) H r := by
  subst ht
  refine g_step h ?_ g
  show eLoc (eOwn k) (.tableswitch d lo hi offs) pc L (.int x :: st) H = _
  simp only [eLoc, if_pos hx]
end G3
theorem eNe_toInt {x v : Int32} (h : ¬ x = v) : x.toInt ≠ v.toInt := fun q => h (Int32.toInt_inj.mp q)
/-- a part is in a set -/
abbrev bit (s : Int32) (p : Nat) : Prop := (s >>> (nI p &&& 31)) &&& 1 = 1
end
section
/-! rows of numbers up to what lies behind their ends; heaps that differ in some cells alone -/
def arN (t : Nat) (H : eH) (a n : Nat) (g : Nat → Int32) : Prop := ∃ f, H[a]? = some (.inl (t, n, .inl f)) ∧ ∀ p, p < n → f p = g p
def arJ (H : eH) (a n : Nat) (g : Nat → Int64) : Prop := ∃ f, H[a]? = some (.inl (1, n, .inr f)) ∧ ∀ p, p < n → f p = g p
abbrev arI := arN 0
/-- the heaps differ between lo and hi alone -/
def off (lo hi : Nat) (H H1 : eH) : Prop := H1.length = H.length ∧ ∀ a, (a < lo ∨ hi ≤ a) → H1[a]? = H[a]?
theorem off_rfl {lo hi : Nat} {H : eH} : off lo hi H H := ⟨rfl, fun _ _ => rfl⟩
theorem off_trans {lo hi : Nat} {H H1 H2 : eH} (h : off lo hi H H1) (h2 : off lo hi H1 H2) : off lo hi H H2 := ⟨h2.1.trans h.1, fun a ha => (h2.2 a ha).trans (h.2 a ha)⟩
theorem off_wide {lo hi lo' hi' : Nat} {H H1 : eH} (h : off lo hi H H1) (h1 : lo' ≤ lo) (h2 : hi ≤ hi') : off lo' hi' H H1 := ⟨h.1, fun a ha => h.2 a (by omega)⟩
theorem off_set {a : Nat} {c : eC} {H : eH} : off a (a + 1) H (H.set a c) := ⟨by simp, fun b hb => List.getElem?_set_ne (by omega)⟩
theorem off_ob {lo hi a : Nat} {H H1 : eH} {c : eC} (h : off lo hi H H1) (hc : H[a]? = some c) (ha : a < lo ∨ hi ≤ a) : H1[a]? = some c := (h.2 a ha).trans hc
theorem off_ar {t lo hi a n : Nat} {H H1 : eH} {g : Nat → Int32} (h : off lo hi H H1) (hc : arN t H a n g) (ha : a < lo ∨ hi ≤ a) : arN t H1 a n g := by
  obtain ⟨f, h1, h2⟩ := hc
  exact ⟨f, (h.2 a ha).trans h1, h2⟩
theorem off_aj {lo hi a n : Nat} {H H1 : eH} {g : Nat → Int64} (h : off lo hi H H1) (hc : arJ H a n g) (ha : a < lo ∨ hi ≤ a) : arJ H1 a n g := by
  obtain ⟨f, h1, h2⟩ := hc
  exact ⟨f, (h.2 a ha).trans h1, h2⟩
theorem arN_ext {t a n : Nat} {H : eH} {g g' : Nat → Int32} (h : arN t H a n g) (he : ∀ p, p < n → g p = g' p) : arN t H a n g' := by
  obtain ⟨f, h1, h2⟩ := h
  exact ⟨f, h1, fun p hp => (h2 p hp).trans (he p hp)⟩
theorem upd_cg {f g : Nat → Int32} {n p : Nat} {x : Int32} (h : ∀ q, q < n → f q = g q) : ∀ q, q < n → upd f p x q = upd g p x q := by
  intro q hq
  unfold upd
  split
  · rfl
  · exact h q hq
section G4
variable {o : eO} {k pc l : Nat} {L : eL} {st : List Value} {H : eH} {r : eP}
theorem g_iald_a {a n p : Nat} {f : Nat → Int32} (h : eAt k pc = some (.iaload, 1)) (hH : arN 0 H a n f) (hp : p < n) (hn : n ≤ 1000000) (g : eG o k (pc + 1) L (.int (f p) :: st) H r) : eG o k pc L (.int (nI p) :: .ref a :: st) H r := by
  obtain ⟨f', h1, h2⟩ := hH
  exact g_iald h h1 (eOut_nI hp hn) (by rw [nI_clamp (by omega), h2 p hp]; exact g)
theorem g_bald_a {a n p : Nat} {f : Nat → Int32} (h : eAt k pc = some (.baload, 1)) (hH : arN 2 H a n f) (hp : p < n) (hn : n ≤ 1000000) (g : eG o k (pc + 1) L (.int (f p) :: st) H r) : eG o k pc L (.int (nI p) :: .ref a :: st) H r := by
  obtain ⟨f', h1, h2⟩ := hH
  exact g_bald h h1 (eOut_nI hp hn) (by rw [nI_clamp (by omega), h2 p hp]; exact g)
theorem g_cald_a {a n p : Nat} {f : Nat → Int32} (h : eAt k pc = some (.caload, 1)) (hH : arN 3 H a n f) (hp : p < n) (hn : n ≤ 1000000) (g : eG o k (pc + 1) L (.int (f p) :: st) H r) : eG o k pc L (.int (nI p) :: .ref a :: st) H r := by
  obtain ⟨f', h1, h2⟩ := hH
  exact g_cald h h1 (eOut_nI hp hn) (by rw [nI_clamp (by omega), h2 p hp]; exact g)
theorem g_lald_a {a n p : Nat} {f : Nat → Int64} (h : eAt k pc = some (.laload, 1)) (hH : arJ H a n f) (hp : p < n) (hn : n ≤ 1000000) (g : eG o k (pc + 1) L (.long (f p) :: st) H r) : eG o k pc L (.int (nI p) :: .ref a :: st) H r := by
  obtain ⟨f', h1, h2⟩ := hH
  exact g_lald h h1 (eOut_nI hp hn) (by rw [nI_clamp (by omega), h2 p hp]; exact g)
theorem eSet_at {H : eH} {a : Nat} {c c' : eC} (h : H[a]? = some c) : (H.set a c')[a]? = some c' := List.getElem?_set_self (List.getElem?_eq_some_iff.mp h).1
theorem g_iast_a {a n p : Nat} {f : Nat → Int32} {x : Int32} (h : eAt k pc = some (.iastore, 1)) (hH : arN 0 H a n f) (hp : p < n) (hn : n ≤ 1000000) (g : ∀ H1, arN 0 H1 a n (upd f p x) → off a (a + 1) H H1 → eG o k (pc + 1) L st H1 r) : eG o k pc L (.int x :: .int (nI p) :: .ref a :: st) H r := by
  obtain ⟨f', h1, h2⟩ := hH
  exact g_iast h h1 (eOut_nI hp hn) (by rw [nI_clamp (by omega)]; exact g _ ⟨_, eSet_at h1, upd_cg h2⟩ off_set)
theorem g_bast_a {a n p : Nat} {f : Nat → Int32} {x : Int32} (h : eAt k pc = some (.bastore, 1)) (hH : arN 2 H a n f) (hp : p < n) (hn : n ≤ 1000000) (g : ∀ H1, arN 2 H1 a n (upd f p (x &&& 1)) → off a (a + 1) H H1 → eG o k (pc + 1) L st H1 r) : eG o k pc L (.int x :: .int (nI p) :: .ref a :: st) H r := by
  obtain ⟨f', h1, h2⟩ := hH
  exact g_bast h h1 (eOut_nI hp hn) (by rw [nI_clamp (by omega)]; exact g _ ⟨_, eSet_at h1, upd_cg h2⟩ off_set)
theorem g_cast_a {a n p : Nat} {f : Nat → Int32} {x : Int32} (h : eAt k pc = some (.castore, 1)) (hH : arN 3 H a n f) (hp : p < n) (hn : n ≤ 1000000) (g : ∀ H1, arN 3 H1 a n (upd f p (vp_nar .char x)) → off a (a + 1) H H1 → eG o k (pc + 1) L st H1 r) : eG o k pc L (.int x :: .int (nI p) :: .ref a :: st) H r := by
  obtain ⟨f', h1, h2⟩ := hH
  exact g_cast h h1 (eOut_nI hp hn) (by rw [nI_clamp (by omega)]; exact g _ ⟨_, eSet_at h1, upd_cg h2⟩ off_set)
theorem g_last_a {a n p : Nat} {f : Nat → Int64} {x : Int64} (h : eAt k pc = some (.lastore, 1)) (hH : arJ H a n f) (hp : p < n) (hn : n ≤ 1000000) (g : ∀ H1, arJ H1 a n (vp_updL f p x) → off a (a + 1) H H1 → eG o k (pc + 1) L st H1 r) : eG o k pc L (.long x :: .int (nI p) :: .ref a :: st) H r := by
  obtain ⟨f', h1, h2⟩ := hH
  refine g_last h h1 (eOut_nI hp hn) ?_
  rw [nI_clamp (by omega)]
  refine g _ ⟨_, eSet_at h1, fun q hq => ?_⟩ off_set
  unfold vp_updL
  split
  · rfl
  · exact h2 q hq
theorem g_putf_a {idx ci j a : Nat} {fs : List Value} {v : Value} {nm : String × String × String × Bool} {ty : FieldType} (h : eAt k pc = some (.putfield idx, 3)) (hl : eFind (eLf (eOwn k)) idx = some (ci, j)) (hH : H[a]? = some (.inr (ci, fs))) (hj : Nat.blt j fs.length = true) (hn : (eFd ci)[j]? = some nm) (ht : (eFt ci)[j]? = some ty) (hf : eFit ty v = true) (hfin : nm.2.2.2 = false) (g : ∀ H1, H1[a]? = some (.inr (ci, fs.set j v)) → off a (a + 1) H H1 → eG o k (pc + 3) L st H1 r) : eG o k pc L (v :: .ref a :: st) H r :=
  g_putf h hl hH hj hn ht hf (Or.inl hfin) (g _ (eSet_at hH) off_set)
theorem g_alen_a {a t n : Nat} {f : Nat → Int32} (h : eAt k pc = some (.arraylength, 1)) (hH : arN t H a n f) (ht : Nat.blt t 5 = true) (g : eG o k (pc + 1) L (.int (nI n) :: st) H r) : eG o k pc L (.ref a :: st) H r := by
  obtain ⟨f', h1, -⟩ := hH
  exact g_alen h h1 ht g
/-- arraycopy of ints, places and length numbers -/
theorem g_cpy_a {idx a b n0 n1 sp dp m : Nat} {f g : Nat → Int32} (h : eAt k pc = some (.invokestatic idx, 3)) (hac : eHas eAc (eOwn k) idx = true) (hA : arN 0 H a n0 f) (hB : arN 0 H b n1 g) (h1 : sp + m ≤ n0) (h2 : dp + m ≤ n1) (h0 : n0 ≤ 1000000) (h01 : n1 ≤ 1000000) (hw : Nat.ble (eWords st) 8 = true) (gg : ∀ H1, arN 0 H1 b n1 (fun j => if dp ≤ j ∧ j < dp + m then f (sp + (j - dp)) else g j) → off b (b + 1) H H1 → eG o k (pc + 3) L st H1 r) : eG o k pc L (.int (nI m) :: .int (nI dp) :: .ref b :: .int (nI sp) :: .ref a :: st) H r := by
  obtain ⟨f', e1, e2⟩ := hA
  obtain ⟨g', e3, e4⟩ := hB
  have c1 : (nI sp).toNatClampNeg = sp := nI_clamp (by omega)
  have c2 : (nI dp).toNatClampNeg = dp := nI_clamp (by omega)
  have c3 : (nI m).toNatClampNeg = m := nI_clamp (by omega)
  have p1 : ¬ nI sp < 0 := nI_pos (by omega)
  have p2 : ¬ nI dp < 0 := nI_pos (by omega)
  have p3 : ¬ nI m < 0 := nI_pos (by omega)
  refine g_step h ?_ (gg _ ⟨va_cpy f' g' sp dp m, eSet_at e3, fun q hq => ?_⟩ off_set)
  · show eCall k (eOwn k) (.invokestatic idx) pc L _ H = _
    simp only [eCall, hac, eCpy, e1, e3, c1, c2, c3, p1, p2, p3, Nat.ble_eq_true_of_le h1, Nat.ble_eq_true_of_le h2, hw, or_self, if_false]
  · show (if dp ≤ q ∧ q < dp + m then f' (sp + (q - dp)) else g' q) = (if dp ≤ q ∧ q < dp + m then f (sp + (q - dp)) else g q)
    by_cases hc : dp ≤ q ∧ q < dp + m
    · rw [if_pos hc, if_pos hc]
      exact e2 _ (by omega)
    · rw [if_neg hc, if_neg hc]
      exact e4 q hq
end G4
theorem g_top {o : eO} {k pc : Nat} {L : eL} {st : List Value} {H : eH} {r : eP} {x y : Int32} (e : x = y) (g : eG o k pc L (.int y :: st) H r) : eG o k pc L (.int x :: st) H r := e ▸ g
theorem nI_mul (a b : Nat) : nI a * nI b = nI (a * b) := by
  show Int32.ofNat a * Int32.ofNat b = Int32.ofNat (a * b)
  rw [Int32.ofNat_mul]
end
section
def hpX : eH := [.inr (6, [.ref 1, .ref 8, .ref 15, .ref 22, .ref 24, .ref 33, .ref 43, .ref 45, .int 0]),
  .inr (4, [.ref 2, .ref 3, .ref 4, .ref 5, .ref 6, .ref 7, .int 0, .int 0, .int 0, .int 0, .int 0, .int 200]),
  .inl (0, 8, .inl (fun _ => 0)),
  .inl (0, 8, .inl (fun _ => 0)),
  .inl (0, 8, .inl (fun _ => 0)),
  .inl (0, 8, .inl (fun _ => 0)),
  .inl (0, 8, .inl (fun _ => 0)),
  .inl (0, 4, .inl (fun _ => 0)),
  .inr (4, [.ref 9, .ref 10, .ref 11, .ref 12, .ref 13, .ref 14, .int 0, .int 0, .int 0, .int 0, .int 0, .int 200]),
  .inl (0, 8, .inl (fun _ => 0)),
  .inl (0, 8, .inl (fun _ => 0)),
  .inl (0, 8, .inl (fun _ => 0)),
  .inl (0, 8, .inl (fun _ => 0)),
  .inl (0, 8, .inl (fun _ => 0)),
  .inl (0, 4, .inl (fun _ => 0)),
  .inr (4, [.ref 16, .ref 17, .ref 18, .ref 19, .ref 20, .ref 21, .int 0, .int 0, .int 0, .int 0, .int 0, .int 200]),
  .inl (0, 8, .inl (fun _ => 0)),
  .inl (0, 8, .inl (fun _ => 0)),
  .inl (0, 8, .inl (fun _ => 0)),
  .inl (0, 8, .inl (fun _ => 0)),
  .inl (0, 8, .inl (fun _ => 0)),
  .inl (0, 4, .inl (fun _ => 0)),
  .inr (3, [.ref 23, .int 0, .int 0]),
  .inl (3, 160, .inl (fun _ => 0)),
  .inr (5, [.ref 25, .ref 26, .ref 27, .ref 28, .ref 29, .ref 30, .ref 31, .ref 32, .int 0, .int 0, .int 0, .int 0, .int 0, .int 0, .int 0, .int 0, .int 0]),
  .inl (0, 256, .inl (fun _ => 0)),
  .inl (0, 256, .inl (fun _ => 0)),
  .inl (0, 256, .inl (fun _ => 0)),
  .inl (2, 256, .inl (fun _ => 0)),
  .inl (2, 256, .inl (fun _ => 0)),
  .inl (0, 256, .inl (fun _ => 0)),
  .inl (0, 2048, .inl (fun _ => 0)),
  .inl (0, 256, .inl (fun _ => 0)),
  .inr (1, [.ref 34, .ref 35, .ref 36, .ref 37, .ref 38, .ref 39, .ref 40, .ref 41, .ref 42, .int 0, .int 0, .int 0, .int 0]),
  .inl (0, 9, .inl (fun _ => 0)),
  .inl (0, 9, .inl (fun _ => 0)),
  .inl (0, 9, .inl (fun _ => 0)),
  .inl (0, 9, .inl (fun _ => 0)),
  .inl (0, 8, .inl (fun _ => 0)),
  .inl (0, 8, .inl (fun _ => 0)),
  .inl (0, 8, .inl (fun _ => 0)),
  .inl (0, 8, .inl (fun _ => 0)),
  .inl (0, 72, .inl (fun _ => 0)),
  .inr (0, [.ref 44]),
  .inl (0, 8, .inl (fun _ => 0)),
  .inr (2, [.ref 46, .ref 47, .ref 48]),
  .inl (1, 96, .inr (fun _ => 0)),
  .inl (0, 4, .inl (fun _ => 0)),
  .inl (0, 4, .inl (upd (upd (upd (upd (fun _ => 0) 0 (-1)) 1 (-1)) 2 (-1)) 3 (-1)))]
set_option maxRecDepth 100000 in
set_option maxHeartbeats 4000000 in
theorem ct_X (o : eO) : eX o 120 0 0 (eEnt 0 [.ref 0]) [] [.inr (6, [.null, .null, .null, .null, .null, .null, .null, .null, .int 0])] = some (none, hpX) := rfl
def hpM : eH := [.inr (6, [.ref 1, .ref 8, .ref 15, .ref 22, .ref 24, .ref 33, .ref 43, .ref 45, .int 0]),
  .inr (4, [.ref 2, .ref 3, .ref 4, .ref 5, .ref 6, .ref 7, .int 0, .int 0, .int 0, .int 0, .int 0, .int 200]),
  .inl (0, 8, .inl (fun _ => 0)),
  .inl (0, 8, .inl (fun _ => 0)),
  .inl (0, 8, .inl (fun _ => 0)),
  .inl (0, 8, .inl (fun _ => 0)),
  .inl (0, 8, .inl (fun _ => 0)),
  .inl (0, 4, .inl (fun _ => 0)),
  .inr (4, [.ref 9, .ref 10, .ref 11, .ref 12, .ref 13, .ref 14, .int 0, .int 0, .int 0, .int 0, .int 0, .int 200]),
  .inl (0, 8, .inl (fun _ => 0)),
  .inl (0, 8, .inl (fun _ => 0)),
  .inl (0, 8, .inl (fun _ => 0)),
  .inl (0, 8, .inl (fun _ => 0)),
  .inl (0, 8, .inl (fun _ => 0)),
  .inl (0, 4, .inl (fun _ => 0)),
  .inr (4, [.ref 16, .ref 17, .ref 18, .ref 19, .ref 20, .ref 21, .int 0, .int 0, .int 0, .int 0, .int 0, .int 200]),
  .inl (0, 8, .inl (fun _ => 0)),
  .inl (0, 8, .inl (fun _ => 0)),
  .inl (0, 8, .inl (fun _ => 0)),
  .inl (0, 8, .inl (fun _ => 0)),
  .inl (0, 8, .inl (fun _ => 0)),
  .inl (0, 4, .inl (fun _ => 0)),
  .inr (3, [.ref 23, .int 0, .int 0]),
  .inl (3, 160, .inl (fun _ => 0)),
  .inr (5, [.ref 25, .ref 26, .ref 27, .ref 28, .ref 29, .ref 30, .ref 31, .ref 32, .int 0, .int 0, .int 0, .int 0, .int 0, .int 0, .int 0, .int 0, .int 0]),
  .inl (0, 256, .inl (fun _ => 0)),
  .inl (0, 256, .inl (fun _ => 0)),
  .inl (0, 256, .inl (fun _ => 0)),
  .inl (2, 256, .inl (fun _ => 0)),
  .inl (2, 256, .inl (fun _ => 0)),
  .inl (0, 256, .inl (fun _ => 0)),
  .inl (0, 2048, .inl (fun _ => 0)),
  .inl (0, 256, .inl (fun _ => 0)),
  .inr (1, [.ref 34, .ref 35, .ref 36, .ref 37, .ref 38, .ref 39, .ref 40, .ref 41, .ref 42, .int 0, .int 0, .int 0, .int 0]),
  .inl (0, 9, .inl (fun _ => 0)),
  .inl (0, 9, .inl (fun _ => 0)),
  .inl (0, 9, .inl (fun _ => 0)),
  .inl (0, 9, .inl (fun _ => 0)),
  .inl (0, 8, .inl (fun _ => 0)),
  .inl (0, 8, .inl (fun _ => 0)),
  .inl (0, 8, .inl (fun _ => 0)),
  .inl (0, 8, .inl (fun _ => 0)),
  .inl (0, 72, .inl (fun _ => 0)),
  .inr (0, [.ref 44]),
  .inl (0, 8, .inl (fun _ => 0)),
  .inr (2, [.ref 46, .ref 47, .ref 48]),
  .inl (1, 96, .inr (fun _ => 0)),
  .inl (0, 4, .inl (fun _ => 0)),
  .inl (0, 4, .inl (upd (upd (upd (upd (fun _ => 0) 0 (-1)) 1 (-1)) 2 (-1)) 3 (-1))),
  .inr (7, [.ref 50, .int 0, .int 0, .int 0, .int 0, .int 200, .ref 51, .int 0, .ref 52, .int 0, .int 0, .int 0, .int 0, .ref 53, .ref 54, .ref 55, .ref 56, .ref 57, .ref 58, .ref 59, .ref 60, .ref 61, .ref 62, .ref 63, .ref 64, .ref 65, .ref 66, .ref 67, .int 0, .ref 68, .ref 69, .ref 70, .ref 71, .ref 72, .int 0, .ref 73]),
  .inl (0, 40, .inl (fun _ => 0)),
  .inl (0, 4, .inl (fun _ => 0)),
  .inl (0, 160, .inl (fun _ => 0)),
  .inl (0, 40, .inl (fun _ => 0)),
  .inl (0, 256, .inl (fun _ => 0)),
  .inl (2, 256, .inl (fun _ => 0)),
  .inl (0, 256, .inl (fun _ => 0)),
  .inl (0, 256, .inl (fun _ => 0)),
  .inl (0, 65536, .inl (fun _ => 0)),
  .inl (0, 256, .inl (fun _ => 0)),
  .inl (0, 256, .inl (fun _ => 0)),
  .inl (0, 9, .inl (fun _ => 0)),
  .inl (0, 8, .inl (fun _ => 0)),
  .inl (0, 72, .inl (fun _ => 0)),
  .inl (0, 17, .inl (fun _ => 0)),
  .inl (0, 17, .inl (fun _ => 0)),
  .inl (0, 8, .inl (fun _ => 0)),
  .inl (2, 16, .inl (fun _ => 0)),
  .inl (0, 44, .inl (fun _ => 0)),
  .inl (0, 6, .inl (fun _ => 0)),
  .inl (0, 4, .inl (upd (upd (upd (upd (fun _ => 0) 0 (-1)) 1 (-1)) 2 (-1)) 3 (-1))),
  .inl (0, 4, .inl (fun _ => 0)),
  .inl (1, 96, .inr (fun _ => 0)),
  .inl (1, 24, .inr (fun _ => 0))]
set_option maxRecDepth 100000 in
set_option maxHeartbeats 4000000 in
theorem ct_M (o : eO) : eX o 300 128 0 (eEnt 128 [.ref 49]) [] (hpX ++ [.inr (7, [.null, .int 0, .int 0, .int 0, .int 0, .int 0, .null, .int 0, .null, .int 0, .int 0, .int 0, .int 0, .null, .null, .null, .null, .null, .null, .null, .null, .null, .null, .null, .null, .null, .null, .null, .int 0, .null, .null, .null, .null, .null, .int 0, .null])]) = some (none, hpM) := rfl
end
section
theorem law_start (o : eO) {r : eP} (g : eG o 202 18 [some (.retAddr 0), some (.ref 0), some (.ref 49), some (.int (nI 0))] [] hpM r) : eG o 202 0 (eEnt 202 [.retAddr 0]) [] [] r := by
  refine g_run 2 4 [some (.retAddr 0), none, none, none] [.ref 0, .ref 0] [.inr (6, [.null, .null, .null, .null, .null, .null, .null, .null, .int 0])] rfl ?_
  refine g_call (show eAt 202 4 = some (.invokespecial 9, 3) from rfl) rfl rfl ⟨120, _, ct_X o, rfl⟩ ?_
  refine g_run 3 12 [some (.retAddr 0), some (.ref 0), none, none] [.ref 49, .ref 49] (hpX ++ [.inr (7, [.null, .int 0, .int 0, .int 0, .int 0, .int 0, .null, .int 0, .null, .int 0, .int 0, .int 0, .int 0, .null, .null, .null, .null, .null, .null, .null, .null, .null, .null, .null, .null, .null, .null, .null, .int 0, .null, .null, .null, .null, .null, .int 0, .null])]) rfl ?_
  refine g_call (show eAt 202 12 = some (.invokespecial 12, 3) from rfl) rfl rfl ⟨300, _, ct_M o, rfl⟩ ?_
  refine g_run 3 18 [some (.retAddr 0), some (.ref 0), some (.ref 49), some (.int (nI 0))] [] hpM rfl ?_
  exact g
section G5
variable {o : eO} {k pc l : Nat} {L : eL} {st : List Value} {H : eH} {r : eP}
/-- the script is read -/
theorem g_slen (h : eAt k pc = some (.arraylength, 1)) (g : eG o k (pc + 1) L (.int (nI o.1) :: st) H r) : eG o k pc L (.retAddr 0 :: st) H r := by
  refine g_step h ?_ g
  show eHp o (eOwn k) (eIni k) .arraylength pc L (.retAddr 0 :: st) H = _
  rfl
theorem g_sld {p : Nat} (h : eAt k pc = some (.iaload, 1)) (hp : p < o.1) (hn : o.1 ≤ 1000000) (g : eG o k (pc + 1) L (.int (o.2 p) :: st) H r) : eG o k pc L (.int (nI p) :: .retAddr 0 :: st) H r := by
  refine g_step h ?_ g
  show eHp o (eOwn k) (eIni k) .iaload pc L (.int (nI p) :: .retAddr 0 :: st) H = _
  simp only [eHp, eRoA, eOut_nI hp hn, ePush, nI_clamp (show p < 2 ^ 31 by omega)]
end G5
/-- the claim out of the law's loop -/
theorem whole_open (hloop : ∀ (L : Nat) (xs : Nat → Int32), L ≤ 3072 → eG (L, xs) 202 18 [some (.retAddr 0), some (.ref 0), some (.ref 49), some (.int (nI 0))] [] hpM (fun z => z.1 = some (.int 1) ∧ z.2.length ≤ 600000 ∧ eTot z.2 ≤ 7302250)) {p : Program} {e : Env} {s : State} {m : MethodId} {below : List Frame} {meth : Method} {c : Code} (l : Launch) {b L : Nat} {xs : Nat → Int32} (hL : L ≤ 3072) (C0 : lw_At p s m meth c b L xs) : W p l e room_1 s m #[Value.ref b] below meth c s.heap [] 0 0 (lw_Z below #[Value.ref b] s) (entryFrame m ([Value.ref b] : List Value).toArray 4) := by
  obtain ⟨n, ⟨v, AH1⟩, h1, h2, h3, h4⟩ := law_start (L, xs) (hloop L xs hL)
  dsimp only at h2 h3 h4
  subst h2
  exact eStart l C0 ⟨n, AH1, h1, h3, h4⟩
end
section
theorem bm32 {z : Int} (h1 : -2147483648 ≤ z) (h2 : z < 2147483648) : z.bmod (2 ^ 32) = z := Int.bmod_eq_of_le (by omega) (by omega)
theorem nI_sub6 {zQ : Nat} (h : zQ ≤ 3072) : (nI zQ - 6).toInt = (zQ : Int) - 6 := by
  rw [Int32.toInt_sub, nI_toInt (by omega), show (6 : Int32).toInt = 6 from by decide]
  exact bm32 (by omega) (by omega)
theorem lw_out {zQ iQ : Nat} (hz : zQ ≤ 3072) (hi : iQ ≤ 4000) (h : zQ < iQ + 6) : nI zQ - 6 < nI iQ := by
  rw [Int32.lt_iff_toInt_lt, nI_sub6 hz, nI_toInt (by omega)]
  omega
theorem lw_in {zQ iQ : Nat} (hz : zQ ≤ 3072) (hi : iQ ≤ 4000) (h : iQ + 6 ≤ zQ) : ¬ nI zQ - 6 < nI iQ := by
  rw [Int32.lt_iff_toInt_lt, nI_sub6 hz, nI_toInt (by omega)]
  omega
/-- two methods, of the class and of the reference, called one behind the other: the same answer, and what holds of the heap holds again -/
def Pair (Inv : eH → Prop) (kx km : Nat) (as : List Value) : Prop := ∀ (o : eO) (H : eH), Inv H → eG o kx 0 (eEnt kx (.ref 0 :: as)) [] H (fun z => ∃ vQ : Int32, z.1 = some (.int vQ) ∧ (∃ fs, z.2[49]? = some (.inr (7, fs))) ∧ eG o km 0 (eEnt km (.ref 49 :: as)) [] z.2 (fun y => y.1 = some (.int vQ) ∧ Inv y.2))
def P_part (Inv : eH → Prop) : Prop := ∀ (x0Q : Int32) (x1Q : Int32) (x2Q : Int32) (x3Q : Int32) (x4Q : Int32), Pair Inv 7 129 [.int x0Q, .int x1Q, .int x2Q, .int x3Q, .int x4Q]
def P_told (Inv : eH → Prop) : Prop := ∀ (x0Q : Int32) (x1Q : Int32), Pair Inv 17 133 [.int x0Q, .int x1Q]
def P_stand (Inv : eH → Prop) : Prop := ∀ (x0Q : Int32), Pair Inv 19 134 [.int x0Q]
def P_person (Inv : eH → Prop) : Prop := ∀ (x0Q : Int32), Pair Inv 21 137 [.int x0Q]
def P_set (Inv : eH → Prop) : Prop := ∀ (x0Q : Int32) (x1Q : Int32), Pair Inv 24 138 [.int x0Q, .int x1Q]
def P_want (Inv : eH → Prop) : Prop := ∀ (x0Q : Int32), Pair Inv 25 139 [.int x0Q]
def P_type (Inv : eH → Prop) : Prop := ∀ (x0Q : Int64) (x1Q : Int32), Pair Inv 26 143 [.long x0Q, .int x1Q]
def P_town (Inv : eH → Prop) : Prop := Pair Inv 30 144 []
def P_people (Inv : eH → Prop) : Prop := Pair Inv 45 151 []
def P_count (Inv : eH → Prop) : Prop := ∀ (x0Q : Int32), Pair Inv 47 140 [.int x0Q]
def P_may (Inv : eH → Prop) : Prop := ∀ (x0Q : Int32) (x1Q : Int32), Pair Inv 50 152 [.int x0Q, .int x1Q]
def P_week (Inv : eH → Prop) : Prop := ∀ (x0Q : Int32) (x1Q : Int32), Pair Inv 57 159 [.int x0Q, .int x1Q]
def P_can (Inv : eH → Prop) : Prop := ∀ (x0Q : Int32), Pair Inv 59 162 [.int x0Q]
def P_more (Inv : eH → Prop) : Prop := Pair Inv 73 167 []
def P_carry (Inv : eH → Prop) : Prop := ∀ (x0Q : Int32) (x1Q : Int32), Pair Inv 74 168 [.int x0Q, .int x1Q]
def P_build (Inv : eH → Prop) : Prop := ∀ (x0Q : Int32) (x1Q : Int32), Pair Inv 88 174 [.int x0Q, .int x1Q]
def P_worth (Inv : eH → Prop) : Prop := ∀ (x0Q : Int32) (x1Q : Int32), Pair Inv 96 177 [.int x0Q, .int x1Q]
def P_image (Inv : eH → Prop) : Prop := Pair Inv 104 181 []
def P_restore (Inv : eH → Prop) : Prop := Pair Inv 105 182 []
def P_judged (Inv : eH → Prop) : Prop := ∀ (x0Q : Int32) (x1Q : Int32) (x2Q : Int32) (x3Q : Int32), Pair Inv 106 189 [.int x0Q, .int x1Q, .int x2Q, .int x3Q]
def P_wrong (Inv : eH → Prop) : Prop := ∀ (x0Q : Int32) (x1Q : Int32) (x2Q : Int32) (x3Q : Int32) (x4Q : Int32), Pair Inv 116 191 [.int x0Q, .int x1Q, .int x2Q, .int x3Q, .int x4Q]
def P_sheet (Inv : eH → Prop) : Prop := ∀ (x0Q : Int32) (x1Q : Int32) (x2Q : Int32), Pair Inv 117 183 [.int x0Q, .int x1Q, .int x2Q]
def P_drop (Inv : eH → Prop) : Prop := ∀ (x0Q : Int32), Pair Inv 120 185 [.int x0Q]
def P_item (Inv : eH → Prop) : Prop := ∀ (x0Q : Int32) (x1Q : Int32) (x2Q : Int32) (x3Q : Int64), Pair Inv 122 186 [.int x0Q, .int x1Q, .int x2Q, .long x3Q]
def P_film (Inv : eH → Prop) : Prop := ∀ (x0Q : Int32) (x1Q : Int32) (x2Q : Int32), Pair Inv 124 192 [.int x0Q, .int x1Q, .int x2Q]
def P_copy (Inv : eH → Prop) : Prop := ∀ (x0Q : Int32) (x1Q : Int32) (x2Q : Int32) (x3Q : Int32) (x4Q : Int32), Pair Inv 125 193 [.int x0Q, .int x1Q, .int x2Q, .int x3Q, .int x4Q]
set_option maxRecDepth 100000 in
set_option maxHeartbeats 4000000 in
theorem c_part (Inv : eH → Prop) (hO : ∀ H, Inv H → ∃ fs, H[0]? = some (.inr (6, fs))) (hP : P_part Inv) (o : eO) (iQ : Nat) (H : eH) (hz : o.1 ≤ 3072) (hi : iQ + 6 ≤ o.1) (hI : Inv H) {r : eP} (hk : ∀ H2, Inv H2 → eG o 202 1060 [some (.retAddr 0), some (.ref 0), some (.ref 49), some (.int (nI iQ))] [] H2 r) : eG o 202 152 [some (.retAddr 0), some (.ref 0), some (.ref 49), some (.int (nI iQ))] [] H r := by
  obtain ⟨fo, hob⟩ := hO H hI
  refine g_run 5 157 [some (.retAddr 0), some (.ref 0), some (.ref 49), some (.int (nI iQ))] [.int (nI iQ + nI 1), .retAddr 0, .ref 0] H rfl ?_
  refine g_top (nI_add iQ 1) ?_
  refine g_sld rfl (show iQ + 1 < _ by omega) (by omega) ?_
  refine g_run 4 162 [some (.retAddr 0), some (.ref 0), some (.ref 49), some (.int (nI iQ))] [.int (nI iQ + nI 2), .retAddr 0, .int (o.2 (iQ + 1)), .ref 0] H rfl ?_
  refine g_top (nI_add iQ 2) ?_
  refine g_sld rfl (show iQ + 2 < _ by omega) (by omega) ?_
  refine g_run 4 167 [some (.retAddr 0), some (.ref 0), some (.ref 49), some (.int (nI iQ))] [.int (nI iQ + nI 3), .retAddr 0, .int (o.2 (iQ + 2)), .int (o.2 (iQ + 1)), .ref 0] H rfl ?_
  refine g_top (nI_add iQ 3) ?_
  refine g_sld rfl (show iQ + 3 < _ by omega) (by omega) ?_
  refine g_run 4 172 [some (.retAddr 0), some (.ref 0), some (.ref 49), some (.int (nI iQ))] [.int (nI iQ + nI 4), .retAddr 0, .int (o.2 (iQ + 3)), .int (o.2 (iQ + 2)), .int (o.2 (iQ + 1)), .ref 0] H rfl ?_
  refine g_top (nI_add iQ 4) ?_
  refine g_sld rfl (show iQ + 4 < _ by omega) (by omega) ?_
  refine g_run 4 177 [some (.retAddr 0), some (.ref 0), some (.ref 49), some (.int (nI iQ))] [.int (nI iQ + nI 5), .retAddr 0, .int (o.2 (iQ + 4)), .int (o.2 (iQ + 3)), .int (o.2 (iQ + 2)), .int (o.2 (iQ + 1)), .ref 0] H rfl ?_
  refine g_top (nI_add iQ 5) ?_
  refine g_sld rfl (show iQ + 5 < _ by omega) (by omega) ?_
  refine g_virS rfl rfl rfl hob rfl rfl (hP _ _ _ _ _ o H hI) rfl (fun v1 H1 q1 => ?_)
  obtain ⟨vQ, rfl, ⟨fm, h49⟩, q1⟩ := q1
  show eG _ 202 181 [some (.retAddr 0), some (.ref 0), some (.ref 49), some (.int (nI iQ))] [.int vQ] H1 _
  refine g_run 5 186 [some (.retAddr 0), some (.ref 0), some (.ref 49), some (.int (nI iQ))] [.int (nI iQ + nI 1), .retAddr 0, .ref 49, .int vQ] H1 rfl ?_
  refine g_top (nI_add iQ 1) ?_
  refine g_sld rfl (show iQ + 1 < _ by omega) (by omega) ?_
  refine g_run 4 191 [some (.retAddr 0), some (.ref 0), some (.ref 49), some (.int (nI iQ))] [.int (nI iQ + nI 2), .retAddr 0, .int (o.2 (iQ + 1)), .ref 49, .int vQ] H1 rfl ?_
  refine g_top (nI_add iQ 2) ?_
  refine g_sld rfl (show iQ + 2 < _ by omega) (by omega) ?_
  refine g_run 4 196 [some (.retAddr 0), some (.ref 0), some (.ref 49), some (.int (nI iQ))] [.int (nI iQ + nI 3), .retAddr 0, .int (o.2 (iQ + 2)), .int (o.2 (iQ + 1)), .ref 49, .int vQ] H1 rfl ?_
  refine g_top (nI_add iQ 3) ?_
  refine g_sld rfl (show iQ + 3 < _ by omega) (by omega) ?_
  refine g_run 4 201 [some (.retAddr 0), some (.ref 0), some (.ref 49), some (.int (nI iQ))] [.int (nI iQ + nI 4), .retAddr 0, .int (o.2 (iQ + 3)), .int (o.2 (iQ + 2)), .int (o.2 (iQ + 1)), .ref 49, .int vQ] H1 rfl ?_
  refine g_top (nI_add iQ 4) ?_
  refine g_sld rfl (show iQ + 4 < _ by omega) (by omega) ?_
  refine g_run 4 206 [some (.retAddr 0), some (.ref 0), some (.ref 49), some (.int (nI iQ))] [.int (nI iQ + nI 5), .retAddr 0, .int (o.2 (iQ + 4)), .int (o.2 (iQ + 3)), .int (o.2 (iQ + 2)), .int (o.2 (iQ + 1)), .ref 49, .int vQ] H1 rfl ?_
  refine g_top (nI_add iQ 5) ?_
  refine g_sld rfl (show iQ + 5 < _ by omega) (by omega) ?_
  refine g_virS rfl rfl rfl h49 rfl rfl q1 rfl (fun v2 H2 q2 => ?_)
  obtain ⟨rfl, hI2⟩ := q2
  show eG _ 202 210 [some (.retAddr 0), some (.ref 0), some (.ref 49), some (.int (nI iQ))] [.int vQ, .int vQ] H2 _
  refine g_icmp_eq rfl (fun _ => ?_) (fun c1 => absurd (rfl) c1)
  show eG _ 202 1060 [some (.retAddr 0), some (.ref 0), some (.ref 49), some (.int (nI iQ))] [] H2 _
  exact hk H2 hI2
set_option maxRecDepth 100000 in
set_option maxHeartbeats 4000000 in
theorem c_told (Inv : eH → Prop) (hO : ∀ H, Inv H → ∃ fs, H[0]? = some (.inr (6, fs))) (hP : P_told Inv) (o : eO) (iQ : Nat) (H : eH) (hz : o.1 ≤ 3072) (hi : iQ + 6 ≤ o.1) (hI : Inv H) {r : eP} (hk : ∀ H2, Inv H2 → eG o 202 1060 [some (.retAddr 0), some (.ref 0), some (.ref 49), some (.int (nI iQ))] [] H2 r) : eG o 202 215 [some (.retAddr 0), some (.ref 0), some (.ref 49), some (.int (nI iQ))] [] H r := by
  obtain ⟨fo, hob⟩ := hO H hI
  refine g_run 5 220 [some (.retAddr 0), some (.ref 0), some (.ref 49), some (.int (nI iQ))] [.int (nI iQ + nI 1), .retAddr 0, .ref 0] H rfl ?_
  refine g_top (nI_add iQ 1) ?_
  refine g_sld rfl (show iQ + 1 < _ by omega) (by omega) ?_
  refine g_run 4 225 [some (.retAddr 0), some (.ref 0), some (.ref 49), some (.int (nI iQ))] [.int (nI iQ + nI 2), .retAddr 0, .int (o.2 (iQ + 1)), .ref 0] H rfl ?_
  refine g_top (nI_add iQ 2) ?_
  refine g_sld rfl (show iQ + 2 < _ by omega) (by omega) ?_
  refine g_virS rfl rfl rfl hob rfl rfl (hP _ _ o H hI) rfl (fun v1 H1 q1 => ?_)
  obtain ⟨vQ, rfl, ⟨fm, h49⟩, q1⟩ := q1
  show eG _ 202 229 [some (.retAddr 0), some (.ref 0), some (.ref 49), some (.int (nI iQ))] [.int vQ] H1 _
  refine g_run 5 234 [some (.retAddr 0), some (.ref 0), some (.ref 49), some (.int (nI iQ))] [.int (nI iQ + nI 1), .retAddr 0, .ref 49, .int vQ] H1 rfl ?_
  refine g_top (nI_add iQ 1) ?_
  refine g_sld rfl (show iQ + 1 < _ by omega) (by omega) ?_
  refine g_run 4 239 [some (.retAddr 0), some (.ref 0), some (.ref 49), some (.int (nI iQ))] [.int (nI iQ + nI 2), .retAddr 0, .int (o.2 (iQ + 1)), .ref 49, .int vQ] H1 rfl ?_
  refine g_top (nI_add iQ 2) ?_
  refine g_sld rfl (show iQ + 2 < _ by omega) (by omega) ?_
  refine g_virS rfl rfl rfl h49 rfl rfl q1 rfl (fun v2 H2 q2 => ?_)
  obtain ⟨rfl, hI2⟩ := q2
  show eG _ 202 243 [some (.retAddr 0), some (.ref 0), some (.ref 49), some (.int (nI iQ))] [.int vQ, .int vQ] H2 _
  refine g_icmp_eq rfl (fun _ => ?_) (fun c1 => absurd (rfl) c1)
  show eG _ 202 1060 [some (.retAddr 0), some (.ref 0), some (.ref 49), some (.int (nI iQ))] [] H2 _
  exact hk H2 hI2
set_option maxRecDepth 100000 in
set_option maxHeartbeats 4000000 in
theorem c_stand (Inv : eH → Prop) (hO : ∀ H, Inv H → ∃ fs, H[0]? = some (.inr (6, fs))) (hP : P_stand Inv) (o : eO) (iQ : Nat) (H : eH) (hz : o.1 ≤ 3072) (hi : iQ + 6 ≤ o.1) (hI : Inv H) {r : eP} (hk : ∀ H2, Inv H2 → eG o 202 1060 [some (.retAddr 0), some (.ref 0), some (.ref 49), some (.int (nI iQ))] [] H2 r) : eG o 202 248 [some (.retAddr 0), some (.ref 0), some (.ref 49), some (.int (nI iQ))] [] H r := by
  obtain ⟨fo, hob⟩ := hO H hI
  refine g_run 5 253 [some (.retAddr 0), some (.ref 0), some (.ref 49), some (.int (nI iQ))] [.int (nI iQ + nI 1), .retAddr 0, .ref 0] H rfl ?_
  refine g_top (nI_add iQ 1) ?_
  refine g_sld rfl (show iQ + 1 < _ by omega) (by omega) ?_
  refine g_virS rfl rfl rfl hob rfl rfl (hP _ o H hI) rfl (fun v1 H1 q1 => ?_)
  obtain ⟨vQ, rfl, ⟨fm, h49⟩, q1⟩ := q1
  show eG _ 202 257 [some (.retAddr 0), some (.ref 0), some (.ref 49), some (.int (nI iQ))] [.int vQ] H1 _
  refine g_run 5 262 [some (.retAddr 0), some (.ref 0), some (.ref 49), some (.int (nI iQ))] [.int (nI iQ + nI 1), .retAddr 0, .ref 49, .int vQ] H1 rfl ?_
  refine g_top (nI_add iQ 1) ?_
  refine g_sld rfl (show iQ + 1 < _ by omega) (by omega) ?_
  refine g_virS rfl rfl rfl h49 rfl rfl q1 rfl (fun v2 H2 q2 => ?_)
  obtain ⟨rfl, hI2⟩ := q2
  show eG _ 202 266 [some (.retAddr 0), some (.ref 0), some (.ref 49), some (.int (nI iQ))] [.int vQ, .int vQ] H2 _
  refine g_icmp_eq rfl (fun _ => ?_) (fun c1 => absurd (rfl) c1)
  show eG _ 202 1060 [some (.retAddr 0), some (.ref 0), some (.ref 49), some (.int (nI iQ))] [] H2 _
  exact hk H2 hI2
set_option maxRecDepth 100000 in
set_option maxHeartbeats 4000000 in
theorem c_person (Inv : eH → Prop) (hO : ∀ H, Inv H → ∃ fs, H[0]? = some (.inr (6, fs))) (hP : P_person Inv) (o : eO) (iQ : Nat) (H : eH) (hz : o.1 ≤ 3072) (hi : iQ + 6 ≤ o.1) (hI : Inv H) {r : eP} (hk : ∀ H2, Inv H2 → eG o 202 1060 [some (.retAddr 0), some (.ref 0), some (.ref 49), some (.int (nI iQ))] [] H2 r) : eG o 202 271 [some (.retAddr 0), some (.ref 0), some (.ref 49), some (.int (nI iQ))] [] H r := by
  obtain ⟨fo, hob⟩ := hO H hI
  refine g_run 5 276 [some (.retAddr 0), some (.ref 0), some (.ref 49), some (.int (nI iQ))] [.int (nI iQ + nI 1), .retAddr 0, .ref 0] H rfl ?_
  refine g_top (nI_add iQ 1) ?_
  refine g_sld rfl (show iQ + 1 < _ by omega) (by omega) ?_
  refine g_virS rfl rfl rfl hob rfl rfl (hP _ o H hI) rfl (fun v1 H1 q1 => ?_)
  obtain ⟨vQ, rfl, ⟨fm, h49⟩, q1⟩ := q1
  show eG _ 202 280 [some (.retAddr 0), some (.ref 0), some (.ref 49), some (.int (nI iQ))] [.int vQ] H1 _
  refine g_run 5 285 [some (.retAddr 0), some (.ref 0), some (.ref 49), some (.int (nI iQ))] [.int (nI iQ + nI 1), .retAddr 0, .ref 49, .int vQ] H1 rfl ?_
  refine g_top (nI_add iQ 1) ?_
  refine g_sld rfl (show iQ + 1 < _ by omega) (by omega) ?_
  refine g_virS rfl rfl rfl h49 rfl rfl q1 rfl (fun v2 H2 q2 => ?_)
  obtain ⟨rfl, hI2⟩ := q2
  show eG _ 202 289 [some (.retAddr 0), some (.ref 0), some (.ref 49), some (.int (nI iQ))] [.int vQ, .int vQ] H2 _
  refine g_icmp_eq rfl (fun _ => ?_) (fun c1 => absurd (rfl) c1)
  show eG _ 202 1060 [some (.retAddr 0), some (.ref 0), some (.ref 49), some (.int (nI iQ))] [] H2 _
  exact hk H2 hI2
set_option maxRecDepth 100000 in
set_option maxHeartbeats 4000000 in
theorem c_set (Inv : eH → Prop) (hO : ∀ H, Inv H → ∃ fs, H[0]? = some (.inr (6, fs))) (hP : P_set Inv) (o : eO) (iQ : Nat) (H : eH) (hz : o.1 ≤ 3072) (hi : iQ + 6 ≤ o.1) (hI : Inv H) {r : eP} (hk : ∀ H2, Inv H2 → eG o 202 1060 [some (.retAddr 0), some (.ref 0), some (.ref 49), some (.int (nI iQ))] [] H2 r) : eG o 202 294 [some (.retAddr 0), some (.ref 0), some (.ref 49), some (.int (nI iQ))] [] H r := by
  obtain ⟨fo, hob⟩ := hO H hI
  refine g_run 5 299 [some (.retAddr 0), some (.ref 0), some (.ref 49), some (.int (nI iQ))] [.int (nI iQ + nI 1), .retAddr 0, .ref 0] H rfl ?_
  refine g_top (nI_add iQ 1) ?_
  refine g_sld rfl (show iQ + 1 < _ by omega) (by omega) ?_
  refine g_run 4 304 [some (.retAddr 0), some (.ref 0), some (.ref 49), some (.int (nI iQ))] [.int (nI iQ + nI 2), .retAddr 0, .int (o.2 (iQ + 1)), .ref 0] H rfl ?_
  refine g_top (nI_add iQ 2) ?_
  refine g_sld rfl (show iQ + 2 < _ by omega) (by omega) ?_
  refine g_virS rfl rfl rfl hob rfl rfl (hP _ _ o H hI) rfl (fun v1 H1 q1 => ?_)
  obtain ⟨vQ, rfl, ⟨fm, h49⟩, q1⟩ := q1
  show eG _ 202 308 [some (.retAddr 0), some (.ref 0), some (.ref 49), some (.int (nI iQ))] [.int vQ] H1 _
  refine g_run 5 313 [some (.retAddr 0), some (.ref 0), some (.ref 49), some (.int (nI iQ))] [.int (nI iQ + nI 1), .retAddr 0, .ref 49, .int vQ] H1 rfl ?_
  refine g_top (nI_add iQ 1) ?_
  refine g_sld rfl (show iQ + 1 < _ by omega) (by omega) ?_
  refine g_run 4 318 [some (.retAddr 0), some (.ref 0), some (.ref 49), some (.int (nI iQ))] [.int (nI iQ + nI 2), .retAddr 0, .int (o.2 (iQ + 1)), .ref 49, .int vQ] H1 rfl ?_
  refine g_top (nI_add iQ 2) ?_
  refine g_sld rfl (show iQ + 2 < _ by omega) (by omega) ?_
  refine g_virS rfl rfl rfl h49 rfl rfl q1 rfl (fun v2 H2 q2 => ?_)
  obtain ⟨rfl, hI2⟩ := q2
  show eG _ 202 322 [some (.retAddr 0), some (.ref 0), some (.ref 49), some (.int (nI iQ))] [.int vQ, .int vQ] H2 _
  refine g_icmp_eq rfl (fun _ => ?_) (fun c1 => absurd (rfl) c1)
  show eG _ 202 1060 [some (.retAddr 0), some (.ref 0), some (.ref 49), some (.int (nI iQ))] [] H2 _
  exact hk H2 hI2
set_option maxRecDepth 100000 in
set_option maxHeartbeats 4000000 in
theorem c_want (Inv : eH → Prop) (hO : ∀ H, Inv H → ∃ fs, H[0]? = some (.inr (6, fs))) (hP : P_want Inv) (o : eO) (iQ : Nat) (H : eH) (hz : o.1 ≤ 3072) (hi : iQ + 6 ≤ o.1) (hI : Inv H) {r : eP} (hk : ∀ H2, Inv H2 → eG o 202 1060 [some (.retAddr 0), some (.ref 0), some (.ref 49), some (.int (nI iQ))] [] H2 r) : eG o 202 327 [some (.retAddr 0), some (.ref 0), some (.ref 49), some (.int (nI iQ))] [] H r := by
  obtain ⟨fo, hob⟩ := hO H hI
  refine g_run 5 332 [some (.retAddr 0), some (.ref 0), some (.ref 49), some (.int (nI iQ))] [.int (nI iQ + nI 1), .retAddr 0, .ref 0] H rfl ?_
  refine g_top (nI_add iQ 1) ?_
  refine g_sld rfl (show iQ + 1 < _ by omega) (by omega) ?_
  refine g_virS rfl rfl rfl hob rfl rfl (hP _ o H hI) rfl (fun v1 H1 q1 => ?_)
  obtain ⟨vQ, rfl, ⟨fm, h49⟩, q1⟩ := q1
  show eG _ 202 336 [some (.retAddr 0), some (.ref 0), some (.ref 49), some (.int (nI iQ))] [.int vQ] H1 _
  refine g_run 5 341 [some (.retAddr 0), some (.ref 0), some (.ref 49), some (.int (nI iQ))] [.int (nI iQ + nI 1), .retAddr 0, .ref 49, .int vQ] H1 rfl ?_
  refine g_top (nI_add iQ 1) ?_
  refine g_sld rfl (show iQ + 1 < _ by omega) (by omega) ?_
  refine g_virS rfl rfl rfl h49 rfl rfl q1 rfl (fun v2 H2 q2 => ?_)
  obtain ⟨rfl, hI2⟩ := q2
  show eG _ 202 345 [some (.retAddr 0), some (.ref 0), some (.ref 49), some (.int (nI iQ))] [.int vQ, .int vQ] H2 _
  refine g_icmp_eq rfl (fun _ => ?_) (fun c1 => absurd (rfl) c1)
  show eG _ 202 1060 [some (.retAddr 0), some (.ref 0), some (.ref 49), some (.int (nI iQ))] [] H2 _
  exact hk H2 hI2
set_option maxRecDepth 100000 in
set_option maxHeartbeats 4000000 in
theorem c_type (Inv : eH → Prop) (hO : ∀ H, Inv H → ∃ fs, H[0]? = some (.inr (6, fs))) (hP : P_type Inv) (o : eO) (iQ : Nat) (H : eH) (hz : o.1 ≤ 3072) (hi : iQ + 6 ≤ o.1) (hI : Inv H) {r : eP} (hk : ∀ H2, Inv H2 → eG o 202 1060 [some (.retAddr 0), some (.ref 0), some (.ref 49), some (.int (nI iQ))] [] H2 r) : eG o 202 350 [some (.retAddr 0), some (.ref 0), some (.ref 49), some (.int (nI iQ))] [] H r := by
  obtain ⟨fo, hob⟩ := hO H hI
  refine g_run 5 355 [some (.retAddr 0), some (.ref 0), some (.ref 49), some (.int (nI iQ))] [.int (nI iQ + nI 1), .retAddr 0, .ref 0] H rfl ?_
  refine g_top (nI_add iQ 1) ?_
  refine g_sld rfl (show iQ + 1 < _ by omega) (by omega) ?_
  refine g_run 7 364 [some (.retAddr 0), some (.ref 0), some (.ref 49), some (.int (nI iQ))] [.int (nI iQ + nI 2), .retAddr 0, .long (((o.2 (iQ + 1)).toInt64) <<< ((32 : Int32).toInt64 &&& 63)), .ref 0] H rfl ?_
  refine g_top (nI_add iQ 2) ?_
  refine g_sld rfl (show iQ + 2 < _ by omega) (by omega) ?_
  refine g_run 8 375 [some (.retAddr 0), some (.ref 0), some (.ref 49), some (.int (nI iQ))] [.int (nI iQ + nI 3), .retAddr 0, .long ((((o.2 (iQ + 1)).toInt64) <<< ((32 : Int32).toInt64 &&& 63)) ||| (((o.2 (iQ + 2)).toInt64) &&& 4294967295)), .ref 0] H rfl ?_
  refine g_top (nI_add iQ 3) ?_
  refine g_sld rfl (show iQ + 3 < _ by omega) (by omega) ?_
  refine g_virS rfl rfl rfl hob rfl rfl (hP _ _ o H hI) rfl (fun v1 H1 q1 => ?_)
  obtain ⟨vQ, rfl, ⟨fm, h49⟩, q1⟩ := q1
  show eG _ 202 379 [some (.retAddr 0), some (.ref 0), some (.ref 49), some (.int (nI iQ))] [.int vQ] H1 _
  refine g_run 5 384 [some (.retAddr 0), some (.ref 0), some (.ref 49), some (.int (nI iQ))] [.int (nI iQ + nI 1), .retAddr 0, .ref 49, .int vQ] H1 rfl ?_
  refine g_top (nI_add iQ 1) ?_
  refine g_sld rfl (show iQ + 1 < _ by omega) (by omega) ?_
  refine g_run 7 393 [some (.retAddr 0), some (.ref 0), some (.ref 49), some (.int (nI iQ))] [.int (nI iQ + nI 2), .retAddr 0, .long (((o.2 (iQ + 1)).toInt64) <<< ((32 : Int32).toInt64 &&& 63)), .ref 49, .int vQ] H1 rfl ?_
  refine g_top (nI_add iQ 2) ?_
  refine g_sld rfl (show iQ + 2 < _ by omega) (by omega) ?_
  refine g_run 8 404 [some (.retAddr 0), some (.ref 0), some (.ref 49), some (.int (nI iQ))] [.int (nI iQ + nI 3), .retAddr 0, .long ((((o.2 (iQ + 1)).toInt64) <<< ((32 : Int32).toInt64 &&& 63)) ||| (((o.2 (iQ + 2)).toInt64) &&& 4294967295)), .ref 49, .int vQ] H1 rfl ?_
  refine g_top (nI_add iQ 3) ?_
  refine g_sld rfl (show iQ + 3 < _ by omega) (by omega) ?_
  refine g_virS rfl rfl rfl h49 rfl rfl q1 rfl (fun v2 H2 q2 => ?_)
  obtain ⟨rfl, hI2⟩ := q2
  show eG _ 202 408 [some (.retAddr 0), some (.ref 0), some (.ref 49), some (.int (nI iQ))] [.int vQ, .int vQ] H2 _
  refine g_icmp_eq rfl (fun _ => ?_) (fun c1 => absurd (rfl) c1)
  show eG _ 202 1060 [some (.retAddr 0), some (.ref 0), some (.ref 49), some (.int (nI iQ))] [] H2 _
  exact hk H2 hI2
set_option maxRecDepth 100000 in
set_option maxHeartbeats 4000000 in
theorem c_town (Inv : eH → Prop) (hO : ∀ H, Inv H → ∃ fs, H[0]? = some (.inr (6, fs))) (hP : P_town Inv) (o : eO) (iQ : Nat) (H : eH) (hz : o.1 ≤ 3072) (hi : iQ + 6 ≤ o.1) (hI : Inv H) {r : eP} (hk : ∀ H2, Inv H2 → eG o 202 1060 [some (.retAddr 0), some (.ref 0), some (.ref 49), some (.int (nI iQ))] [] H2 r) : eG o 202 413 [some (.retAddr 0), some (.ref 0), some (.ref 49), some (.int (nI iQ))] [] H r := by
  obtain ⟨fo, hob⟩ := hO H hI
  refine g_run 1 414 [some (.retAddr 0), some (.ref 0), some (.ref 49), some (.int (nI iQ))] [.ref 0] H rfl ?_
  refine g_virS rfl rfl rfl hob rfl rfl (hP o H hI) rfl (fun v1 H1 q1 => ?_)
  obtain ⟨vQ, rfl, ⟨fm, h49⟩, q1⟩ := q1
  show eG _ 202 417 [some (.retAddr 0), some (.ref 0), some (.ref 49), some (.int (nI iQ))] [.int vQ] H1 _
  refine g_run 1 418 [some (.retAddr 0), some (.ref 0), some (.ref 49), some (.int (nI iQ))] [.ref 49, .int vQ] H1 rfl ?_
  refine g_virS rfl rfl rfl h49 rfl rfl q1 rfl (fun v2 H2 q2 => ?_)
  obtain ⟨rfl, hI2⟩ := q2
  show eG _ 202 421 [some (.retAddr 0), some (.ref 0), some (.ref 49), some (.int (nI iQ))] [.int vQ, .int vQ] H2 _
  refine g_icmp_eq rfl (fun _ => ?_) (fun c1 => absurd (rfl) c1)
  show eG _ 202 1060 [some (.retAddr 0), some (.ref 0), some (.ref 49), some (.int (nI iQ))] [] H2 _
  exact hk H2 hI2
set_option maxRecDepth 100000 in
set_option maxHeartbeats 4000000 in
theorem c_people (Inv : eH → Prop) (hO : ∀ H, Inv H → ∃ fs, H[0]? = some (.inr (6, fs))) (hP : P_people Inv) (o : eO) (iQ : Nat) (H : eH) (hz : o.1 ≤ 3072) (hi : iQ + 6 ≤ o.1) (hI : Inv H) {r : eP} (hk : ∀ H2, Inv H2 → eG o 202 1060 [some (.retAddr 0), some (.ref 0), some (.ref 49), some (.int (nI iQ))] [] H2 r) : eG o 202 426 [some (.retAddr 0), some (.ref 0), some (.ref 49), some (.int (nI iQ))] [] H r := by
  obtain ⟨fo, hob⟩ := hO H hI
  refine g_run 1 427 [some (.retAddr 0), some (.ref 0), some (.ref 49), some (.int (nI iQ))] [.ref 0] H rfl ?_
  refine g_virS rfl rfl rfl hob rfl rfl (hP o H hI) rfl (fun v1 H1 q1 => ?_)
  obtain ⟨vQ, rfl, ⟨fm, h49⟩, q1⟩ := q1
  show eG _ 202 430 [some (.retAddr 0), some (.ref 0), some (.ref 49), some (.int (nI iQ))] [.int vQ] H1 _
  refine g_run 1 431 [some (.retAddr 0), some (.ref 0), some (.ref 49), some (.int (nI iQ))] [.ref 49, .int vQ] H1 rfl ?_
  refine g_virS rfl rfl rfl h49 rfl rfl q1 rfl (fun v2 H2 q2 => ?_)
  obtain ⟨rfl, hI2⟩ := q2
  show eG _ 202 434 [some (.retAddr 0), some (.ref 0), some (.ref 49), some (.int (nI iQ))] [.int vQ, .int vQ] H2 _
  refine g_icmp_eq rfl (fun _ => ?_) (fun c1 => absurd (rfl) c1)
  show eG _ 202 1060 [some (.retAddr 0), some (.ref 0), some (.ref 49), some (.int (nI iQ))] [] H2 _
  exact hk H2 hI2
set_option maxRecDepth 100000 in
set_option maxHeartbeats 4000000 in
theorem c_count (Inv : eH → Prop) (hO : ∀ H, Inv H → ∃ fs, H[0]? = some (.inr (6, fs))) (hP : P_count Inv) (o : eO) (iQ : Nat) (H : eH) (hz : o.1 ≤ 3072) (hi : iQ + 6 ≤ o.1) (hI : Inv H) {r : eP} (hk : ∀ H2, Inv H2 → eG o 202 1060 [some (.retAddr 0), some (.ref 0), some (.ref 49), some (.int (nI iQ))] [] H2 r) : eG o 202 439 [some (.retAddr 0), some (.ref 0), some (.ref 49), some (.int (nI iQ))] [] H r := by
  obtain ⟨fo, hob⟩ := hO H hI
  refine g_run 5 444 [some (.retAddr 0), some (.ref 0), some (.ref 49), some (.int (nI iQ))] [.int (nI iQ + nI 1), .retAddr 0, .ref 0] H rfl ?_
  refine g_top (nI_add iQ 1) ?_
  refine g_sld rfl (show iQ + 1 < _ by omega) (by omega) ?_
  refine g_virS rfl rfl rfl hob rfl rfl (hP _ o H hI) rfl (fun v1 H1 q1 => ?_)
  obtain ⟨vQ, rfl, ⟨fm, h49⟩, q1⟩ := q1
  show eG _ 202 448 [some (.retAddr 0), some (.ref 0), some (.ref 49), some (.int (nI iQ))] [.int vQ] H1 _
  refine g_run 5 453 [some (.retAddr 0), some (.ref 0), some (.ref 49), some (.int (nI iQ))] [.int (nI iQ + nI 1), .retAddr 0, .ref 49, .int vQ] H1 rfl ?_
  refine g_top (nI_add iQ 1) ?_
  refine g_sld rfl (show iQ + 1 < _ by omega) (by omega) ?_
  refine g_virS rfl rfl rfl h49 rfl rfl q1 rfl (fun v2 H2 q2 => ?_)
  obtain ⟨rfl, hI2⟩ := q2
  show eG _ 202 457 [some (.retAddr 0), some (.ref 0), some (.ref 49), some (.int (nI iQ))] [.int vQ, .int vQ] H2 _
  refine g_icmp_eq rfl (fun _ => ?_) (fun c1 => absurd (rfl) c1)
  show eG _ 202 1060 [some (.retAddr 0), some (.ref 0), some (.ref 49), some (.int (nI iQ))] [] H2 _
  exact hk H2 hI2
set_option maxRecDepth 100000 in
set_option maxHeartbeats 4000000 in
theorem c_may (Inv : eH → Prop) (hO : ∀ H, Inv H → ∃ fs, H[0]? = some (.inr (6, fs))) (hP : P_may Inv) (o : eO) (iQ : Nat) (H : eH) (hz : o.1 ≤ 3072) (hi : iQ + 6 ≤ o.1) (hI : Inv H) {r : eP} (hk : ∀ H2, Inv H2 → eG o 202 1060 [some (.retAddr 0), some (.ref 0), some (.ref 49), some (.int (nI iQ))] [] H2 r) : eG o 202 462 [some (.retAddr 0), some (.ref 0), some (.ref 49), some (.int (nI iQ))] [] H r := by
  obtain ⟨fo, hob⟩ := hO H hI
  refine g_run 5 467 [some (.retAddr 0), some (.ref 0), some (.ref 49), some (.int (nI iQ))] [.int (nI iQ + nI 1), .retAddr 0, .ref 0] H rfl ?_
  refine g_top (nI_add iQ 1) ?_
  refine g_sld rfl (show iQ + 1 < _ by omega) (by omega) ?_
  refine g_run 4 472 [some (.retAddr 0), some (.ref 0), some (.ref 49), some (.int (nI iQ))] [.int (nI iQ + nI 2), .retAddr 0, .int (o.2 (iQ + 1)), .ref 0] H rfl ?_
  refine g_top (nI_add iQ 2) ?_
  refine g_sld rfl (show iQ + 2 < _ by omega) (by omega) ?_
  refine g_virS rfl rfl rfl hob rfl rfl (hP _ _ o H hI) rfl (fun v1 H1 q1 => ?_)
  obtain ⟨vQ, rfl, ⟨fm, h49⟩, q1⟩ := q1
  show eG _ 202 476 [some (.retAddr 0), some (.ref 0), some (.ref 49), some (.int (nI iQ))] [.int vQ] H1 _
  refine g_run 5 481 [some (.retAddr 0), some (.ref 0), some (.ref 49), some (.int (nI iQ))] [.int (nI iQ + nI 1), .retAddr 0, .ref 49, .int vQ] H1 rfl ?_
  refine g_top (nI_add iQ 1) ?_
  refine g_sld rfl (show iQ + 1 < _ by omega) (by omega) ?_
  refine g_run 4 486 [some (.retAddr 0), some (.ref 0), some (.ref 49), some (.int (nI iQ))] [.int (nI iQ + nI 2), .retAddr 0, .int (o.2 (iQ + 1)), .ref 49, .int vQ] H1 rfl ?_
  refine g_top (nI_add iQ 2) ?_
  refine g_sld rfl (show iQ + 2 < _ by omega) (by omega) ?_
  refine g_virS rfl rfl rfl h49 rfl rfl q1 rfl (fun v2 H2 q2 => ?_)
  obtain ⟨rfl, hI2⟩ := q2
  show eG _ 202 490 [some (.retAddr 0), some (.ref 0), some (.ref 49), some (.int (nI iQ))] [.int vQ, .int vQ] H2 _
  refine g_icmp_eq rfl (fun _ => ?_) (fun c1 => absurd (rfl) c1)
  show eG _ 202 1060 [some (.retAddr 0), some (.ref 0), some (.ref 49), some (.int (nI iQ))] [] H2 _
  exact hk H2 hI2
set_option maxRecDepth 100000 in
set_option maxHeartbeats 4000000 in
theorem c_week (Inv : eH → Prop) (hO : ∀ H, Inv H → ∃ fs, H[0]? = some (.inr (6, fs))) (hP : P_week Inv) (o : eO) (iQ : Nat) (H : eH) (hz : o.1 ≤ 3072) (hi : iQ + 6 ≤ o.1) (hI : Inv H) {r : eP} (hk : ∀ H2, Inv H2 → eG o 202 1060 [some (.retAddr 0), some (.ref 0), some (.ref 49), some (.int (nI iQ))] [] H2 r) : eG o 202 495 [some (.retAddr 0), some (.ref 0), some (.ref 49), some (.int (nI iQ))] [] H r := by
  obtain ⟨fo, hob⟩ := hO H hI
  refine g_run 5 500 [some (.retAddr 0), some (.ref 0), some (.ref 49), some (.int (nI iQ))] [.int (nI iQ + nI 1), .retAddr 0, .ref 0] H rfl ?_
  refine g_top (nI_add iQ 1) ?_
  refine g_sld rfl (show iQ + 1 < _ by omega) (by omega) ?_
  refine g_run 4 505 [some (.retAddr 0), some (.ref 0), some (.ref 49), some (.int (nI iQ))] [.int (nI iQ + nI 2), .retAddr 0, .int (o.2 (iQ + 1)), .ref 0] H rfl ?_
  refine g_top (nI_add iQ 2) ?_
  refine g_sld rfl (show iQ + 2 < _ by omega) (by omega) ?_
  refine g_virS rfl rfl rfl hob rfl rfl (hP _ _ o H hI) rfl (fun v1 H1 q1 => ?_)
  obtain ⟨vQ, rfl, ⟨fm, h49⟩, q1⟩ := q1
  show eG _ 202 509 [some (.retAddr 0), some (.ref 0), some (.ref 49), some (.int (nI iQ))] [.int vQ] H1 _
  refine g_run 5 514 [some (.retAddr 0), some (.ref 0), some (.ref 49), some (.int (nI iQ))] [.int (nI iQ + nI 1), .retAddr 0, .ref 49, .int vQ] H1 rfl ?_
  refine g_top (nI_add iQ 1) ?_
  refine g_sld rfl (show iQ + 1 < _ by omega) (by omega) ?_
  refine g_run 4 519 [some (.retAddr 0), some (.ref 0), some (.ref 49), some (.int (nI iQ))] [.int (nI iQ + nI 2), .retAddr 0, .int (o.2 (iQ + 1)), .ref 49, .int vQ] H1 rfl ?_
  refine g_top (nI_add iQ 2) ?_
  refine g_sld rfl (show iQ + 2 < _ by omega) (by omega) ?_
  refine g_virS rfl rfl rfl h49 rfl rfl q1 rfl (fun v2 H2 q2 => ?_)
  obtain ⟨rfl, hI2⟩ := q2
  show eG _ 202 523 [some (.retAddr 0), some (.ref 0), some (.ref 49), some (.int (nI iQ))] [.int vQ, .int vQ] H2 _
  refine g_icmp_eq rfl (fun _ => ?_) (fun c1 => absurd (rfl) c1)
  show eG _ 202 1060 [some (.retAddr 0), some (.ref 0), some (.ref 49), some (.int (nI iQ))] [] H2 _
  exact hk H2 hI2
set_option maxRecDepth 100000 in
set_option maxHeartbeats 4000000 in
theorem c_can (Inv : eH → Prop) (hO : ∀ H, Inv H → ∃ fs, H[0]? = some (.inr (6, fs))) (hP : P_can Inv) (o : eO) (iQ : Nat) (H : eH) (hz : o.1 ≤ 3072) (hi : iQ + 6 ≤ o.1) (hI : Inv H) {r : eP} (hk : ∀ H2, Inv H2 → eG o 202 1060 [some (.retAddr 0), some (.ref 0), some (.ref 49), some (.int (nI iQ))] [] H2 r) : eG o 202 528 [some (.retAddr 0), some (.ref 0), some (.ref 49), some (.int (nI iQ))] [] H r := by
  obtain ⟨fo, hob⟩ := hO H hI
  refine g_run 5 533 [some (.retAddr 0), some (.ref 0), some (.ref 49), some (.int (nI iQ))] [.int (nI iQ + nI 1), .retAddr 0, .ref 0] H rfl ?_
  refine g_top (nI_add iQ 1) ?_
  refine g_sld rfl (show iQ + 1 < _ by omega) (by omega) ?_
  refine g_virS rfl rfl rfl hob rfl rfl (hP _ o H hI) rfl (fun v1 H1 q1 => ?_)
  obtain ⟨vQ, rfl, ⟨fm, h49⟩, q1⟩ := q1
  show eG _ 202 537 [some (.retAddr 0), some (.ref 0), some (.ref 49), some (.int (nI iQ))] [.int vQ] H1 _
  refine g_run 5 542 [some (.retAddr 0), some (.ref 0), some (.ref 49), some (.int (nI iQ))] [.int (nI iQ + nI 1), .retAddr 0, .ref 49, .int vQ] H1 rfl ?_
  refine g_top (nI_add iQ 1) ?_
  refine g_sld rfl (show iQ + 1 < _ by omega) (by omega) ?_
  refine g_virS rfl rfl rfl h49 rfl rfl q1 rfl (fun v2 H2 q2 => ?_)
  obtain ⟨rfl, hI2⟩ := q2
  show eG _ 202 546 [some (.retAddr 0), some (.ref 0), some (.ref 49), some (.int (nI iQ))] [.int vQ, .int vQ] H2 _
  refine g_icmp_eq rfl (fun _ => ?_) (fun c1 => absurd (rfl) c1)
  show eG _ 202 1060 [some (.retAddr 0), some (.ref 0), some (.ref 49), some (.int (nI iQ))] [] H2 _
  exact hk H2 hI2
set_option maxRecDepth 100000 in
set_option maxHeartbeats 4000000 in
theorem c_more (Inv : eH → Prop) (hO : ∀ H, Inv H → ∃ fs, H[0]? = some (.inr (6, fs))) (hP : P_more Inv) (o : eO) (iQ : Nat) (H : eH) (hz : o.1 ≤ 3072) (hi : iQ + 6 ≤ o.1) (hI : Inv H) {r : eP} (hk : ∀ H2, Inv H2 → eG o 202 1060 [some (.retAddr 0), some (.ref 0), some (.ref 49), some (.int (nI iQ))] [] H2 r) : eG o 202 551 [some (.retAddr 0), some (.ref 0), some (.ref 49), some (.int (nI iQ))] [] H r := by
  obtain ⟨fo, hob⟩ := hO H hI
  refine g_run 1 552 [some (.retAddr 0), some (.ref 0), some (.ref 49), some (.int (nI iQ))] [.ref 0] H rfl ?_
  refine g_virS rfl rfl rfl hob rfl rfl (hP o H hI) rfl (fun v1 H1 q1 => ?_)
  obtain ⟨vQ, rfl, ⟨fm, h49⟩, q1⟩ := q1
  show eG _ 202 555 [some (.retAddr 0), some (.ref 0), some (.ref 49), some (.int (nI iQ))] [.int vQ] H1 _
  refine g_run 1 556 [some (.retAddr 0), some (.ref 0), some (.ref 49), some (.int (nI iQ))] [.ref 49, .int vQ] H1 rfl ?_
  refine g_virS rfl rfl rfl h49 rfl rfl q1 rfl (fun v2 H2 q2 => ?_)
  obtain ⟨rfl, hI2⟩ := q2
  show eG _ 202 559 [some (.retAddr 0), some (.ref 0), some (.ref 49), some (.int (nI iQ))] [.int vQ, .int vQ] H2 _
  refine g_icmp_eq rfl (fun _ => ?_) (fun c1 => absurd (rfl) c1)
  show eG _ 202 1060 [some (.retAddr 0), some (.ref 0), some (.ref 49), some (.int (nI iQ))] [] H2 _
  exact hk H2 hI2
set_option maxRecDepth 100000 in
set_option maxHeartbeats 4000000 in
theorem c_carry (Inv : eH → Prop) (hO : ∀ H, Inv H → ∃ fs, H[0]? = some (.inr (6, fs))) (hP : P_carry Inv) (o : eO) (iQ : Nat) (H : eH) (hz : o.1 ≤ 3072) (hi : iQ + 6 ≤ o.1) (hI : Inv H) {r : eP} (hk : ∀ H2, Inv H2 → eG o 202 1060 [some (.retAddr 0), some (.ref 0), some (.ref 49), some (.int (nI iQ))] [] H2 r) : eG o 202 564 [some (.retAddr 0), some (.ref 0), some (.ref 49), some (.int (nI iQ))] [] H r := by
  obtain ⟨fo, hob⟩ := hO H hI
  refine g_run 5 569 [some (.retAddr 0), some (.ref 0), some (.ref 49), some (.int (nI iQ))] [.int (nI iQ + nI 1), .retAddr 0, .ref 0] H rfl ?_
  refine g_top (nI_add iQ 1) ?_
  refine g_sld rfl (show iQ + 1 < _ by omega) (by omega) ?_
  refine g_run 4 574 [some (.retAddr 0), some (.ref 0), some (.ref 49), some (.int (nI iQ))] [.int (nI iQ + nI 2), .retAddr 0, .int (o.2 (iQ + 1)), .ref 0] H rfl ?_
  refine g_top (nI_add iQ 2) ?_
  refine g_sld rfl (show iQ + 2 < _ by omega) (by omega) ?_
  refine g_virS rfl rfl rfl hob rfl rfl (hP _ _ o H hI) rfl (fun v1 H1 q1 => ?_)
  obtain ⟨vQ, rfl, ⟨fm, h49⟩, q1⟩ := q1
  show eG _ 202 578 [some (.retAddr 0), some (.ref 0), some (.ref 49), some (.int (nI iQ))] [.int vQ] H1 _
  refine g_run 5 583 [some (.retAddr 0), some (.ref 0), some (.ref 49), some (.int (nI iQ))] [.int (nI iQ + nI 1), .retAddr 0, .ref 49, .int vQ] H1 rfl ?_
  refine g_top (nI_add iQ 1) ?_
  refine g_sld rfl (show iQ + 1 < _ by omega) (by omega) ?_
  refine g_run 4 588 [some (.retAddr 0), some (.ref 0), some (.ref 49), some (.int (nI iQ))] [.int (nI iQ + nI 2), .retAddr 0, .int (o.2 (iQ + 1)), .ref 49, .int vQ] H1 rfl ?_
  refine g_top (nI_add iQ 2) ?_
  refine g_sld rfl (show iQ + 2 < _ by omega) (by omega) ?_
  refine g_virS rfl rfl rfl h49 rfl rfl q1 rfl (fun v2 H2 q2 => ?_)
  obtain ⟨rfl, hI2⟩ := q2
  show eG _ 202 592 [some (.retAddr 0), some (.ref 0), some (.ref 49), some (.int (nI iQ))] [.int vQ, .int vQ] H2 _
  refine g_icmp_eq rfl (fun _ => ?_) (fun c1 => absurd (rfl) c1)
  show eG _ 202 1060 [some (.retAddr 0), some (.ref 0), some (.ref 49), some (.int (nI iQ))] [] H2 _
  exact hk H2 hI2
set_option maxRecDepth 100000 in
set_option maxHeartbeats 4000000 in
theorem c_build (Inv : eH → Prop) (hO : ∀ H, Inv H → ∃ fs, H[0]? = some (.inr (6, fs))) (hP : P_build Inv) (o : eO) (iQ : Nat) (H : eH) (hz : o.1 ≤ 3072) (hi : iQ + 6 ≤ o.1) (hI : Inv H) {r : eP} (hk : ∀ H2, Inv H2 → eG o 202 1060 [some (.retAddr 0), some (.ref 0), some (.ref 49), some (.int (nI iQ))] [] H2 r) : eG o 202 597 [some (.retAddr 0), some (.ref 0), some (.ref 49), some (.int (nI iQ))] [] H r := by
  obtain ⟨fo, hob⟩ := hO H hI
  refine g_run 5 602 [some (.retAddr 0), some (.ref 0), some (.ref 49), some (.int (nI iQ))] [.int (nI iQ + nI 1), .retAddr 0, .ref 0] H rfl ?_
  refine g_top (nI_add iQ 1) ?_
  refine g_sld rfl (show iQ + 1 < _ by omega) (by omega) ?_
  refine g_run 4 607 [some (.retAddr 0), some (.ref 0), some (.ref 49), some (.int (nI iQ))] [.int (nI iQ + nI 2), .retAddr 0, .int (o.2 (iQ + 1)), .ref 0] H rfl ?_
  refine g_top (nI_add iQ 2) ?_
  refine g_sld rfl (show iQ + 2 < _ by omega) (by omega) ?_
  refine g_virS rfl rfl rfl hob rfl rfl (hP _ _ o H hI) rfl (fun v1 H1 q1 => ?_)
  obtain ⟨vQ, rfl, ⟨fm, h49⟩, q1⟩ := q1
  show eG _ 202 611 [some (.retAddr 0), some (.ref 0), some (.ref 49), some (.int (nI iQ))] [.int vQ] H1 _
  refine g_run 5 616 [some (.retAddr 0), some (.ref 0), some (.ref 49), some (.int (nI iQ))] [.int (nI iQ + nI 1), .retAddr 0, .ref 49, .int vQ] H1 rfl ?_
  refine g_top (nI_add iQ 1) ?_
  refine g_sld rfl (show iQ + 1 < _ by omega) (by omega) ?_
  refine g_run 4 621 [some (.retAddr 0), some (.ref 0), some (.ref 49), some (.int (nI iQ))] [.int (nI iQ + nI 2), .retAddr 0, .int (o.2 (iQ + 1)), .ref 49, .int vQ] H1 rfl ?_
  refine g_top (nI_add iQ 2) ?_
  refine g_sld rfl (show iQ + 2 < _ by omega) (by omega) ?_
  refine g_virS rfl rfl rfl h49 rfl rfl q1 rfl (fun v2 H2 q2 => ?_)
  obtain ⟨rfl, hI2⟩ := q2
  show eG _ 202 625 [some (.retAddr 0), some (.ref 0), some (.ref 49), some (.int (nI iQ))] [.int vQ, .int vQ] H2 _
  refine g_icmp_eq rfl (fun _ => ?_) (fun c1 => absurd (rfl) c1)
  show eG _ 202 1060 [some (.retAddr 0), some (.ref 0), some (.ref 49), some (.int (nI iQ))] [] H2 _
  exact hk H2 hI2
set_option maxRecDepth 100000 in
set_option maxHeartbeats 4000000 in
theorem c_worth (Inv : eH → Prop) (hO : ∀ H, Inv H → ∃ fs, H[0]? = some (.inr (6, fs))) (hP : P_worth Inv) (o : eO) (iQ : Nat) (H : eH) (hz : o.1 ≤ 3072) (hi : iQ + 6 ≤ o.1) (hI : Inv H) {r : eP} (hk : ∀ H2, Inv H2 → eG o 202 1060 [some (.retAddr 0), some (.ref 0), some (.ref 49), some (.int (nI iQ))] [] H2 r) : eG o 202 630 [some (.retAddr 0), some (.ref 0), some (.ref 49), some (.int (nI iQ))] [] H r := by
  obtain ⟨fo, hob⟩ := hO H hI
  refine g_run 5 635 [some (.retAddr 0), some (.ref 0), some (.ref 49), some (.int (nI iQ))] [.int (nI iQ + nI 1), .retAddr 0, .ref 0] H rfl ?_
  refine g_top (nI_add iQ 1) ?_
  refine g_sld rfl (show iQ + 1 < _ by omega) (by omega) ?_
  refine g_run 4 640 [some (.retAddr 0), some (.ref 0), some (.ref 49), some (.int (nI iQ))] [.int (nI iQ + nI 2), .retAddr 0, .int (o.2 (iQ + 1)), .ref 0] H rfl ?_
  refine g_top (nI_add iQ 2) ?_
  refine g_sld rfl (show iQ + 2 < _ by omega) (by omega) ?_
  refine g_virS rfl rfl rfl hob rfl rfl (hP _ _ o H hI) rfl (fun v1 H1 q1 => ?_)
  obtain ⟨vQ, rfl, ⟨fm, h49⟩, q1⟩ := q1
  show eG _ 202 644 [some (.retAddr 0), some (.ref 0), some (.ref 49), some (.int (nI iQ))] [.int vQ] H1 _
  refine g_run 5 649 [some (.retAddr 0), some (.ref 0), some (.ref 49), some (.int (nI iQ))] [.int (nI iQ + nI 1), .retAddr 0, .ref 49, .int vQ] H1 rfl ?_
  refine g_top (nI_add iQ 1) ?_
  refine g_sld rfl (show iQ + 1 < _ by omega) (by omega) ?_
  refine g_run 4 654 [some (.retAddr 0), some (.ref 0), some (.ref 49), some (.int (nI iQ))] [.int (nI iQ + nI 2), .retAddr 0, .int (o.2 (iQ + 1)), .ref 49, .int vQ] H1 rfl ?_
  refine g_top (nI_add iQ 2) ?_
  refine g_sld rfl (show iQ + 2 < _ by omega) (by omega) ?_
  refine g_virS rfl rfl rfl h49 rfl rfl q1 rfl (fun v2 H2 q2 => ?_)
  obtain ⟨rfl, hI2⟩ := q2
  show eG _ 202 658 [some (.retAddr 0), some (.ref 0), some (.ref 49), some (.int (nI iQ))] [.int vQ, .int vQ] H2 _
  refine g_icmp_eq rfl (fun _ => ?_) (fun c1 => absurd (rfl) c1)
  show eG _ 202 1060 [some (.retAddr 0), some (.ref 0), some (.ref 49), some (.int (nI iQ))] [] H2 _
  exact hk H2 hI2
set_option maxRecDepth 100000 in
set_option maxHeartbeats 4000000 in
theorem c_image (Inv : eH → Prop) (hO : ∀ H, Inv H → ∃ fs, H[0]? = some (.inr (6, fs))) (hP : P_image Inv) (o : eO) (iQ : Nat) (H : eH) (hz : o.1 ≤ 3072) (hi : iQ + 6 ≤ o.1) (hI : Inv H) {r : eP} (hk : ∀ H2, Inv H2 → eG o 202 1060 [some (.retAddr 0), some (.ref 0), some (.ref 49), some (.int (nI iQ))] [] H2 r) : eG o 202 663 [some (.retAddr 0), some (.ref 0), some (.ref 49), some (.int (nI iQ))] [] H r := by
  obtain ⟨fo, hob⟩ := hO H hI
  refine g_run 1 664 [some (.retAddr 0), some (.ref 0), some (.ref 49), some (.int (nI iQ))] [.ref 0] H rfl ?_
  refine g_virS rfl rfl rfl hob rfl rfl (hP o H hI) rfl (fun v1 H1 q1 => ?_)
  obtain ⟨vQ, rfl, ⟨fm, h49⟩, q1⟩ := q1
  show eG _ 202 667 [some (.retAddr 0), some (.ref 0), some (.ref 49), some (.int (nI iQ))] [.int vQ] H1 _
  refine g_run 1 668 [some (.retAddr 0), some (.ref 0), some (.ref 49), some (.int (nI iQ))] [.ref 49, .int vQ] H1 rfl ?_
  refine g_virS rfl rfl rfl h49 rfl rfl q1 rfl (fun v2 H2 q2 => ?_)
  obtain ⟨rfl, hI2⟩ := q2
  show eG _ 202 671 [some (.retAddr 0), some (.ref 0), some (.ref 49), some (.int (nI iQ))] [.int vQ, .int vQ] H2 _
  refine g_icmp_eq rfl (fun _ => ?_) (fun c1 => absurd (rfl) c1)
  show eG _ 202 1060 [some (.retAddr 0), some (.ref 0), some (.ref 49), some (.int (nI iQ))] [] H2 _
  exact hk H2 hI2
set_option maxRecDepth 100000 in
set_option maxHeartbeats 4000000 in
theorem c_restore (Inv : eH → Prop) (hO : ∀ H, Inv H → ∃ fs, H[0]? = some (.inr (6, fs))) (hP : P_restore Inv) (o : eO) (iQ : Nat) (H : eH) (hz : o.1 ≤ 3072) (hi : iQ + 6 ≤ o.1) (hI : Inv H) {r : eP} (hk : ∀ H2, Inv H2 → eG o 202 1060 [some (.retAddr 0), some (.ref 0), some (.ref 49), some (.int (nI iQ))] [] H2 r) : eG o 202 676 [some (.retAddr 0), some (.ref 0), some (.ref 49), some (.int (nI iQ))] [] H r := by
  obtain ⟨fo, hob⟩ := hO H hI
  refine g_run 1 677 [some (.retAddr 0), some (.ref 0), some (.ref 49), some (.int (nI iQ))] [.ref 0] H rfl ?_
  refine g_virS rfl rfl rfl hob rfl rfl (hP o H hI) rfl (fun v1 H1 q1 => ?_)
  obtain ⟨vQ, rfl, ⟨fm, h49⟩, q1⟩ := q1
  show eG _ 202 680 [some (.retAddr 0), some (.ref 0), some (.ref 49), some (.int (nI iQ))] [.int vQ] H1 _
  refine g_run 1 681 [some (.retAddr 0), some (.ref 0), some (.ref 49), some (.int (nI iQ))] [.ref 49, .int vQ] H1 rfl ?_
  refine g_virS rfl rfl rfl h49 rfl rfl q1 rfl (fun v2 H2 q2 => ?_)
  obtain ⟨rfl, hI2⟩ := q2
  show eG _ 202 684 [some (.retAddr 0), some (.ref 0), some (.ref 49), some (.int (nI iQ))] [.int vQ, .int vQ] H2 _
  refine g_icmp_eq rfl (fun _ => ?_) (fun c1 => absurd (rfl) c1)
  show eG _ 202 1060 [some (.retAddr 0), some (.ref 0), some (.ref 49), some (.int (nI iQ))] [] H2 _
  exact hk H2 hI2
set_option maxRecDepth 100000 in
set_option maxHeartbeats 4000000 in
theorem c_judged (Inv : eH → Prop) (hO : ∀ H, Inv H → ∃ fs, H[0]? = some (.inr (6, fs))) (hP : P_judged Inv) (o : eO) (iQ : Nat) (H : eH) (hz : o.1 ≤ 3072) (hi : iQ + 6 ≤ o.1) (hI : Inv H) {r : eP} (hk : ∀ H2, Inv H2 → eG o 202 1060 [some (.retAddr 0), some (.ref 0), some (.ref 49), some (.int (nI iQ))] [] H2 r) : eG o 202 689 [some (.retAddr 0), some (.ref 0), some (.ref 49), some (.int (nI iQ))] [] H r := by
  obtain ⟨fo, hob⟩ := hO H hI
  refine g_run 5 694 [some (.retAddr 0), some (.ref 0), some (.ref 49), some (.int (nI iQ))] [.int (nI iQ + nI 1), .retAddr 0, .ref 0] H rfl ?_
  refine g_top (nI_add iQ 1) ?_
  refine g_sld rfl (show iQ + 1 < _ by omega) (by omega) ?_
  refine g_run 4 699 [some (.retAddr 0), some (.ref 0), some (.ref 49), some (.int (nI iQ))] [.int (nI iQ + nI 2), .retAddr 0, .int (o.2 (iQ + 1)), .ref 0] H rfl ?_
  refine g_top (nI_add iQ 2) ?_
  refine g_sld rfl (show iQ + 2 < _ by omega) (by omega) ?_
  refine g_run 4 704 [some (.retAddr 0), some (.ref 0), some (.ref 49), some (.int (nI iQ))] [.int (nI iQ + nI 3), .retAddr 0, .int (o.2 (iQ + 2)), .int (o.2 (iQ + 1)), .ref 0] H rfl ?_
  refine g_top (nI_add iQ 3) ?_
  refine g_sld rfl (show iQ + 3 < _ by omega) (by omega) ?_
  refine g_run 4 709 [some (.retAddr 0), some (.ref 0), some (.ref 49), some (.int (nI iQ))] [.int (nI iQ + nI 4), .retAddr 0, .int (o.2 (iQ + 3)), .int (o.2 (iQ + 2)), .int (o.2 (iQ + 1)), .ref 0] H rfl ?_
  refine g_top (nI_add iQ 4) ?_
  refine g_sld rfl (show iQ + 4 < _ by omega) (by omega) ?_
  refine g_virS rfl rfl rfl hob rfl rfl (hP _ _ _ _ o H hI) rfl (fun v1 H1 q1 => ?_)
  obtain ⟨vQ, rfl, ⟨fm, h49⟩, q1⟩ := q1
  show eG _ 202 713 [some (.retAddr 0), some (.ref 0), some (.ref 49), some (.int (nI iQ))] [.int vQ] H1 _
  refine g_run 5 718 [some (.retAddr 0), some (.ref 0), some (.ref 49), some (.int (nI iQ))] [.int (nI iQ + nI 1), .retAddr 0, .ref 49, .int vQ] H1 rfl ?_
  refine g_top (nI_add iQ 1) ?_
  refine g_sld rfl (show iQ + 1 < _ by omega) (by omega) ?_
  refine g_run 4 723 [some (.retAddr 0), some (.ref 0), some (.ref 49), some (.int (nI iQ))] [.int (nI iQ + nI 2), .retAddr 0, .int (o.2 (iQ + 1)), .ref 49, .int vQ] H1 rfl ?_
  refine g_top (nI_add iQ 2) ?_
  refine g_sld rfl (show iQ + 2 < _ by omega) (by omega) ?_
  refine g_run 4 728 [some (.retAddr 0), some (.ref 0), some (.ref 49), some (.int (nI iQ))] [.int (nI iQ + nI 3), .retAddr 0, .int (o.2 (iQ + 2)), .int (o.2 (iQ + 1)), .ref 49, .int vQ] H1 rfl ?_
  refine g_top (nI_add iQ 3) ?_
  refine g_sld rfl (show iQ + 3 < _ by omega) (by omega) ?_
  refine g_run 4 733 [some (.retAddr 0), some (.ref 0), some (.ref 49), some (.int (nI iQ))] [.int (nI iQ + nI 4), .retAddr 0, .int (o.2 (iQ + 3)), .int (o.2 (iQ + 2)), .int (o.2 (iQ + 1)), .ref 49, .int vQ] H1 rfl ?_
  refine g_top (nI_add iQ 4) ?_
  refine g_sld rfl (show iQ + 4 < _ by omega) (by omega) ?_
  refine g_virS rfl rfl rfl h49 rfl rfl q1 rfl (fun v2 H2 q2 => ?_)
  obtain ⟨rfl, hI2⟩ := q2
  show eG _ 202 737 [some (.retAddr 0), some (.ref 0), some (.ref 49), some (.int (nI iQ))] [.int vQ, .int vQ] H2 _
  refine g_icmp_eq rfl (fun _ => ?_) (fun c1 => absurd (rfl) c1)
  show eG _ 202 1060 [some (.retAddr 0), some (.ref 0), some (.ref 49), some (.int (nI iQ))] [] H2 _
  exact hk H2 hI2
set_option maxRecDepth 100000 in
set_option maxHeartbeats 4000000 in
theorem c_wrong (Inv : eH → Prop) (hO : ∀ H, Inv H → ∃ fs, H[0]? = some (.inr (6, fs))) (hP : P_wrong Inv) (o : eO) (iQ : Nat) (H : eH) (hz : o.1 ≤ 3072) (hi : iQ + 6 ≤ o.1) (hI : Inv H) {r : eP} (hk : ∀ H2, Inv H2 → eG o 202 1060 [some (.retAddr 0), some (.ref 0), some (.ref 49), some (.int (nI iQ))] [] H2 r) : eG o 202 742 [some (.retAddr 0), some (.ref 0), some (.ref 49), some (.int (nI iQ))] [] H r := by
  obtain ⟨fo, hob⟩ := hO H hI
  refine g_run 5 747 [some (.retAddr 0), some (.ref 0), some (.ref 49), some (.int (nI iQ))] [.int (nI iQ + nI 1), .retAddr 0, .ref 0] H rfl ?_
  refine g_top (nI_add iQ 1) ?_
  refine g_sld rfl (show iQ + 1 < _ by omega) (by omega) ?_
  refine g_run 4 752 [some (.retAddr 0), some (.ref 0), some (.ref 49), some (.int (nI iQ))] [.int (nI iQ + nI 2), .retAddr 0, .int (o.2 (iQ + 1)), .ref 0] H rfl ?_
  refine g_top (nI_add iQ 2) ?_
  refine g_sld rfl (show iQ + 2 < _ by omega) (by omega) ?_
  refine g_run 4 757 [some (.retAddr 0), some (.ref 0), some (.ref 49), some (.int (nI iQ))] [.int (nI iQ + nI 3), .retAddr 0, .int (o.2 (iQ + 2)), .int (o.2 (iQ + 1)), .ref 0] H rfl ?_
  refine g_top (nI_add iQ 3) ?_
  refine g_sld rfl (show iQ + 3 < _ by omega) (by omega) ?_
  refine g_run 4 762 [some (.retAddr 0), some (.ref 0), some (.ref 49), some (.int (nI iQ))] [.int (nI iQ + nI 4), .retAddr 0, .int (o.2 (iQ + 3)), .int (o.2 (iQ + 2)), .int (o.2 (iQ + 1)), .ref 0] H rfl ?_
  refine g_top (nI_add iQ 4) ?_
  refine g_sld rfl (show iQ + 4 < _ by omega) (by omega) ?_
  refine g_run 4 767 [some (.retAddr 0), some (.ref 0), some (.ref 49), some (.int (nI iQ))] [.int (nI iQ + nI 5), .retAddr 0, .int (o.2 (iQ + 4)), .int (o.2 (iQ + 3)), .int (o.2 (iQ + 2)), .int (o.2 (iQ + 1)), .ref 0] H rfl ?_
  refine g_top (nI_add iQ 5) ?_
  refine g_sld rfl (show iQ + 5 < _ by omega) (by omega) ?_
  refine g_virS rfl rfl rfl hob rfl rfl (hP _ _ _ _ _ o H hI) rfl (fun v1 H1 q1 => ?_)
  obtain ⟨vQ, rfl, ⟨fm, h49⟩, q1⟩ := q1
  show eG _ 202 771 [some (.retAddr 0), some (.ref 0), some (.ref 49), some (.int (nI iQ))] [.int vQ] H1 _
  refine g_run 5 776 [some (.retAddr 0), some (.ref 0), some (.ref 49), some (.int (nI iQ))] [.int (nI iQ + nI 1), .retAddr 0, .ref 49, .int vQ] H1 rfl ?_
  refine g_top (nI_add iQ 1) ?_
  refine g_sld rfl (show iQ + 1 < _ by omega) (by omega) ?_
  refine g_run 4 781 [some (.retAddr 0), some (.ref 0), some (.ref 49), some (.int (nI iQ))] [.int (nI iQ + nI 2), .retAddr 0, .int (o.2 (iQ + 1)), .ref 49, .int vQ] H1 rfl ?_
  refine g_top (nI_add iQ 2) ?_
  refine g_sld rfl (show iQ + 2 < _ by omega) (by omega) ?_
  refine g_run 4 786 [some (.retAddr 0), some (.ref 0), some (.ref 49), some (.int (nI iQ))] [.int (nI iQ + nI 3), .retAddr 0, .int (o.2 (iQ + 2)), .int (o.2 (iQ + 1)), .ref 49, .int vQ] H1 rfl ?_
  refine g_top (nI_add iQ 3) ?_
  refine g_sld rfl (show iQ + 3 < _ by omega) (by omega) ?_
  refine g_run 4 791 [some (.retAddr 0), some (.ref 0), some (.ref 49), some (.int (nI iQ))] [.int (nI iQ + nI 4), .retAddr 0, .int (o.2 (iQ + 3)), .int (o.2 (iQ + 2)), .int (o.2 (iQ + 1)), .ref 49, .int vQ] H1 rfl ?_
  refine g_top (nI_add iQ 4) ?_
  refine g_sld rfl (show iQ + 4 < _ by omega) (by omega) ?_
  refine g_run 4 796 [some (.retAddr 0), some (.ref 0), some (.ref 49), some (.int (nI iQ))] [.int (nI iQ + nI 5), .retAddr 0, .int (o.2 (iQ + 4)), .int (o.2 (iQ + 3)), .int (o.2 (iQ + 2)), .int (o.2 (iQ + 1)), .ref 49, .int vQ] H1 rfl ?_
  refine g_top (nI_add iQ 5) ?_
  refine g_sld rfl (show iQ + 5 < _ by omega) (by omega) ?_
  refine g_virS rfl rfl rfl h49 rfl rfl q1 rfl (fun v2 H2 q2 => ?_)
  obtain ⟨rfl, hI2⟩ := q2
  show eG _ 202 800 [some (.retAddr 0), some (.ref 0), some (.ref 49), some (.int (nI iQ))] [.int vQ, .int vQ] H2 _
  refine g_icmp_eq rfl (fun _ => ?_) (fun c1 => absurd (rfl) c1)
  show eG _ 202 1060 [some (.retAddr 0), some (.ref 0), some (.ref 49), some (.int (nI iQ))] [] H2 _
  exact hk H2 hI2
set_option maxRecDepth 100000 in
set_option maxHeartbeats 4000000 in
theorem c_sheet (Inv : eH → Prop) (hO : ∀ H, Inv H → ∃ fs, H[0]? = some (.inr (6, fs))) (hP : P_sheet Inv) (o : eO) (iQ : Nat) (H : eH) (hz : o.1 ≤ 3072) (hi : iQ + 6 ≤ o.1) (hI : Inv H) {r : eP} (hk : ∀ H2, Inv H2 → eG o 202 1060 [some (.retAddr 0), some (.ref 0), some (.ref 49), some (.int (nI iQ))] [] H2 r) : eG o 202 805 [some (.retAddr 0), some (.ref 0), some (.ref 49), some (.int (nI iQ))] [] H r := by
  obtain ⟨fo, hob⟩ := hO H hI
  refine g_run 5 810 [some (.retAddr 0), some (.ref 0), some (.ref 49), some (.int (nI iQ))] [.int (nI iQ + nI 1), .retAddr 0, .ref 0] H rfl ?_
  refine g_top (nI_add iQ 1) ?_
  refine g_sld rfl (show iQ + 1 < _ by omega) (by omega) ?_
  refine g_run 4 815 [some (.retAddr 0), some (.ref 0), some (.ref 49), some (.int (nI iQ))] [.int (nI iQ + nI 2), .retAddr 0, .int (o.2 (iQ + 1)), .ref 0] H rfl ?_
  refine g_top (nI_add iQ 2) ?_
  refine g_sld rfl (show iQ + 2 < _ by omega) (by omega) ?_
  refine g_run 4 820 [some (.retAddr 0), some (.ref 0), some (.ref 49), some (.int (nI iQ))] [.int (nI iQ + nI 3), .retAddr 0, .int (o.2 (iQ + 2)), .int (o.2 (iQ + 1)), .ref 0] H rfl ?_
  refine g_top (nI_add iQ 3) ?_
  refine g_sld rfl (show iQ + 3 < _ by omega) (by omega) ?_
  refine g_virS rfl rfl rfl hob rfl rfl (hP _ _ _ o H hI) rfl (fun v1 H1 q1 => ?_)
  obtain ⟨vQ, rfl, ⟨fm, h49⟩, q1⟩ := q1
  show eG _ 202 824 [some (.retAddr 0), some (.ref 0), some (.ref 49), some (.int (nI iQ))] [.int vQ] H1 _
  refine g_run 5 829 [some (.retAddr 0), some (.ref 0), some (.ref 49), some (.int (nI iQ))] [.int (nI iQ + nI 1), .retAddr 0, .ref 49, .int vQ] H1 rfl ?_
  refine g_top (nI_add iQ 1) ?_
  refine g_sld rfl (show iQ + 1 < _ by omega) (by omega) ?_
  refine g_run 4 834 [some (.retAddr 0), some (.ref 0), some (.ref 49), some (.int (nI iQ))] [.int (nI iQ + nI 2), .retAddr 0, .int (o.2 (iQ + 1)), .ref 49, .int vQ] H1 rfl ?_
  refine g_top (nI_add iQ 2) ?_
  refine g_sld rfl (show iQ + 2 < _ by omega) (by omega) ?_
  refine g_run 4 839 [some (.retAddr 0), some (.ref 0), some (.ref 49), some (.int (nI iQ))] [.int (nI iQ + nI 3), .retAddr 0, .int (o.2 (iQ + 2)), .int (o.2 (iQ + 1)), .ref 49, .int vQ] H1 rfl ?_
  refine g_top (nI_add iQ 3) ?_
  refine g_sld rfl (show iQ + 3 < _ by omega) (by omega) ?_
  refine g_virS rfl rfl rfl h49 rfl rfl q1 rfl (fun v2 H2 q2 => ?_)
  obtain ⟨rfl, hI2⟩ := q2
  show eG _ 202 843 [some (.retAddr 0), some (.ref 0), some (.ref 49), some (.int (nI iQ))] [.int vQ, .int vQ] H2 _
  refine g_icmp_eq rfl (fun _ => ?_) (fun c1 => absurd (rfl) c1)
  show eG _ 202 1060 [some (.retAddr 0), some (.ref 0), some (.ref 49), some (.int (nI iQ))] [] H2 _
  exact hk H2 hI2
set_option maxRecDepth 100000 in
set_option maxHeartbeats 4000000 in
theorem c_drop (Inv : eH → Prop) (hO : ∀ H, Inv H → ∃ fs, H[0]? = some (.inr (6, fs))) (hP : P_drop Inv) (o : eO) (iQ : Nat) (H : eH) (hz : o.1 ≤ 3072) (hi : iQ + 6 ≤ o.1) (hI : Inv H) {r : eP} (hk : ∀ H2, Inv H2 → eG o 202 1060 [some (.retAddr 0), some (.ref 0), some (.ref 49), some (.int (nI iQ))] [] H2 r) : eG o 202 848 [some (.retAddr 0), some (.ref 0), some (.ref 49), some (.int (nI iQ))] [] H r := by
  obtain ⟨fo, hob⟩ := hO H hI
  refine g_run 5 853 [some (.retAddr 0), some (.ref 0), some (.ref 49), some (.int (nI iQ))] [.int (nI iQ + nI 1), .retAddr 0, .ref 0] H rfl ?_
  refine g_top (nI_add iQ 1) ?_
  refine g_sld rfl (show iQ + 1 < _ by omega) (by omega) ?_
  refine g_virS rfl rfl rfl hob rfl rfl (hP _ o H hI) rfl (fun v1 H1 q1 => ?_)
  obtain ⟨vQ, rfl, ⟨fm, h49⟩, q1⟩ := q1
  show eG _ 202 857 [some (.retAddr 0), some (.ref 0), some (.ref 49), some (.int (nI iQ))] [.int vQ] H1 _
  refine g_run 5 862 [some (.retAddr 0), some (.ref 0), some (.ref 49), some (.int (nI iQ))] [.int (nI iQ + nI 1), .retAddr 0, .ref 49, .int vQ] H1 rfl ?_
  refine g_top (nI_add iQ 1) ?_
  refine g_sld rfl (show iQ + 1 < _ by omega) (by omega) ?_
  refine g_virS rfl rfl rfl h49 rfl rfl q1 rfl (fun v2 H2 q2 => ?_)
  obtain ⟨rfl, hI2⟩ := q2
  show eG _ 202 866 [some (.retAddr 0), some (.ref 0), some (.ref 49), some (.int (nI iQ))] [.int vQ, .int vQ] H2 _
  refine g_icmp_eq rfl (fun _ => ?_) (fun c1 => absurd (rfl) c1)
  show eG _ 202 1060 [some (.retAddr 0), some (.ref 0), some (.ref 49), some (.int (nI iQ))] [] H2 _
  exact hk H2 hI2
set_option maxRecDepth 100000 in
set_option maxHeartbeats 4000000 in
theorem c_item (Inv : eH → Prop) (hO : ∀ H, Inv H → ∃ fs, H[0]? = some (.inr (6, fs))) (hP : P_item Inv) (o : eO) (iQ : Nat) (H : eH) (hz : o.1 ≤ 3072) (hi : iQ + 6 ≤ o.1) (hI : Inv H) {r : eP} (hk : ∀ H2, Inv H2 → eG o 202 1060 [some (.retAddr 0), some (.ref 0), some (.ref 49), some (.int (nI iQ))] [] H2 r) : eG o 202 871 [some (.retAddr 0), some (.ref 0), some (.ref 49), some (.int (nI iQ))] [] H r := by
  obtain ⟨fo, hob⟩ := hO H hI
  refine g_run 5 876 [some (.retAddr 0), some (.ref 0), some (.ref 49), some (.int (nI iQ))] [.int (nI iQ + nI 1), .retAddr 0, .ref 0] H rfl ?_
  refine g_top (nI_add iQ 1) ?_
  refine g_sld rfl (show iQ + 1 < _ by omega) (by omega) ?_
  refine g_run 4 881 [some (.retAddr 0), some (.ref 0), some (.ref 49), some (.int (nI iQ))] [.int (nI iQ + nI 2), .retAddr 0, .int (o.2 (iQ + 1)), .ref 0] H rfl ?_
  refine g_top (nI_add iQ 2) ?_
  refine g_sld rfl (show iQ + 2 < _ by omega) (by omega) ?_
  refine g_run 4 886 [some (.retAddr 0), some (.ref 0), some (.ref 49), some (.int (nI iQ))] [.int (nI iQ + nI 3), .retAddr 0, .int (o.2 (iQ + 2)), .int (o.2 (iQ + 1)), .ref 0] H rfl ?_
  refine g_top (nI_add iQ 3) ?_
  refine g_sld rfl (show iQ + 3 < _ by omega) (by omega) ?_
  refine g_run 4 891 [some (.retAddr 0), some (.ref 0), some (.ref 49), some (.int (nI iQ))] [.int (nI iQ + nI 4), .retAddr 0, .int (o.2 (iQ + 3)), .int (o.2 (iQ + 2)), .int (o.2 (iQ + 1)), .ref 0] H rfl ?_
  refine g_top (nI_add iQ 4) ?_
  refine g_sld rfl (show iQ + 4 < _ by omega) (by omega) ?_
  refine g_run 7 900 [some (.retAddr 0), some (.ref 0), some (.ref 49), some (.int (nI iQ))] [.int (nI iQ + nI 5), .retAddr 0, .long (((o.2 (iQ + 4)).toInt64) <<< ((32 : Int32).toInt64 &&& 63)), .int (o.2 (iQ + 3)), .int (o.2 (iQ + 2)), .int (o.2 (iQ + 1)), .ref 0] H rfl ?_
  refine g_top (nI_add iQ 5) ?_
  refine g_sld rfl (show iQ + 5 < _ by omega) (by omega) ?_
  refine g_run 4 907 [some (.retAddr 0), some (.ref 0), some (.ref 49), some (.int (nI iQ))] [.long ((((o.2 (iQ + 4)).toInt64) <<< ((32 : Int32).toInt64 &&& 63)) ||| (((o.2 (iQ + 5)).toInt64) &&& 4294967295)), .int (o.2 (iQ + 3)), .int (o.2 (iQ + 2)), .int (o.2 (iQ + 1)), .ref 0] H rfl ?_
  refine g_virS rfl rfl rfl hob rfl rfl (hP _ _ _ _ o H hI) rfl (fun v1 H1 q1 => ?_)
  obtain ⟨vQ, rfl, ⟨fm, h49⟩, q1⟩ := q1
  show eG _ 202 910 [some (.retAddr 0), some (.ref 0), some (.ref 49), some (.int (nI iQ))] [.int vQ] H1 _
  refine g_run 5 915 [some (.retAddr 0), some (.ref 0), some (.ref 49), some (.int (nI iQ))] [.int (nI iQ + nI 1), .retAddr 0, .ref 49, .int vQ] H1 rfl ?_
  refine g_top (nI_add iQ 1) ?_
  refine g_sld rfl (show iQ + 1 < _ by omega) (by omega) ?_
  refine g_run 4 920 [some (.retAddr 0), some (.ref 0), some (.ref 49), some (.int (nI iQ))] [.int (nI iQ + nI 2), .retAddr 0, .int (o.2 (iQ + 1)), .ref 49, .int vQ] H1 rfl ?_
  refine g_top (nI_add iQ 2) ?_
  refine g_sld rfl (show iQ + 2 < _ by omega) (by omega) ?_
  refine g_run 4 925 [some (.retAddr 0), some (.ref 0), some (.ref 49), some (.int (nI iQ))] [.int (nI iQ + nI 3), .retAddr 0, .int (o.2 (iQ + 2)), .int (o.2 (iQ + 1)), .ref 49, .int vQ] H1 rfl ?_
  refine g_top (nI_add iQ 3) ?_
  refine g_sld rfl (show iQ + 3 < _ by omega) (by omega) ?_
  refine g_run 4 930 [some (.retAddr 0), some (.ref 0), some (.ref 49), some (.int (nI iQ))] [.int (nI iQ + nI 4), .retAddr 0, .int (o.2 (iQ + 3)), .int (o.2 (iQ + 2)), .int (o.2 (iQ + 1)), .ref 49, .int vQ] H1 rfl ?_
  refine g_top (nI_add iQ 4) ?_
  refine g_sld rfl (show iQ + 4 < _ by omega) (by omega) ?_
  refine g_run 7 939 [some (.retAddr 0), some (.ref 0), some (.ref 49), some (.int (nI iQ))] [.int (nI iQ + nI 5), .retAddr 0, .long (((o.2 (iQ + 4)).toInt64) <<< ((32 : Int32).toInt64 &&& 63)), .int (o.2 (iQ + 3)), .int (o.2 (iQ + 2)), .int (o.2 (iQ + 1)), .ref 49, .int vQ] H1 rfl ?_
  refine g_top (nI_add iQ 5) ?_
  refine g_sld rfl (show iQ + 5 < _ by omega) (by omega) ?_
  refine g_run 4 946 [some (.retAddr 0), some (.ref 0), some (.ref 49), some (.int (nI iQ))] [.long ((((o.2 (iQ + 4)).toInt64) <<< ((32 : Int32).toInt64 &&& 63)) ||| (((o.2 (iQ + 5)).toInt64) &&& 4294967295)), .int (o.2 (iQ + 3)), .int (o.2 (iQ + 2)), .int (o.2 (iQ + 1)), .ref 49, .int vQ] H1 rfl ?_
  refine g_virS rfl rfl rfl h49 rfl rfl q1 rfl (fun v2 H2 q2 => ?_)
  obtain ⟨rfl, hI2⟩ := q2
  show eG _ 202 949 [some (.retAddr 0), some (.ref 0), some (.ref 49), some (.int (nI iQ))] [.int vQ, .int vQ] H2 _
  refine g_icmp_eq rfl (fun _ => ?_) (fun c1 => absurd (rfl) c1)
  show eG _ 202 1060 [some (.retAddr 0), some (.ref 0), some (.ref 49), some (.int (nI iQ))] [] H2 _
  exact hk H2 hI2
set_option maxRecDepth 100000 in
set_option maxHeartbeats 4000000 in
theorem c_film (Inv : eH → Prop) (hO : ∀ H, Inv H → ∃ fs, H[0]? = some (.inr (6, fs))) (hP : P_film Inv) (o : eO) (iQ : Nat) (H : eH) (hz : o.1 ≤ 3072) (hi : iQ + 6 ≤ o.1) (hI : Inv H) {r : eP} (hk : ∀ H2, Inv H2 → eG o 202 1060 [some (.retAddr 0), some (.ref 0), some (.ref 49), some (.int (nI iQ))] [] H2 r) : eG o 202 954 [some (.retAddr 0), some (.ref 0), some (.ref 49), some (.int (nI iQ))] [] H r := by
  obtain ⟨fo, hob⟩ := hO H hI
  refine g_run 5 959 [some (.retAddr 0), some (.ref 0), some (.ref 49), some (.int (nI iQ))] [.int (nI iQ + nI 1), .retAddr 0, .ref 0] H rfl ?_
  refine g_top (nI_add iQ 1) ?_
  refine g_sld rfl (show iQ + 1 < _ by omega) (by omega) ?_
  refine g_run 4 964 [some (.retAddr 0), some (.ref 0), some (.ref 49), some (.int (nI iQ))] [.int (nI iQ + nI 2), .retAddr 0, .int (o.2 (iQ + 1)), .ref 0] H rfl ?_
  refine g_top (nI_add iQ 2) ?_
  refine g_sld rfl (show iQ + 2 < _ by omega) (by omega) ?_
  refine g_run 4 969 [some (.retAddr 0), some (.ref 0), some (.ref 49), some (.int (nI iQ))] [.int (nI iQ + nI 3), .retAddr 0, .int (o.2 (iQ + 2)), .int (o.2 (iQ + 1)), .ref 0] H rfl ?_
  refine g_top (nI_add iQ 3) ?_
  refine g_sld rfl (show iQ + 3 < _ by omega) (by omega) ?_
  refine g_virS rfl rfl rfl hob rfl rfl (hP _ _ _ o H hI) rfl (fun v1 H1 q1 => ?_)
  obtain ⟨vQ, rfl, ⟨fm, h49⟩, q1⟩ := q1
  show eG _ 202 973 [some (.retAddr 0), some (.ref 0), some (.ref 49), some (.int (nI iQ))] [.int vQ] H1 _
  refine g_run 5 978 [some (.retAddr 0), some (.ref 0), some (.ref 49), some (.int (nI iQ))] [.int (nI iQ + nI 1), .retAddr 0, .ref 49, .int vQ] H1 rfl ?_
  refine g_top (nI_add iQ 1) ?_
  refine g_sld rfl (show iQ + 1 < _ by omega) (by omega) ?_
  refine g_run 4 983 [some (.retAddr 0), some (.ref 0), some (.ref 49), some (.int (nI iQ))] [.int (nI iQ + nI 2), .retAddr 0, .int (o.2 (iQ + 1)), .ref 49, .int vQ] H1 rfl ?_
  refine g_top (nI_add iQ 2) ?_
  refine g_sld rfl (show iQ + 2 < _ by omega) (by omega) ?_
  refine g_run 4 988 [some (.retAddr 0), some (.ref 0), some (.ref 49), some (.int (nI iQ))] [.int (nI iQ + nI 3), .retAddr 0, .int (o.2 (iQ + 2)), .int (o.2 (iQ + 1)), .ref 49, .int vQ] H1 rfl ?_
  refine g_top (nI_add iQ 3) ?_
  refine g_sld rfl (show iQ + 3 < _ by omega) (by omega) ?_
  refine g_virS rfl rfl rfl h49 rfl rfl q1 rfl (fun v2 H2 q2 => ?_)
  obtain ⟨rfl, hI2⟩ := q2
  show eG _ 202 992 [some (.retAddr 0), some (.ref 0), some (.ref 49), some (.int (nI iQ))] [.int vQ, .int vQ] H2 _
  refine g_icmp_eq rfl (fun _ => ?_) (fun c1 => absurd (rfl) c1)
  show eG _ 202 1060 [some (.retAddr 0), some (.ref 0), some (.ref 49), some (.int (nI iQ))] [] H2 _
  exact hk H2 hI2
set_option maxRecDepth 100000 in
set_option maxHeartbeats 4000000 in
theorem c_copy (Inv : eH → Prop) (hO : ∀ H, Inv H → ∃ fs, H[0]? = some (.inr (6, fs))) (hP : P_copy Inv) (o : eO) (iQ : Nat) (H : eH) (hz : o.1 ≤ 3072) (hi : iQ + 6 ≤ o.1) (hI : Inv H) {r : eP} (hk : ∀ H2, Inv H2 → eG o 202 1060 [some (.retAddr 0), some (.ref 0), some (.ref 49), some (.int (nI iQ))] [] H2 r) : eG o 202 997 [some (.retAddr 0), some (.ref 0), some (.ref 49), some (.int (nI iQ))] [] H r := by
  obtain ⟨fo, hob⟩ := hO H hI
  refine g_run 5 1002 [some (.retAddr 0), some (.ref 0), some (.ref 49), some (.int (nI iQ))] [.int (nI iQ + nI 1), .retAddr 0, .ref 0] H rfl ?_
  refine g_top (nI_add iQ 1) ?_
  refine g_sld rfl (show iQ + 1 < _ by omega) (by omega) ?_
  refine g_run 4 1007 [some (.retAddr 0), some (.ref 0), some (.ref 49), some (.int (nI iQ))] [.int (nI iQ + nI 2), .retAddr 0, .int (o.2 (iQ + 1)), .ref 0] H rfl ?_
  refine g_top (nI_add iQ 2) ?_
  refine g_sld rfl (show iQ + 2 < _ by omega) (by omega) ?_
  refine g_run 4 1012 [some (.retAddr 0), some (.ref 0), some (.ref 49), some (.int (nI iQ))] [.int (nI iQ + nI 3), .retAddr 0, .int (o.2 (iQ + 2)), .int (o.2 (iQ + 1)), .ref 0] H rfl ?_
  refine g_top (nI_add iQ 3) ?_
  refine g_sld rfl (show iQ + 3 < _ by omega) (by omega) ?_
  refine g_run 4 1017 [some (.retAddr 0), some (.ref 0), some (.ref 49), some (.int (nI iQ))] [.int (nI iQ + nI 4), .retAddr 0, .int (o.2 (iQ + 3)), .int (o.2 (iQ + 2)), .int (o.2 (iQ + 1)), .ref 0] H rfl ?_
  refine g_top (nI_add iQ 4) ?_
  refine g_sld rfl (show iQ + 4 < _ by omega) (by omega) ?_
  refine g_run 4 1022 [some (.retAddr 0), some (.ref 0), some (.ref 49), some (.int (nI iQ))] [.int (nI iQ + nI 5), .retAddr 0, .int (o.2 (iQ + 4)), .int (o.2 (iQ + 3)), .int (o.2 (iQ + 2)), .int (o.2 (iQ + 1)), .ref 0] H rfl ?_
  refine g_top (nI_add iQ 5) ?_
  refine g_sld rfl (show iQ + 5 < _ by omega) (by omega) ?_
  refine g_virS rfl rfl rfl hob rfl rfl (hP _ _ _ _ _ o H hI) rfl (fun v1 H1 q1 => ?_)
  obtain ⟨vQ, rfl, ⟨fm, h49⟩, q1⟩ := q1
  show eG _ 202 1026 [some (.retAddr 0), some (.ref 0), some (.ref 49), some (.int (nI iQ))] [.int vQ] H1 _
  refine g_run 5 1031 [some (.retAddr 0), some (.ref 0), some (.ref 49), some (.int (nI iQ))] [.int (nI iQ + nI 1), .retAddr 0, .ref 49, .int vQ] H1 rfl ?_
  refine g_top (nI_add iQ 1) ?_
  refine g_sld rfl (show iQ + 1 < _ by omega) (by omega) ?_
  refine g_run 4 1036 [some (.retAddr 0), some (.ref 0), some (.ref 49), some (.int (nI iQ))] [.int (nI iQ + nI 2), .retAddr 0, .int (o.2 (iQ + 1)), .ref 49, .int vQ] H1 rfl ?_
  refine g_top (nI_add iQ 2) ?_
  refine g_sld rfl (show iQ + 2 < _ by omega) (by omega) ?_
  refine g_run 4 1041 [some (.retAddr 0), some (.ref 0), some (.ref 49), some (.int (nI iQ))] [.int (nI iQ + nI 3), .retAddr 0, .int (o.2 (iQ + 2)), .int (o.2 (iQ + 1)), .ref 49, .int vQ] H1 rfl ?_
  refine g_top (nI_add iQ 3) ?_
  refine g_sld rfl (show iQ + 3 < _ by omega) (by omega) ?_
  refine g_run 4 1046 [some (.retAddr 0), some (.ref 0), some (.ref 49), some (.int (nI iQ))] [.int (nI iQ + nI 4), .retAddr 0, .int (o.2 (iQ + 3)), .int (o.2 (iQ + 2)), .int (o.2 (iQ + 1)), .ref 49, .int vQ] H1 rfl ?_
  refine g_top (nI_add iQ 4) ?_
  refine g_sld rfl (show iQ + 4 < _ by omega) (by omega) ?_
  refine g_run 4 1051 [some (.retAddr 0), some (.ref 0), some (.ref 49), some (.int (nI iQ))] [.int (nI iQ + nI 5), .retAddr 0, .int (o.2 (iQ + 4)), .int (o.2 (iQ + 3)), .int (o.2 (iQ + 2)), .int (o.2 (iQ + 1)), .ref 49, .int vQ] H1 rfl ?_
  refine g_top (nI_add iQ 5) ?_
  refine g_sld rfl (show iQ + 5 < _ by omega) (by omega) ?_
  refine g_virS rfl rfl rfl h49 rfl rfl q1 rfl (fun v2 H2 q2 => ?_)
  obtain ⟨rfl, hI2⟩ := q2
  show eG _ 202 1055 [some (.retAddr 0), some (.ref 0), some (.ref 49), some (.int (nI iQ))] [.int vQ, .int vQ] H2 _
  refine g_icmp_eq rfl (fun _ => ?_) (fun c1 => absurd (rfl) c1)
  show eG _ 202 1060 [some (.retAddr 0), some (.ref 0), some (.ref 49), some (.int (nI iQ))] [] H2 _
  exact hk H2 hI2
end
section
/-- all pairs -/
def Pairs (Inv : eH → Prop) : Prop := P_part Inv ∧ P_told Inv ∧ P_stand Inv ∧ P_person Inv ∧ P_set Inv ∧ P_want Inv ∧ P_type Inv ∧ P_town Inv ∧ P_people Inv ∧ P_count Inv ∧ P_may Inv ∧ P_week Inv ∧ P_can Inv ∧ P_more Inv ∧ P_carry Inv ∧ P_build Inv ∧ P_worth Inv ∧ P_image Inv ∧ P_restore Inv ∧ P_judged Inv ∧ P_wrong Inv ∧ P_sheet Inv ∧ P_drop Inv ∧ P_item Inv ∧ P_film Inv ∧ P_copy Inv
set_option maxRecDepth 100000 in
set_option maxHeartbeats 8000000 in
theorem l_law (Inv : eH → Prop) (hO : ∀ H, Inv H → ∃ fs, H[0]? = some (.inr (6, fs))) (hB : ∀ H, Inv H → H.length ≤ 600000 ∧ eTot H ≤ 7302250) (hPs : Pairs Inv) (o : eO) (hz : o.1 ≤ 3072) : ∀ (dQ iQ : Nat) (H : eH), o.1 < iQ + 6 * dQ → iQ ≤ o.1 + 6 → Inv H → eG o 202 18 [some (.retAddr 0), some (.ref 0), some (.ref 49), some (.int (nI iQ))] [] H (fun z => z.1 = some (.int 1) ∧ z.2.length ≤ 600000 ∧ eTot z.2 ≤ 7302250) := by
  obtain ⟨p0, p1, p2, p3, p4, p5, p6, p7, p8, p9, p10, p11, p12, p13, p14, p15, p16, p17, p18, p19, p20, p21, p22, p23, p24, p25⟩ := hPs
  intro dQ
  induction dQ with
  | zero =>
    intro iQ H hd hi hI
    refine g_run 2 20 [some (.retAddr 0), some (.ref 0), some (.ref 49), some (.int (nI iQ))] [.retAddr 0, .int (nI iQ)] H rfl ?_
    refine g_slen rfl ?_
    refine g_run 2 24 [some (.retAddr 0), some (.ref 0), some (.ref 49), some (.int (nI iQ))] [.int (nI o.1 - 6), .int (nI iQ)] H rfl ?_
    refine g_icmp_gt rfl (fun _ => ?_) (fun c1 => absurd (lw_out hz (by omega) (by omega)) c1)
    show eG _ 202 1066 [some (.retAddr 0), some (.ref 0), some (.ref 49), some (.int (nI iQ))] [] H _
    refine g_run 1 1067 [some (.retAddr 0), some (.ref 0), some (.ref 49), some (.int (nI iQ))] [.int 1] H rfl ?_
    exact g_retiS rfl rfl rfl ⟨rfl, hB H hI⟩
  | succ dQ ih =>
    intro iQ H hd hi hI
    by_cases hin : iQ + 6 ≤ o.1
    · have hk : ∀ H2, Inv H2 → eG o 202 1060 [some (.retAddr 0), some (.ref 0), some (.ref 49), some (.int (nI iQ))] [] H2 (fun z => z.1 = some (.int 1) ∧ z.2.length ≤ 600000 ∧ eTot z.2 ≤ 7302250) := by
        intro H2 hI2
        refine g_run 2 18 [some (.retAddr 0), some (.ref 0), some (.ref 49), some (.int (nI iQ + nI 6))] [] H2 rfl ?_
        rw [nI_add iQ 6]
        exact ih (iQ + 6) H2 (by omega) (by omega) hI2
      refine g_run 2 20 [some (.retAddr 0), some (.ref 0), some (.ref 49), some (.int (nI iQ))] [.retAddr 0, .int (nI iQ)] H rfl ?_
      refine g_slen rfl ?_
      refine g_run 2 24 [some (.retAddr 0), some (.ref 0), some (.ref 49), some (.int (nI iQ))] [.int (nI o.1 - 6), .int (nI iQ)] H rfl ?_
      refine g_icmp_gt rfl (fun c1 => absurd c1 (lw_in hz (by omega) hin)) (fun _ => ?_)
      show eG _ 202 27 [some (.retAddr 0), some (.ref 0), some (.ref 49), some (.int (nI iQ))] [] H _
      refine g_run 2 29 [some (.retAddr 0), some (.ref 0), some (.ref 49), some (.int (nI iQ))] [.int (nI iQ), .retAddr 0] H rfl ?_
      refine g_sld rfl (show iQ < _ by omega) (by omega) ?_
      refine g_run 2 33 [some (.retAddr 0), some (.ref 0), some (.ref 49), some (.int (nI iQ))] [.int ((o.2 iQ) &&& 31)] H rfl ?_
      generalize (o.2 iQ) &&& 31 = xQ
      by_cases k0 : xQ = 0
      · exact g_tabv 0 152 rfl k0 (by decide) (c_part Inv hO p0 o iQ H hz hin hI hk)
      by_cases k1 : xQ = 1
      · exact g_tabv 1 215 rfl k1 (by decide) (c_told Inv hO p1 o iQ H hz hin hI hk)
      by_cases k2 : xQ = 2
      · exact g_tabv 2 248 rfl k2 (by decide) (c_stand Inv hO p2 o iQ H hz hin hI hk)
      by_cases k3 : xQ = 3
      · exact g_tabv 3 271 rfl k3 (by decide) (c_person Inv hO p3 o iQ H hz hin hI hk)
      by_cases k4 : xQ = 4
      · exact g_tabv 4 294 rfl k4 (by decide) (c_set Inv hO p4 o iQ H hz hin hI hk)
      by_cases k5 : xQ = 5
      · exact g_tabv 5 327 rfl k5 (by decide) (c_want Inv hO p5 o iQ H hz hin hI hk)
      by_cases k6 : xQ = 6
      · exact g_tabv 6 350 rfl k6 (by decide) (c_type Inv hO p6 o iQ H hz hin hI hk)
      by_cases k7 : xQ = 7
      · exact g_tabv 7 413 rfl k7 (by decide) (c_town Inv hO p7 o iQ H hz hin hI hk)
      by_cases k8 : xQ = 8
      · exact g_tabv 8 426 rfl k8 (by decide) (c_people Inv hO p8 o iQ H hz hin hI hk)
      by_cases k9 : xQ = 9
      · exact g_tabv 9 439 rfl k9 (by decide) (c_count Inv hO p9 o iQ H hz hin hI hk)
      by_cases k10 : xQ = 10
      · exact g_tabv 10 462 rfl k10 (by decide) (c_may Inv hO p10 o iQ H hz hin hI hk)
      by_cases k11 : xQ = 11
      · exact g_tabv 11 495 rfl k11 (by decide) (c_week Inv hO p11 o iQ H hz hin hI hk)
      by_cases k12 : xQ = 12
      · exact g_tabv 12 528 rfl k12 (by decide) (c_can Inv hO p12 o iQ H hz hin hI hk)
      by_cases k13 : xQ = 13
      · exact g_tabv 13 551 rfl k13 (by decide) (c_more Inv hO p13 o iQ H hz hin hI hk)
      by_cases k14 : xQ = 14
      · exact g_tabv 14 564 rfl k14 (by decide) (c_carry Inv hO p14 o iQ H hz hin hI hk)
      by_cases k15 : xQ = 15
      · exact g_tabv 15 597 rfl k15 (by decide) (c_build Inv hO p15 o iQ H hz hin hI hk)
      by_cases k16 : xQ = 16
      · exact g_tabv 16 630 rfl k16 (by decide) (c_worth Inv hO p16 o iQ H hz hin hI hk)
      by_cases k17 : xQ = 17
      · exact g_tabv 17 663 rfl k17 (by decide) (c_image Inv hO p17 o iQ H hz hin hI hk)
      by_cases k18 : xQ = 18
      · exact g_tabv 18 676 rfl k18 (by decide) (c_restore Inv hO p18 o iQ H hz hin hI hk)
      by_cases k19 : xQ = 19
      · exact g_tabv 19 689 rfl k19 (by decide) (c_judged Inv hO p19 o iQ H hz hin hI hk)
      by_cases k20 : xQ = 20
      · exact g_tabv 20 742 rfl k20 (by decide) (c_wrong Inv hO p20 o iQ H hz hin hI hk)
      by_cases k21 : xQ = 21
      · exact g_tabv 21 805 rfl k21 (by decide) (c_sheet Inv hO p21 o iQ H hz hin hI hk)
      by_cases k22 : xQ = 22
      · exact g_tabv 22 848 rfl k22 (by decide) (c_drop Inv hO p22 o iQ H hz hin hI hk)
      by_cases k23 : xQ = 23
      · exact g_tabv 23 871 rfl k23 (by decide) (c_item Inv hO p23 o iQ H hz hin hI hk)
      by_cases k24 : xQ = 24
      · exact g_tabv 24 954 rfl k24 (by decide) (c_film Inv hO p24 o iQ H hz hin hI hk)
      by_cases k25 : xQ = 25
      · exact g_tabv 25 997 rfl k25 (by decide) (c_copy Inv hO p25 o iQ H hz hin hI hk)
      have hd9 : xQ.toInt < 0 ∨ 25 < xQ.toInt := by
        have q0 := eNe_toInt k0
        have q1 := eNe_toInt k1
        have q2 := eNe_toInt k2
        have q3 := eNe_toInt k3
        have q4 := eNe_toInt k4
        have q5 := eNe_toInt k5
        have q6 := eNe_toInt k6
        have q7 := eNe_toInt k7
        have q8 := eNe_toInt k8
        have q9 := eNe_toInt k9
        have q10 := eNe_toInt k10
        have q11 := eNe_toInt k11
        have q12 := eNe_toInt k12
        have q13 := eNe_toInt k13
        have q14 := eNe_toInt k14
        have q15 := eNe_toInt k15
        have q16 := eNe_toInt k16
        have q17 := eNe_toInt k17
        have q18 := eNe_toInt k18
        have q19 := eNe_toInt k19
        have q20 := eNe_toInt k20
        have q21 := eNe_toInt k21
        have q22 := eNe_toInt k22
        have q23 := eNe_toInt k23
        have q24 := eNe_toInt k24
        have q25 := eNe_toInt k25
        rw [show (0 : Int32).toInt = 0 from by decide] at q0
        rw [show (1 : Int32).toInt = 1 from by decide] at q1
        rw [show (2 : Int32).toInt = 2 from by decide] at q2
        rw [show (3 : Int32).toInt = 3 from by decide] at q3
        rw [show (4 : Int32).toInt = 4 from by decide] at q4
        rw [show (5 : Int32).toInt = 5 from by decide] at q5
        rw [show (6 : Int32).toInt = 6 from by decide] at q6
        rw [show (7 : Int32).toInt = 7 from by decide] at q7
        rw [show (8 : Int32).toInt = 8 from by decide] at q8
        rw [show (9 : Int32).toInt = 9 from by decide] at q9
        rw [show (10 : Int32).toInt = 10 from by decide] at q10
        rw [show (11 : Int32).toInt = 11 from by decide] at q11
        rw [show (12 : Int32).toInt = 12 from by decide] at q12
        rw [show (13 : Int32).toInt = 13 from by decide] at q13
        rw [show (14 : Int32).toInt = 14 from by decide] at q14
        rw [show (15 : Int32).toInt = 15 from by decide] at q15
        rw [show (16 : Int32).toInt = 16 from by decide] at q16
        rw [show (17 : Int32).toInt = 17 from by decide] at q17
        rw [show (18 : Int32).toInt = 18 from by decide] at q18
        rw [show (19 : Int32).toInt = 19 from by decide] at q19
        rw [show (20 : Int32).toInt = 20 from by decide] at q20
        rw [show (21 : Int32).toInt = 21 from by decide] at q21
        rw [show (22 : Int32).toInt = 22 from by decide] at q22
        rw [show (23 : Int32).toInt = 23 from by decide] at q23
        rw [show (24 : Int32).toInt = 24 from by decide] at q24
        rw [show (25 : Int32).toInt = 25 from by decide] at q25
        omega
      exact g_tabd 1060 rfl hd9 (by decide) (hk H hI)
    · refine g_run 2 20 [some (.retAddr 0), some (.ref 0), some (.ref 49), some (.int (nI iQ))] [.retAddr 0, .int (nI iQ)] H rfl ?_
      refine g_slen rfl ?_
      refine g_run 2 24 [some (.retAddr 0), some (.ref 0), some (.ref 49), some (.int (nI iQ))] [.int (nI o.1 - 6), .int (nI iQ)] H rfl ?_
      refine g_icmp_gt rfl (fun _ => ?_) (fun c1 => absurd (lw_out hz (by omega) (by omega)) c1)
      show eG _ 202 1066 [some (.retAddr 0), some (.ref 0), some (.ref 49), some (.int (nI iQ))] [] H _
      refine g_run 1 1067 [some (.retAddr 0), some (.ref 0), some (.ref 49), some (.int (nI iQ))] [.int 1] H rfl ?_
      exact g_retiS rfl rfl rfl ⟨rfl, hB H hI⟩
/-- the claim's walk, out of an invariant and the pairs -/
theorem whole_pairs (Inv : eH → Prop) (h0 : Inv hpM) (hO : ∀ H, Inv H → ∃ fs, H[0]? = some (.inr (6, fs))) (hB : ∀ H, Inv H → H.length ≤ 600000 ∧ eTot H ≤ 7302250) (hPs : Pairs Inv) {p : Program} {e : Env} {s : State} {m : MethodId} {below : List Frame} {meth : Method} {c : Code} (l : Launch) {b L : Nat} {xs : Nat → Int32} (hL : L ≤ 3072) (C0 : lw_At p s m meth c b L xs) : W p l e room_1 s m #[Value.ref b] below meth c s.heap [] 0 0 (lw_Z below #[Value.ref b] s) (entryFrame m ([Value.ref b] : List Value).toArray 4) :=
  whole_open (fun L xs hL => l_law Inv hO hB hPs (L, xs) hL (L + 1) 0 hpM (by show L < 0 + 6 * (L + 1); omega) (by omega) h0) l hL C0
end
section
/-! dead locals may be forgotten: the engine does no less with more of them known -/
def eSub (L L' : eL) : Prop := L.length = L'.length ∧ ∀ (i : Nat) (v : Value), L[i]? = some (some v) → L'[i]? = some (some v)
theorem eSub_rfl {L : eL} : eSub L L := ⟨rfl, fun _ _ h => h⟩
theorem eSub_set {L L' : eL} (h : eSub L L') (i : Nat) (x : Option Value) : eSub (L.set i x) (L'.set i x) := by
  refine ⟨by rw [List.length_set, List.length_set]; exact h.1, fun j v hj => ?_⟩
  by_cases e : i = j
  · subst e
    have hl : i < L.length := by
      have := (List.getElem?_eq_some_iff.mp hj).1
      rw [List.length_set] at this
      exact this
    rw [List.getElem?_set_self hl] at hj
    rw [List.getElem?_set_self (by rw [← h.1]; exact hl)]
    exact hj
  · rw [List.getElem?_set_ne e] at hj ⊢
    exact h.2 j v hj
theorem eSub_none {L L' : eL} (h : eSub L L') (i : Nat) : eSub (L.set i none) L' := by
  refine ⟨by rw [List.length_set]; exact h.1, fun j v hj => ?_⟩
  by_cases e : i = j
  · subst e
    have hl : i < L.length := by
      have := (List.getElem?_eq_some_iff.mp hj).1
      rw [List.length_set] at this
      exact this
    rw [List.getElem?_set_self hl] at hj
    cases hj
  · rw [List.getElem?_set_ne e] at hj
    exact h.2 j v hj
theorem eKill_s (M : eL) (i : Nat) : eKill M (i + 1) = match M[i]? with
    | some (some (.long _)) => M.set i none
    | some (some (.double _)) => M.set i none
    | _ => M := rfl
theorem eSub_kill {L L' : eL} (h : eSub L L') (i : Nat) : eSub (eKill L i) (eKill L' i) := by
  cases i with
  | zero => exact h
  | succ i =>
    have key : ∀ M : eL, eKill M (i + 1) = M ∨ (eKill M (i + 1) = M.set i none) := by
      intro M
      rw [eKill_s]
      split <;> first | exact Or.inr rfl | exact Or.inl rfl
    cases hL : L[i]? with
    | none =>
      have e1 : eKill L (i + 1) = L := by rw [eKill_s, hL]
      have e2 : L'[i]? = none := by
        rw [List.getElem?_eq_none_iff] at hL ⊢
        rw [← h.1]; exact hL
      have e3 : eKill L' (i + 1) = L' := by rw [eKill_s, e2]
      rw [e1, e3]; exact h
    | some x =>
      cases x with
      | none =>
        have e1 : eKill L (i + 1) = L := by rw [eKill_s, hL]
        rw [e1]
        rcases key L' with e | e
        · rw [e]; exact h
        · rw [e]
          refine ⟨by rw [List.length_set]; exact h.1, fun j v hj => ?_⟩
          by_cases e : i = j
          · subst e
            rw [hL] at hj
            cases hj
          · rw [List.getElem?_set_ne e]
            exact h.2 j v hj
      | some v =>
        have hL' := h.2 i v hL
        have e : eKill L (i + 1) = eKill L (i + 1) := rfl
        cases v <;> (simp only [eKill_s, hL, hL']; first | exact h | exact eSub_set h i none)
theorem eSub_st1 {L L' : eL} (h : eSub L L') (i : Nat) (v : Value) : eSub (eSt1 L i v) (eSt1 L' i v) := eSub_set (eSub_kill h i) i _
theorem eSub_st2 {L L' : eL} (h : eSub L L') (i : Nat) (v : Value) : eSub (eSt2 L i v) (eSt2 L' i v) := eSub_set (eSub_set (eSub_kill h i) i _) (i + 1) _
theorem eSub_ld {L L' : eL} (h : eSub L L') {i : Nat} {v : Value} (e : eLd L i = some v) : eLd L' i = some v := by
  unfold eLd at e ⊢
  split at e
  · next w hw =>
    cases e
    rw [h.2 i v hw]
  · cases e
/-- what a step leaves, up to known locals -/
def eSubR : eR → eR → Prop
  | .inl (pc, L, st, H), q => ∃ L', q = .inl (pc, L', st, H) ∧ eSub L L'
  | .inr (.inl r), q => q = .inr (.inl r)
  | .inr (.inr (k, as, (pc, L, st, H))), q => ∃ L', q = .inr (.inr (k, as, (pc, L', st, H))) ∧ eSub L L'
theorem eLoc_sub {own : Nat} {i : Instr} {pc : Nat} {L L' : eL} {st : List Value} {H : eH} {q : eR} (hs : eSub L L') (h : eLoc own i pc L st H = some q) : ∃ q', eLoc own i pc L' st H = some q' ∧ eSubR q q' := by
  unfold eLoc at h
  split at h <;> (try split at h) <;> (try split at h) <;> (try cases h) <;> (try simp only [ePush] at h) <;> (try cases h) <;> (first | (refine ⟨.inl (_, L', _, _), ?_, L', rfl, hs⟩; simp only [eLoc, ePush, *]; done) | skip)
  all_goals first | (refine ⟨.inl (_, L', _, _), ?_, L', rfl, hs⟩; simp only [eLoc, ePush]; rw [eSub_ld hs (by assumption)]; done) | exact ⟨_, rfl, _, rfl, eSub_st1 hs _ _⟩ | exact ⟨_, rfl, _, rfl, eSub_st2 hs _ _⟩ | (refine ⟨.inl (_, _, _, _), ?_, _, rfl, eSub_st1 hs _ _⟩; simp only [eLoc]; rw [eSub_ld hs (by assumption)]; done) | (refine ⟨.inl (_, L', _, _), ?_, L', rfl, hs⟩; simp only [eLoc]; rw [if_pos (by assumption)]; done) | (refine ⟨.inl (_, L', _, _), ?_, L', rfl, hs⟩; simp only [eLoc]; rw [if_neg (by assumption)]; done)
theorem eAri_sub {i : Instr} {pc : Nat} {L L' : eL} {st : List Value} {H : eH} {q : eR} (hs : eSub L L') (h : eAri i pc L st H = some q) : ∃ q', eAri i pc L' st H = some q' ∧ eSubR q q' := by
  unfold eAri at h
  split at h <;> (try split at h) <;> (try cases h) <;> (refine ⟨.inl (_, L', _, _), ?_, L', rfl, hs⟩; first | rfl | (simp only [eAri, ePush]; rw [if_neg (by assumption)]))
theorem eHp_sub {o : eO} {own : Nat} {ini : Bool} {i : Instr} {pc : Nat} {L L' : eL} {st : List Value} {H : eH} {q : eR} (hs : eSub L L') (h : eHp o own ini i pc L st H = some q) : ∃ q', eHp o own ini i pc L' st H = some q' ∧ eSubR q q' := by
  unfold eHp at h
  split at h
  all_goals repeat' (first | (cases h; done) | (split at h))
  all_goals (try simp only [ePush] at h)
  all_goals (cases h; refine ⟨.inl (_, L', _, _), ?_, L', rfl, hs⟩; simp only [eHp, ePush, *]; try (rw [if_neg not_false]))
theorem eCall_sub {k own : Nat} {i : Instr} {pc : Nat} {L L' : eL} {st : List Value} {H : eH} {q : eR} (hs : eSub L L') (h : eCall k own i pc L st H = some q) : ∃ q', eCall k own i pc L' st H = some q' ∧ eSubR q q' := by
  unfold eCall at h
  split at h
  all_goals repeat' (first | (cases h; done) | (split at h))
  all_goals (cases h; first | (refine ⟨.inl (_, L', _, _), ?_, L', rfl, hs⟩; simp only [eCall, *]; done) | (refine ⟨.inr (.inr (_, _, (_, L', _, _))), ?_, L', rfl, hs⟩; simp only [eCall, *]; done) | (refine ⟨_, ?_, rfl⟩; simp only [eCall, *]; done))
theorem eStep_sub {o : eO} {k : Nat} {i : Instr} {pc : Nat} {L L' : eL} {st : List Value} {H : eH} {q : eR} (hs : eSub L L') (h : eStep o k i pc L st H = some q) : ∃ q', eStep o k i pc L' st H = some q' ∧ eSubR q q' := by
  unfold eStep at h ⊢
  split at h
  · exact eLoc_sub hs h
  · exact eAri_sub hs h
  · exact eHp_sub hs h
  · exact eCall_sub hs h
theorem eX_sub {o : eO} : ∀ {n k pc : Nat} {L L' : eL} {st : List Value} {H : eH} {r : Option Value × eH}, eSub L L' → eX o n k pc L st H = some r → eX o n k pc L' st H = some r := by
  intro n
  induction n with
  | zero => intro k pc L L' st H r hs h; cases h
  | succ n ih =>
    intro k pc L L' st H r hs h
    unfold eX at h ⊢
    cases hat : eAt k pc with
    | none => rw [hat] at h; cases h
    | some il =>
      obtain ⟨i, len⟩ := il
      rw [hat] at h
      dsimp only at h ⊢
      cases hst : eStep o k i pc L st H with
      | none => rw [hst] at h; cases h
      | some q =>
        rw [hst] at h
        obtain ⟨q', h1, h2⟩ := eStep_sub hs hst
        rw [h1]
        rcases q with ⟨pc', L1, st', H'⟩ | w | ⟨q, as, pc', L1, st', H'⟩
        · obtain ⟨L2, rfl, h3⟩ := h2
          exact ih h3 h
        · cases h2
          exact h
        · obtain ⟨L2, rfl, h3⟩ := h2
          dsimp only at h ⊢
          cases hle : Nat.ble (eArgs as).length (eMx.getD q 0) with
          | false => rw [hle] at h; cases h
          | true =>
            cases hx : eX o n q 0 (eEnt q as) [] H' with
            | none => rw [hle, hx] at h; cases h
            | some z =>
              obtain ⟨w, H1⟩ := z
              rw [hle, hx] at h
              exact ih h3 h
def eMask : List Bool → eL → eL
  | true :: m, _ :: l => none :: eMask m l
  | false :: m, x :: l => x :: eMask m l
  | _, l => l
theorem eSub_mask : ∀ (m : List Bool) (L : eL), eSub (eMask m L) L := by
  intro m
  induction m with
  | nil => intro L; unfold eMask; exact eSub_rfl
  | cons b m ih =>
    intro L
    cases L with
    | nil => cases b <;> exact eSub_rfl
    | cons x l =>
      have h := ih l
      cases b
      · refine ⟨congrArg (· + 1) h.1, fun i v hi => ?_⟩
        cases i with
        | zero => exact hi
        | succ i => exact h.2 i v hi
      · refine ⟨congrArg (· + 1) h.1, fun i v hi => ?_⟩
        cases i with
        | zero => cases hi
        | succ i => exact h.2 i v hi
/-- forget some locals -/
theorem g_fgt (m : List Bool) {o : eO} {k pc : Nat} {L : eL} {st : List Value} {H : eH} {r : eP} (g : eG o k pc (eMask m L) st H r) : eG o k pc L st H r := by
  obtain ⟨n, v, h1, h2⟩ := g
  exact ⟨n, v, eX_sub (eSub_mask m L) h1, h2⟩
end
section
/-! ===== PROGRAMS OVER Int: the state as a pure thing ===== -/
def zI (x : Int) : Int32 := Int32.ofInt x
def zL (x : Int) : Int64 := Int64.ofInt x
/-- rows by handle, fields by handle and number, how long the row of needs is, what lies behind the first 74 cells -/
abbrev ZX : Type := Option (eC × List eC)
abbrev ZS : Type := (Nat → Int → Int) × (Nat → Nat → Int) × Nat × ZX
def cI (tag n : Nat) (f : Int → Int) : eC := .inl (tag, n, .inl (fun i => zI (f (i : Int))))
def cL (n : Nat) (f : Int → Int) : eC := .inl (1, n, .inr (fun i => zL (f (i : Int))))
def zA (S : ZS) (h : Nat) (i : Int) : Int := S.1 h i
def zF (S : ZS) (h j : Nat) : Int := S.2.1 h j
def nn (S : ZS) : Nat := S.2.2.1
def nd (S : ZS) : Nat := match S.2.2.2 with
  | none => 31
  | some (_, gs) => 74 + gs.length
def zu (f : Int → Int) (x v : Int) : Int → Int := fun y => if y = x then v else f y
def zc (f g : Int → Int) (sp dp m : Int) : Int → Int := fun y => if dp ≤ y ∧ y < dp + m then f (sp + (y - dp)) else g y
def wR (S : ZS) (h : Nat) (f : Int → Int) : ZS := (fun h' => if h' = h then f else S.1 h', S.2)
def wA (S : ZS) (h : Nat) (x v : Int) : ZS := wR S h (zu (S.1 h) x v)
def wF (S : ZS) (h j : Nat) (x : Int) : ZS := (S.1, fun h' j' => if j' = j then (if h' = h then x else S.2.1 h' j') else S.2.1 h' j', S.2.2)
def cNd (S : ZS) : eC := cI 0 S.2.2.1 (S.1 31)
def cN31 (S : ZS) : eC := match S.2.2.2 with
  | none => cNd S
  | some (g, _) => g
def cTl (S : ZS) : List eC := match S.2.2.2 with
  | none => []
  | some (_, gs) => gs ++ [cNd S]
def rd (S : ZS) : eH := [
    .inr (6, [.ref 1, .ref 8, .ref 15, .ref 22, .ref 24, .ref 33, .ref 43, .ref 45, .int (zI (S.2.1 0 8))]),
    .inr (4, [.ref 2, .ref 3, .ref 4, .ref 5, .ref 6, .ref 7, .int (zI (S.2.1 1 6)), .int (zI (S.2.1 1 7)), .int (zI (S.2.1 1 8)), .int (zI (S.2.1 1 9)), .int (zI (S.2.1 1 10)), .int (zI (S.2.1 1 11))]),
    cI 0 8 (S.1 2),
    cI 0 8 (S.1 3),
    cI 0 8 (S.1 4),
    cI 0 8 (S.1 5),
    cI 0 8 (S.1 6),
    cI 0 4 (S.1 7),
    .inr (4, [.ref 9, .ref 10, .ref 11, .ref 12, .ref 13, .ref 14, .int (zI (S.2.1 8 6)), .int (zI (S.2.1 8 7)), .int (zI (S.2.1 8 8)), .int (zI (S.2.1 8 9)), .int (zI (S.2.1 8 10)), .int (zI (S.2.1 8 11))]),
    cI 0 8 (S.1 9),
    cI 0 8 (S.1 10),
    cI 0 8 (S.1 11),
    cI 0 8 (S.1 12),
    cI 0 8 (S.1 13),
    cI 0 4 (S.1 14),
    .inr (4, [.ref 16, .ref 17, .ref 18, .ref 19, .ref 20, .ref 21, .int (zI (S.2.1 15 6)), .int (zI (S.2.1 15 7)), .int (zI (S.2.1 15 8)), .int (zI (S.2.1 15 9)), .int (zI (S.2.1 15 10)), .int (zI (S.2.1 15 11))]),
    cI 0 8 (S.1 16),
    cI 0 8 (S.1 17),
    cI 0 8 (S.1 18),
    cI 0 8 (S.1 19),
    cI 0 8 (S.1 20),
    cI 0 4 (S.1 21),
    .inr (3, [.ref 23, .int (zI (S.2.1 22 1)), .int (zI (S.2.1 22 2))]),
    cI 3 160 (S.1 23),
    .inr (5, [.ref 25, .ref 26, .ref 27, .ref 28, .ref 29, .ref 30, .ref (nd S), .ref 32, .int (zI (S.2.1 24 8)), .int (zI (S.2.1 24 9)), .int (zI (S.2.1 24 10)), .int (zI (S.2.1 24 11)), .int (zI (S.2.1 24 12)), .int (zI (S.2.1 24 13)), .int (zI (S.2.1 24 14)), .int (zI (S.2.1 24 15)), .int (zI (S.2.1 24 16))]),
    cI 0 256 (S.1 25),
    cI 0 256 (S.1 26),
    cI 0 256 (S.1 27),
    cI 2 256 (S.1 28),
    cI 2 256 (S.1 29),
    cI 0 256 (S.1 30),
    cN31 S,
    cI 0 256 (S.1 32),
    .inr (1, [.ref 34, .ref 35, .ref 36, .ref 37, .ref 38, .ref 39, .ref 40, .ref 41, .ref 42, .int (zI (S.2.1 33 9)), .int (zI (S.2.1 33 10)), .int (zI (S.2.1 33 11)), .int (zI (S.2.1 33 12))]),
    cI 0 9 (S.1 34),
    cI 0 9 (S.1 35),
    cI 0 9 (S.1 36),
    cI 0 9 (S.1 37),
    cI 0 8 (S.1 38),
    cI 0 8 (S.1 39),
    cI 0 8 (S.1 40),
    cI 0 8 (S.1 41),
    cI 0 72 (S.1 42),
    .inr (0, [.ref 44]),
    cI 0 8 (S.1 44),
    .inr (2, [.ref 46, .ref 47, .ref 48]),
    cL 96 (S.1 46),
    cI 0 4 (S.1 47),
    cI 0 4 (S.1 48),
    .inr (7, [.ref 50, .int (zI (S.2.1 49 1)), .int (zI (S.2.1 49 2)), .int (zI (S.2.1 49 3)), .int (zI (S.2.1 49 4)), .int (zI (S.2.1 49 5)), .ref 51, .int (zI (S.2.1 49 7)), .ref 52, .int (zI (S.2.1 49 9)), .int (zI (S.2.1 49 10)), .int (zI (S.2.1 49 11)), .int (zI (S.2.1 49 12)), .ref 53, .ref 54, .ref 55, .ref 56, .ref 57, .ref 58, .ref 59, .ref 60, .ref 61, .ref 62, .ref 63, .ref 64, .ref 65, .ref 66, .ref 67, .int (zI (S.2.1 49 28)), .ref 68, .ref 69, .ref 70, .ref 71, .ref 72, .int (zI (S.2.1 49 34)), .ref 73]),
    cI 0 40 (S.1 50),
    cI 0 4 (S.1 51),
    cI 0 160 (S.1 52),
    cI 0 40 (S.1 53),
    cI 0 256 (S.1 54),
    cI 2 256 (S.1 55),
    cI 0 256 (S.1 56),
    cI 0 256 (S.1 57),
    cI 0 65536 (S.1 58),
    cI 0 256 (S.1 59),
    cI 0 256 (S.1 60),
    cI 0 9 (S.1 61),
    cI 0 8 (S.1 62),
    cI 0 72 (S.1 63),
    cI 0 17 (S.1 64),
    cI 0 17 (S.1 65),
    cI 0 8 (S.1 66),
    cI 2 16 (S.1 67),
    cI 0 44 (S.1 68),
    cI 0 6 (S.1 69),
    cI 0 4 (S.1 70),
    cI 0 4 (S.1 71),
    cL 96 (S.1 72),
    cL 24 (S.1 73)] ++ cTl S
theorem rd_o0 (S : ZS) : (rd S)[0]? = some (.inr (6, [.ref 1, .ref 8, .ref 15, .ref 22, .ref 24, .ref 33, .ref 43, .ref 45, .int (zI (S.2.1 0 8))])) := rfl
theorem rw_o0_8 (S : ZS) (x : Int) : (rd S).set 0 (.inr (6, ([.ref 1, .ref 8, .ref 15, .ref 22, .ref 24, .ref 33, .ref 43, .ref 45, .int (zI (S.2.1 0 8))] : List Value).set 8 (.int (zI x)))) = rd (wF S 0 8 x) := rfl
theorem rd_o1 (S : ZS) : (rd S)[1]? = some (.inr (4, [.ref 2, .ref 3, .ref 4, .ref 5, .ref 6, .ref 7, .int (zI (S.2.1 1 6)), .int (zI (S.2.1 1 7)), .int (zI (S.2.1 1 8)), .int (zI (S.2.1 1 9)), .int (zI (S.2.1 1 10)), .int (zI (S.2.1 1 11))])) := rfl
theorem rw_o1_6 (S : ZS) (x : Int) : (rd S).set 1 (.inr (4, ([.ref 2, .ref 3, .ref 4, .ref 5, .ref 6, .ref 7, .int (zI (S.2.1 1 6)), .int (zI (S.2.1 1 7)), .int (zI (S.2.1 1 8)), .int (zI (S.2.1 1 9)), .int (zI (S.2.1 1 10)), .int (zI (S.2.1 1 11))] : List Value).set 6 (.int (zI x)))) = rd (wF S 1 6 x) := rfl
theorem rw_o1_7 (S : ZS) (x : Int) : (rd S).set 1 (.inr (4, ([.ref 2, .ref 3, .ref 4, .ref 5, .ref 6, .ref 7, .int (zI (S.2.1 1 6)), .int (zI (S.2.1 1 7)), .int (zI (S.2.1 1 8)), .int (zI (S.2.1 1 9)), .int (zI (S.2.1 1 10)), .int (zI (S.2.1 1 11))] : List Value).set 7 (.int (zI x)))) = rd (wF S 1 7 x) := rfl
theorem rw_o1_8 (S : ZS) (x : Int) : (rd S).set 1 (.inr (4, ([.ref 2, .ref 3, .ref 4, .ref 5, .ref 6, .ref 7, .int (zI (S.2.1 1 6)), .int (zI (S.2.1 1 7)), .int (zI (S.2.1 1 8)), .int (zI (S.2.1 1 9)), .int (zI (S.2.1 1 10)), .int (zI (S.2.1 1 11))] : List Value).set 8 (.int (zI x)))) = rd (wF S 1 8 x) := rfl
theorem rw_o1_9 (S : ZS) (x : Int) : (rd S).set 1 (.inr (4, ([.ref 2, .ref 3, .ref 4, .ref 5, .ref 6, .ref 7, .int (zI (S.2.1 1 6)), .int (zI (S.2.1 1 7)), .int (zI (S.2.1 1 8)), .int (zI (S.2.1 1 9)), .int (zI (S.2.1 1 10)), .int (zI (S.2.1 1 11))] : List Value).set 9 (.int (zI x)))) = rd (wF S 1 9 x) := rfl
theorem rw_o1_10 (S : ZS) (x : Int) : (rd S).set 1 (.inr (4, ([.ref 2, .ref 3, .ref 4, .ref 5, .ref 6, .ref 7, .int (zI (S.2.1 1 6)), .int (zI (S.2.1 1 7)), .int (zI (S.2.1 1 8)), .int (zI (S.2.1 1 9)), .int (zI (S.2.1 1 10)), .int (zI (S.2.1 1 11))] : List Value).set 10 (.int (zI x)))) = rd (wF S 1 10 x) := rfl
theorem rw_o1_11 (S : ZS) (x : Int) : (rd S).set 1 (.inr (4, ([.ref 2, .ref 3, .ref 4, .ref 5, .ref 6, .ref 7, .int (zI (S.2.1 1 6)), .int (zI (S.2.1 1 7)), .int (zI (S.2.1 1 8)), .int (zI (S.2.1 1 9)), .int (zI (S.2.1 1 10)), .int (zI (S.2.1 1 11))] : List Value).set 11 (.int (zI x)))) = rd (wF S 1 11 x) := rfl
theorem rd_a2 (S : ZS) : (rd S)[2]? = some (cI 0 8 (S.1 2)) := rfl
theorem rw_a2 (S : ZS) (f : Int → Int) : (rd S).set 2 (cI 0 8 f) = rd (wR S 2 f) := rfl
theorem rd_a3 (S : ZS) : (rd S)[3]? = some (cI 0 8 (S.1 3)) := rfl
theorem rw_a3 (S : ZS) (f : Int → Int) : (rd S).set 3 (cI 0 8 f) = rd (wR S 3 f) := rfl
theorem rd_a4 (S : ZS) : (rd S)[4]? = some (cI 0 8 (S.1 4)) := rfl
theorem rw_a4 (S : ZS) (f : Int → Int) : (rd S).set 4 (cI 0 8 f) = rd (wR S 4 f) := rfl
theorem rd_a5 (S : ZS) : (rd S)[5]? = some (cI 0 8 (S.1 5)) := rfl
theorem rw_a5 (S : ZS) (f : Int → Int) : (rd S).set 5 (cI 0 8 f) = rd (wR S 5 f) := rfl
theorem rd_a6 (S : ZS) : (rd S)[6]? = some (cI 0 8 (S.1 6)) := rfl
theorem rw_a6 (S : ZS) (f : Int → Int) : (rd S).set 6 (cI 0 8 f) = rd (wR S 6 f) := rfl
theorem rd_a7 (S : ZS) : (rd S)[7]? = some (cI 0 4 (S.1 7)) := rfl
theorem rw_a7 (S : ZS) (f : Int → Int) : (rd S).set 7 (cI 0 4 f) = rd (wR S 7 f) := rfl
theorem rd_o8 (S : ZS) : (rd S)[8]? = some (.inr (4, [.ref 9, .ref 10, .ref 11, .ref 12, .ref 13, .ref 14, .int (zI (S.2.1 8 6)), .int (zI (S.2.1 8 7)), .int (zI (S.2.1 8 8)), .int (zI (S.2.1 8 9)), .int (zI (S.2.1 8 10)), .int (zI (S.2.1 8 11))])) := rfl
theorem rw_o8_6 (S : ZS) (x : Int) : (rd S).set 8 (.inr (4, ([.ref 9, .ref 10, .ref 11, .ref 12, .ref 13, .ref 14, .int (zI (S.2.1 8 6)), .int (zI (S.2.1 8 7)), .int (zI (S.2.1 8 8)), .int (zI (S.2.1 8 9)), .int (zI (S.2.1 8 10)), .int (zI (S.2.1 8 11))] : List Value).set 6 (.int (zI x)))) = rd (wF S 8 6 x) := rfl
theorem rw_o8_7 (S : ZS) (x : Int) : (rd S).set 8 (.inr (4, ([.ref 9, .ref 10, .ref 11, .ref 12, .ref 13, .ref 14, .int (zI (S.2.1 8 6)), .int (zI (S.2.1 8 7)), .int (zI (S.2.1 8 8)), .int (zI (S.2.1 8 9)), .int (zI (S.2.1 8 10)), .int (zI (S.2.1 8 11))] : List Value).set 7 (.int (zI x)))) = rd (wF S 8 7 x) := rfl
theorem rw_o8_8 (S : ZS) (x : Int) : (rd S).set 8 (.inr (4, ([.ref 9, .ref 10, .ref 11, .ref 12, .ref 13, .ref 14, .int (zI (S.2.1 8 6)), .int (zI (S.2.1 8 7)), .int (zI (S.2.1 8 8)), .int (zI (S.2.1 8 9)), .int (zI (S.2.1 8 10)), .int (zI (S.2.1 8 11))] : List Value).set 8 (.int (zI x)))) = rd (wF S 8 8 x) := rfl
theorem rw_o8_9 (S : ZS) (x : Int) : (rd S).set 8 (.inr (4, ([.ref 9, .ref 10, .ref 11, .ref 12, .ref 13, .ref 14, .int (zI (S.2.1 8 6)), .int (zI (S.2.1 8 7)), .int (zI (S.2.1 8 8)), .int (zI (S.2.1 8 9)), .int (zI (S.2.1 8 10)), .int (zI (S.2.1 8 11))] : List Value).set 9 (.int (zI x)))) = rd (wF S 8 9 x) := rfl
theorem rw_o8_10 (S : ZS) (x : Int) : (rd S).set 8 (.inr (4, ([.ref 9, .ref 10, .ref 11, .ref 12, .ref 13, .ref 14, .int (zI (S.2.1 8 6)), .int (zI (S.2.1 8 7)), .int (zI (S.2.1 8 8)), .int (zI (S.2.1 8 9)), .int (zI (S.2.1 8 10)), .int (zI (S.2.1 8 11))] : List Value).set 10 (.int (zI x)))) = rd (wF S 8 10 x) := rfl
theorem rw_o8_11 (S : ZS) (x : Int) : (rd S).set 8 (.inr (4, ([.ref 9, .ref 10, .ref 11, .ref 12, .ref 13, .ref 14, .int (zI (S.2.1 8 6)), .int (zI (S.2.1 8 7)), .int (zI (S.2.1 8 8)), .int (zI (S.2.1 8 9)), .int (zI (S.2.1 8 10)), .int (zI (S.2.1 8 11))] : List Value).set 11 (.int (zI x)))) = rd (wF S 8 11 x) := rfl
theorem rd_a9 (S : ZS) : (rd S)[9]? = some (cI 0 8 (S.1 9)) := rfl
theorem rw_a9 (S : ZS) (f : Int → Int) : (rd S).set 9 (cI 0 8 f) = rd (wR S 9 f) := rfl
theorem rd_a10 (S : ZS) : (rd S)[10]? = some (cI 0 8 (S.1 10)) := rfl
theorem rw_a10 (S : ZS) (f : Int → Int) : (rd S).set 10 (cI 0 8 f) = rd (wR S 10 f) := rfl
theorem rd_a11 (S : ZS) : (rd S)[11]? = some (cI 0 8 (S.1 11)) := rfl
theorem rw_a11 (S : ZS) (f : Int → Int) : (rd S).set 11 (cI 0 8 f) = rd (wR S 11 f) := rfl
theorem rd_a12 (S : ZS) : (rd S)[12]? = some (cI 0 8 (S.1 12)) := rfl
theorem rw_a12 (S : ZS) (f : Int → Int) : (rd S).set 12 (cI 0 8 f) = rd (wR S 12 f) := rfl
theorem rd_a13 (S : ZS) : (rd S)[13]? = some (cI 0 8 (S.1 13)) := rfl
theorem rw_a13 (S : ZS) (f : Int → Int) : (rd S).set 13 (cI 0 8 f) = rd (wR S 13 f) := rfl
theorem rd_a14 (S : ZS) : (rd S)[14]? = some (cI 0 4 (S.1 14)) := rfl
theorem rw_a14 (S : ZS) (f : Int → Int) : (rd S).set 14 (cI 0 4 f) = rd (wR S 14 f) := rfl
theorem rd_o15 (S : ZS) : (rd S)[15]? = some (.inr (4, [.ref 16, .ref 17, .ref 18, .ref 19, .ref 20, .ref 21, .int (zI (S.2.1 15 6)), .int (zI (S.2.1 15 7)), .int (zI (S.2.1 15 8)), .int (zI (S.2.1 15 9)), .int (zI (S.2.1 15 10)), .int (zI (S.2.1 15 11))])) := rfl
theorem rw_o15_6 (S : ZS) (x : Int) : (rd S).set 15 (.inr (4, ([.ref 16, .ref 17, .ref 18, .ref 19, .ref 20, .ref 21, .int (zI (S.2.1 15 6)), .int (zI (S.2.1 15 7)), .int (zI (S.2.1 15 8)), .int (zI (S.2.1 15 9)), .int (zI (S.2.1 15 10)), .int (zI (S.2.1 15 11))] : List Value).set 6 (.int (zI x)))) = rd (wF S 15 6 x) := rfl
theorem rw_o15_7 (S : ZS) (x : Int) : (rd S).set 15 (.inr (4, ([.ref 16, .ref 17, .ref 18, .ref 19, .ref 20, .ref 21, .int (zI (S.2.1 15 6)), .int (zI (S.2.1 15 7)), .int (zI (S.2.1 15 8)), .int (zI (S.2.1 15 9)), .int (zI (S.2.1 15 10)), .int (zI (S.2.1 15 11))] : List Value).set 7 (.int (zI x)))) = rd (wF S 15 7 x) := rfl
theorem rw_o15_8 (S : ZS) (x : Int) : (rd S).set 15 (.inr (4, ([.ref 16, .ref 17, .ref 18, .ref 19, .ref 20, .ref 21, .int (zI (S.2.1 15 6)), .int (zI (S.2.1 15 7)), .int (zI (S.2.1 15 8)), .int (zI (S.2.1 15 9)), .int (zI (S.2.1 15 10)), .int (zI (S.2.1 15 11))] : List Value).set 8 (.int (zI x)))) = rd (wF S 15 8 x) := rfl
theorem rw_o15_9 (S : ZS) (x : Int) : (rd S).set 15 (.inr (4, ([.ref 16, .ref 17, .ref 18, .ref 19, .ref 20, .ref 21, .int (zI (S.2.1 15 6)), .int (zI (S.2.1 15 7)), .int (zI (S.2.1 15 8)), .int (zI (S.2.1 15 9)), .int (zI (S.2.1 15 10)), .int (zI (S.2.1 15 11))] : List Value).set 9 (.int (zI x)))) = rd (wF S 15 9 x) := rfl
theorem rw_o15_10 (S : ZS) (x : Int) : (rd S).set 15 (.inr (4, ([.ref 16, .ref 17, .ref 18, .ref 19, .ref 20, .ref 21, .int (zI (S.2.1 15 6)), .int (zI (S.2.1 15 7)), .int (zI (S.2.1 15 8)), .int (zI (S.2.1 15 9)), .int (zI (S.2.1 15 10)), .int (zI (S.2.1 15 11))] : List Value).set 10 (.int (zI x)))) = rd (wF S 15 10 x) := rfl
theorem rw_o15_11 (S : ZS) (x : Int) : (rd S).set 15 (.inr (4, ([.ref 16, .ref 17, .ref 18, .ref 19, .ref 20, .ref 21, .int (zI (S.2.1 15 6)), .int (zI (S.2.1 15 7)), .int (zI (S.2.1 15 8)), .int (zI (S.2.1 15 9)), .int (zI (S.2.1 15 10)), .int (zI (S.2.1 15 11))] : List Value).set 11 (.int (zI x)))) = rd (wF S 15 11 x) := rfl
theorem rd_a16 (S : ZS) : (rd S)[16]? = some (cI 0 8 (S.1 16)) := rfl
theorem rw_a16 (S : ZS) (f : Int → Int) : (rd S).set 16 (cI 0 8 f) = rd (wR S 16 f) := rfl
theorem rd_a17 (S : ZS) : (rd S)[17]? = some (cI 0 8 (S.1 17)) := rfl
theorem rw_a17 (S : ZS) (f : Int → Int) : (rd S).set 17 (cI 0 8 f) = rd (wR S 17 f) := rfl
theorem rd_a18 (S : ZS) : (rd S)[18]? = some (cI 0 8 (S.1 18)) := rfl
theorem rw_a18 (S : ZS) (f : Int → Int) : (rd S).set 18 (cI 0 8 f) = rd (wR S 18 f) := rfl
theorem rd_a19 (S : ZS) : (rd S)[19]? = some (cI 0 8 (S.1 19)) := rfl
theorem rw_a19 (S : ZS) (f : Int → Int) : (rd S).set 19 (cI 0 8 f) = rd (wR S 19 f) := rfl
theorem rd_a20 (S : ZS) : (rd S)[20]? = some (cI 0 8 (S.1 20)) := rfl
theorem rw_a20 (S : ZS) (f : Int → Int) : (rd S).set 20 (cI 0 8 f) = rd (wR S 20 f) := rfl
theorem rd_a21 (S : ZS) : (rd S)[21]? = some (cI 0 4 (S.1 21)) := rfl
theorem rw_a21 (S : ZS) (f : Int → Int) : (rd S).set 21 (cI 0 4 f) = rd (wR S 21 f) := rfl
theorem rd_o22 (S : ZS) : (rd S)[22]? = some (.inr (3, [.ref 23, .int (zI (S.2.1 22 1)), .int (zI (S.2.1 22 2))])) := rfl
theorem rw_o22_1 (S : ZS) (x : Int) : (rd S).set 22 (.inr (3, ([.ref 23, .int (zI (S.2.1 22 1)), .int (zI (S.2.1 22 2))] : List Value).set 1 (.int (zI x)))) = rd (wF S 22 1 x) := rfl
theorem rw_o22_2 (S : ZS) (x : Int) : (rd S).set 22 (.inr (3, ([.ref 23, .int (zI (S.2.1 22 1)), .int (zI (S.2.1 22 2))] : List Value).set 2 (.int (zI x)))) = rd (wF S 22 2 x) := rfl
theorem rd_a23 (S : ZS) : (rd S)[23]? = some (cI 3 160 (S.1 23)) := rfl
theorem rw_a23 (S : ZS) (f : Int → Int) : (rd S).set 23 (cI 3 160 f) = rd (wR S 23 f) := rfl
theorem rd_o24 (S : ZS) : (rd S)[24]? = some (.inr (5, [.ref 25, .ref 26, .ref 27, .ref 28, .ref 29, .ref 30, .ref (nd S), .ref 32, .int (zI (S.2.1 24 8)), .int (zI (S.2.1 24 9)), .int (zI (S.2.1 24 10)), .int (zI (S.2.1 24 11)), .int (zI (S.2.1 24 12)), .int (zI (S.2.1 24 13)), .int (zI (S.2.1 24 14)), .int (zI (S.2.1 24 15)), .int (zI (S.2.1 24 16))])) := rfl
theorem rw_o24_8 (S : ZS) (x : Int) : (rd S).set 24 (.inr (5, ([.ref 25, .ref 26, .ref 27, .ref 28, .ref 29, .ref 30, .ref (nd S), .ref 32, .int (zI (S.2.1 24 8)), .int (zI (S.2.1 24 9)), .int (zI (S.2.1 24 10)), .int (zI (S.2.1 24 11)), .int (zI (S.2.1 24 12)), .int (zI (S.2.1 24 13)), .int (zI (S.2.1 24 14)), .int (zI (S.2.1 24 15)), .int (zI (S.2.1 24 16))] : List Value).set 8 (.int (zI x)))) = rd (wF S 24 8 x) := rfl
theorem rw_o24_9 (S : ZS) (x : Int) : (rd S).set 24 (.inr (5, ([.ref 25, .ref 26, .ref 27, .ref 28, .ref 29, .ref 30, .ref (nd S), .ref 32, .int (zI (S.2.1 24 8)), .int (zI (S.2.1 24 9)), .int (zI (S.2.1 24 10)), .int (zI (S.2.1 24 11)), .int (zI (S.2.1 24 12)), .int (zI (S.2.1 24 13)), .int (zI (S.2.1 24 14)), .int (zI (S.2.1 24 15)), .int (zI (S.2.1 24 16))] : List Value).set 9 (.int (zI x)))) = rd (wF S 24 9 x) := rfl
theorem rw_o24_10 (S : ZS) (x : Int) : (rd S).set 24 (.inr (5, ([.ref 25, .ref 26, .ref 27, .ref 28, .ref 29, .ref 30, .ref (nd S), .ref 32, .int (zI (S.2.1 24 8)), .int (zI (S.2.1 24 9)), .int (zI (S.2.1 24 10)), .int (zI (S.2.1 24 11)), .int (zI (S.2.1 24 12)), .int (zI (S.2.1 24 13)), .int (zI (S.2.1 24 14)), .int (zI (S.2.1 24 15)), .int (zI (S.2.1 24 16))] : List Value).set 10 (.int (zI x)))) = rd (wF S 24 10 x) := rfl
theorem rw_o24_11 (S : ZS) (x : Int) : (rd S).set 24 (.inr (5, ([.ref 25, .ref 26, .ref 27, .ref 28, .ref 29, .ref 30, .ref (nd S), .ref 32, .int (zI (S.2.1 24 8)), .int (zI (S.2.1 24 9)), .int (zI (S.2.1 24 10)), .int (zI (S.2.1 24 11)), .int (zI (S.2.1 24 12)), .int (zI (S.2.1 24 13)), .int (zI (S.2.1 24 14)), .int (zI (S.2.1 24 15)), .int (zI (S.2.1 24 16))] : List Value).set 11 (.int (zI x)))) = rd (wF S 24 11 x) := rfl
theorem rw_o24_12 (S : ZS) (x : Int) : (rd S).set 24 (.inr (5, ([.ref 25, .ref 26, .ref 27, .ref 28, .ref 29, .ref 30, .ref (nd S), .ref 32, .int (zI (S.2.1 24 8)), .int (zI (S.2.1 24 9)), .int (zI (S.2.1 24 10)), .int (zI (S.2.1 24 11)), .int (zI (S.2.1 24 12)), .int (zI (S.2.1 24 13)), .int (zI (S.2.1 24 14)), .int (zI (S.2.1 24 15)), .int (zI (S.2.1 24 16))] : List Value).set 12 (.int (zI x)))) = rd (wF S 24 12 x) := rfl
theorem rw_o24_13 (S : ZS) (x : Int) : (rd S).set 24 (.inr (5, ([.ref 25, .ref 26, .ref 27, .ref 28, .ref 29, .ref 30, .ref (nd S), .ref 32, .int (zI (S.2.1 24 8)), .int (zI (S.2.1 24 9)), .int (zI (S.2.1 24 10)), .int (zI (S.2.1 24 11)), .int (zI (S.2.1 24 12)), .int (zI (S.2.1 24 13)), .int (zI (S.2.1 24 14)), .int (zI (S.2.1 24 15)), .int (zI (S.2.1 24 16))] : List Value).set 13 (.int (zI x)))) = rd (wF S 24 13 x) := rfl
theorem rw_o24_14 (S : ZS) (x : Int) : (rd S).set 24 (.inr (5, ([.ref 25, .ref 26, .ref 27, .ref 28, .ref 29, .ref 30, .ref (nd S), .ref 32, .int (zI (S.2.1 24 8)), .int (zI (S.2.1 24 9)), .int (zI (S.2.1 24 10)), .int (zI (S.2.1 24 11)), .int (zI (S.2.1 24 12)), .int (zI (S.2.1 24 13)), .int (zI (S.2.1 24 14)), .int (zI (S.2.1 24 15)), .int (zI (S.2.1 24 16))] : List Value).set 14 (.int (zI x)))) = rd (wF S 24 14 x) := rfl
theorem rw_o24_15 (S : ZS) (x : Int) : (rd S).set 24 (.inr (5, ([.ref 25, .ref 26, .ref 27, .ref 28, .ref 29, .ref 30, .ref (nd S), .ref 32, .int (zI (S.2.1 24 8)), .int (zI (S.2.1 24 9)), .int (zI (S.2.1 24 10)), .int (zI (S.2.1 24 11)), .int (zI (S.2.1 24 12)), .int (zI (S.2.1 24 13)), .int (zI (S.2.1 24 14)), .int (zI (S.2.1 24 15)), .int (zI (S.2.1 24 16))] : List Value).set 15 (.int (zI x)))) = rd (wF S 24 15 x) := rfl
theorem rw_o24_16 (S : ZS) (x : Int) : (rd S).set 24 (.inr (5, ([.ref 25, .ref 26, .ref 27, .ref 28, .ref 29, .ref 30, .ref (nd S), .ref 32, .int (zI (S.2.1 24 8)), .int (zI (S.2.1 24 9)), .int (zI (S.2.1 24 10)), .int (zI (S.2.1 24 11)), .int (zI (S.2.1 24 12)), .int (zI (S.2.1 24 13)), .int (zI (S.2.1 24 14)), .int (zI (S.2.1 24 15)), .int (zI (S.2.1 24 16))] : List Value).set 16 (.int (zI x)))) = rd (wF S 24 16 x) := rfl
theorem rd_a25 (S : ZS) : (rd S)[25]? = some (cI 0 256 (S.1 25)) := rfl
theorem rw_a25 (S : ZS) (f : Int → Int) : (rd S).set 25 (cI 0 256 f) = rd (wR S 25 f) := rfl
theorem rd_a26 (S : ZS) : (rd S)[26]? = some (cI 0 256 (S.1 26)) := rfl
theorem rw_a26 (S : ZS) (f : Int → Int) : (rd S).set 26 (cI 0 256 f) = rd (wR S 26 f) := rfl
theorem rd_a27 (S : ZS) : (rd S)[27]? = some (cI 0 256 (S.1 27)) := rfl
theorem rw_a27 (S : ZS) (f : Int → Int) : (rd S).set 27 (cI 0 256 f) = rd (wR S 27 f) := rfl
theorem rd_a28 (S : ZS) : (rd S)[28]? = some (cI 2 256 (S.1 28)) := rfl
theorem rw_a28 (S : ZS) (f : Int → Int) : (rd S).set 28 (cI 2 256 f) = rd (wR S 28 f) := rfl
theorem rd_a29 (S : ZS) : (rd S)[29]? = some (cI 2 256 (S.1 29)) := rfl
theorem rw_a29 (S : ZS) (f : Int → Int) : (rd S).set 29 (cI 2 256 f) = rd (wR S 29 f) := rfl
theorem rd_a30 (S : ZS) : (rd S)[30]? = some (cI 0 256 (S.1 30)) := rfl
theorem rw_a30 (S : ZS) (f : Int → Int) : (rd S).set 30 (cI 0 256 f) = rd (wR S 30 f) := rfl
theorem rd_a32 (S : ZS) : (rd S)[32]? = some (cI 0 256 (S.1 32)) := rfl
theorem rw_a32 (S : ZS) (f : Int → Int) : (rd S).set 32 (cI 0 256 f) = rd (wR S 32 f) := rfl
theorem rd_o33 (S : ZS) : (rd S)[33]? = some (.inr (1, [.ref 34, .ref 35, .ref 36, .ref 37, .ref 38, .ref 39, .ref 40, .ref 41, .ref 42, .int (zI (S.2.1 33 9)), .int (zI (S.2.1 33 10)), .int (zI (S.2.1 33 11)), .int (zI (S.2.1 33 12))])) := rfl
theorem rw_o33_9 (S : ZS) (x : Int) : (rd S).set 33 (.inr (1, ([.ref 34, .ref 35, .ref 36, .ref 37, .ref 38, .ref 39, .ref 40, .ref 41, .ref 42, .int (zI (S.2.1 33 9)), .int (zI (S.2.1 33 10)), .int (zI (S.2.1 33 11)), .int (zI (S.2.1 33 12))] : List Value).set 9 (.int (zI x)))) = rd (wF S 33 9 x) := rfl
theorem rw_o33_10 (S : ZS) (x : Int) : (rd S).set 33 (.inr (1, ([.ref 34, .ref 35, .ref 36, .ref 37, .ref 38, .ref 39, .ref 40, .ref 41, .ref 42, .int (zI (S.2.1 33 9)), .int (zI (S.2.1 33 10)), .int (zI (S.2.1 33 11)), .int (zI (S.2.1 33 12))] : List Value).set 10 (.int (zI x)))) = rd (wF S 33 10 x) := rfl
theorem rw_o33_11 (S : ZS) (x : Int) : (rd S).set 33 (.inr (1, ([.ref 34, .ref 35, .ref 36, .ref 37, .ref 38, .ref 39, .ref 40, .ref 41, .ref 42, .int (zI (S.2.1 33 9)), .int (zI (S.2.1 33 10)), .int (zI (S.2.1 33 11)), .int (zI (S.2.1 33 12))] : List Value).set 11 (.int (zI x)))) = rd (wF S 33 11 x) := rfl
theorem rw_o33_12 (S : ZS) (x : Int) : (rd S).set 33 (.inr (1, ([.ref 34, .ref 35, .ref 36, .ref 37, .ref 38, .ref 39, .ref 40, .ref 41, .ref 42, .int (zI (S.2.1 33 9)), .int (zI (S.2.1 33 10)), .int (zI (S.2.1 33 11)), .int (zI (S.2.1 33 12))] : List Value).set 12 (.int (zI x)))) = rd (wF S 33 12 x) := rfl
theorem rd_a34 (S : ZS) : (rd S)[34]? = some (cI 0 9 (S.1 34)) := rfl
theorem rw_a34 (S : ZS) (f : Int → Int) : (rd S).set 34 (cI 0 9 f) = rd (wR S 34 f) := rfl
theorem rd_a35 (S : ZS) : (rd S)[35]? = some (cI 0 9 (S.1 35)) := rfl
theorem rw_a35 (S : ZS) (f : Int → Int) : (rd S).set 35 (cI 0 9 f) = rd (wR S 35 f) := rfl
theorem rd_a36 (S : ZS) : (rd S)[36]? = some (cI 0 9 (S.1 36)) := rfl
theorem rw_a36 (S : ZS) (f : Int → Int) : (rd S).set 36 (cI 0 9 f) = rd (wR S 36 f) := rfl
theorem rd_a37 (S : ZS) : (rd S)[37]? = some (cI 0 9 (S.1 37)) := rfl
theorem rw_a37 (S : ZS) (f : Int → Int) : (rd S).set 37 (cI 0 9 f) = rd (wR S 37 f) := rfl
theorem rd_a38 (S : ZS) : (rd S)[38]? = some (cI 0 8 (S.1 38)) := rfl
theorem rw_a38 (S : ZS) (f : Int → Int) : (rd S).set 38 (cI 0 8 f) = rd (wR S 38 f) := rfl
theorem rd_a39 (S : ZS) : (rd S)[39]? = some (cI 0 8 (S.1 39)) := rfl
theorem rw_a39 (S : ZS) (f : Int → Int) : (rd S).set 39 (cI 0 8 f) = rd (wR S 39 f) := rfl
theorem rd_a40 (S : ZS) : (rd S)[40]? = some (cI 0 8 (S.1 40)) := rfl
theorem rw_a40 (S : ZS) (f : Int → Int) : (rd S).set 40 (cI 0 8 f) = rd (wR S 40 f) := rfl
theorem rd_a41 (S : ZS) : (rd S)[41]? = some (cI 0 8 (S.1 41)) := rfl
theorem rw_a41 (S : ZS) (f : Int → Int) : (rd S).set 41 (cI 0 8 f) = rd (wR S 41 f) := rfl
theorem rd_a42 (S : ZS) : (rd S)[42]? = some (cI 0 72 (S.1 42)) := rfl
theorem rw_a42 (S : ZS) (f : Int → Int) : (rd S).set 42 (cI 0 72 f) = rd (wR S 42 f) := rfl
theorem rd_o43 (S : ZS) : (rd S)[43]? = some (.inr (0, [.ref 44])) := rfl
theorem rd_a44 (S : ZS) : (rd S)[44]? = some (cI 0 8 (S.1 44)) := rfl
theorem rw_a44 (S : ZS) (f : Int → Int) : (rd S).set 44 (cI 0 8 f) = rd (wR S 44 f) := rfl
theorem rd_o45 (S : ZS) : (rd S)[45]? = some (.inr (2, [.ref 46, .ref 47, .ref 48])) := rfl
theorem rd_a46 (S : ZS) : (rd S)[46]? = some (cL 96 (S.1 46)) := rfl
theorem rw_a46 (S : ZS) (f : Int → Int) : (rd S).set 46 (cL 96 f) = rd (wR S 46 f) := rfl
theorem rd_a47 (S : ZS) : (rd S)[47]? = some (cI 0 4 (S.1 47)) := rfl
theorem rw_a47 (S : ZS) (f : Int → Int) : (rd S).set 47 (cI 0 4 f) = rd (wR S 47 f) := rfl
theorem rd_a48 (S : ZS) : (rd S)[48]? = some (cI 0 4 (S.1 48)) := rfl
theorem rw_a48 (S : ZS) (f : Int → Int) : (rd S).set 48 (cI 0 4 f) = rd (wR S 48 f) := rfl
theorem rd_o49 (S : ZS) : (rd S)[49]? = some (.inr (7, [.ref 50, .int (zI (S.2.1 49 1)), .int (zI (S.2.1 49 2)), .int (zI (S.2.1 49 3)), .int (zI (S.2.1 49 4)), .int (zI (S.2.1 49 5)), .ref 51, .int (zI (S.2.1 49 7)), .ref 52, .int (zI (S.2.1 49 9)), .int (zI (S.2.1 49 10)), .int (zI (S.2.1 49 11)), .int (zI (S.2.1 49 12)), .ref 53, .ref 54, .ref 55, .ref 56, .ref 57, .ref 58, .ref 59, .ref 60, .ref 61, .ref 62, .ref 63, .ref 64, .ref 65, .ref 66, .ref 67, .int (zI (S.2.1 49 28)), .ref 68, .ref 69, .ref 70, .ref 71, .ref 72, .int (zI (S.2.1 49 34)), .ref 73])) := rfl
theorem rw_o49_1 (S : ZS) (x : Int) : (rd S).set 49 (.inr (7, ([.ref 50, .int (zI (S.2.1 49 1)), .int (zI (S.2.1 49 2)), .int (zI (S.2.1 49 3)), .int (zI (S.2.1 49 4)), .int (zI (S.2.1 49 5)), .ref 51, .int (zI (S.2.1 49 7)), .ref 52, .int (zI (S.2.1 49 9)), .int (zI (S.2.1 49 10)), .int (zI (S.2.1 49 11)), .int (zI (S.2.1 49 12)), .ref 53, .ref 54, .ref 55, .ref 56, .ref 57, .ref 58, .ref 59, .ref 60, .ref 61, .ref 62, .ref 63, .ref 64, .ref 65, .ref 66, .ref 67, .int (zI (S.2.1 49 28)), .ref 68, .ref 69, .ref 70, .ref 71, .ref 72, .int (zI (S.2.1 49 34)), .ref 73] : List Value).set 1 (.int (zI x)))) = rd (wF S 49 1 x) := rfl
theorem rw_o49_2 (S : ZS) (x : Int) : (rd S).set 49 (.inr (7, ([.ref 50, .int (zI (S.2.1 49 1)), .int (zI (S.2.1 49 2)), .int (zI (S.2.1 49 3)), .int (zI (S.2.1 49 4)), .int (zI (S.2.1 49 5)), .ref 51, .int (zI (S.2.1 49 7)), .ref 52, .int (zI (S.2.1 49 9)), .int (zI (S.2.1 49 10)), .int (zI (S.2.1 49 11)), .int (zI (S.2.1 49 12)), .ref 53, .ref 54, .ref 55, .ref 56, .ref 57, .ref 58, .ref 59, .ref 60, .ref 61, .ref 62, .ref 63, .ref 64, .ref 65, .ref 66, .ref 67, .int (zI (S.2.1 49 28)), .ref 68, .ref 69, .ref 70, .ref 71, .ref 72, .int (zI (S.2.1 49 34)), .ref 73] : List Value).set 2 (.int (zI x)))) = rd (wF S 49 2 x) := rfl
theorem rw_o49_3 (S : ZS) (x : Int) : (rd S).set 49 (.inr (7, ([.ref 50, .int (zI (S.2.1 49 1)), .int (zI (S.2.1 49 2)), .int (zI (S.2.1 49 3)), .int (zI (S.2.1 49 4)), .int (zI (S.2.1 49 5)), .ref 51, .int (zI (S.2.1 49 7)), .ref 52, .int (zI (S.2.1 49 9)), .int (zI (S.2.1 49 10)), .int (zI (S.2.1 49 11)), .int (zI (S.2.1 49 12)), .ref 53, .ref 54, .ref 55, .ref 56, .ref 57, .ref 58, .ref 59, .ref 60, .ref 61, .ref 62, .ref 63, .ref 64, .ref 65, .ref 66, .ref 67, .int (zI (S.2.1 49 28)), .ref 68, .ref 69, .ref 70, .ref 71, .ref 72, .int (zI (S.2.1 49 34)), .ref 73] : List Value).set 3 (.int (zI x)))) = rd (wF S 49 3 x) := rfl
theorem rw_o49_4 (S : ZS) (x : Int) : (rd S).set 49 (.inr (7, ([.ref 50, .int (zI (S.2.1 49 1)), .int (zI (S.2.1 49 2)), .int (zI (S.2.1 49 3)), .int (zI (S.2.1 49 4)), .int (zI (S.2.1 49 5)), .ref 51, .int (zI (S.2.1 49 7)), .ref 52, .int (zI (S.2.1 49 9)), .int (zI (S.2.1 49 10)), .int (zI (S.2.1 49 11)), .int (zI (S.2.1 49 12)), .ref 53, .ref 54, .ref 55, .ref 56, .ref 57, .ref 58, .ref 59, .ref 60, .ref 61, .ref 62, .ref 63, .ref 64, .ref 65, .ref 66, .ref 67, .int (zI (S.2.1 49 28)), .ref 68, .ref 69, .ref 70, .ref 71, .ref 72, .int (zI (S.2.1 49 34)), .ref 73] : List Value).set 4 (.int (zI x)))) = rd (wF S 49 4 x) := rfl
theorem rw_o49_5 (S : ZS) (x : Int) : (rd S).set 49 (.inr (7, ([.ref 50, .int (zI (S.2.1 49 1)), .int (zI (S.2.1 49 2)), .int (zI (S.2.1 49 3)), .int (zI (S.2.1 49 4)), .int (zI (S.2.1 49 5)), .ref 51, .int (zI (S.2.1 49 7)), .ref 52, .int (zI (S.2.1 49 9)), .int (zI (S.2.1 49 10)), .int (zI (S.2.1 49 11)), .int (zI (S.2.1 49 12)), .ref 53, .ref 54, .ref 55, .ref 56, .ref 57, .ref 58, .ref 59, .ref 60, .ref 61, .ref 62, .ref 63, .ref 64, .ref 65, .ref 66, .ref 67, .int (zI (S.2.1 49 28)), .ref 68, .ref 69, .ref 70, .ref 71, .ref 72, .int (zI (S.2.1 49 34)), .ref 73] : List Value).set 5 (.int (zI x)))) = rd (wF S 49 5 x) := rfl
theorem rw_o49_7 (S : ZS) (x : Int) : (rd S).set 49 (.inr (7, ([.ref 50, .int (zI (S.2.1 49 1)), .int (zI (S.2.1 49 2)), .int (zI (S.2.1 49 3)), .int (zI (S.2.1 49 4)), .int (zI (S.2.1 49 5)), .ref 51, .int (zI (S.2.1 49 7)), .ref 52, .int (zI (S.2.1 49 9)), .int (zI (S.2.1 49 10)), .int (zI (S.2.1 49 11)), .int (zI (S.2.1 49 12)), .ref 53, .ref 54, .ref 55, .ref 56, .ref 57, .ref 58, .ref 59, .ref 60, .ref 61, .ref 62, .ref 63, .ref 64, .ref 65, .ref 66, .ref 67, .int (zI (S.2.1 49 28)), .ref 68, .ref 69, .ref 70, .ref 71, .ref 72, .int (zI (S.2.1 49 34)), .ref 73] : List Value).set 7 (.int (zI x)))) = rd (wF S 49 7 x) := rfl
theorem rw_o49_9 (S : ZS) (x : Int) : (rd S).set 49 (.inr (7, ([.ref 50, .int (zI (S.2.1 49 1)), .int (zI (S.2.1 49 2)), .int (zI (S.2.1 49 3)), .int (zI (S.2.1 49 4)), .int (zI (S.2.1 49 5)), .ref 51, .int (zI (S.2.1 49 7)), .ref 52, .int (zI (S.2.1 49 9)), .int (zI (S.2.1 49 10)), .int (zI (S.2.1 49 11)), .int (zI (S.2.1 49 12)), .ref 53, .ref 54, .ref 55, .ref 56, .ref 57, .ref 58, .ref 59, .ref 60, .ref 61, .ref 62, .ref 63, .ref 64, .ref 65, .ref 66, .ref 67, .int (zI (S.2.1 49 28)), .ref 68, .ref 69, .ref 70, .ref 71, .ref 72, .int (zI (S.2.1 49 34)), .ref 73] : List Value).set 9 (.int (zI x)))) = rd (wF S 49 9 x) := rfl
theorem rw_o49_10 (S : ZS) (x : Int) : (rd S).set 49 (.inr (7, ([.ref 50, .int (zI (S.2.1 49 1)), .int (zI (S.2.1 49 2)), .int (zI (S.2.1 49 3)), .int (zI (S.2.1 49 4)), .int (zI (S.2.1 49 5)), .ref 51, .int (zI (S.2.1 49 7)), .ref 52, .int (zI (S.2.1 49 9)), .int (zI (S.2.1 49 10)), .int (zI (S.2.1 49 11)), .int (zI (S.2.1 49 12)), .ref 53, .ref 54, .ref 55, .ref 56, .ref 57, .ref 58, .ref 59, .ref 60, .ref 61, .ref 62, .ref 63, .ref 64, .ref 65, .ref 66, .ref 67, .int (zI (S.2.1 49 28)), .ref 68, .ref 69, .ref 70, .ref 71, .ref 72, .int (zI (S.2.1 49 34)), .ref 73] : List Value).set 10 (.int (zI x)))) = rd (wF S 49 10 x) := rfl
theorem rw_o49_11 (S : ZS) (x : Int) : (rd S).set 49 (.inr (7, ([.ref 50, .int (zI (S.2.1 49 1)), .int (zI (S.2.1 49 2)), .int (zI (S.2.1 49 3)), .int (zI (S.2.1 49 4)), .int (zI (S.2.1 49 5)), .ref 51, .int (zI (S.2.1 49 7)), .ref 52, .int (zI (S.2.1 49 9)), .int (zI (S.2.1 49 10)), .int (zI (S.2.1 49 11)), .int (zI (S.2.1 49 12)), .ref 53, .ref 54, .ref 55, .ref 56, .ref 57, .ref 58, .ref 59, .ref 60, .ref 61, .ref 62, .ref 63, .ref 64, .ref 65, .ref 66, .ref 67, .int (zI (S.2.1 49 28)), .ref 68, .ref 69, .ref 70, .ref 71, .ref 72, .int (zI (S.2.1 49 34)), .ref 73] : List Value).set 11 (.int (zI x)))) = rd (wF S 49 11 x) := rfl
theorem rw_o49_12 (S : ZS) (x : Int) : (rd S).set 49 (.inr (7, ([.ref 50, .int (zI (S.2.1 49 1)), .int (zI (S.2.1 49 2)), .int (zI (S.2.1 49 3)), .int (zI (S.2.1 49 4)), .int (zI (S.2.1 49 5)), .ref 51, .int (zI (S.2.1 49 7)), .ref 52, .int (zI (S.2.1 49 9)), .int (zI (S.2.1 49 10)), .int (zI (S.2.1 49 11)), .int (zI (S.2.1 49 12)), .ref 53, .ref 54, .ref 55, .ref 56, .ref 57, .ref 58, .ref 59, .ref 60, .ref 61, .ref 62, .ref 63, .ref 64, .ref 65, .ref 66, .ref 67, .int (zI (S.2.1 49 28)), .ref 68, .ref 69, .ref 70, .ref 71, .ref 72, .int (zI (S.2.1 49 34)), .ref 73] : List Value).set 12 (.int (zI x)))) = rd (wF S 49 12 x) := rfl
theorem rw_o49_28 (S : ZS) (x : Int) : (rd S).set 49 (.inr (7, ([.ref 50, .int (zI (S.2.1 49 1)), .int (zI (S.2.1 49 2)), .int (zI (S.2.1 49 3)), .int (zI (S.2.1 49 4)), .int (zI (S.2.1 49 5)), .ref 51, .int (zI (S.2.1 49 7)), .ref 52, .int (zI (S.2.1 49 9)), .int (zI (S.2.1 49 10)), .int (zI (S.2.1 49 11)), .int (zI (S.2.1 49 12)), .ref 53, .ref 54, .ref 55, .ref 56, .ref 57, .ref 58, .ref 59, .ref 60, .ref 61, .ref 62, .ref 63, .ref 64, .ref 65, .ref 66, .ref 67, .int (zI (S.2.1 49 28)), .ref 68, .ref 69, .ref 70, .ref 71, .ref 72, .int (zI (S.2.1 49 34)), .ref 73] : List Value).set 28 (.int (zI x)))) = rd (wF S 49 28 x) := rfl
theorem rw_o49_34 (S : ZS) (x : Int) : (rd S).set 49 (.inr (7, ([.ref 50, .int (zI (S.2.1 49 1)), .int (zI (S.2.1 49 2)), .int (zI (S.2.1 49 3)), .int (zI (S.2.1 49 4)), .int (zI (S.2.1 49 5)), .ref 51, .int (zI (S.2.1 49 7)), .ref 52, .int (zI (S.2.1 49 9)), .int (zI (S.2.1 49 10)), .int (zI (S.2.1 49 11)), .int (zI (S.2.1 49 12)), .ref 53, .ref 54, .ref 55, .ref 56, .ref 57, .ref 58, .ref 59, .ref 60, .ref 61, .ref 62, .ref 63, .ref 64, .ref 65, .ref 66, .ref 67, .int (zI (S.2.1 49 28)), .ref 68, .ref 69, .ref 70, .ref 71, .ref 72, .int (zI (S.2.1 49 34)), .ref 73] : List Value).set 34 (.int (zI x)))) = rd (wF S 49 34 x) := rfl
theorem rd_a50 (S : ZS) : (rd S)[50]? = some (cI 0 40 (S.1 50)) := rfl
theorem rw_a50 (S : ZS) (f : Int → Int) : (rd S).set 50 (cI 0 40 f) = rd (wR S 50 f) := rfl
theorem rd_a51 (S : ZS) : (rd S)[51]? = some (cI 0 4 (S.1 51)) := rfl
theorem rw_a51 (S : ZS) (f : Int → Int) : (rd S).set 51 (cI 0 4 f) = rd (wR S 51 f) := rfl
theorem rd_a52 (S : ZS) : (rd S)[52]? = some (cI 0 160 (S.1 52)) := rfl
theorem rw_a52 (S : ZS) (f : Int → Int) : (rd S).set 52 (cI 0 160 f) = rd (wR S 52 f) := rfl
theorem rd_a53 (S : ZS) : (rd S)[53]? = some (cI 0 40 (S.1 53)) := rfl
theorem rw_a53 (S : ZS) (f : Int → Int) : (rd S).set 53 (cI 0 40 f) = rd (wR S 53 f) := rfl
theorem rd_a54 (S : ZS) : (rd S)[54]? = some (cI 0 256 (S.1 54)) := rfl
theorem rw_a54 (S : ZS) (f : Int → Int) : (rd S).set 54 (cI 0 256 f) = rd (wR S 54 f) := rfl
theorem rd_a55 (S : ZS) : (rd S)[55]? = some (cI 2 256 (S.1 55)) := rfl
theorem rw_a55 (S : ZS) (f : Int → Int) : (rd S).set 55 (cI 2 256 f) = rd (wR S 55 f) := rfl
theorem rd_a56 (S : ZS) : (rd S)[56]? = some (cI 0 256 (S.1 56)) := rfl
theorem rw_a56 (S : ZS) (f : Int → Int) : (rd S).set 56 (cI 0 256 f) = rd (wR S 56 f) := rfl
theorem rd_a57 (S : ZS) : (rd S)[57]? = some (cI 0 256 (S.1 57)) := rfl
theorem rw_a57 (S : ZS) (f : Int → Int) : (rd S).set 57 (cI 0 256 f) = rd (wR S 57 f) := rfl
theorem rd_a58 (S : ZS) : (rd S)[58]? = some (cI 0 65536 (S.1 58)) := rfl
theorem rw_a58 (S : ZS) (f : Int → Int) : (rd S).set 58 (cI 0 65536 f) = rd (wR S 58 f) := rfl
theorem rd_a59 (S : ZS) : (rd S)[59]? = some (cI 0 256 (S.1 59)) := rfl
theorem rw_a59 (S : ZS) (f : Int → Int) : (rd S).set 59 (cI 0 256 f) = rd (wR S 59 f) := rfl
theorem rd_a60 (S : ZS) : (rd S)[60]? = some (cI 0 256 (S.1 60)) := rfl
theorem rw_a60 (S : ZS) (f : Int → Int) : (rd S).set 60 (cI 0 256 f) = rd (wR S 60 f) := rfl
theorem rd_a61 (S : ZS) : (rd S)[61]? = some (cI 0 9 (S.1 61)) := rfl
theorem rw_a61 (S : ZS) (f : Int → Int) : (rd S).set 61 (cI 0 9 f) = rd (wR S 61 f) := rfl
theorem rd_a62 (S : ZS) : (rd S)[62]? = some (cI 0 8 (S.1 62)) := rfl
theorem rw_a62 (S : ZS) (f : Int → Int) : (rd S).set 62 (cI 0 8 f) = rd (wR S 62 f) := rfl
theorem rd_a63 (S : ZS) : (rd S)[63]? = some (cI 0 72 (S.1 63)) := rfl
theorem rw_a63 (S : ZS) (f : Int → Int) : (rd S).set 63 (cI 0 72 f) = rd (wR S 63 f) := rfl
theorem rd_a64 (S : ZS) : (rd S)[64]? = some (cI 0 17 (S.1 64)) := rfl
theorem rw_a64 (S : ZS) (f : Int → Int) : (rd S).set 64 (cI 0 17 f) = rd (wR S 64 f) := rfl
theorem rd_a65 (S : ZS) : (rd S)[65]? = some (cI 0 17 (S.1 65)) := rfl
theorem rw_a65 (S : ZS) (f : Int → Int) : (rd S).set 65 (cI 0 17 f) = rd (wR S 65 f) := rfl
theorem rd_a66 (S : ZS) : (rd S)[66]? = some (cI 0 8 (S.1 66)) := rfl
theorem rw_a66 (S : ZS) (f : Int → Int) : (rd S).set 66 (cI 0 8 f) = rd (wR S 66 f) := rfl
theorem rd_a67 (S : ZS) : (rd S)[67]? = some (cI 2 16 (S.1 67)) := rfl
theorem rw_a67 (S : ZS) (f : Int → Int) : (rd S).set 67 (cI 2 16 f) = rd (wR S 67 f) := rfl
theorem rd_a68 (S : ZS) : (rd S)[68]? = some (cI 0 44 (S.1 68)) := rfl
theorem rw_a68 (S : ZS) (f : Int → Int) : (rd S).set 68 (cI 0 44 f) = rd (wR S 68 f) := rfl
theorem rd_a69 (S : ZS) : (rd S)[69]? = some (cI 0 6 (S.1 69)) := rfl
theorem rw_a69 (S : ZS) (f : Int → Int) : (rd S).set 69 (cI 0 6 f) = rd (wR S 69 f) := rfl
theorem rd_a70 (S : ZS) : (rd S)[70]? = some (cI 0 4 (S.1 70)) := rfl
theorem rw_a70 (S : ZS) (f : Int → Int) : (rd S).set 70 (cI 0 4 f) = rd (wR S 70 f) := rfl
theorem rd_a71 (S : ZS) : (rd S)[71]? = some (cI 0 4 (S.1 71)) := rfl
theorem rw_a71 (S : ZS) (f : Int → Int) : (rd S).set 71 (cI 0 4 f) = rd (wR S 71 f) := rfl
theorem rd_a72 (S : ZS) : (rd S)[72]? = some (cL 96 (S.1 72)) := rfl
theorem rw_a72 (S : ZS) (f : Int → Int) : (rd S).set 72 (cL 96 f) = rd (wR S 72 f) := rfl
theorem rd_a73 (S : ZS) : (rd S)[73]? = some (cL 24 (S.1 73)) := rfl
theorem rw_a73 (S : ZS) (f : Int → Int) : (rd S).set 73 (cL 24 f) = rd (wR S 73 f) := rfl
def isT (t : Nat) : Prop := t = 1 ∨ t = 8 ∨ t = 15
theorem rd_t {t : Nat} (ht : isT t) (S : ZS) : (rd S)[t]? = some (.inr (4, [.ref (t + 1), .ref (t + 2), .ref (t + 3), .ref (t + 4), .ref (t + 5), .ref (t + 6), .int (zI (S.2.1 t 6)), .int (zI (S.2.1 t 7)), .int (zI (S.2.1 t 8)), .int (zI (S.2.1 t 9)), .int (zI (S.2.1 t 10)), .int (zI (S.2.1 t 11))])) := by
  rcases ht with rfl | rfl | rfl <;> rfl
theorem rd_t1 {t : Nat} (ht : isT t) (S : ZS) : (rd S)[t + 1]? = some (cI 0 8 (S.1 (t + 1))) := by
  rcases ht with rfl | rfl | rfl <;> rfl
theorem rd_t2 {t : Nat} (ht : isT t) (S : ZS) : (rd S)[t + 2]? = some (cI 0 8 (S.1 (t + 2))) := by
  rcases ht with rfl | rfl | rfl <;> rfl
theorem rd_t3 {t : Nat} (ht : isT t) (S : ZS) : (rd S)[t + 3]? = some (cI 0 8 (S.1 (t + 3))) := by
  rcases ht with rfl | rfl | rfl <;> rfl
theorem rd_t4 {t : Nat} (ht : isT t) (S : ZS) : (rd S)[t + 4]? = some (cI 0 8 (S.1 (t + 4))) := by
  rcases ht with rfl | rfl | rfl <;> rfl
theorem rd_t5 {t : Nat} (ht : isT t) (S : ZS) : (rd S)[t + 5]? = some (cI 0 8 (S.1 (t + 5))) := by
  rcases ht with rfl | rfl | rfl <;> rfl
theorem rd_t6 {t : Nat} (ht : isT t) (S : ZS) : (rd S)[t + 6]? = some (cI 0 4 (S.1 (t + 6))) := by
  rcases ht with rfl | rfl | rfl <;> rfl
theorem rd_nd (S : ZS) : (rd S)[nd S]? = some (cI 0 (nn S) (S.1 31)) := by
  obtain ⟨A, F, k, x⟩ := S
  cases x with
  | none => rfl
  | some g =>
    obtain ⟨g, gs⟩ := g
    show (rd (A, F, k, some (g, gs)))[74 + gs.length]? = _
    unfold rd
    rw [List.getElem?_append_right (by show 74 ≤ 74 + gs.length; omega)]
    show (gs ++ [cNd (A, F, k, some (g, gs))])[74 + gs.length - 74]? = _
    rw [show 74 + gs.length - 74 = gs.length by omega, List.getElem?_append_right (Nat.le_refl _), Nat.sub_self]
    rfl
theorem rw_nd (S : ZS) (f : Int → Int) : (rd S).set (nd S) (cI 0 (nn S) f) = rd (wR S 31 f) := by
  obtain ⟨A, F, k, x⟩ := S
  cases x with
  | none => rfl
  | some g =>
    obtain ⟨g, gs⟩ := g
    show (rd (A, F, k, some (g, gs))).set (74 + gs.length) _ = _
    unfold rd
    rw [List.set_append_right _ _ (by show 74 ≤ 74 + gs.length; omega)]
    show _ ++ (gs ++ [cNd (A, F, k, some (g, gs))]).set (74 + gs.length - 74) _ = _
    rw [show 74 + gs.length - 74 = gs.length by omega, List.set_append_right _ _ (Nat.le_refl _), Nat.sub_self]
    rfl
theorem rd_len (S : ZS) : (rd S).length = 74 + (cTl S).length := by
  unfold rd
  rw [List.length_append]
  rfl
theorem zI_add (x y : Int) : zI x + zI y = zI (x + y) := (Int32.ofInt_add x y).symm
theorem zI_sub (x y : Int) : zI x - zI y = zI (x - y) := (Int32.ofInt_sub x y).symm
theorem zI_mul (x y : Int) : zI x * zI y = zI (x * y) := (Int32.ofInt_mul x y).symm
theorem zI_neg (x : Int) : -zI x = zI (-x) := (Int32.ofInt_neg x).symm
theorem zL_sub (x y : Int) : zL x - zL y = zL (x - y) := (Int64.ofInt_sub x y).symm
theorem zI_of (x : Int32) : zI x.toInt = x := Int32.ofInt_toInt x
theorem zL_of (x : Int64) : zL x.toInt = x := Int64.ofInt_toInt x
theorem zI_to {x : Int} (h1 : -2147483648 ≤ x) (h2 : x < 2147483648) : (zI x).toInt = x := Int32.toInt_ofInt_of_le (by omega) (by omega)
theorem zL_to {x : Int} (h1 : -9223372036854775808 ≤ x) (h2 : x < 9223372036854775808) : (zL x).toInt = x := Int64.toInt_ofInt_of_le (by omega) (by omega)
theorem zI_clamp {x : Int} (h1 : 0 ≤ x) (h2 : x < 2147483648) : (((zI x).toNatClampNeg : Nat) : Int) = x := by
  have e : (zI x).toNatClampNeg = x.toNat := Int32.toNatClampNeg_ofInt_of_le (by omega) (by omega)
  rw [e]
  omega
def zand (x y : Int) : Int := (zI x &&& zI y).toInt
def zor (x y : Int) : Int := (zI x ||| zI y).toInt
def zxor (x y : Int) : Int := (zI x ^^^ zI y).toInt
def zshl (x y : Int) : Int := (zI x <<< (zI y &&& 31)).toInt
def zshr (x y : Int) : Int := (zI x >>> (zI y &&& 31)).toInt
def zushr (x y : Int) : Int := ((zI x).toUInt32 >>> ((zI y).toUInt32 &&& Int32.toUInt32 31)).toInt32.toInt
def zs16 (x : Int) : Int := (zI x).toInt16.toInt32.toInt
def zc16 (x : Int) : Int := ((zI x).toUInt32 % 65536).toInt32.toInt
def zl2i (x : Int) : Int := (zL x).toInt32.toInt
def zlan (x y : Int) : Int := (zL x &&& zL y).toInt
def zlor (x y : Int) : Int := (zL x ||| zL y).toInt
def zlshl (x y : Int) : Int := (zL x <<< ((zI y).toInt64 &&& 63)).toInt
def zlshr (x y : Int) : Int := (zL x >>> ((zI y).toInt64 &&& 63)).toInt
def zlushr (x y : Int) : Int := ((zL x).toUInt64 >>> ((zI y).toInt64.toUInt64 &&& Int64.toUInt64 63)).toInt64.toInt
def zob (x : Int) : Int := if x = 0 then 6 else if x = 1 then 2 else if x = 2 then 2 else 6
/-- guards: where a step asks for more than that numbers are numbers -/
def gC {α : Type} (x y : Int) (T : Option α) : Option α := if -2147483648 ≤ x ∧ x < 2147483648 ∧ -2147483648 ≤ y ∧ y < 2147483648 then T else none
def gL {α : Type} (x y : Int) (T : Option α) : Option α := if -9223372036854775808 ≤ x ∧ x < 9223372036854775808 ∧ -9223372036854775808 ≤ y ∧ y < 9223372036854775808 then T else none
def gX {α : Type} (x : Int) (n : Nat) (T : Option α) : Option α := if 0 ≤ x ∧ x < (n : Int) ∧ n ≤ 1000000 then T else none
def gB {α : Type} (x : Int) (T : Option α) : Option α := if x = 0 ∨ x = 1 then T else none
def gH {α : Type} (x : Int) (T : Option α) : Option α := if 0 ≤ x ∧ x ≤ 65535 then T else none
def gV {α : Type} (x y : Int) (T : Option α) : Option α := if -2147483648 ≤ x ∧ x < 2147483648 ∧ 0 < y ∧ y < 2147483648 then T else none
def gY {α : Type} (sp dp m : Int) (n0 n1 : Nat) (T : Option α) : Option α := if 0 ≤ sp ∧ 0 ≤ dp ∧ 0 ≤ m ∧ sp + m ≤ (n0 : Int) ∧ dp + m ≤ (n1 : Int) ∧ n0 ≤ 1000000 ∧ n1 ≤ 1000000 then T else none
theorem gC_inv {α : Type} {x y : Int} {T : Option α} {w : α} (h : gC x y T = some w) : (-2147483648 ≤ x ∧ x < 2147483648 ∧ -2147483648 ≤ y ∧ y < 2147483648) ∧ T = some w := by
  unfold gC at h
  split at h
  · exact ⟨by assumption, h⟩
  · cases h
theorem gL_inv {α : Type} {x y : Int} {T : Option α} {w : α} (h : gL x y T = some w) : (-9223372036854775808 ≤ x ∧ x < 9223372036854775808 ∧ -9223372036854775808 ≤ y ∧ y < 9223372036854775808) ∧ T = some w := by
  unfold gL at h
  split at h
  · exact ⟨by assumption, h⟩
  · cases h
theorem gX_inv {α : Type} {x : Int} {n : Nat} {T : Option α} {w : α} (h : gX x n T = some w) : (0 ≤ x ∧ x < (n : Int) ∧ n ≤ 1000000) ∧ T = some w := by
  unfold gX at h
  split at h
  · exact ⟨by assumption, h⟩
  · cases h
theorem gB_inv {α : Type} {x : Int} {T : Option α} {w : α} (h : gB x T = some w) : (x = 0 ∨ x = 1) ∧ T = some w := by
  unfold gB at h
  split at h
  · exact ⟨by assumption, h⟩
  · cases h
theorem gH_inv {α : Type} {x : Int} {T : Option α} {w : α} (h : gH x T = some w) : (0 ≤ x ∧ x ≤ 65535) ∧ T = some w := by
  unfold gH at h
  split at h
  · exact ⟨by assumption, h⟩
  · cases h
theorem gV_inv {α : Type} {x y : Int} {T : Option α} {w : α} (h : gV x y T = some w) : (-2147483648 ≤ x ∧ x < 2147483648 ∧ 0 < y ∧ y < 2147483648) ∧ T = some w := by
  unfold gV at h
  split at h
  · exact ⟨by assumption, h⟩
  · cases h
theorem gY_inv {α : Type} {sp dp m : Int} {n0 n1 : Nat} {T : Option α} {w : α} (h : gY sp dp m n0 n1 T = some w) : (0 ≤ sp ∧ 0 ≤ dp ∧ 0 ≤ m ∧ sp + m ≤ (n0 : Int) ∧ dp + m ≤ (n1 : Int) ∧ n0 ≤ 1000000 ∧ n1 ≤ 1000000) ∧ T = some w := by
  unfold gY at h
  split at h
  · exact ⟨by assumption, h⟩
  · cases h
theorem gC_pos {α : Type} {x y : Int} {T : Option α} (h1 : -2147483648 ≤ x) (h2 : x < 2147483648) (h3 : -2147483648 ≤ y) (h4 : y < 2147483648) : gC x y T = T := if_pos ⟨h1, h2, h3, h4⟩
theorem gL_pos {α : Type} {x y : Int} {T : Option α} (h1 : -9223372036854775808 ≤ x) (h2 : x < 9223372036854775808) (h3 : -9223372036854775808 ≤ y) (h4 : y < 9223372036854775808) : gL x y T = T := if_pos ⟨h1, h2, h3, h4⟩
theorem gX_pos {α : Type} {x : Int} {n : Nat} {T : Option α} (h1 : 0 ≤ x) (h2 : x < (n : Int)) (h3 : n ≤ 1000000) : gX x n T = T := if_pos ⟨h1, h2, h3⟩
theorem gB_0 {α : Type} {T : Option α} : gB 0 T = T := if_pos (Or.inl rfl)
theorem gB_1 {α : Type} {T : Option α} : gB 1 T = T := if_pos (Or.inr rfl)
theorem gB_pos {α : Type} {x : Int} {T : Option α} (h : x = 0 ∨ x = 1) : gB x T = T := if_pos h
theorem gH_pos {α : Type} {x : Int} {T : Option α} (h1 : 0 ≤ x) (h2 : x ≤ 65535) : gH x T = T := if_pos ⟨h1, h2⟩
theorem gV_pos {α : Type} {x y : Int} {T : Option α} (h1 : -2147483648 ≤ x) (h2 : x < 2147483648) (h3 : 0 < y) (h4 : y < 2147483648) : gV x y T = T := if_pos ⟨h1, h2, h3, h4⟩
theorem gY_pos {α : Type} {sp dp m : Int} {n0 n1 : Nat} {T : Option α} (h1 : 0 ≤ sp) (h2 : 0 ≤ dp) (h3 : 0 ≤ m) (h4 : sp + m ≤ (n0 : Int)) (h5 : dp + m ≤ (n1 : Int)) (h6 : n0 ≤ 1000000) (h7 : n1 ≤ 1000000) : gY sp dp m n0 n1 T = T := if_pos ⟨h1, h2, h3, h4, h5, h6, h7⟩
/-- what follows a piece that may return -/
def zR {α β : Type} (q : Option (α ⊕ β)) (f : β → Option α) : Option α := match q with
  | none => none
  | some (.inl v) => some v
  | some (.inr x) => f x
def zRR {α β γ : Type} (q : Option (α ⊕ β)) (f : β → Option (α ⊕ γ)) : Option (α ⊕ γ) := match q with
  | none => none
  | some (.inl v) => some (.inl v)
  | some (.inr x) => f x
theorem zB_inv {α β : Type} {q : Option α} {f : α → Option β} {w : β} (h : q.bind f = some w) : ∃ z, q = some z ∧ f z = some w := by
  cases q with
  | none => cases h
  | some z => exact ⟨z, rfl, h⟩
theorem zR_inv {α β : Type} {q : Option (α ⊕ β)} {f : β → Option α} {w : α} (h : zR q f = some w) : q = some (.inl w) ∨ ∃ z, q = some (.inr z) ∧ f z = some w := by
  cases q with
  | none => cases h
  | some z =>
    cases z with
    | inl v => cases h; exact Or.inl rfl
    | inr z => exact Or.inr ⟨z, rfl, h⟩
theorem zRR_inv {α β γ : Type} {q : Option (α ⊕ β)} {f : β → Option (α ⊕ γ)} {w : α ⊕ γ} (h : zRR q f = some w) : (∃ v, q = some (.inl v) ∧ w = .inl v) ∨ ∃ z, q = some (.inr z) ∧ f z = some w := by
  cases q with
  | none => cases h
  | some z =>
    cases z with
    | inl v => cases h; exact Or.inl ⟨v, rfl, rfl⟩
    | inr z => exact Or.inr ⟨z, rfl, h⟩
theorem s_join {α β : Type} {q : Option α} {f : α → Option β} {w : β} {G : Prop} (P : α → Prop) (h : q.bind f = some w) (hj : ∀ z, f z = some w → P z) (hs : ∀ z, q = some z → P z → G) : G := by
  obtain ⟨z, h1, h2⟩ := zB_inv h
  exact hs z h1 (hj z h2)
section S1
variable {o : eO} {k pc l : Nat} {L : eL} {st : List Value} {H : eH} {r : eP} {α : Type} {w : α}
theorem s_iadd {x y : Int} (h : eAt k pc = some (.iadd, 1)) (g : eG o k (pc + 1) L (.int (zI (x + y)) :: st) H r) : eG o k pc L (.int (zI y) :: .int (zI x) :: st) H r := g_step h rfl (by rw [zI_add]; exact g)
theorem s_isub {x y : Int} (h : eAt k pc = some (.isub, 1)) (g : eG o k (pc + 1) L (.int (zI (x - y)) :: st) H r) : eG o k pc L (.int (zI y) :: .int (zI x) :: st) H r := g_step h rfl (by rw [zI_sub]; exact g)
theorem s_imul {x y : Int} (h : eAt k pc = some (.imul, 1)) (g : eG o k (pc + 1) L (.int (zI (x * y)) :: st) H r) : eG o k pc L (.int (zI y) :: .int (zI x) :: st) H r := g_step h rfl (by rw [zI_mul]; exact g)
theorem s_ineg {x : Int} (h : eAt k pc = some (.ineg, 1)) (g : eG o k (pc + 1) L (.int (zI (-x)) :: st) H r) : eG o k pc L (.int (zI x) :: st) H r := g_step h rfl (by rw [zI_neg]; exact g)
theorem s_iand {x y : Int} (h : eAt k pc = some (.iand, 1)) (g : eG o k (pc + 1) L (.int (zI (zand x y)) :: st) H r) : eG o k pc L (.int (zI y) :: .int (zI x) :: st) H r := g_step h rfl (by rw [zand, zI_of] at g; exact g)
theorem s_ior {x y : Int} (h : eAt k pc = some (.ior, 1)) (g : eG o k (pc + 1) L (.int (zI (zor x y)) :: st) H r) : eG o k pc L (.int (zI y) :: .int (zI x) :: st) H r := g_step h rfl (by rw [zor, zI_of] at g; exact g)
theorem s_ixor {x y : Int} (h : eAt k pc = some (.ixor, 1)) (g : eG o k (pc + 1) L (.int (zI (zxor x y)) :: st) H r) : eG o k pc L (.int (zI y) :: .int (zI x) :: st) H r := g_step h rfl (by rw [zxor, zI_of] at g; exact g)
theorem s_ishl {x y : Int} (h : eAt k pc = some (.ishl, 1)) (g : eG o k (pc + 1) L (.int (zI (zshl x y)) :: st) H r) : eG o k pc L (.int (zI y) :: .int (zI x) :: st) H r := g_step h rfl (by rw [zshl, zI_of] at g; exact g)
theorem s_ishr {x y : Int} (h : eAt k pc = some (.ishr, 1)) (g : eG o k (pc + 1) L (.int (zI (zshr x y)) :: st) H r) : eG o k pc L (.int (zI y) :: .int (zI x) :: st) H r := g_step h rfl (by rw [zshr, zI_of] at g; exact g)
theorem s_iushr {x y : Int} (h : eAt k pc = some (.iushr, 1)) (g : eG o k (pc + 1) L (.int (zI (zushr x y)) :: st) H r) : eG o k pc L (.int (zI y) :: .int (zI x) :: st) H r := g_step h rfl (by rw [zushr, zI_of] at g; exact g)
theorem s_i2s {x : Int} (h : eAt k pc = some (.i2s, 1)) (g : eG o k (pc + 1) L (.int (zI (zs16 x)) :: st) H r) : eG o k pc L (.int (zI x) :: st) H r := g_step h rfl (by rw [zs16, zI_of] at g; exact g)
theorem s_i2c {x : Int} (h : eAt k pc = some (.i2c, 1)) (g : eG o k (pc + 1) L (.int (zI (zc16 x)) :: st) H r) : eG o k pc L (.int (zI x) :: st) H r := g_step h rfl (by rw [zc16, zI_of] at g; exact g)
theorem s_l2i {x : Int} (h : eAt k pc = some (.l2i, 1)) (g : eG o k (pc + 1) L (.int (zI (zl2i x)) :: st) H r) : eG o k pc L (.long (zL x) :: st) H r := g_step h rfl (by rw [zl2i, zI_of] at g; exact g)
theorem s_i2l {x : Int} {T : Option α} (h : eAt k pc = some (.i2l, 1)) (hh : gC x 0 T = some w) (g : T = some w → eG o k (pc + 1) L (.long (zL x) :: st) H r) : eG o k pc L (.int (zI x) :: st) H r := by
  obtain ⟨⟨h1, h2, -⟩, h3⟩ := gC_inv hh
  refine g_step h rfl ?_
  have e : (zI x).toInt64 = zL x := Int64.toInt_inj.mp (by rw [Int32.toInt_toInt64, zI_to h1 h2, zL_to (by omega) (by omega)])
  rw [e]
  exact g h3
theorem s_lsub {x y : Int} (h : eAt k pc = some (.lsub, 1)) (g : eG o k (pc + 1) L (.long (zL (x - y)) :: st) H r) : eG o k pc L (.long (zL y) :: .long (zL x) :: st) H r := g_step h rfl (by rw [zL_sub]; exact g)
theorem s_land {x y : Int} (h : eAt k pc = some (.land, 1)) (g : eG o k (pc + 1) L (.long (zL (zlan x y)) :: st) H r) : eG o k pc L (.long (zL y) :: .long (zL x) :: st) H r := g_step h rfl (by rw [zlan, zL_of] at g; exact g)
theorem s_lshl {x y : Int} (h : eAt k pc = some (.lshl, 1)) (g : eG o k (pc + 1) L (.long (zL (zlshl x y)) :: st) H r) : eG o k pc L (.int (zI y) :: .long (zL x) :: st) H r := g_step h rfl (by rw [zlshl, zL_of] at g; exact g)
theorem s_lshr {x y : Int} (h : eAt k pc = some (.lshr, 1)) (g : eG o k (pc + 1) L (.long (zL (zlshr x y)) :: st) H r) : eG o k pc L (.int (zI y) :: .long (zL x) :: st) H r := g_step h rfl (by rw [zlshr, zL_of] at g; exact g)
theorem s_lushr {x y : Int} (h : eAt k pc = some (.lushr, 1)) (g : eG o k (pc + 1) L (.long (zL (zlushr x y)) :: st) H r) : eG o k pc L (.int (zI y) :: .long (zL x) :: st) H r := g_step h rfl (by rw [zlushr, zL_of] at g; exact g)
theorem s_idiv {x y : Int} {T : Option α} (h : eAt k pc = some (.idiv, 1)) (hh : gV x y T = some w) (g : T = some w → eG o k (pc + 1) L (.int (zI (x.tdiv y)) :: st) H r) : eG o k pc L (.int (zI y) :: .int (zI x) :: st) H r := by
  obtain ⟨⟨h1, h2, h3, h4⟩, h5⟩ := gV_inv hh
  have hy : (zI y).toInt = y := zI_to (by omega) h4
  have e0 : ¬ zI y = 0 := fun q => by
    rw [q] at hy
    have : (0 : Int32).toInt = 0 := by decide
    omega
  have e1 : ¬ zI y = -1 := fun q => by
    rw [q] at hy
    have : (-1 : Int32).toInt = -1 := by decide
    omega
  have e : zI x / zI y = zI (x.tdiv y) := by
    rw [← zI_of (zI x / zI y), Int32.toInt_div_of_ne_right _ _ e1, zI_to h1 h2, hy]
  refine g_step h ?_ (g h5)
  show (if zI y = 0 then none else ePush (pc + 1) L st H (.int (zI x / zI y))) = _
  rw [if_neg e0, e]
  rfl
theorem s_irem {x y : Int} {T : Option α} (h : eAt k pc = some (.irem, 1)) (hh : gV x y T = some w) (g : T = some w → eG o k (pc + 1) L (.int (zI (x.tmod y)) :: st) H r) : eG o k pc L (.int (zI y) :: .int (zI x) :: st) H r := by
  obtain ⟨⟨h1, h2, h3, h4⟩, h5⟩ := gV_inv hh
  have hy : (zI y).toInt = y := zI_to (by omega) h4
  have e0 : ¬ zI y = 0 := fun q => by
    rw [q] at hy
    have : (0 : Int32).toInt = 0 := by decide
    omega
  have e1 : ¬ zI y = -1 := fun q => by
    rw [q] at hy
    have : (-1 : Int32).toInt = -1 := by decide
    omega
  have e : zI x / zI y = zI (x.tdiv y) := by
    rw [← zI_of (zI x / zI y), Int32.toInt_div_of_ne_right _ _ e1, zI_to h1 h2, hy]
  refine g_step h ?_ (g h5)
  show (if zI y = 0 then none else ePush (pc + 1) L st H (.int (zI x - zI x / zI y * zI y))) = _
  rw [if_neg e0, e, zI_mul, zI_sub, Int.tmod_def x y, Int.mul_comm y]
  rfl
theorem zI_lt {x y : Int} (h : -2147483648 ≤ x ∧ x < 2147483648 ∧ -2147483648 ≤ y ∧ y < 2147483648) : zI x < zI y ↔ x < y := by
  rw [Int32.lt_iff_toInt_lt, zI_to h.1 h.2.1, zI_to h.2.2.1 h.2.2.2]
theorem zI_le {x y : Int} (h : -2147483648 ≤ x ∧ x < 2147483648 ∧ -2147483648 ≤ y ∧ y < 2147483648) : zI x ≤ zI y ↔ x ≤ y := by
  rw [Int32.le_iff_toInt_le, zI_to h.1 h.2.1, zI_to h.2.2.1 h.2.2.2]
theorem zI_eq {x y : Int} (h : -2147483648 ≤ x ∧ x < 2147483648 ∧ -2147483648 ≤ y ∧ y < 2147483648) : zI x = zI y ↔ x = y := by
  rw [← Int32.toInt_inj, zI_to h.1 h.2.1, zI_to h.2.2.1 h.2.2.2]
theorem zL_lt {x y : Int} (h : -9223372036854775808 ≤ x ∧ x < 9223372036854775808 ∧ -9223372036854775808 ≤ y ∧ y < 9223372036854775808) : zL x < zL y ↔ x < y := by
  rw [Int64.lt_iff_toInt_lt, zL_to h.1 h.2.1, zL_to h.2.2.1 h.2.2.2]
theorem zL_eq {x y : Int} (h : -9223372036854775808 ≤ x ∧ x < 9223372036854775808 ∧ -9223372036854775808 ≤ y ∧ y < 9223372036854775808) : zL x = zL y ↔ x = y := by
  rw [← Int64.toInt_inj, zL_to h.1 h.2.1, zL_to h.2.2.1 h.2.2.2]
theorem s_icmp_eq {off : Int} {x y : Int} {A B : Option α} (h : eAt k pc = some (.if_icmp .eq off, 3)) (hh : gC x y (if x = y then A else B) = some w) (ht : A = some w → eG o k (eTgt pc off) L st H r) (hf : B = some w → eG o k (pc + 3) L st H r) : eG o k pc L (.int (zI y) :: .int (zI x) :: st) H r := by
  obtain ⟨hr, h2⟩ := gC_inv hh
  by_cases c : x = y
  · rw [if_pos c] at h2
    exact g_icmp_eq h (fun _ => ht h2) (fun q => absurd ((zI_eq hr).mpr c) q)
  · rw [if_neg c] at h2
    exact g_icmp_eq h (fun q => absurd ((zI_eq hr).mp q) c) (fun _ => hf h2)
theorem s_icmp_ne {off : Int} {x y : Int} {A B : Option α} (h : eAt k pc = some (.if_icmp .ne off, 3)) (hh : gC x y (if x = y then B else A) = some w) (ht : A = some w → eG o k (eTgt pc off) L st H r) (hf : B = some w → eG o k (pc + 3) L st H r) : eG o k pc L (.int (zI y) :: .int (zI x) :: st) H r := by
  obtain ⟨hr, h2⟩ := gC_inv hh
  by_cases c : x = y
  · rw [if_pos c] at h2
    exact g_icmp_ne h (fun q => absurd ((zI_eq hr).mpr c) q) (fun _ => hf h2)
  · rw [if_neg c] at h2
    exact g_icmp_ne h (fun _ => ht h2) (fun q => absurd ((zI_eq hr).mp q) c)
theorem s_icmp_lt {off : Int} {x y : Int} {A B : Option α} (h : eAt k pc = some (.if_icmp .lt off, 3)) (hh : gC x y (if x < y then A else B) = some w) (ht : A = some w → eG o k (eTgt pc off) L st H r) (hf : B = some w → eG o k (pc + 3) L st H r) : eG o k pc L (.int (zI y) :: .int (zI x) :: st) H r := by
  obtain ⟨hr, h2⟩ := gC_inv hh
  by_cases c : x < y
  · rw [if_pos c] at h2
    exact g_icmp_lt h (fun _ => ht h2) (fun q => absurd ((zI_lt hr).mpr c) q)
  · rw [if_neg c] at h2
    exact g_icmp_lt h (fun q => absurd ((zI_lt hr).mp q) c) (fun _ => hf h2)
theorem s_icmp_ge {off : Int} {x y : Int} {A B : Option α} (h : eAt k pc = some (.if_icmp .ge off, 3)) (hh : gC x y (if x < y then B else A) = some w) (ht : A = some w → eG o k (eTgt pc off) L st H r) (hf : B = some w → eG o k (pc + 3) L st H r) : eG o k pc L (.int (zI y) :: .int (zI x) :: st) H r := by
  obtain ⟨hr, h2⟩ := gC_inv hh
  have hr2 : -2147483648 ≤ y ∧ y < 2147483648 ∧ -2147483648 ≤ x ∧ x < 2147483648 := ⟨hr.2.2.1, hr.2.2.2, hr.1, hr.2.1⟩
  by_cases c : x < y
  · rw [if_pos c] at h2
    exact g_icmp_ge h (fun q => absurd ((zI_le hr2).mp q) (by omega)) (fun _ => hf h2)
  · rw [if_neg c] at h2
    exact g_icmp_ge h (fun _ => ht h2) (fun q => absurd ((zI_le hr2).mpr (by omega)) q)
theorem s_icmp_gt {off : Int} {x y : Int} {A B : Option α} (h : eAt k pc = some (.if_icmp .gt off, 3)) (hh : gC x y (if y < x then A else B) = some w) (ht : A = some w → eG o k (eTgt pc off) L st H r) (hf : B = some w → eG o k (pc + 3) L st H r) : eG o k pc L (.int (zI y) :: .int (zI x) :: st) H r := by
  obtain ⟨hr, h2⟩ := gC_inv hh
  have hr2 : -2147483648 ≤ y ∧ y < 2147483648 ∧ -2147483648 ≤ x ∧ x < 2147483648 := ⟨hr.2.2.1, hr.2.2.2, hr.1, hr.2.1⟩
  by_cases c : y < x
  · rw [if_pos c] at h2
    exact g_icmp_gt h (fun _ => ht h2) (fun q => absurd ((zI_lt hr2).mpr c) q)
  · rw [if_neg c] at h2
    exact g_icmp_gt h (fun q => absurd ((zI_lt hr2).mp q) c) (fun _ => hf h2)
theorem s_icmp_le {off : Int} {x y : Int} {A B : Option α} (h : eAt k pc = some (.if_icmp .le off, 3)) (hh : gC x y (if y < x then B else A) = some w) (ht : A = some w → eG o k (eTgt pc off) L st H r) (hf : B = some w → eG o k (pc + 3) L st H r) : eG o k pc L (.int (zI y) :: .int (zI x) :: st) H r := by
  obtain ⟨hr, h2⟩ := gC_inv hh
  by_cases c : y < x
  · rw [if_pos c] at h2
    exact g_icmp_le h (fun q => absurd ((zI_le hr).mp q) (by omega)) (fun _ => hf h2)
  · rw [if_neg c] at h2
    exact g_icmp_le h (fun _ => ht h2) (fun q => absurd ((zI_le hr).mpr (by omega)) q)
theorem s_if_eq {off : Int} {x : Int} {A B : Option α} (h : eAt k pc = some (.ifCond .eq off, 3)) (hh : gC x 0 (if x = 0 then A else B) = some w) (ht : A = some w → eG o k (eTgt pc off) L st H r) (hf : B = some w → eG o k (pc + 3) L st H r) : eG o k pc L (.int (zI x) :: st) H r := by
  obtain ⟨hr, h2⟩ := gC_inv hh
  by_cases c : x = 0
  · rw [if_pos c] at h2
    exact g_if_eq h (fun _ => ht h2) (fun q => absurd ((zI_eq hr).mpr c) q)
  · rw [if_neg c] at h2
    exact g_if_eq h (fun q => absurd ((zI_eq hr).mp q) c) (fun _ => hf h2)
theorem s_if_ne {off : Int} {x : Int} {A B : Option α} (h : eAt k pc = some (.ifCond .ne off, 3)) (hh : gC x 0 (if x = 0 then B else A) = some w) (ht : A = some w → eG o k (eTgt pc off) L st H r) (hf : B = some w → eG o k (pc + 3) L st H r) : eG o k pc L (.int (zI x) :: st) H r := by
  obtain ⟨hr, h2⟩ := gC_inv hh
  by_cases c : x = 0
  · rw [if_pos c] at h2
    exact g_if_ne h (fun q => absurd ((zI_eq hr).mpr c) q) (fun _ => hf h2)
  · rw [if_neg c] at h2
    exact g_if_ne h (fun _ => ht h2) (fun q => absurd ((zI_eq hr).mp q) c)
theorem s_if_lt {off : Int} {x : Int} {A B : Option α} (h : eAt k pc = some (.ifCond .lt off, 3)) (hh : gC x 0 (if x < 0 then A else B) = some w) (ht : A = some w → eG o k (eTgt pc off) L st H r) (hf : B = some w → eG o k (pc + 3) L st H r) : eG o k pc L (.int (zI x) :: st) H r := by
  obtain ⟨hr, h2⟩ := gC_inv hh
  by_cases c : x < 0
  · rw [if_pos c] at h2
    exact g_if_lt h (fun _ => ht h2) (fun q => absurd ((zI_lt hr).mpr c) q)
  · rw [if_neg c] at h2
    exact g_if_lt h (fun q => absurd ((zI_lt hr).mp q) c) (fun _ => hf h2)
theorem s_if_ge {off : Int} {x : Int} {A B : Option α} (h : eAt k pc = some (.ifCond .ge off, 3)) (hh : gC x 0 (if x < 0 then B else A) = some w) (ht : A = some w → eG o k (eTgt pc off) L st H r) (hf : B = some w → eG o k (pc + 3) L st H r) : eG o k pc L (.int (zI x) :: st) H r := by
  obtain ⟨hr, h2⟩ := gC_inv hh
  have hr2 : -2147483648 ≤ (0 : Int) ∧ (0 : Int) < 2147483648 ∧ -2147483648 ≤ x ∧ x < 2147483648 := ⟨hr.2.2.1, hr.2.2.2, hr.1, hr.2.1⟩
  by_cases c : x < 0
  · rw [if_pos c] at h2
    exact g_if_ge h (fun q => absurd ((zI_le hr2).mp q) (by omega)) (fun _ => hf h2)
  · rw [if_neg c] at h2
    exact g_if_ge h (fun _ => ht h2) (fun q => absurd ((zI_le hr2).mpr (by omega)) q)
theorem s_if_gt {off : Int} {x : Int} {A B : Option α} (h : eAt k pc = some (.ifCond .gt off, 3)) (hh : gC x 0 (if 0 < x then A else B) = some w) (ht : A = some w → eG o k (eTgt pc off) L st H r) (hf : B = some w → eG o k (pc + 3) L st H r) : eG o k pc L (.int (zI x) :: st) H r := by
  obtain ⟨hr, h2⟩ := gC_inv hh
  have hr2 : -2147483648 ≤ (0 : Int) ∧ (0 : Int) < 2147483648 ∧ -2147483648 ≤ x ∧ x < 2147483648 := ⟨hr.2.2.1, hr.2.2.2, hr.1, hr.2.1⟩
  by_cases c : 0 < x
  · rw [if_pos c] at h2
    exact g_if_gt h (fun _ => ht h2) (fun q => absurd ((zI_lt hr2).mpr c) q)
  · rw [if_neg c] at h2
    exact g_if_gt h (fun q => absurd ((zI_lt hr2).mp q) c) (fun _ => hf h2)
theorem s_if_le {off : Int} {x : Int} {A B : Option α} (h : eAt k pc = some (.ifCond .le off, 3)) (hh : gC x 0 (if 0 < x then B else A) = some w) (ht : A = some w → eG o k (eTgt pc off) L st H r) (hf : B = some w → eG o k (pc + 3) L st H r) : eG o k pc L (.int (zI x) :: st) H r := by
  obtain ⟨hr, h2⟩ := gC_inv hh
  by_cases c : 0 < x
  · rw [if_pos c] at h2
    exact g_if_le h (fun q => absurd ((zI_le hr).mp q) (by omega)) (fun _ => hf h2)
  · rw [if_neg c] at h2
    exact g_if_le h (fun _ => ht h2) (fun q => absurd ((zI_le hr).mpr (by omega)) q)
theorem lg_cmp_z {x y : Int} (hr : -9223372036854775808 ≤ x ∧ x < 9223372036854775808 ∧ -9223372036854775808 ≤ y ∧ y < 9223372036854775808) : lg_cmp (zL x) (zL y) = zI (if y < x then 1 else if x = y then 0 else -1) := by
  have hr2 : -9223372036854775808 ≤ y ∧ y < 9223372036854775808 ∧ -9223372036854775808 ≤ x ∧ x < 9223372036854775808 := ⟨hr.2.2.1, hr.2.2.2, hr.1, hr.2.1⟩
  unfold lg_cmp
  by_cases c : y < x
  · rw [if_pos c, if_pos ((zL_lt hr2).mpr c)]
    rfl
  · rw [if_neg c, if_neg (fun q => c ((zL_lt hr2).mp q))]
    by_cases d : x = y
    · rw [if_pos d, if_pos ((zL_eq hr).mpr d)]
      rfl
    · rw [if_neg d, if_neg (fun q => d ((zL_eq hr).mp q))]
      rfl
def zcmp (x y : Int) : Int := if y < x then 1 else if x = y then 0 else -1
theorem s_lcmp {x y : Int} {T : Option α} (h : eAt k pc = some (.lcmp, 1)) (hh : gL x y T = some w) (g : T = some w → eG o k (pc + 1) L (.int (zI (zcmp x y)) :: st) H r) : eG o k pc L (.long (zL y) :: .long (zL x) :: st) H r := by
  obtain ⟨hr, h2⟩ := gL_inv hh
  refine g_step h rfl ?_
  rw [lg_cmp_z hr]
  exact g h2
theorem s_iinc {j : Nat} {n : Int} {x : Int} {L' : eL} (h : eAt k pc = some (.iinc j n, 3)) (hl : eLd L j = some (.int (zI x))) (e : eSt1 L j (.int (zI (x + n))) = L') (g : eG o k (pc + 3) L' st H r) : eG o k pc L st H r := by
  subst e
  refine g_step h ?_ g
  show eLoc (eOwn k) (.iinc j n) pc L st H = _
  simp only [eLoc, hl]
  rw [show Int32.ofInt n = zI n from rfl, zI_add]
theorem s_max {x y : Int} {idx : Nat} {T : Option α} (h : eAt k pc = some (.invokestatic idx, 3)) (hac : eHas eAc (eOwn k) idx = false) (hq : eFind (eLs (eOwn k)) idx = some 36) (hw : Nat.ble (eWords st) 7 = true) (hh : gC x y T = some w) (g : T = some w → eG o k (pc + 3) L (.int (zI (max x y)) :: st) H r) : eG o k pc L (.int (zI y) :: .int (zI x) :: st) H r := by
  obtain ⟨hr, h2⟩ := gC_inv hh
  refine g_step h ?_ (g h2)
  show eCall k (eOwn k) (.invokestatic idx) pc L _ H = _
  have e : (if zI x < zI y then zI y else zI x) = zI (max x y) := by
    by_cases c : x < y
    · rw [if_pos ((zI_lt hr).mpr c), Int.max_eq_right (by omega)]
    · rw [if_neg (fun q => c ((zI_lt hr).mp q)), Int.max_eq_left (by omega)]
  simp only [eCall, hac, hq, eMth, hw, e]
theorem s_min {x y : Int} {idx : Nat} {T : Option α} (h : eAt k pc = some (.invokestatic idx, 3)) (hac : eHas eAc (eOwn k) idx = false) (hq : eFind (eLs (eOwn k)) idx = some 37) (hw : Nat.ble (eWords st) 7 = true) (hh : gC x y T = some w) (g : T = some w → eG o k (pc + 3) L (.int (zI (min x y)) :: st) H r) : eG o k pc L (.int (zI y) :: .int (zI x) :: st) H r := by
  obtain ⟨hr, h2⟩ := gC_inv hh
  have hr2 : -2147483648 ≤ y ∧ y < 2147483648 ∧ -2147483648 ≤ x ∧ x < 2147483648 := ⟨hr.2.2.1, hr.2.2.2, hr.1, hr.2.1⟩
  refine g_step h ?_ (g h2)
  show eCall k (eOwn k) (.invokestatic idx) pc L _ H = _
  have e : (if zI y < zI x then zI y else zI x) = zI (min x y) := by
    by_cases c : y < x
    · rw [if_pos ((zI_lt hr2).mpr c), Int.min_eq_right (by omega)]
    · rw [if_neg (fun q => c ((zI_lt hr2).mp q)), Int.min_eq_left (by omega)]
  simp only [eCall, hac, hq, eMth, hw, e]
def zabs (x : Int) : Int := if 0 ≤ x then x else -x
theorem s_abs {x : Int} {idx : Nat} {T : Option α} (h : eAt k pc = some (.invokestatic idx, 3)) (hac : eHas eAc (eOwn k) idx = false) (hq : eFind (eLs (eOwn k)) idx = some 84) (hw : Nat.ble (eWords st) 7 = true) (hh : gC x 0 T = some w) (g : T = some w → eG o k (pc + 3) L (.int (zI (zabs x)) :: st) H r) : eG o k pc L (.int (zI x) :: st) H r := by
  obtain ⟨hr, h2⟩ := gC_inv hh
  have hr2 : -2147483648 ≤ (0 : Int) ∧ (0 : Int) < 2147483648 ∧ -2147483648 ≤ x ∧ x < 2147483648 := ⟨hr.2.2.1, hr.2.2.2, hr.1, hr.2.1⟩
  refine g_step h ?_ (g h2)
  show eCall k (eOwn k) (.invokestatic idx) pc L _ H = _
  have e : (if (0 : Int32) ≤ zI x then zI x else 0 - zI x) = zI (zabs x) := by
    unfold zabs
    rw [show (0 : Int32) = zI 0 from rfl, zI_sub, Int.zero_sub]
    by_cases c : 0 ≤ x
    · rw [if_pos c, if_pos ((zI_le hr2).mpr c)]
    · rw [if_neg c, if_neg (fun q => c ((zI_le hr2).mp q))]
  simp only [eCall, hac, hq, eMth, hw, e]
/-- rows -/
theorem eOut_z {x : Int} {n : Nat} (h : 0 ≤ x ∧ x < (n : Int) ∧ n ≤ 1000000) : eOut (zI x) n = false := by
  have e : (zI x).toNatClampNeg = x.toNat := Int32.toNatClampNeg_ofInt_of_le (by omega) (by omega)
  have e2 : ¬ zI x < 0 := by
    rw [show (0 : Int32) = zI 0 from rfl, zI_lt ⟨by omega, by omega, by omega, by omega⟩]
    omega
  unfold eOut
  rw [e]
  simp only [e2, decide_false, Bool.false_or]
  cases hb : Nat.ble n x.toNat with
  | false => rfl
  | true => exact absurd (Nat.le_of_ble_eq_true hb) (by omega)
theorem upd_zu {f : Int → Int} {x v : Int} {n : Nat} (h : 0 ≤ x ∧ x < (n : Int) ∧ n ≤ 1000000) : upd (fun i : Nat => zI (f (i : Int))) (zI x).toNatClampNeg (zI v) = fun i : Nat => zI (zu f x v (i : Int)) := by
  have e : (zI x).toNatClampNeg = x.toNat := Int32.toNatClampNeg_ofInt_of_le (by omega) (by omega)
  funext j
  unfold upd zu
  rw [e]
  by_cases c : j = x.toNat
  · rw [if_pos c, if_pos (by omega)]
  · rw [if_neg c, if_neg (by omega)]
theorem updL_zu {f : Int → Int} {x v : Int} {n : Nat} (h : 0 ≤ x ∧ x < (n : Int) ∧ n ≤ 1000000) : vp_updL (fun i : Nat => zL (f (i : Int))) (zI x).toNatClampNeg (zL v) = fun i : Nat => zL (zu f x v (i : Int)) := by
  have e : (zI x).toNatClampNeg = x.toNat := Int32.toNatClampNeg_ofInt_of_le (by omega) (by omega)
  funext j
  unfold vp_updL zu
  rw [e]
  by_cases c : j = x.toNat
  · rw [if_pos c, if_pos (by omega)]
  · rw [if_neg c, if_neg (by omega)]
theorem s_iald {a n : Nat} {f : Int → Int} {x : Int} {T : Option α} (h : eAt k pc = some (.iaload, 1)) (hH : H[a]? = some (cI 0 n f)) (hh : gX x n T = some w) (g : T = some w → eG o k (pc + 1) L (.int (zI (f x)) :: st) H r) : eG o k pc L (.int (zI x) :: .ref a :: st) H r := by
  obtain ⟨hr, h2⟩ := gX_inv hh
  refine g_iald h hH (eOut_z hr) ?_
  rw [zI_clamp hr.1 (by omega)]
  exact g h2
theorem s_bald {a n : Nat} {f : Int → Int} {x : Int} {T : Option α} (h : eAt k pc = some (.baload, 1)) (hH : H[a]? = some (cI 2 n f)) (hh : gX x n T = some w) (g : T = some w → eG o k (pc + 1) L (.int (zI (f x)) :: st) H r) : eG o k pc L (.int (zI x) :: .ref a :: st) H r := by
  obtain ⟨hr, h2⟩ := gX_inv hh
  refine g_bald h hH (eOut_z hr) ?_
  rw [zI_clamp hr.1 (by omega)]
  exact g h2
theorem s_cald {a n : Nat} {f : Int → Int} {x : Int} {T : Option α} (h : eAt k pc = some (.caload, 1)) (hH : H[a]? = some (cI 3 n f)) (hh : gX x n T = some w) (g : T = some w → eG o k (pc + 1) L (.int (zI (f x)) :: st) H r) : eG o k pc L (.int (zI x) :: .ref a :: st) H r := by
  obtain ⟨hr, h2⟩ := gX_inv hh
  refine g_cald h hH (eOut_z hr) ?_
  rw [zI_clamp hr.1 (by omega)]
  exact g h2
theorem s_lald {a n : Nat} {f : Int → Int} {x : Int} {T : Option α} (h : eAt k pc = some (.laload, 1)) (hH : H[a]? = some (cL n f)) (hh : gX x n T = some w) (g : T = some w → eG o k (pc + 1) L (.long (zL (f x)) :: st) H r) : eG o k pc L (.int (zI x) :: .ref a :: st) H r := by
  obtain ⟨hr, h2⟩ := gX_inv hh
  refine g_lald h hH (eOut_z hr) ?_
  rw [zI_clamp hr.1 (by omega)]
  exact g h2
theorem s_obld {x : Int} {T : Option α} (h : eAt k pc = some (.iaload, 1)) (hh : gX x 4 T = some w) (g : T = some w → eG o k (pc + 1) L (.int (zI (zob x)) :: st) H r) : eG o k pc L (.int (zI x) :: .retAddr 1 :: st) H r := by
  obtain ⟨hr, h2⟩ := gX_inv hh
  refine g_step h ?_ (g h2)
  show eHp o (eOwn k) (eIni k) .iaload pc L (.int (zI x) :: .retAddr 1 :: st) H = _
  simp only [eHp, eRoA, eOut_z hr, ePush]
  have : x = 0 ∨ x = 1 ∨ x = 2 ∨ x = 3 := by omega
  rcases this with rfl | rfl | rfl | rfl <;> rfl
theorem s_iast {a n : Nat} {f : Int → Int} {x v : Int} {T : Option α} {H' : eH} (h : eAt k pc = some (.iastore, 1)) (hH : H[a]? = some (cI 0 n f)) (hs : H.set a (cI 0 n (zu f x v)) = H') (hh : gX x n T = some w) (g : T = some w → eG o k (pc + 1) L st H' r) : eG o k pc L (.int (zI v) :: .int (zI x) :: .ref a :: st) H r := by
  obtain ⟨hr, h2⟩ := gX_inv hh
  subst hs
  refine g_iast h hH (eOut_z hr) ?_
  rw [upd_zu hr]
  exact g h2
theorem s_bast {a n : Nat} {f : Int → Int} {x v : Int} {T : Option α} {H' : eH} (h : eAt k pc = some (.bastore, 1)) (hH : H[a]? = some (cI 2 n f)) (hs : H.set a (cI 2 n (zu f x v)) = H') (hh : gB v (gX x n T) = some w) (g : T = some w → eG o k (pc + 1) L st H' r) : eG o k pc L (.int (zI v) :: .int (zI x) :: .ref a :: st) H r := by
  obtain ⟨hb, hh⟩ := gB_inv hh
  obtain ⟨hr, h2⟩ := gX_inv hh
  subst hs
  refine g_bast h hH (eOut_z hr) ?_
  have e : vp_nar .boolean (zI v) = zI v := by rcases hb with rfl | rfl <;> rfl
  rw [e, upd_zu hr]
  exact g h2
theorem vp_char {v : Int} (h : 0 ≤ v ∧ v ≤ 65535) : vp_nar .char (zI v) = zI v := by
  have e : vp_nar .char (zI v) = ((zI v).toUInt32 % 65536).toInt32 := rfl
  rw [e]
  obtain ⟨m, rfl⟩ : ∃ m : Nat, v = (m : Int) := ⟨v.toNat, by omega⟩
  have e1 : zI (m : Int) = Int32.ofNat m := Int32.ofInt_eq_ofNat
  rw [e1]
  have e2 : (Int32.ofNat m).toUInt32 = UInt32.ofNat m := rfl
  rw [e2]
  have e3 : UInt32.ofNat m % 65536 = UInt32.ofNat m := by
    apply UInt32.toNat_inj.mp
    rw [UInt32.toNat_mod, UInt32.toNat_ofNat]
    show m % 4294967296 % 65536 = m % 4294967296
    omega
  rw [e3]
  rfl
theorem s_cast {a n : Nat} {f : Int → Int} {x v : Int} {T : Option α} {H' : eH} (h : eAt k pc = some (.castore, 1)) (hH : H[a]? = some (cI 3 n f)) (hs : H.set a (cI 3 n (zu f x v)) = H') (hh : gH v (gX x n T) = some w) (g : T = some w → eG o k (pc + 1) L st H' r) : eG o k pc L (.int (zI v) :: .int (zI x) :: .ref a :: st) H r := by
  obtain ⟨hb, hh⟩ := gH_inv hh
  obtain ⟨hr, h2⟩ := gX_inv hh
  subst hs
  refine g_cast h hH (eOut_z hr) ?_
  rw [vp_char hb, upd_zu hr]
  exact g h2
theorem s_last {a n : Nat} {f : Int → Int} {x v : Int} {T : Option α} {H' : eH} (h : eAt k pc = some (.lastore, 1)) (hH : H[a]? = some (cL n f)) (hs : H.set a (cL n (zu f x v)) = H') (hh : gX x n T = some w) (g : T = some w → eG o k (pc + 1) L st H' r) : eG o k pc L (.long (zL v) :: .int (zI x) :: .ref a :: st) H r := by
  obtain ⟨hr, h2⟩ := gX_inv hh
  subst hs
  refine g_last h hH (eOut_z hr) ?_
  rw [updL_zu hr]
  exact g h2
theorem s_alen {a t n : Nat} {f : Int → Int} (h : eAt k pc = some (.arraylength, 1)) (hH : H[a]? = some (cI t n f)) (ht : Nat.blt t 5 = true) (g : eG o k (pc + 1) L (.int (zI (n : Int)) :: st) H r) : eG o k pc L (.ref a :: st) H r :=
  g_alen h hH ht (by rw [show Int32.ofNat n = zI (n : Int) from Int32.ofInt_eq_ofNat.symm]; exact g)
theorem s_alenL {a n : Nat} {f : Int → Int} (h : eAt k pc = some (.arraylength, 1)) (hH : H[a]? = some (cL n f)) (g : eG o k (pc + 1) L (.int (zI (n : Int)) :: st) H r) : eG o k pc L (.ref a :: st) H r :=
  g_alen h hH rfl (by rw [show Int32.ofNat n = zI (n : Int) from Int32.ofInt_eq_ofNat.symm]; exact g)
theorem zc_cpy {f g : Int → Int} {sp dp m : Int} (h1 : 0 ≤ sp) (h2 : 0 ≤ dp) (h3 : 0 ≤ m) (q : Nat) : zc f g sp dp m (q : Int) = if dp.toNat ≤ q ∧ q < dp.toNat + m.toNat then f ((sp.toNat + (q - dp.toNat) : Nat) : Int) else g (q : Int) := by
  unfold zc
  by_cases c : dp.toNat ≤ q ∧ q < dp.toNat + m.toNat
  · rw [if_pos c, if_pos (by omega)]
    congr 1
    omega
  · rw [if_neg c, if_neg (by omega)]
theorem s_cpy {idx a b n0 n1 : Nat} {sp dp m : Int} {f g : Int → Int} {T : Option α} {H' : eH} (h : eAt k pc = some (.invokestatic idx, 3)) (hac : eHas eAc (eOwn k) idx = true) (hA : H[a]? = some (cI 0 n0 f)) (hB : H[b]? = some (cI 0 n1 g)) (hw : Nat.ble (eWords st) 8 = true) (hs : H.set b (cI 0 n1 (zc f g sp dp m)) = H') (hh : gY sp dp m n0 n1 T = some w) (gg : T = some w → eG o k (pc + 3) L st H' r) : eG o k pc L (.int (zI m) :: .int (zI dp) :: .ref b :: .int (zI sp) :: .ref a :: st) H r := by
  obtain ⟨⟨h1, h2, h3, h4, h5, h6, h7⟩, h8⟩ := gY_inv hh
  subst hs
  have c1 : (zI sp).toNatClampNeg = sp.toNat := Int32.toNatClampNeg_ofInt_of_le (by omega) (by omega)
  have c2 : (zI dp).toNatClampNeg = dp.toNat := Int32.toNatClampNeg_ofInt_of_le (by omega) (by omega)
  have c3 : (zI m).toNatClampNeg = m.toNat := Int32.toNatClampNeg_ofInt_of_le (by omega) (by omega)
  have pos : ∀ x : Int, 0 ≤ x → x < 2147483648 → ¬ zI x < 0 := fun x a b => by
    rw [show (0 : Int32) = zI 0 from rfl, zI_lt ⟨by omega, by omega, by omega, by omega⟩]
    omega
  have p1 := pos sp h1 (by omega)
  have p2 := pos dp h2 (by omega)
  have p3 := pos m h3 (by omega)
  refine g_step h ?_ (gg h8)
  show eCall k (eOwn k) (.invokestatic idx) pc L _ H = _
  have e : va_cpy (fun i : Nat => zI (f (i : Int))) (fun i : Nat => zI (g (i : Int))) sp.toNat dp.toNat m.toNat = fun i : Nat => zI (zc f g sp dp m (i : Int)) := by
    funext q
    rw [zc_cpy h1 h2 h3 q]
    unfold va_cpy
    split <;> rfl
  have hA' : H[a]? = some (.inl (0, n0, .inl (fun i => zI (f (i : Int))))) := hA
  have hB' : H[b]? = some (.inl (0, n1, .inl (fun i => zI (g (i : Int))))) := hB
  simp only [eCall, hac, eCpy, hA', hB', c1, c2, c3, p1, p2, p3, Nat.ble_eq_true_of_le (show sp.toNat + m.toNat ≤ n0 by omega), Nat.ble_eq_true_of_le (show dp.toNat + m.toNat ≤ n1 by omega), hw, or_self, if_false, e]
  rfl
theorem s_cpyL {idx a b n0 n1 : Nat} {sp dp m : Int} {f g : Int → Int} {T : Option α} {H' : eH} (h : eAt k pc = some (.invokestatic idx, 3)) (hac : eHas eAc (eOwn k) idx = true) (hA : H[a]? = some (cL n0 f)) (hB : H[b]? = some (cL n1 g)) (hw : Nat.ble (eWords st) 8 = true) (hs : H.set b (cL n1 (zc f g sp dp m)) = H') (hh : gY sp dp m n0 n1 T = some w) (gg : T = some w → eG o k (pc + 3) L st H' r) : eG o k pc L (.int (zI m) :: .int (zI dp) :: .ref b :: .int (zI sp) :: .ref a :: st) H r := by
  obtain ⟨⟨h1, h2, h3, h4, h5, h6, h7⟩, h8⟩ := gY_inv hh
  subst hs
  have c1 : (zI sp).toNatClampNeg = sp.toNat := Int32.toNatClampNeg_ofInt_of_le (by omega) (by omega)
  have c2 : (zI dp).toNatClampNeg = dp.toNat := Int32.toNatClampNeg_ofInt_of_le (by omega) (by omega)
  have c3 : (zI m).toNatClampNeg = m.toNat := Int32.toNatClampNeg_ofInt_of_le (by omega) (by omega)
  have pos : ∀ x : Int, 0 ≤ x → x < 2147483648 → ¬ zI x < 0 := fun x a b => by
    rw [show (0 : Int32) = zI 0 from rfl, zI_lt ⟨by omega, by omega, by omega, by omega⟩]
    omega
  have p1 := pos sp h1 (by omega)
  have p2 := pos dp h2 (by omega)
  have p3 := pos m h3 (by omega)
  refine g_step h ?_ (gg h8)
  show eCall k (eOwn k) (.invokestatic idx) pc L _ H = _
  have e : va_cpy (fun i : Nat => zL (f (i : Int))) (fun i : Nat => zL (g (i : Int))) sp.toNat dp.toNat m.toNat = fun i : Nat => zL (zc f g sp dp m (i : Int)) := by
    funext q
    rw [zc_cpy h1 h2 h3 q]
    unfold va_cpy
    split <;> rfl
  have hA' : H[a]? = some (.inl (1, n0, .inr (fun i => zL (f (i : Int))))) := hA
  have hB' : H[b]? = some (.inl (1, n1, .inr (fun i => zL (g (i : Int))))) := hB
  simp only [eCall, hac, eCpy, hA', hB', c1, c2, c3, p1, p2, p3, Nat.ble_eq_true_of_le (show sp.toNat + m.toNat ≤ n0 by omega), Nat.ble_eq_true_of_le (show dp.toNat + m.toNat ≤ n1 by omega), hw, or_self, if_false, e]
  rfl
/-- fields -/
theorem s_putf {idx ci j a : Nat} {fs : List Value} {v : Value} {nm : String × String × String × Bool} {ty : FieldType} {H' : eH} (h : eAt k pc = some (.putfield idx, 3)) (hl : eFind (eLf (eOwn k)) idx = some (ci, j)) (hH : H[a]? = some (.inr (ci, fs))) (hj : Nat.blt j fs.length = true) (hn : (eFd ci)[j]? = some nm) (ht : (eFt ci)[j]? = some ty) (hf : eFit ty v = true) (hfin : nm.2.2.2 = false) (hs : H.set a (.inr (ci, fs.set j v)) = H') (g : eG o k (pc + 3) L st H' r) : eG o k pc L (v :: .ref a :: st) H r := by
  subst hs
  exact g_putf h hl hH hj hn ht hf (Or.inl hfin) g
theorem fitB {x : Int} (h : x = 0 ∨ x = 1) : eFit .boolean (.int (zI x)) = true := by rcases h with rfl | rfl <;> rfl
theorem fitH {x : Int} (h : 0 ≤ x ∧ x ≤ 65535) : eFit .char (.int (zI x)) = true := by
  show (decide ((0 : Int32) ≤ zI x) && decide (zI x ≤ 65535)) = true
  rw [show (0 : Int32) = zI 0 from rfl, show (65535 : Int32) = zI 65535 from rfl]
  rw [Bool.and_eq_true]
  exact ⟨decide_eq_true ((zI_le ⟨by omega, by omega, by omega, by omega⟩).mpr h.1), decide_eq_true ((zI_le ⟨by omega, by omega, by omega, by omega⟩).mpr h.2)⟩
theorem s_putb {idx ci j a : Nat} {fs : List Value} {x : Int} {T : Option α} {nm : String × String × String × Bool} {H' : eH} (h : eAt k pc = some (.putfield idx, 3)) (hl : eFind (eLf (eOwn k)) idx = some (ci, j)) (hH : H[a]? = some (.inr (ci, fs))) (hj : Nat.blt j fs.length = true) (hn : (eFd ci)[j]? = some nm) (ht : (eFt ci)[j]? = some .boolean) (hfin : nm.2.2.2 = false) (hs : H.set a (.inr (ci, fs.set j (.int (zI x)))) = H') (hh : gB x T = some w) (g : T = some w → eG o k (pc + 3) L st H' r) : eG o k pc L (.int (zI x) :: .ref a :: st) H r := by
  obtain ⟨hb, h2⟩ := gB_inv hh
  subst hs
  exact g_putf h hl hH hj hn ht (fitB hb) (Or.inl hfin) (g h2)
/-- answers -/
theorem s_ret {x : Int} (h : eAt k pc = some (.ireturn, 1)) (ht : eRt.getD k none = some .int) (e : r (some (.int (zI x)), H)) : eG o k pc L [.int (zI x)] H r := g_retiS h ht rfl e
theorem s_retB {x : Int} {T : Option α} (h : eAt k pc = some (.ireturn, 1)) (ht : eRt.getD k none = some .boolean) (hh : gB x T = some w) (e : T = some w → r (some (.int (zI x)), H)) : eG o k pc L [.int (zI x)] H r := by
  obtain ⟨hb, h2⟩ := gB_inv hh
  exact g_retiS h ht (fitB hb) (e h2)
theorem s_retH {x : Int} {T : Option α} (h : eAt k pc = some (.ireturn, 1)) (ht : eRt.getD k none = some .char) (hh : gH x T = some w) (e : T = some w → r (some (.int (zI x)), H)) : eG o k pc L [.int (zI x)] H r := by
  obtain ⟨hb, h2⟩ := gH_inv hh
  exact g_retiS h ht (fitH hb) (e h2)
theorem s_retL {x : Int64} (h : eAt k pc = some (.lreturn, 1)) (ht : eRt.getD k none = some .long) (e : r (some (.long x), H)) : eG o k pc L [.long x] H r := by
  refine g_ret h ?_ e
  show eCall k (eOwn k) .lreturn pc L [.long x] H = _
  simp only [eCall, ht]
/-- calls: q is what the callee does, V its answer, G its heap -/
theorem s_vir {β : Type} {idx q a pc' : Nat} {as st' : List Value} {fs : List Value} {Q : Option β} {f : β → Option α} (V : β → Option Value) (G : β → eH) (h : eAt k pc = some (.invokevirtual idx, 3)) (hq : eFind (eLv (eOwn k)) idx = some q) (hp : ePop (eNa.getD q 0) [] st = some (as, .ref a :: st')) (hH : H[a]? = some (.inr (eOwn q, fs))) (hw : Nat.ble (eWords st') 8 = true) (hle : Nat.ble (eArgs (.ref a :: as)).length (eMx.getD q 0) = true) (hc : ∀ z, Q = some z → eG o q 0 (eEnt q (.ref a :: as)) [] H (rv (V z) (G z))) (hpc : pc + 3 = pc') (hh : Q.bind f = some w) (g : ∀ z, f z = some w → eG o k pc' L ((V z).toList ++ st') (G z) r) : eG o k pc L st H r := by
  obtain ⟨z, h1, h2⟩ := zB_inv hh
  exact g_vir h hq hp hH hw hle (hc z h1) hpc (g z h2)
theorem s_sta {β : Type} {idx q pc' : Nat} {as st' : List Value} {Q : Option β} {f : β → Option α} (V : β → Option Value) (G : β → eH) (h : eAt k pc = some (.invokestatic idx, 3)) (hac : eHas eAc (eOwn k) idx = false) (hq : eFind (eLs (eOwn k)) idx = some q) (hm : eMth q st = none) (hp : ePop (eNa.getD q 0) [] st = some (as, st')) (hw : Nat.ble (eWords st') 8 = true) (hle : Nat.ble (eArgs as).length (eMx.getD q 0) = true) (hc : ∀ z, Q = some z → eG o q 0 (eEnt q as) [] H (rv (V z) (G z))) (hpc : pc + 3 = pc') (hh : Q.bind f = some w) (g : ∀ z, f z = some w → eG o k pc' L ((V z).toList ++ st') (G z) r) : eG o k pc L st H r := by
  obtain ⟨z, h1, h2⟩ := zB_inv hh
  exact g_sta h hac hq hm hp hw hle (hc z h1) hpc (g z h2)
theorem s_tabv {d lo hi : Int} {offs : Array Int} {x : Int} (tgt : Nat) (h : eAt k pc = some (.tableswitch d lo hi offs, l)) (hr : -2147483648 ≤ x ∧ x < 2147483648) (ht : (if x < lo ∨ hi < x then eTgt pc d else eTgt pc (offs.toList.getD (x - lo).toNat d)) = tgt) (g : eG o k tgt L st H r) : eG o k pc L (.int (zI x) :: st) H r := by
  refine g_step h ?_ g
  show eLoc (eOwn k) (.tableswitch d lo hi offs) pc L (.int (zI x) :: st) H = _
  simp only [eLoc, zI_to hr.1 hr.2, ht]
end S1
end
section
/-! the row of needs made anew; the kinds' text -/
def wN (S : ZS) : ZS := (fun h => if h = 31 then zc (S.1 31) (fun _ => 0) 0 0 ((nn S : Nat) : Int) else S.1 h, S.2.1, 2 * S.2.2.1, match S.2.2.2 with
  | none => some (cNd S, [])
  | some (g, gs) => some (g, gs ++ [cNd S]))
def gG {α : Type} (S : ZS) (x : Int) (T : Option α) : Option α := if x = 2 * ((nn S : Nat) : Int) ∧ 0 < nn S ∧ nn S ≤ 100000 then T else none
theorem gG_inv {α : Type} {S : ZS} {x : Int} {T : Option α} {w : α} (h : gG S x T = some w) : (x = 2 * ((nn S : Nat) : Int) ∧ 0 < nn S ∧ nn S ≤ 100000) ∧ T = some w := by
  unfold gG at h
  split at h
  · exact ⟨by assumption, h⟩
  · cases h
theorem gG_pos {α : Type} {S : ZS} {x : Int} {T : Option α} (h1 : x = 2 * ((nn S : Nat) : Int)) (h2 : 0 < nn S) (h3 : nn S ≤ 100000) : gG S x T = T := if_pos ⟨h1, h2, h3⟩
section S3
variable {o : eO} {k pc l : Nat} {L : eL} {st : List Value} {H : eH} {r : eP}
theorem s_newI {x : Int} (h : eAt k pc = some (.newarray .int, 2)) (hx : 0 ≤ x ∧ x ≤ 1000000) (g : eG o k (pc + 2) L (.ref H.length :: st) (H ++ [cI 0 x.toNat (fun _ => 0)]) r) : eG o k pc L (.int (zI x) :: st) H r := by
  have e : (zI x).toNatClampNeg = x.toNat := Int32.toNatClampNeg_ofInt_of_le (by omega) (by omega)
  have e2 : ¬ zI x < 0 := by
    rw [show (0 : Int32) = zI 0 from rfl, zI_lt ⟨by omega, by omega, by omega, by omega⟩]
    omega
  refine g_step h ?_ g
  show (if zI x < 0 ∨ 67108864 < (zI x).toNatClampNeg then none else (some (Sum.inl (pc + 2, L, Value.ref H.length :: st, H ++ [eNew 0 (zI x).toNatClampNeg])) : Option eR)) = _
  rw [e, if_neg (by rintro (q | q); exact e2 q; omega)]
  rfl
theorem g_reta {a : Nat} {ty : FieldType} (h : eAt k pc = some (.areturn, 1)) (ht : eRt.getD k none = some (.array ty)) (e : r (some (.ref a), H)) : eG o k pc L [.ref a] H r := by
  refine g_ret h ?_ e
  show eCall k (eOwn k) .areturn pc L [.ref a] H = _
  simp only [eCall, ht]
theorem s_alen' {a t n : Nat} {f : Int → Int} (h : eAt k pc = some (.arraylength, 1)) (hH : H[a]? = some (cI t n f)) (ht : Nat.blt t 5 = true) (g : eG o k (pc + 1) L (.int (zI (n : Int)) :: st) H r) : eG o k pc L (.ref a :: st) H r := s_alen h hH ht g
theorem g_virR {idx q pc' : Nat} {as st' : List Value} {H1 : eH} {v : Option Value} (h : eAt k pc = some (.invokevirtual idx, 3)) (hq : eFind (eLv (eOwn k)) idx = some q) (hp : ePop (eNa.getD q 0) [] st = some (as, .retAddr 2 :: st')) (ho : Nat.beq 11 (eOwn q) = true) (hw : Nat.ble (eWords st') 8 = true) (hle : Nat.ble (eArgs (.retAddr 2 :: as)).length (eMx.getD q 0) = true) (gq : eG o q 0 (eEnt q (.retAddr 2 :: as)) [] H (rv v H1)) (hpc : pc + 3 = pc') (g : eG o k pc' L (v.toList ++ st') H1 r) : eG o k pc L st H r := by
  subst hpc
  refine g_call h ?_ hle gq g
  show eCall k (eOwn k) (.invokevirtual idx) pc L st H = _
  simp only [eCall, hq, hp, ho, hw]
end S3
set_option maxRecDepth 100000 in
theorem t_copyOf (o : eO) (H : eH) {a n : Nat} {f : Int → Int} (hH : H[a]? = some (cI 0 n f)) (h0 : 0 < n) (h1 : n ≤ 100000) : eG o 68 0 (eEnt 68 [.ref a, .int (zI (2 * (n : Int)))]) [] H (rv (some (.ref H.length)) (H ++ [cI 0 (2 * n) (zc f (fun _ => 0) 0 0 (n : Int))])) := by
  have hl : a < H.length := (List.getElem?_eq_some_iff.mp hH).1
  show eG o 68 0 [some (.ref a), some (.int (zI (2 * (n : Int)))), none] [] H _
  refine g_run 2 2 [some (.ref a), some (.int (zI (2 * (n : Int)))), none] [.ref a, .int (zI (2 * (n : Int)))] H rfl ?_
  refine s_alen rfl hH rfl ?_
  refine s_icmp_ne (α := Unit) (w := ()) (A := some ()) (B := none) rfl (by rw [gC_pos (by omega) (by omega) (by omega) (by omega), if_neg (by omega)]) (fun _ => ?_) (fun h => by cases h)
  show eG _ 68 14 [some (.ref a), some (.int (zI (2 * (n : Int)))), none] [] H _
  refine g_run 1 15 [some (.ref a), some (.int (zI (2 * (n : Int)))), none] [.int (zI (2 * (n : Int)))] H rfl ?_
  refine s_newI rfl (by omega) ?_
  have e1 : (2 * (n : Int)).toNat = 2 * n := by omega
  rw [e1]
  have hA : (H ++ [cI 0 (2 * n) (fun _ => 0)])[a]? = some (cI 0 n f) := by rw [List.getElem?_append_left hl]; exact hH
  have hB : (H ++ [cI 0 (2 * n) (fun _ => 0)])[H.length]? = some (cI 0 (2 * n) (fun _ => 0)) := by rw [List.getElem?_append_right (Nat.le_refl _), Nat.sub_self]; rfl
  refine g_run 6 23 [some (.ref a), some (.int (zI (2 * (n : Int)))), some (.ref H.length)] [.ref a, .int (zI 0), .ref H.length, .int (zI 0), .ref a] (H ++ [cI 0 (2 * n) (fun _ => 0)]) rfl ?_
  refine s_alen rfl hA rfl ?_
  refine g_run 1 25 [some (.ref a), some (.int (zI (2 * (n : Int)))), some (.ref H.length)] [.int (zI (2 * (n : Int))), .int (zI (n : Int)), .int (zI 0), .ref H.length, .int (zI 0), .ref a] (H ++ [cI 0 (2 * n) (fun _ => 0)]) rfl ?_
  refine s_min (α := Unit) (w := ()) (T := some ()) rfl rfl rfl rfl (by rw [gC_pos (by omega) (by omega) (by omega) (by omega)]) (fun _ => ?_)
  rw [show min (n : Int) (2 * (n : Int)) = (n : Int) from Int.min_eq_left (by omega)]
  refine s_cpy (α := Unit) (w := ()) (T := some ()) (H' := H ++ [cI 0 (2 * n) (zc f (fun _ => 0) 0 0 (n : Int))]) rfl rfl hA hB rfl ?_ (by rw [gY_pos (by omega) (by omega) (by omega) (by omega) (by omega) (by omega) (by omega)]) (fun _ => ?_)
  · rw [List.set_append_right _ _ (Nat.le_refl _), Nat.sub_self]
    rfl
  · refine g_run 1 32 [some (.ref a), some (.int (zI (2 * (n : Int)))), some (.ref H.length)] [.ref H.length] (H ++ [cI 0 (2 * n) (zc f (fun _ => 0) 0 0 (n : Int))]) rfl ?_
    exact g_reta (ty := .int) rfl rfl rfl
theorem rw_regrow (S : ZS) : (rd S ++ [cI 0 (2 * nn S) (zc (S.1 31) (fun _ => 0) 0 0 ((nn S : Nat) : Int))]).set 24 (.inr (5, ([.ref 25, .ref 26, .ref 27, .ref 28, .ref 29, .ref 30, .ref (nd S), .ref 32, .int (zI (S.2.1 24 8)), .int (zI (S.2.1 24 9)), .int (zI (S.2.1 24 10)), .int (zI (S.2.1 24 11)), .int (zI (S.2.1 24 12)), .int (zI (S.2.1 24 13)), .int (zI (S.2.1 24 14)), .int (zI (S.2.1 24 15)), .int (zI (S.2.1 24 16))] : List Value).set 6 (.ref (rd S).length))) = rd (wN S) := by
  obtain ⟨A, F, k, x⟩ := S
  cases x with
  | none => rfl
  | some g =>
    obtain ⟨g, gs⟩ := g
    rw [rd_len]
    unfold rd
    rw [List.append_assoc, List.set_append_left _ _ (by show 24 < 74; omega)]
    rfl
set_option maxRecDepth 100000 in
theorem s_regrow {o : eO} {S : ZS} {x : Int} {L : eL} {st : List Value} {r : eP} {α : Type} {T : Option α} {w : α} (hst : Nat.ble (eWords (.ref 24 :: st)) 8 = true) (hh : gG S x T = some w) (g : T = some w → eG o 67 46 L st (rd (wN S)) r) : eG o 67 40 L (.int (zI x) :: .ref (nd S) :: .ref 24 :: st) (rd S) r := by
  obtain ⟨⟨rfl, h1, h2⟩, h3⟩ := gG_inv hh
  refine g_sta rfl rfl rfl rfl rfl hst rfl (t_copyOf o (rd S) (rd_nd S) h1 h2) rfl ?_
  show eG _ 67 43 L (.ref (rd S).length :: .ref 24 :: st) (rd S ++ [cI 0 (2 * nn S) (zc (S.1 31) (fun _ => 0) 0 0 ((nn S : Nat) : Int))]) _
  have h24 : (rd S ++ [cI 0 (2 * nn S) (zc (S.1 31) (fun _ => 0) 0 0 ((nn S : Nat) : Int))])[24]? = some (.inr (5, [.ref 25, .ref 26, .ref 27, .ref 28, .ref 29, .ref 30, .ref (nd S), .ref 32, .int (zI (S.2.1 24 8)), .int (zI (S.2.1 24 9)), .int (zI (S.2.1 24 10)), .int (zI (S.2.1 24 11)), .int (zI (S.2.1 24 12)), .int (zI (S.2.1 24 13)), .int (zI (S.2.1 24 14)), .int (zI (S.2.1 24 15)), .int (zI (S.2.1 24 16))])) := by
    rw [List.getElem?_append_left (by rw [rd_len]; omega)]
    exact rd_o24 S
  exact s_putf rfl rfl h24 rfl rfl rfl rfl rfl (rw_regrow S) (g h3)
/-- where a letter stands in hbcr -/
def kix (c : Int) : Int := if c = 104 then 0 else if c = 98 then 1 else if c = 99 then 2 else if c = 114 then 3 else -1
set_option maxRecDepth 100000 in
theorem t_ixc (o : eO) (H : eH) {c : Int} {b : Int32} (hb : b = (zI c).toInt8.toInt32) (h : 0 ≤ c ∧ c ≤ 255) : eG o 201 0 (eEnt 201 [.retAddr 3, .int (zI c), .int (zI 0), .int (zI 4)]) [] H (rv (some (.int (zI (kix c)))) H) := by
  have hb2 : b.toInt = c.bmod 256 := by
    rw [hb, Int8.toInt_toInt32, Int32.toInt_toInt8, zI_to (by omega) (by omega)]
  have hk : ∀ v : Int, 0 ≤ v ∧ v < 128 → (zI v = b ↔ c = v) := by
    intro v hv
    rw [← Int32.toInt_inj, zI_to (by omega) (by omega), hb2, Int.bmod_def]
    split <;> omega
  show eG o 201 0 [some (.retAddr 3), some (.int (zI c)), some (.int (zI 0)), some (.int (zI 4)), none, none] [] H _
  refine g_run 5 7 [some (.retAddr 3), some (.int (zI c)), some (.int (zI 0)), some (.int (zI 4)), some (.int b), some (.int (zI 0))] [] H (by rw [hb]; rfl) ?_
  refine g_run 7 19 [some (.retAddr 3), some (.int (zI c)), some (.int (zI 0)), some (.int (zI 4)), some (.int b), some (.int (zI 0))] [.int b, .int (zI 104)] H rfl ?_
  refine g_icmp_ne rfl (fun c0 => ?_) (fun c0 => ?_)
  rotate_left
  · refine g_run 1 24 [some (.retAddr 3), some (.int (zI c)), some (.int (zI 0)), some (.int (zI 4)), some (.int b), some (.int (zI 0))] [.int (zI 0)] H rfl ?_
    exact s_ret rfl rfl (by unfold kix; rw [if_pos ((hk 104 (by omega)).mp c0)])
  have n0 : ¬ c = 104 := fun q => c0 ((hk 104 (by omega)).mpr q)
  refine g_run 9 19 [some (.retAddr 3), some (.int (zI c)), some (.int (zI 0)), some (.int (zI 4)), some (.int b), some (.int (zI 1))] [.int b, .int (zI 98)] H rfl ?_
  refine g_icmp_ne rfl (fun c0 => ?_) (fun c0 => ?_)
  rotate_left
  · refine g_run 1 24 [some (.retAddr 3), some (.int (zI c)), some (.int (zI 0)), some (.int (zI 4)), some (.int b), some (.int (zI 1))] [.int (zI 1)] H rfl ?_
    exact s_ret rfl rfl (by unfold kix; rw [if_neg n0, if_pos ((hk 98 (by omega)).mp c0)])
  have n1 : ¬ c = 98 := fun q => c0 ((hk 98 (by omega)).mpr q)
  refine g_run 9 19 [some (.retAddr 3), some (.int (zI c)), some (.int (zI 0)), some (.int (zI 4)), some (.int b), some (.int (zI 2))] [.int b, .int (zI 99)] H rfl ?_
  refine g_icmp_ne rfl (fun c0 => ?_) (fun c0 => ?_)
  rotate_left
  · refine g_run 1 24 [some (.retAddr 3), some (.int (zI c)), some (.int (zI 0)), some (.int (zI 4)), some (.int b), some (.int (zI 2))] [.int (zI 2)] H rfl ?_
    exact s_ret rfl rfl (by unfold kix; rw [if_neg n0, if_neg n1, if_pos ((hk 99 (by omega)).mp c0)])
  have n2 : ¬ c = 99 := fun q => c0 ((hk 99 (by omega)).mpr q)
  refine g_run 9 19 [some (.retAddr 3), some (.int (zI c)), some (.int (zI 0)), some (.int (zI 4)), some (.int b), some (.int (zI 3))] [.int b, .int (zI 114)] H rfl ?_
  refine g_icmp_ne rfl (fun c0 => ?_) (fun c0 => ?_)
  rotate_left
  · refine g_run 1 24 [some (.retAddr 3), some (.int (zI c)), some (.int (zI 0)), some (.int (zI 4)), some (.int b), some (.int (zI 3))] [.int (zI 3)] H rfl ?_
    exact s_ret rfl rfl (by unfold kix; rw [if_neg n0, if_neg n1, if_neg n2, if_pos ((hk 114 (by omega)).mp c0)])
  have n3 : ¬ c = 114 := fun q => c0 ((hk 114 (by omega)).mpr q)
  refine g_run 6 32 [some (.retAddr 3), some (.int (zI c)), some (.int (zI 0)), some (.int (zI 4)), some (.int b), some (.int (zI 4))] [.int (zI (-1))] H rfl ?_
  exact s_ret rfl rfl (by unfold kix; rw [if_neg n0, if_neg n1, if_neg n2, if_neg n3])
set_option maxRecDepth 100000 in
theorem t_canEnc (o : eO) (H : eH) {c : Int} (h : 0 ≤ c ∧ c ≤ 65535) : eG o 200 0 (eEnt 200 [.int (zI c)]) [] H (rv (some (.int (zI (if 255 < c then 0 else 1)))) H) := by
  show eG o 200 0 [some (.int (zI c))] [] H _
  refine g_run 1 1 [some (.int (zI c))] [.int (zI c)] H rfl ?_
  refine s_if_lt (α := Unit) (w := ()) (A := none) (B := some ()) rfl (by rw [gC_pos (by omega) (by omega) (by omega) (by omega), if_neg (by omega)]) (fun h => by cases h) (fun _ => ?_)
  refine g_run 2 8 [some (.int (zI c))] [.int (zI 255), .int (zI c)] H rfl ?_
  by_cases hc : 255 < c
  · refine s_icmp_gt (α := Unit) (w := ()) (A := some ()) (B := none) rfl (by rw [gC_pos (by omega) (by omega) (by omega) (by omega), if_pos hc]) (fun _ => ?_) (fun h => by cases h)
    refine g_run 1 16 [some (.int (zI c))] [.int (zI 0)] H rfl ?_
    rw [if_pos hc]
    exact g_retiS rfl rfl rfl rfl
  · refine s_icmp_gt (α := Unit) (w := ()) (A := none) (B := some ()) rfl (by rw [gC_pos (by omega) (by omega) (by omega) (by omega), if_neg hc]) (fun h => by cases h) (fun _ => ?_)
    refine g_run 2 16 [some (.int (zI c))] [.int (zI 1)] H rfl ?_
    rw [if_neg hc]
    exact g_retiS rfl rfl rfl rfl
set_option maxRecDepth 100000 in
theorem t_ix1 (o : eO) (H : eH) {c : Int} (h : 0 ≤ c ∧ c ≤ 65535) : eG o 199 0 (eEnt 199 [.retAddr 3, .int (zI c), .int (zI 0), .int (zI 4)]) [] H (rv (some (.int (zI (kix c)))) H) := by
  show eG o 199 0 [some (.retAddr 3), some (.int (zI c)), some (.int (zI 0)), some (.int (zI 4))] [] H _
  refine g_run 1 1 [some (.retAddr 3), some (.int (zI c)), some (.int (zI 0)), some (.int (zI 4))] [.int (zI c)] H rfl ?_
  refine g_sta rfl rfl rfl rfl rfl rfl rfl (t_canEnc o H h) rfl ?_
  show eG _ 199 4 [some (.retAddr 3), some (.int (zI c)), some (.int (zI 0)), some (.int (zI 4))] [.int (zI (if 255 < c then 0 else 1))] H _
  by_cases hc : 255 < c
  · rw [if_pos hc]
    refine g_run 2 8 [some (.retAddr 3), some (.int (zI c)), some (.int (zI 0)), some (.int (zI 4))] [.int (zI (-1))] H rfl ?_
    exact s_ret rfl rfl (by unfold kix; rw [if_neg (by omega), if_neg (by omega), if_neg (by omega), if_neg (by omega)])
  · rw [if_neg hc]
    refine g_run 17 33 [some (.retAddr 3), some (.int (zI c)), some (.int (zI 0)), some (.int (zI 4))] [.int (zI 4), .int (zI 0), .int (zI c), .retAddr 3] H rfl ?_
    refine g_sta rfl rfl rfl rfl rfl rfl rfl (t_ixc o H rfl ⟨h.1, by omega⟩) rfl ?_
    exact s_ret rfl rfl rfl
set_option maxRecDepth 100000 in
theorem t_ix2 (o : eO) (H : eH) {c : Int} (h : 0 ≤ c ∧ c ≤ 65535) : eG o 195 0 (eEnt 195 [.retAddr 2, .int (zI c), .int (zI 0)]) [] H (rv (some (.int (zI (kix c)))) H) := by
  show eG o 195 0 [some (.retAddr 2), some (.int (zI c)), some (.int (zI 0))] [] H _
  refine g_run 1 1 [some (.retAddr 2), some (.int (zI c)), some (.int (zI 0))] [.retAddr 2] H rfl ?_
  refine g_virR (v := some (.int 1)) (H1 := H) rfl rfl rfl rfl rfl rfl ⟨20, _, rfl, rfl⟩ rfl ?_
  refine g_run 6 14 [some (.retAddr 2), some (.int (zI c)), some (.int (zI 0))] [.retAddr 2, .int (zI 0), .int (zI c), .retAddr 3] H rfl ?_
  refine g_virR (v := some (.int 4)) (H1 := H) rfl rfl rfl rfl rfl rfl ⟨30, _, rfl, rfl⟩ rfl ?_
  refine g_sta rfl rfl rfl rfl rfl rfl rfl (t_ix1 o H h) rfl ?_
  refine g_run 1 36 [some (.retAddr 2), some (.int (zI c)), some (.int (zI 0))] [.int (zI (kix c))] H rfl ?_
  exact s_ret rfl rfl rfl
set_option maxRecDepth 100000 in
theorem s_kix {o : eO} {L : eL} {st : List Value} {H : eH} {r : eP} {c : Int} {α : Type} {T : Option α} {w : α} (hst : Nat.ble (eWords st) 8 = true) (hh : gH c T = some w) (g : T = some w → eG o 34 9 L (.int (zI (kix c)) :: st) H r) : eG o 34 6 L (.int (zI c) :: .retAddr 2 :: st) H r := by
  obtain ⟨h1, h2⟩ := gH_inv hh
  refine g_virR (v := some (.int (zI (kix c)))) (H1 := H) rfl rfl rfl rfl hst rfl ?_ rfl (g h2)
  show eG o 194 0 [some (.retAddr 2), some (.int (zI c))] [] H _
  refine g_run 3 3 [some (.retAddr 2), some (.int (zI c))] [.int (zI 0), .int (zI c), .retAddr 2] H rfl ?_
  refine g_virR rfl rfl rfl rfl rfl rfl (t_ix2 o H h1) rfl ?_
  exact s_ret rfl rfl rfl
end
