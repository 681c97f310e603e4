section
-- ===== PART A: goes FIRST, ahead of the names: the tables' words, and 'selects' of the private methods out of them =====
/-- a private method of a class that the tables say can be made, by its rows of tables_1 -/
def lw_okq (q : MethodName × Nat) : Prop := (q.1.cls ≠ "java/lang/invoke/MethodHandle" ∧ q.1.cls ≠ "java/lang/invoke/VarHandle") ∧ Cond.instantiable q.1.cls q.2 ∈ tables_1 ∧ Cond.privateMethod q.1 ∈ tables_1 ∧ Cond.instanceMethod q.1 ∈ tables_1
theorem lw_p0 : lw_okq (⟨"java/lang/Throwable", "fillInStackTrace", "(I)Ljava/lang/Throwable;"⟩, 6) := ⟨⟨by decide +kernel, by decide +kernel⟩, List.mem_of_getElem? (i := 290) (by decide +kernel), List.mem_of_getElem? (i := 288) (by decide +kernel), List.mem_of_getElem? (i := 289) (by decide +kernel)⟩
theorem lw_p1 : lw_okq (⟨"LearnedCodes$Writer", "hasRoomFor", "(III)Z"⟩, 3) := ⟨⟨by decide +kernel, by decide +kernel⟩, List.mem_of_getElem? (i := 26) (by decide +kernel), List.mem_of_getElem? (i := 348) (by decide +kernel), List.mem_of_getElem? (i := 349) (by decide +kernel)⟩
theorem lw_p2 : lw_okq (⟨"LearnedCodes$Writer", "tellNamed", "(III)I"⟩, 3) := ⟨⟨by decide +kernel, by decide +kernel⟩, List.mem_of_getElem? (i := 26) (by decide +kernel), List.mem_of_getElem? (i := 388) (by decide +kernel), List.mem_of_getElem? (i := 389) (by decide +kernel)⟩
theorem lw_p3 : lw_okq (⟨"LearnedCodes$Writer", "tellPlace", "(II)V"⟩, 3) := ⟨⟨by decide +kernel, by decide +kernel⟩, List.mem_of_getElem? (i := 26) (by decide +kernel), List.mem_of_getElem? (i := 418) (by decide +kernel), List.mem_of_getElem? (i := 419) (by decide +kernel)⟩
theorem lw_p4 : lw_okq (⟨"LearnedCodes$Writer", "tellKind", "(I)V"⟩, 3) := ⟨⟨by decide +kernel, by decide +kernel⟩, List.mem_of_getElem? (i := 26) (by decide +kernel), List.mem_of_getElem? (i := 429) (by decide +kernel), List.mem_of_getElem? (i := 430) (by decide +kernel)⟩
theorem lw_p5 : lw_okq (⟨"LearnedCodes$Writer", "tellName", "(II)I"⟩, 3) := ⟨⟨by decide +kernel, by decide +kernel⟩, List.mem_of_getElem? (i := 26) (by decide +kernel), List.mem_of_getElem? (i := 434) (by decide +kernel), List.mem_of_getElem? (i := 435) (by decide +kernel)⟩
theorem lw_p6 : lw_okq (⟨"LearnedCodes$Writer", "tellSpace", "(I)I"⟩, 3) := ⟨⟨by decide +kernel, by decide +kernel⟩, List.mem_of_getElem? (i := 26) (by decide +kernel), List.mem_of_getElem? (i := 438) (by decide +kernel), List.mem_of_getElem? (i := 439) (by decide +kernel)⟩
theorem lw_p7 : lw_okq (⟨"LearnedCodes$Writer", "tellNumber", "(I)V"⟩, 3) := ⟨⟨by decide +kernel, by decide +kernel⟩, List.mem_of_getElem? (i := 26) (by decide +kernel), List.mem_of_getElem? (i := 447) (by decide +kernel), List.mem_of_getElem? (i := 448) (by decide +kernel)⟩
theorem lw_p8 : lw_okq (⟨"LearnedCodes$Writer", "tellLetters", "(I)V"⟩, 3) := ⟨⟨by decide +kernel, by decide +kernel⟩, List.mem_of_getElem? (i := 26) (by decide +kernel), List.mem_of_getElem? (i := 451) (by decide +kernel), List.mem_of_getElem? (i := 452) (by decide +kernel)⟩
theorem lw_p9 : lw_okq (⟨"LearnedCodes$Writer", "tellLocal", "(II)V"⟩, 3) := ⟨⟨by decide +kernel, by decide +kernel⟩, List.mem_of_getElem? (i := 26) (by decide +kernel), List.mem_of_getElem? (i := 459) (by decide +kernel), List.mem_of_getElem? (i := 460) (by decide +kernel)⟩
theorem lw_p10 : lw_okq (⟨"LearnedCodes$Writer", "tellValue", "(II)V"⟩, 3) := ⟨⟨by decide +kernel, by decide +kernel⟩, List.mem_of_getElem? (i := 26) (by decide +kernel), List.mem_of_getElem? (i := 485) (by decide +kernel), List.mem_of_getElem? (i := 486) (by decide +kernel)⟩
theorem lw_p11 : lw_okq (⟨"LearnedCodes$Writer", "tellNameless", "(I)V"⟩, 3) := ⟨⟨by decide +kernel, by decide +kernel⟩, List.mem_of_getElem? (i := 26) (by decide +kernel), List.mem_of_getElem? (i := 493) (by decide +kernel), List.mem_of_getElem? (i := 494) (by decide +kernel)⟩
theorem lw_p12 : lw_okq (⟨"LearnedCodes$Writer", "tellClose", "()V"⟩, 3) := ⟨⟨by decide +kernel, by decide +kernel⟩, List.mem_of_getElem? (i := 26) (by decide +kernel), List.mem_of_getElem? (i := 499) (by decide +kernel), List.mem_of_getElem? (i := 500) (by decide +kernel)⟩
theorem lw_p13 : lw_okq (⟨"LearnedCodes$Reader", "takeCode", "()I"⟩, 5) := ⟨⟨by decide +kernel, by decide +kernel⟩, List.mem_of_getElem? (i := 141) (by decide +kernel), List.mem_of_getElem? (i := 641) (by decide +kernel), List.mem_of_getElem? (i := 642) (by decide +kernel)⟩
theorem lw_p14 : lw_okq (⟨"LearnedCodes$Reader", "takePlace", "(I)I"⟩, 5) := ⟨⟨by decide +kernel, by decide +kernel⟩, List.mem_of_getElem? (i := 141) (by decide +kernel), List.mem_of_getElem? (i := 646) (by decide +kernel), List.mem_of_getElem? (i := 647) (by decide +kernel)⟩
theorem lw_p15 : lw_okq (⟨"LearnedCodes$Reader", "takeBits", "(I)I"⟩, 5) := ⟨⟨by decide +kernel, by decide +kernel⟩, List.mem_of_getElem? (i := 141) (by decide +kernel), List.mem_of_getElem? (i := 651) (by decide +kernel), List.mem_of_getElem? (i := 652) (by decide +kernel)⟩
def lw_privs_1 : List (MethodName × Nat) := [(⟨"java/lang/Throwable", "fillInStackTrace", "(I)Ljava/lang/Throwable;"⟩, 6), (⟨"LearnedCodes$Writer", "hasRoomFor", "(III)Z"⟩, 3), (⟨"LearnedCodes$Writer", "tellNamed", "(III)I"⟩, 3), (⟨"LearnedCodes$Writer", "tellPlace", "(II)V"⟩, 3), (⟨"LearnedCodes$Writer", "tellKind", "(I)V"⟩, 3), (⟨"LearnedCodes$Writer", "tellName", "(II)I"⟩, 3), (⟨"LearnedCodes$Writer", "tellSpace", "(I)I"⟩, 3), (⟨"LearnedCodes$Writer", "tellNumber", "(I)V"⟩, 3), (⟨"LearnedCodes$Writer", "tellLetters", "(I)V"⟩, 3), (⟨"LearnedCodes$Writer", "tellLocal", "(II)V"⟩, 3), (⟨"LearnedCodes$Writer", "tellValue", "(II)V"⟩, 3), (⟨"LearnedCodes$Writer", "tellNameless", "(I)V"⟩, 3), (⟨"LearnedCodes$Writer", "tellClose", "()V"⟩, 3), (⟨"LearnedCodes$Reader", "takeCode", "()I"⟩, 5), (⟨"LearnedCodes$Reader", "takePlace", "(I)I"⟩, 5), (⟨"LearnedCodes$Reader", "takeBits", "(I)I"⟩, 5)]
theorem lw_r1 : ∀ q ∈ lw_privs_1, lw_okq q := List.forall_mem_cons.mpr ⟨lw_p0, List.forall_mem_cons.mpr ⟨lw_p1, List.forall_mem_cons.mpr ⟨lw_p2, List.forall_mem_cons.mpr ⟨lw_p3, List.forall_mem_cons.mpr ⟨lw_p4, List.forall_mem_cons.mpr ⟨lw_p5, List.forall_mem_cons.mpr ⟨lw_p6, List.forall_mem_cons.mpr ⟨lw_p7, List.forall_mem_cons.mpr ⟨lw_p8, List.forall_mem_cons.mpr ⟨lw_p9, List.forall_mem_cons.mpr ⟨lw_p10, List.forall_mem_cons.mpr ⟨lw_p11, List.forall_mem_cons.mpr ⟨lw_p12, List.forall_mem_cons.mpr ⟨lw_p13, List.forall_mem_cons.mpr ⟨lw_p14, List.forall_mem_cons.mpr ⟨lw_p15, fun _ h => absurd h List.not_mem_nil⟩⟩⟩⟩⟩⟩⟩⟩⟩⟩⟩⟩⟩⟩⟩⟩
theorem lw_p16 : lw_okq (⟨"LearnedCodes$Reader", "takeTagKind", "()I"⟩, 5) := ⟨⟨by decide +kernel, by decide +kernel⟩, List.mem_of_getElem? (i := 141) (by decide +kernel), List.mem_of_getElem? (i := 663) (by decide +kernel), List.mem_of_getElem? (i := 664) (by decide +kernel)⟩
theorem lw_p17 : lw_okq (⟨"LearnedCodes$Reader", "takeContentKind", "()I"⟩, 5) := ⟨⟨by decide +kernel, by decide +kernel⟩, List.mem_of_getElem? (i := 141) (by decide +kernel), List.mem_of_getElem? (i := 667) (by decide +kernel), List.mem_of_getElem? (i := 668) (by decide +kernel)⟩
theorem lw_p18 : lw_okq (⟨"LearnedCodes$Reader", "takeName", "()I"⟩, 5) := ⟨⟨by decide +kernel, by decide +kernel⟩, List.mem_of_getElem? (i := 141) (by decide +kernel), List.mem_of_getElem? (i := 672) (by decide +kernel), List.mem_of_getElem? (i := 673) (by decide +kernel)⟩
theorem lw_p19 : lw_okq (⟨"LearnedCodes$Reader", "takeSpace", "()I"⟩, 5) := ⟨⟨by decide +kernel, by decide +kernel⟩, List.mem_of_getElem? (i := 141) (by decide +kernel), List.mem_of_getElem? (i := 676) (by decide +kernel), List.mem_of_getElem? (i := 677) (by decide +kernel)⟩
theorem lw_p20 : lw_okq (⟨"LearnedCodes$Reader", "takeNumber", "()I"⟩, 5) := ⟨⟨by decide +kernel, by decide +kernel⟩, List.mem_of_getElem? (i := 141) (by decide +kernel), List.mem_of_getElem? (i := 681) (by decide +kernel), List.mem_of_getElem? (i := 682) (by decide +kernel)⟩
theorem lw_p21 : lw_okq (⟨"LearnedCodes$Reader", "takeLetters", "(I)I"⟩, 5) := ⟨⟨by decide +kernel, by decide +kernel⟩, List.mem_of_getElem? (i := 141) (by decide +kernel), List.mem_of_getElem? (i := 685) (by decide +kernel), List.mem_of_getElem? (i := 686) (by decide +kernel)⟩
theorem lw_p22 : lw_okq (⟨"LearnedCodes$Reader", "takeLocal", "(I)I"⟩, 5) := ⟨⟨by decide +kernel, by decide +kernel⟩, List.mem_of_getElem? (i := 141) (by decide +kernel), List.mem_of_getElem? (i := 690) (by decide +kernel), List.mem_of_getElem? (i := 691) (by decide +kernel)⟩
theorem lw_p23 : lw_okq (⟨"LearnedCodes$Reader", "takeFrom", "(LLearnedCodes$Rows;I)I"⟩, 5) := ⟨⟨by decide +kernel, by decide +kernel⟩, List.mem_of_getElem? (i := 141) (by decide +kernel), List.mem_of_getElem? (i := 694) (by decide +kernel), List.mem_of_getElem? (i := 695) (by decide +kernel)⟩
theorem lw_p24 : lw_okq (⟨"LearnedCodes$Reader", "takeFirst", "()I"⟩, 5) := ⟨⟨by decide +kernel, by decide +kernel⟩, List.mem_of_getElem? (i := 141) (by decide +kernel), List.mem_of_getElem? (i := 703) (by decide +kernel), List.mem_of_getElem? (i := 704) (by decide +kernel)⟩
theorem lw_p25 : lw_okq (⟨"LearnedCodes$Reader", "finishOpen", "(I)Z"⟩, 5) := ⟨⟨by decide +kernel, by decide +kernel⟩, List.mem_of_getElem? (i := 141) (by decide +kernel), List.mem_of_getElem? (i := 713) (by decide +kernel), List.mem_of_getElem? (i := 714) (by decide +kernel)⟩
theorem lw_p26 : lw_okq (⟨"LearnedCodes$Reader", "finishAttribute", "(I)Z"⟩, 5) := ⟨⟨by decide +kernel, by decide +kernel⟩, List.mem_of_getElem? (i := 141) (by decide +kernel), List.mem_of_getElem? (i := 731) (by decide +kernel), List.mem_of_getElem? (i := 732) (by decide +kernel)⟩
theorem lw_p27 : lw_okq (⟨"LearnedCodes$Reader", "takeValue", "(I)I"⟩, 5) := ⟨⟨by decide +kernel, by decide +kernel⟩, List.mem_of_getElem? (i := 141) (by decide +kernel), List.mem_of_getElem? (i := 735) (by decide +kernel), List.mem_of_getElem? (i := 736) (by decide +kernel)⟩
theorem lw_p28 : lw_okq (⟨"LearnedCodes$Reader", "finishText", "()Z"⟩, 5) := ⟨⟨by decide +kernel, by decide +kernel⟩, List.mem_of_getElem? (i := 141) (by decide +kernel), List.mem_of_getElem? (i := 740) (by decide +kernel), List.mem_of_getElem? (i := 741) (by decide +kernel)⟩
theorem lw_p29 : lw_okq (⟨"LearnedCodesModel", "ready", "()V"⟩, 30) := ⟨⟨by decide +kernel, by decide +kernel⟩, List.mem_of_getElem? (i := 777) (by decide +kernel), List.mem_of_getElem? (i := 882) (by decide +kernel), List.mem_of_getElem? (i := 883) (by decide +kernel)⟩
theorem lw_p30 : lw_okq (⟨"LearnedCodesModel", "begin", "(I)V"⟩, 30) := ⟨⟨by decide +kernel, by decide +kernel⟩, List.mem_of_getElem? (i := 777) (by decide +kernel), List.mem_of_getElem? (i := 886) (by decide +kernel), List.mem_of_getElem? (i := 887) (by decide +kernel)⟩
theorem lw_p31 : lw_okq (⟨"LearnedCodesModel", "writeOpen", "(II)I"⟩, 30) := ⟨⟨by decide +kernel, by decide +kernel⟩, List.mem_of_getElem? (i := 777) (by decide +kernel), List.mem_of_getElem? (i := 899) (by decide +kernel), List.mem_of_getElem? (i := 900) (by decide +kernel)⟩
def lw_privs_2 : List (MethodName × Nat) := [(⟨"LearnedCodes$Reader", "takeTagKind", "()I"⟩, 5), (⟨"LearnedCodes$Reader", "takeContentKind", "()I"⟩, 5), (⟨"LearnedCodes$Reader", "takeName", "()I"⟩, 5), (⟨"LearnedCodes$Reader", "takeSpace", "()I"⟩, 5), (⟨"LearnedCodes$Reader", "takeNumber", "()I"⟩, 5), (⟨"LearnedCodes$Reader", "takeLetters", "(I)I"⟩, 5), (⟨"LearnedCodes$Reader", "takeLocal", "(I)I"⟩, 5), (⟨"LearnedCodes$Reader", "takeFrom", "(LLearnedCodes$Rows;I)I"⟩, 5), (⟨"LearnedCodes$Reader", "takeFirst", "()I"⟩, 5), (⟨"LearnedCodes$Reader", "finishOpen", "(I)Z"⟩, 5), (⟨"LearnedCodes$Reader", "finishAttribute", "(I)Z"⟩, 5), (⟨"LearnedCodes$Reader", "takeValue", "(I)I"⟩, 5), (⟨"LearnedCodes$Reader", "finishText", "()Z"⟩, 5), (⟨"LearnedCodesModel", "ready", "()V"⟩, 30), (⟨"LearnedCodesModel", "begin", "(I)V"⟩, 30), (⟨"LearnedCodesModel", "writeOpen", "(II)I"⟩, 30)]
theorem lw_r2 : ∀ q ∈ lw_privs_2, lw_okq q := List.forall_mem_cons.mpr ⟨lw_p16, List.forall_mem_cons.mpr ⟨lw_p17, List.forall_mem_cons.mpr ⟨lw_p18, List.forall_mem_cons.mpr ⟨lw_p19, List.forall_mem_cons.mpr ⟨lw_p20, List.forall_mem_cons.mpr ⟨lw_p21, List.forall_mem_cons.mpr ⟨lw_p22, List.forall_mem_cons.mpr ⟨lw_p23, List.forall_mem_cons.mpr ⟨lw_p24, List.forall_mem_cons.mpr ⟨lw_p25, List.forall_mem_cons.mpr ⟨lw_p26, List.forall_mem_cons.mpr ⟨lw_p27, List.forall_mem_cons.mpr ⟨lw_p28, List.forall_mem_cons.mpr ⟨lw_p29, List.forall_mem_cons.mpr ⟨lw_p30, List.forall_mem_cons.mpr ⟨lw_p31, fun _ h => absurd h List.not_mem_nil⟩⟩⟩⟩⟩⟩⟩⟩⟩⟩⟩⟩⟩⟩⟩⟩
theorem lw_p32 : lw_okq (⟨"LearnedCodesModel", "findName", "(III)I"⟩, 30) := ⟨⟨by decide +kernel, by decide +kernel⟩, List.mem_of_getElem? (i := 777) (by decide +kernel), List.mem_of_getElem? (i := 903) (by decide +kernel), List.mem_of_getElem? (i := 904) (by decide +kernel)⟩
theorem lw_p33 : lw_okq (⟨"LearnedCodesModel", "isLearned", "(I)Z"⟩, 30) := ⟨⟨by decide +kernel, by decide +kernel⟩, List.mem_of_getElem? (i := 777) (by decide +kernel), List.mem_of_getElem? (i := 910) (by decide +kernel), List.mem_of_getElem? (i := 911) (by decide +kernel)⟩
theorem lw_p34 : lw_okq (⟨"LearnedCodesModel", "rowOf", "(I)I"⟩, 30) := ⟨⟨by decide +kernel, by decide +kernel⟩, List.mem_of_getElem? (i := 777) (by decide +kernel), List.mem_of_getElem? (i := 914) (by decide +kernel), List.mem_of_getElem? (i := 915) (by decide +kernel)⟩
theorem lw_p35 : lw_okq (⟨"LearnedCodesModel", "findCode", "(II)I"⟩, 30) := ⟨⟨by decide +kernel, by decide +kernel⟩, List.mem_of_getElem? (i := 777) (by decide +kernel), List.mem_of_getElem? (i := 918) (by decide +kernel), List.mem_of_getElem? (i := 919) (by decide +kernel)⟩
theorem lw_p36 : lw_okq (⟨"LearnedCodesModel", "lacks", "(II)Z"⟩, 30) := ⟨⟨by decide +kernel, by decide +kernel⟩, List.mem_of_getElem? (i := 777) (by decide +kernel), List.mem_of_getElem? (i := 922) (by decide +kernel), List.mem_of_getElem? (i := 923) (by decide +kernel)⟩
theorem lw_p37 : lw_okq (⟨"LearnedCodesModel", "findSpace", "(II)I"⟩, 30) := ⟨⟨by decide +kernel, by decide +kernel⟩, List.mem_of_getElem? (i := 777) (by decide +kernel), List.mem_of_getElem? (i := 926) (by decide +kernel), List.mem_of_getElem? (i := 927) (by decide +kernel)⟩
theorem lw_p38 : lw_okq (⟨"LearnedCodesModel", "findLocal", "(III)I"⟩, 30) := ⟨⟨by decide +kernel, by decide +kernel⟩, List.mem_of_getElem? (i := 777) (by decide +kernel), List.mem_of_getElem? (i := 930) (by decide +kernel), List.mem_of_getElem? (i := 931) (by decide +kernel)⟩
theorem lw_p39 : lw_okq (⟨"LearnedCodesModel", "putCode", "(II)Z"⟩, 30) := ⟨⟨by decide +kernel, by decide +kernel⟩, List.mem_of_getElem? (i := 777) (by decide +kernel), List.mem_of_getElem? (i := 934) (by decide +kernel), List.mem_of_getElem? (i := 935) (by decide +kernel)⟩
theorem lw_p40 : lw_okq (⟨"LearnedCodesModel", "putPlace", "(II)V"⟩, 30) := ⟨⟨by decide +kernel, by decide +kernel⟩, List.mem_of_getElem? (i := 777) (by decide +kernel), List.mem_of_getElem? (i := 938) (by decide +kernel), List.mem_of_getElem? (i := 939) (by decide +kernel)⟩
theorem lw_p41 : lw_okq (⟨"LearnedCodesModel", "putName", "(II)I"⟩, 30) := ⟨⟨by decide +kernel, by decide +kernel⟩, List.mem_of_getElem? (i := 777) (by decide +kernel), List.mem_of_getElem? (i := 942) (by decide +kernel), List.mem_of_getElem? (i := 943) (by decide +kernel)⟩
theorem lw_p42 : lw_okq (⟨"LearnedCodesModel", "putNumber", "(I)V"⟩, 30) := ⟨⟨by decide +kernel, by decide +kernel⟩, List.mem_of_getElem? (i := 777) (by decide +kernel), List.mem_of_getElem? (i := 946) (by decide +kernel), List.mem_of_getElem? (i := 947) (by decide +kernel)⟩
theorem lw_p43 : lw_okq (⟨"LearnedCodesModel", "putLetters", "(I)V"⟩, 30) := ⟨⟨by decide +kernel, by decide +kernel⟩, List.mem_of_getElem? (i := 777) (by decide +kernel), List.mem_of_getElem? (i := 950) (by decide +kernel), List.mem_of_getElem? (i := 951) (by decide +kernel)⟩
theorem lw_p44 : lw_okq (⟨"LearnedCodesModel", "addSpace", "(II)V"⟩, 30) := ⟨⟨by decide +kernel, by decide +kernel⟩, List.mem_of_getElem? (i := 777) (by decide +kernel), List.mem_of_getElem? (i := 954) (by decide +kernel), List.mem_of_getElem? (i := 955) (by decide +kernel)⟩
theorem lw_p45 : lw_okq (⟨"LearnedCodesModel", "addLocal", "(III)V"⟩, 30) := ⟨⟨by decide +kernel, by decide +kernel⟩, List.mem_of_getElem? (i := 777) (by decide +kernel), List.mem_of_getElem? (i := 958) (by decide +kernel), List.mem_of_getElem? (i := 959) (by decide +kernel)⟩
theorem lw_p46 : lw_okq (⟨"LearnedCodesModel", "newName", "(III)I"⟩, 30) := ⟨⟨by decide +kernel, by decide +kernel⟩, List.mem_of_getElem? (i := 777) (by decide +kernel), List.mem_of_getElem? (i := 962) (by decide +kernel), List.mem_of_getElem? (i := 963) (by decide +kernel)⟩
theorem lw_p47 : lw_okq (⟨"LearnedCodesModel", "learn", "(II)V"⟩, 30) := ⟨⟨by decide +kernel, by decide +kernel⟩, List.mem_of_getElem? (i := 777) (by decide +kernel), List.mem_of_getElem? (i := 966) (by decide +kernel), List.mem_of_getElem? (i := 967) (by decide +kernel)⟩
def lw_privs_3 : List (MethodName × Nat) := [(⟨"LearnedCodesModel", "findName", "(III)I"⟩, 30), (⟨"LearnedCodesModel", "isLearned", "(I)Z"⟩, 30), (⟨"LearnedCodesModel", "rowOf", "(I)I"⟩, 30), (⟨"LearnedCodesModel", "findCode", "(II)I"⟩, 30), (⟨"LearnedCodesModel", "lacks", "(II)Z"⟩, 30), (⟨"LearnedCodesModel", "findSpace", "(II)I"⟩, 30), (⟨"LearnedCodesModel", "findLocal", "(III)I"⟩, 30), (⟨"LearnedCodesModel", "putCode", "(II)Z"⟩, 30), (⟨"LearnedCodesModel", "putPlace", "(II)V"⟩, 30), (⟨"LearnedCodesModel", "putName", "(II)I"⟩, 30), (⟨"LearnedCodesModel", "putNumber", "(I)V"⟩, 30), (⟨"LearnedCodesModel", "putLetters", "(I)V"⟩, 30), (⟨"LearnedCodesModel", "addSpace", "(II)V"⟩, 30), (⟨"LearnedCodesModel", "addLocal", "(III)V"⟩, 30), (⟨"LearnedCodesModel", "newName", "(III)I"⟩, 30), (⟨"LearnedCodesModel", "learn", "(II)V"⟩, 30)]
theorem lw_r3 : ∀ q ∈ lw_privs_3, lw_okq q := List.forall_mem_cons.mpr ⟨lw_p32, List.forall_mem_cons.mpr ⟨lw_p33, List.forall_mem_cons.mpr ⟨lw_p34, List.forall_mem_cons.mpr ⟨lw_p35, List.forall_mem_cons.mpr ⟨lw_p36, List.forall_mem_cons.mpr ⟨lw_p37, List.forall_mem_cons.mpr ⟨lw_p38, List.forall_mem_cons.mpr ⟨lw_p39, List.forall_mem_cons.mpr ⟨lw_p40, List.forall_mem_cons.mpr ⟨lw_p41, List.forall_mem_cons.mpr ⟨lw_p42, List.forall_mem_cons.mpr ⟨lw_p43, List.forall_mem_cons.mpr ⟨lw_p44, List.forall_mem_cons.mpr ⟨lw_p45, List.forall_mem_cons.mpr ⟨lw_p46, List.forall_mem_cons.mpr ⟨lw_p47, fun _ h => absurd h List.not_mem_nil⟩⟩⟩⟩⟩⟩⟩⟩⟩⟩⟩⟩⟩⟩⟩⟩
theorem lw_p48 : lw_okq (⟨"LearnedCodesModel", "enter", "(II)V"⟩, 30) := ⟨⟨by decide +kernel, by decide +kernel⟩, List.mem_of_getElem? (i := 777) (by decide +kernel), List.mem_of_getElem? (i := 970) (by decide +kernel), List.mem_of_getElem? (i := 971) (by decide +kernel)⟩
theorem lw_p49 : lw_okq (⟨"LearnedCodesModel", "writeAttribute", "(III)I"⟩, 30) := ⟨⟨by decide +kernel, by decide +kernel⟩, List.mem_of_getElem? (i := 777) (by decide +kernel), List.mem_of_getElem? (i := 978) (by decide +kernel), List.mem_of_getElem? (i := 979) (by decide +kernel)⟩
theorem lw_p50 : lw_okq (⟨"LearnedCodesModel", "putValue", "(II)V"⟩, 30) := ⟨⟨by decide +kernel, by decide +kernel⟩, List.mem_of_getElem? (i := 777) (by decide +kernel), List.mem_of_getElem? (i := 985) (by decide +kernel), List.mem_of_getElem? (i := 986) (by decide +kernel)⟩
theorem lw_p51 : lw_okq (⟨"LearnedCodesModel", "addValue", "(III)V"⟩, 30) := ⟨⟨by decide +kernel, by decide +kernel⟩, List.mem_of_getElem? (i := 777) (by decide +kernel), List.mem_of_getElem? (i := 989) (by decide +kernel), List.mem_of_getElem? (i := 990) (by decide +kernel)⟩
theorem lw_p52 : lw_okq (⟨"LearnedCodesModel", "writeText", "(I)I"⟩, 30) := ⟨⟨by decide +kernel, by decide +kernel⟩, List.mem_of_getElem? (i := 777) (by decide +kernel), List.mem_of_getElem? (i := 997) (by decide +kernel), List.mem_of_getElem? (i := 998) (by decide +kernel)⟩
theorem lw_p53 : lw_okq (⟨"LearnedCodesModel", "writeClose", "()I"⟩, 30) := ⟨⟨by decide +kernel, by decide +kernel⟩, List.mem_of_getElem? (i := 777) (by decide +kernel), List.mem_of_getElem? (i := 1005) (by decide +kernel), List.mem_of_getElem? (i := 1006) (by decide +kernel)⟩
theorem lw_p54 : lw_okq (⟨"LearnedCodesModel", "leave", "(I)V"⟩, 30) := ⟨⟨by decide +kernel, by decide +kernel⟩, List.mem_of_getElem? (i := 777) (by decide +kernel), List.mem_of_getElem? (i := 1009) (by decide +kernel), List.mem_of_getElem? (i := 1010) (by decide +kernel)⟩
theorem lw_p55 : lw_okq (⟨"LearnedCodesModel", "takeEvent", "()V"⟩, 30) := ⟨⟨by decide +kernel, by decide +kernel⟩, List.mem_of_getElem? (i := 777) (by decide +kernel), List.mem_of_getElem? (i := 1045) (by decide +kernel), List.mem_of_getElem? (i := 1046) (by decide +kernel)⟩
theorem lw_p56 : lw_okq (⟨"LearnedCodesModel", "takeName", "()I"⟩, 30) := ⟨⟨by decide +kernel, by decide +kernel⟩, List.mem_of_getElem? (i := 777) (by decide +kernel), List.mem_of_getElem? (i := 1049) (by decide +kernel), List.mem_of_getElem? (i := 1050) (by decide +kernel)⟩
theorem lw_p57 : lw_okq (⟨"LearnedCodesModel", "takePlace", "(I)I"⟩, 30) := ⟨⟨by decide +kernel, by decide +kernel⟩, List.mem_of_getElem? (i := 777) (by decide +kernel), List.mem_of_getElem? (i := 1053) (by decide +kernel), List.mem_of_getElem? (i := 1054) (by decide +kernel)⟩
theorem lw_p58 : lw_okq (⟨"LearnedCodesModel", "takeBit", "()I"⟩, 30) := ⟨⟨by decide +kernel, by decide +kernel⟩, List.mem_of_getElem? (i := 777) (by decide +kernel), List.mem_of_getElem? (i := 1057) (by decide +kernel), List.mem_of_getElem? (i := 1058) (by decide +kernel)⟩
theorem lw_p59 : lw_okq (⟨"LearnedCodesModel", "takeNumber", "()I"⟩, 30) := ⟨⟨by decide +kernel, by decide +kernel⟩, List.mem_of_getElem? (i := 777) (by decide +kernel), List.mem_of_getElem? (i := 1061) (by decide +kernel), List.mem_of_getElem? (i := 1062) (by decide +kernel)⟩
theorem lw_p60 : lw_okq (⟨"LearnedCodesModel", "takeLetters", "(I)I"⟩, 30) := ⟨⟨by decide +kernel, by decide +kernel⟩, List.mem_of_getElem? (i := 777) (by decide +kernel), List.mem_of_getElem? (i := 1065) (by decide +kernel), List.mem_of_getElem? (i := 1066) (by decide +kernel)⟩
theorem lw_p61 : lw_okq (⟨"LearnedCodesModel", "takeOpen", "(I)V"⟩, 30) := ⟨⟨by decide +kernel, by decide +kernel⟩, List.mem_of_getElem? (i := 777) (by decide +kernel), List.mem_of_getElem? (i := 1069) (by decide +kernel), List.mem_of_getElem? (i := 1070) (by decide +kernel)⟩
theorem lw_p62 : lw_okq (⟨"LearnedCodesModel", "note", "(III)V"⟩, 30) := ⟨⟨by decide +kernel, by decide +kernel⟩, List.mem_of_getElem? (i := 777) (by decide +kernel), List.mem_of_getElem? (i := 1073) (by decide +kernel), List.mem_of_getElem? (i := 1074) (by decide +kernel)⟩
theorem lw_p63 : lw_okq (⟨"LearnedCodesModel", "takeCode", "(I)I"⟩, 30) := ⟨⟨by decide +kernel, by decide +kernel⟩, List.mem_of_getElem? (i := 777) (by decide +kernel), List.mem_of_getElem? (i := 1077) (by decide +kernel), List.mem_of_getElem? (i := 1078) (by decide +kernel)⟩
def lw_privs_4 : List (MethodName × Nat) := [(⟨"LearnedCodesModel", "enter", "(II)V"⟩, 30), (⟨"LearnedCodesModel", "writeAttribute", "(III)I"⟩, 30), (⟨"LearnedCodesModel", "putValue", "(II)V"⟩, 30), (⟨"LearnedCodesModel", "addValue", "(III)V"⟩, 30), (⟨"LearnedCodesModel", "writeText", "(I)I"⟩, 30), (⟨"LearnedCodesModel", "writeClose", "()I"⟩, 30), (⟨"LearnedCodesModel", "leave", "(I)V"⟩, 30), (⟨"LearnedCodesModel", "takeEvent", "()V"⟩, 30), (⟨"LearnedCodesModel", "takeName", "()I"⟩, 30), (⟨"LearnedCodesModel", "takePlace", "(I)I"⟩, 30), (⟨"LearnedCodesModel", "takeBit", "()I"⟩, 30), (⟨"LearnedCodesModel", "takeNumber", "()I"⟩, 30), (⟨"LearnedCodesModel", "takeLetters", "(I)I"⟩, 30), (⟨"LearnedCodesModel", "takeOpen", "(I)V"⟩, 30), (⟨"LearnedCodesModel", "note", "(III)V"⟩, 30), (⟨"LearnedCodesModel", "takeCode", "(I)I"⟩, 30)]
theorem lw_r4 : ∀ q ∈ lw_privs_4, lw_okq q := List.forall_mem_cons.mpr ⟨lw_p48, List.forall_mem_cons.mpr ⟨lw_p49, List.forall_mem_cons.mpr ⟨lw_p50, List.forall_mem_cons.mpr ⟨lw_p51, List.forall_mem_cons.mpr ⟨lw_p52, List.forall_mem_cons.mpr ⟨lw_p53, List.forall_mem_cons.mpr ⟨lw_p54, List.forall_mem_cons.mpr ⟨lw_p55, List.forall_mem_cons.mpr ⟨lw_p56, List.forall_mem_cons.mpr ⟨lw_p57, List.forall_mem_cons.mpr ⟨lw_p58, List.forall_mem_cons.mpr ⟨lw_p59, List.forall_mem_cons.mpr ⟨lw_p60, List.forall_mem_cons.mpr ⟨lw_p61, List.forall_mem_cons.mpr ⟨lw_p62, List.forall_mem_cons.mpr ⟨lw_p63, fun _ h => absurd h List.not_mem_nil⟩⟩⟩⟩⟩⟩⟩⟩⟩⟩⟩⟩⟩⟩⟩⟩
theorem lw_p64 : lw_okq (⟨"LearnedCodesModel", "takeValue", "(I)I"⟩, 30) := ⟨⟨by decide +kernel, by decide +kernel⟩, List.mem_of_getElem? (i := 777) (by decide +kernel), List.mem_of_getElem? (i := 1081) (by decide +kernel), List.mem_of_getElem? (i := 1082) (by decide +kernel)⟩
def lw_privs_5 : List (MethodName × Nat) := [(⟨"LearnedCodesModel", "takeValue", "(I)I"⟩, 30)]
theorem lw_r5 : ∀ q ∈ lw_privs_5, lw_okq q := List.forall_mem_cons.mpr ⟨lw_p64, fun _ h => absurd h List.not_mem_nil⟩
def lw_privs : List (MethodName × Nat) := lw_privs_1 ++ (lw_privs_2 ++ (lw_privs_3 ++ (lw_privs_4 ++ (lw_privs_5))))
def lw_tbl : List Cond := k2_sels lw_privs ++ tables_1
theorem lw_privs_ok : ∀ q ∈ lw_privs, lw_okq q := by
  show ∀ q ∈ lw_privs_1 ++ (lw_privs_2 ++ (lw_privs_3 ++ (lw_privs_4 ++ (lw_privs_5)))), lw_okq q
  exact List.forall_mem_append.mpr ⟨lw_r1, List.forall_mem_append.mpr ⟨lw_r2, List.forall_mem_append.mpr ⟨lw_r3, List.forall_mem_append.mpr ⟨lw_r4, lw_r5⟩⟩⟩⟩
end
section
def RX0 : String := "LearnedCodes$Bits"
def TX0 : u_T := fun k => match k with
  | 0 => ("LearnedCodes$Bits", "items", "[I", true)
  | _ => ("LearnedCodes$Bits", "size", "I", false)
def tyX0 : Nat → FieldType := fun k => match k with
  | 0 => .array .int
  | _ => .int
abbrev wsX00 : List Cond := u_ws RX0 TX0 2
theorem nmX0 : ∀ a, a < 2 → ∀ b, b < 2 → a ≠ b → (TX0 a).2.1 ≠ (TX0 b).2.1 := by decide +kernel
theorem tyX0_ok : ∀ k, k < 2 → parseFieldDescriptor (TX0 k).2.2.1 = some (tyX0 k) := by decide +kernel
abbrev cX0_init : ByteArray := prog_2_method_1_code
def yX0_init : MethodName := ⟨RX0, "<init>", "()V"⟩
abbrev cX0_isFull : ByteArray := prog_2_method_2_code
def yX0_isFull : MethodName := ⟨RX0, "isFull", "()Z"⟩
abbrev cX0_has : ByteArray := prog_2_method_3_code
def yX0_has : MethodName := ⟨RX0, "has", "(I)Z"⟩
abbrev cX0_append : ByteArray := prog_2_method_4_code
def yX0_append : MethodName := ⟨RX0, "append", "(II)V"⟩
abbrev cX0_become : ByteArray := prog_2_method_5_code
def yX0_become : MethodName := ⟨RX0, "become", "(LLearnedCodes$Bits;)V"⟩
def RX1 : String := "LearnedCodes$Events"
def TX1 : u_T := fun k => match k with
  | 0 => ("LearnedCodes$Events", "parts", "[[I", true)
  | _ => ("LearnedCodes$Events", "size", "I", false)
def tyX1 : Nat → FieldType := fun k => match k with
  | 0 => .array (.array .int)
  | _ => .int
abbrev wsX10 : List Cond := u_ws RX1 TX1 2
theorem nmX1 : ∀ a, a < 2 → ∀ b, b < 2 → a ≠ b → (TX1 a).2.1 ≠ (TX1 b).2.1 := by decide +kernel
theorem tyX1_ok : ∀ k, k < 2 → parseFieldDescriptor (TX1 k).2.2.1 = some (tyX1 k) := by decide +kernel
abbrev cX1_init : ByteArray := prog_3_method_1_code
def yX1_init : MethodName := ⟨RX1, "<init>", "()V"⟩
abbrev cX1_forget : ByteArray := prog_3_method_2_code
def yX1_forget : MethodName := ⟨RX1, "forget", "()V"⟩
abbrev cX1_add : ByteArray := prog_3_method_3_code
def yX1_add : MethodName := ⟨RX1, "add", "(IIII)V"⟩
abbrev cX1_part : ByteArray := prog_3_method_4_code
def yX1_part : MethodName := ⟨RX1, "part", "(II)I"⟩
def RX2 : String := "LearnedCodes$Grammars"
def TX2 : u_T := fun k => match k with
  | 0 => ("LearnedCodes$Grammars", "tags", "LLearnedCodes$Rows;", true)
  | 1 => ("LearnedCodes$Grammars", "contents", "LLearnedCodes$Rows;", true)
  | 2 => ("LearnedCodes$Grammars", "names", "[I", true)
  | 3 => ("LearnedCodes$Grammars", "filled", "[Z", true)
  | 4 => ("LearnedCodes$Grammars", "depth", "I", false)
  | _ => ("LearnedCodes$Grammars", "begun", "Z", false)
def tyX2 : Nat → FieldType := fun k => match k with
  | 0 => .object "LearnedCodes$Rows"
  | 1 => .object "LearnedCodes$Rows"
  | 2 => .array .int
  | 3 => .array .boolean
  | 4 => .int
  | _ => .boolean
abbrev wsX20 : List Cond := u_ws RX2 TX2 6
theorem nmX2 : ∀ a, a < 6 → ∀ b, b < 6 → a ≠ b → (TX2 a).2.1 ≠ (TX2 b).2.1 := by decide +kernel
theorem tyX2_ok : ∀ k, k < 6 → parseFieldDescriptor (TX2 k).2.2.1 = some (tyX2 k) := by decide +kernel
abbrev cX2_init : ByteArray := prog_4_method_1_code
def yX2_init : MethodName := ⟨RX2, "<init>", "()V"⟩
abbrev cX2_begin : ByteArray := prog_4_method_2_code
def yX2_begin : MethodName := ⟨RX2, "begin", "()V"⟩
abbrev cX2_openElements : ByteArray := prog_4_method_3_code
def yX2_openElements : MethodName := ⟨RX2, "openElements", "()I"⟩
abbrev cX2_hasBegun : ByteArray := prog_4_method_4_code
def yX2_hasBegun : MethodName := ⟨RX2, "hasBegun", "()Z"⟩
abbrev cX2_isWhole : ByteArray := prog_4_method_5_code
def yX2_isWhole : MethodName := ⟨RX2, "isWhole", "()Z"⟩
abbrev cX2_isDeepest : ByteArray := prog_4_method_6_code
def yX2_isDeepest : MethodName := ⟨RX2, "isDeepest", "()Z"⟩
abbrev cX2_name : ByteArray := prog_4_method_7_code
def yX2_name : MethodName := ⟨RX2, "name", "()I"⟩
abbrev cX2_isInTag : ByteArray := prog_4_method_8_code
def yX2_isInTag : MethodName := ⟨RX2, "isInTag", "()Z"⟩
abbrev cX2_fill : ByteArray := prog_4_method_9_code
def yX2_fill : MethodName := ⟨RX2, "fill", "()V"⟩
abbrev cX2_enter : ByteArray := prog_4_method_10_code
def yX2_enter : MethodName := ⟨RX2, "enter", "(I)V"⟩
abbrev cX2_leave : ByteArray := prog_4_method_11_code
def yX2_leave : MethodName := ⟨RX2, "leave", "()V"⟩
abbrev cX2_learned : ByteArray := prog_4_method_12_code
def yX2_learned : MethodName := ⟨RX2, "learned", "()I"⟩
abbrev cX2_choices : ByteArray := prog_4_method_13_code
def yX2_choices : MethodName := ⟨RX2, "choices", "()I"⟩
abbrev cX2_codeAt : ByteArray := prog_4_method_14_code
def yX2_codeAt : MethodName := ⟨RX2, "codeAt", "(I)I"⟩
abbrev cX2_findCode : ByteArray := prog_4_method_15_code
def yX2_findCode : MethodName := ⟨RX2, "findCode", "(I)I"⟩
abbrev cX2_learn : ByteArray := prog_4_method_16_code
def yX2_learn : MethodName := ⟨RX2, "learn", "(I)V"⟩
def RX3 : String := "LearnedCodes$Reader"
def TX3 : u_T := fun k => match k with
  | 0 => ("LearnedCodes$Reader", "stream", "LLearnedCodes$Bits;", true)
  | 1 => ("LearnedCodes$Reader", "events", "LLearnedCodes$Events;", true)
  | 2 => ("LearnedCodes$Reader", "tables", "LLearnedCodes$Tables;", true)
  | 3 => ("LearnedCodes$Reader", "grammars", "LLearnedCodes$Grammars;", true)
  | _ => ("LearnedCodes$Reader", "taken", "I", false)
def tyX3 : Nat → FieldType := fun k => match k with
  | 0 => .object "LearnedCodes$Bits"
  | 1 => .object "LearnedCodes$Events"
  | 2 => .object "LearnedCodes$Tables"
  | 3 => .object "LearnedCodes$Grammars"
  | _ => .int
abbrev wsX30 : List Cond := u_ws RX3 TX3 5
theorem nmX3 : ∀ a, a < 5 → ∀ b, b < 5 → a ≠ b → (TX3 a).2.1 ≠ (TX3 b).2.1 := by decide +kernel
theorem tyX3_ok : ∀ k, k < 5 → parseFieldDescriptor (TX3 k).2.2.1 = some (tyX3 k) := by decide +kernel
abbrev cX3_init : ByteArray := prog_5_method_1_code
def yX3_init : MethodName := ⟨RX3, "<init>", "()V"⟩
abbrev cX3_begin : ByteArray := prog_5_method_2_code
def yX3_begin : MethodName := ⟨RX3, "begin", "()V"⟩
abbrev cX3_isWhole : ByteArray := prog_5_method_3_code
def yX3_isWhole : MethodName := ⟨RX3, "isWhole", "()Z"⟩
abbrev cX3_readEvent : ByteArray := prog_5_method_4_code
def yX3_readEvent : MethodName := ⟨RX3, "readEvent", "()Z"⟩
abbrev cX3_finishOpen : ByteArray := prog_5_method_5_code
def yX3_finishOpen : MethodName := ⟨RX3, "finishOpen", "(I)Z"⟩
abbrev cX3_finishAttribute : ByteArray := prog_5_method_6_code
def yX3_finishAttribute : MethodName := ⟨RX3, "finishAttribute", "(I)Z"⟩
abbrev cX3_finishText : ByteArray := prog_5_method_7_code
def yX3_finishText : MethodName := ⟨RX3, "finishText", "()Z"⟩
abbrev cX3_takeFirst : ByteArray := prog_5_method_8_code
def yX3_takeFirst : MethodName := ⟨RX3, "takeFirst", "()I"⟩
abbrev cX3_takeCode : ByteArray := prog_5_method_9_code
def yX3_takeCode : MethodName := ⟨RX3, "takeCode", "()I"⟩
abbrev cX3_takeTagKind : ByteArray := prog_5_method_10_code
def yX3_takeTagKind : MethodName := ⟨RX3, "takeTagKind", "()I"⟩
abbrev cX3_takeContentKind : ByteArray := prog_5_method_11_code
def yX3_takeContentKind : MethodName := ⟨RX3, "takeContentKind", "()I"⟩
abbrev cX3_takeName : ByteArray := prog_5_method_12_code
def yX3_takeName : MethodName := ⟨RX3, "takeName", "()I"⟩
abbrev cX3_takeSpace : ByteArray := prog_5_method_13_code
def yX3_takeSpace : MethodName := ⟨RX3, "takeSpace", "()I"⟩
abbrev cX3_takeLocal : ByteArray := prog_5_method_14_code
def yX3_takeLocal : MethodName := ⟨RX3, "takeLocal", "(I)I"⟩
abbrev cX3_takeValue : ByteArray := prog_5_method_15_code
def yX3_takeValue : MethodName := ⟨RX3, "takeValue", "(I)I"⟩
abbrev cX3_takeFrom : ByteArray := prog_5_method_16_code
def yX3_takeFrom : MethodName := ⟨RX3, "takeFrom", "(LLearnedCodes$Rows;I)I"⟩
abbrev cX3_takeLetters : ByteArray := prog_5_method_17_code
def yX3_takeLetters : MethodName := ⟨RX3, "takeLetters", "(I)I"⟩
abbrev cX3_takeNumber : ByteArray := prog_5_method_18_code
def yX3_takeNumber : MethodName := ⟨RX3, "takeNumber", "()I"⟩
abbrev cX3_takePlace : ByteArray := prog_5_method_19_code
def yX3_takePlace : MethodName := ⟨RX3, "takePlace", "(I)I"⟩
abbrev cX3_takeBits : ByteArray := prog_5_method_20_code
def yX3_takeBits : MethodName := ⟨RX3, "takeBits", "(I)I"⟩
def RX4 : String := "LearnedCodes$Rows"
def TX4 : u_T := fun k => match k with
  | 0 => ("LearnedCodes$Rows", "items", "[[I", true)
  | 1 => ("LearnedCodes$Rows", "sizes", "[I", true)
  | _ => ("LearnedCodes$Rows", "room", "I", true)
def tyX4 : Nat → FieldType := fun k => match k with
  | 0 => .array (.array .int)
  | 1 => .array .int
  | _ => .int
abbrev wsX40 : List Cond := u_ws RX4 TX4 3
theorem nmX4 : ∀ a, a < 3 → ∀ b, b < 3 → a ≠ b → (TX4 a).2.1 ≠ (TX4 b).2.1 := by decide +kernel
theorem tyX4_ok : ∀ k, k < 3 → parseFieldDescriptor (TX4 k).2.2.1 = some (tyX4 k) := by decide +kernel
abbrev cX4_init : ByteArray := prog_6_method_1_code
def yX4_init : MethodName := ⟨RX4, "<init>", "(II)V"⟩
abbrev cX4_forget : ByteArray := prog_6_method_2_code
def yX4_forget : MethodName := ⟨RX4, "forget", "()V"⟩
abbrev cX4_count : ByteArray := prog_6_method_3_code
def yX4_count : MethodName := ⟨RX4, "count", "(I)I"⟩
abbrev cX4_isFull : ByteArray := prog_6_method_4_code
def yX4_isFull : MethodName := ⟨RX4, "isFull", "(I)Z"⟩
abbrev cX4_get : ByteArray := prog_6_method_5_code
def yX4_get : MethodName := ⟨RX4, "get", "(II)I"⟩
abbrev cX4_find : ByteArray := prog_6_method_6_code
def yX4_find : MethodName := ⟨RX4, "find", "(II)I"⟩
abbrev cX4_addLast : ByteArray := prog_6_method_7_code
def yX4_addLast : MethodName := ⟨RX4, "addLast", "(II)V"⟩
abbrev cX4_addFirst : ByteArray := prog_6_method_8_code
def yX4_addFirst : MethodName := ⟨RX4, "addFirst", "(II)V"⟩
def RX5 : String := "LearnedCodes$Tables"
def TX5 : u_T := fun k => match k with
  | 0 => ("LearnedCodes$Tables", "spaces", "LLearnedCodes$Rows;", true)
  | 1 => ("LearnedCodes$Tables", "locals", "LLearnedCodes$Rows;", true)
  | 2 => ("LearnedCodes$Tables", "values", "LLearnedCodes$Rows;", true)
  | 3 => ("LearnedCodes$Tables", "allValues", "LLearnedCodes$Rows;", true)
  | 4 => ("LearnedCodes$Tables", "nameSpaces", "LLearnedCodes$Rows;", true)
  | _ => ("LearnedCodes$Tables", "nameLocals", "LLearnedCodes$Rows;", true)
def tyX5 : Nat → FieldType := fun k => match k with
  | 0 => .object "LearnedCodes$Rows"
  | 1 => .object "LearnedCodes$Rows"
  | 2 => .object "LearnedCodes$Rows"
  | 3 => .object "LearnedCodes$Rows"
  | 4 => .object "LearnedCodes$Rows"
  | _ => .object "LearnedCodes$Rows"
abbrev wsX50 : List Cond := u_ws RX5 TX5 6
theorem nmX5 : ∀ a, a < 6 → ∀ b, b < 6 → a ≠ b → (TX5 a).2.1 ≠ (TX5 b).2.1 := by decide +kernel
theorem tyX5_ok : ∀ k, k < 6 → parseFieldDescriptor (TX5 k).2.2.1 = some (tyX5 k) := by decide +kernel
abbrev cX5_init : ByteArray := prog_7_method_1_code
def yX5_init : MethodName := ⟨RX5, "<init>", "()V"⟩
abbrev cX5_begin : ByteArray := prog_7_method_2_code
def yX5_begin : MethodName := ⟨RX5, "begin", "()V"⟩
abbrev cX5_spaceOf : ByteArray := prog_7_method_3_code
def yX5_spaceOf : MethodName := ⟨RX5, "spaceOf", "(I)I"⟩
abbrev cX5_localOf : ByteArray := prog_7_method_4_code
def yX5_localOf : MethodName := ⟨RX5, "localOf", "(I)I"⟩
abbrev cX5_findName : ByteArray := prog_7_method_5_code
def yX5_findName : MethodName := ⟨RX5, "findName", "(II)I"⟩
abbrev cX5_addSpace : ByteArray := prog_7_method_6_code
def yX5_addSpace : MethodName := ⟨RX5, "addSpace", "(I)I"⟩
abbrev cX5_findOrAddName : ByteArray := prog_7_method_7_code
def yX5_findOrAddName : MethodName := ⟨RX5, "findOrAddName", "(II)I"⟩
abbrev cX5_hasRoomForName : ByteArray := prog_7_method_8_code
def yX5_hasRoomForName : MethodName := ⟨RX5, "hasRoomForName", "(II)Z"⟩
abbrev cX5_addValue : ByteArray := prog_7_method_9_code
def yX5_addValue : MethodName := ⟨RX5, "addValue", "(II)V"⟩
def RX6 : String := "LearnedCodes$Writer"
def TX6 : u_T := fun k => match k with
  | 0 => ("LearnedCodes$Writer", "output", "LLearnedCodes$Bits;", true)
  | 1 => ("LearnedCodes$Writer", "tables", "LLearnedCodes$Tables;", true)
  | _ => ("LearnedCodes$Writer", "grammars", "LLearnedCodes$Grammars;", true)
def tyX6 : Nat → FieldType := fun k => match k with
  | 0 => .object "LearnedCodes$Bits"
  | 1 => .object "LearnedCodes$Tables"
  | _ => .object "LearnedCodes$Grammars"
abbrev wsX60 : List Cond := u_ws RX6 TX6 3
theorem nmX6 : ∀ a, a < 3 → ∀ b, b < 3 → a ≠ b → (TX6 a).2.1 ≠ (TX6 b).2.1 := by decide +kernel
theorem tyX6_ok : ∀ k, k < 3 → parseFieldDescriptor (TX6 k).2.2.1 = some (tyX6 k) := by decide +kernel
abbrev cX6_init : ByteArray := prog_8_method_1_code
def yX6_init : MethodName := ⟨RX6, "<init>", "()V"⟩
abbrev cX6_begin : ByteArray := prog_8_method_2_code
def yX6_begin : MethodName := ⟨RX6, "begin", "()V"⟩
abbrev cX6_isWhole : ByteArray := prog_8_method_3_code
def yX6_isWhole : MethodName := ⟨RX6, "isWhole", "()Z"⟩
abbrev cX6_takesAttributes : ByteArray := prog_8_method_4_code
def yX6_takesAttributes : MethodName := ⟨RX6, "takesAttributes", "()Z"⟩
abbrev cX6_openElements : ByteArray := prog_8_method_5_code
def yX6_openElements : MethodName := ⟨RX6, "openElements", "()I"⟩
abbrev cX6_writeEvent : ByteArray := prog_8_method_6_code
def yX6_writeEvent : MethodName := ⟨RX6, "writeEvent", "(IIII)Z"⟩
abbrev cX6_hasRoomFor : ByteArray := prog_8_method_7_code
def yX6_hasRoomFor : MethodName := ⟨RX6, "hasRoomFor", "(III)Z"⟩
abbrev cX6_tellClose : ByteArray := prog_8_method_8_code
def yX6_tellClose : MethodName := ⟨RX6, "tellClose", "()V"⟩
abbrev cX6_tellNamed : ByteArray := prog_8_method_9_code
def yX6_tellNamed : MethodName := ⟨RX6, "tellNamed", "(III)I"⟩
abbrev cX6_tellNameless : ByteArray := prog_8_method_10_code
def yX6_tellNameless : MethodName := ⟨RX6, "tellNameless", "(I)V"⟩
abbrev cX6_tellKind : ByteArray := prog_8_method_11_code
def yX6_tellKind : MethodName := ⟨RX6, "tellKind", "(I)V"⟩
abbrev cX6_tellName : ByteArray := prog_8_method_12_code
def yX6_tellName : MethodName := ⟨RX6, "tellName", "(II)I"⟩
abbrev cX6_tellSpace : ByteArray := prog_8_method_13_code
def yX6_tellSpace : MethodName := ⟨RX6, "tellSpace", "(I)I"⟩
abbrev cX6_tellLocal : ByteArray := prog_8_method_14_code
def yX6_tellLocal : MethodName := ⟨RX6, "tellLocal", "(II)V"⟩
abbrev cX6_tellValue : ByteArray := prog_8_method_15_code
def yX6_tellValue : MethodName := ⟨RX6, "tellValue", "(II)V"⟩
abbrev cX6_tellLetters : ByteArray := prog_8_method_16_code
def yX6_tellLetters : MethodName := ⟨RX6, "tellLetters", "(I)V"⟩
abbrev cX6_tellNumber : ByteArray := prog_8_method_17_code
def yX6_tellNumber : MethodName := ⟨RX6, "tellNumber", "(I)V"⟩
abbrev cX6_tellPlace : ByteArray := prog_8_method_18_code
def yX6_tellPlace : MethodName := ⟨RX6, "tellPlace", "(II)V"⟩
def RX7 : String := "LearnedCodes"
def TX7 : u_T := fun k => match k with
  | 0 => ("LearnedCodes", "writer", "LLearnedCodes$Writer;", true)
  | _ => ("LearnedCodes", "reader", "LLearnedCodes$Reader;", true)
def tyX7 : Nat → FieldType := fun k => match k with
  | 0 => .object "LearnedCodes$Writer"
  | _ => .object "LearnedCodes$Reader"
abbrev wsX70 : List Cond := u_ws RX7 TX7 2
theorem nmX7 : ∀ a, a < 2 → ∀ b, b < 2 → a ≠ b → (TX7 a).2.1 ≠ (TX7 b).2.1 := by decide +kernel
theorem tyX7_ok : ∀ k, k < 2 → parseFieldDescriptor (TX7 k).2.2.1 = some (tyX7 k) := by decide +kernel
abbrev cX7_init : ByteArray := prog_1_method_1_code
def yX7_init : MethodName := ⟨RX7, "<init>", "()V"⟩
abbrev cX7_open : ByteArray := prog_1_method_2_code
def yX7_open : MethodName := ⟨RX7, "open", "(II)V"⟩
abbrev cX7_attribute : ByteArray := prog_1_method_3_code
def yX7_attribute : MethodName := ⟨RX7, "attribute", "(III)V"⟩
abbrev cX7_text : ByteArray := prog_1_method_4_code
def yX7_text : MethodName := ⟨RX7, "text", "(I)V"⟩
abbrev cX7_close : ByteArray := prog_1_method_5_code
def yX7_close : MethodName := ⟨RX7, "close", "()I"⟩
abbrev cX7_clear : ByteArray := prog_1_method_6_code
def yX7_clear : MethodName := ⟨RX7, "clear", "()V"⟩
abbrev cX7_written : ByteArray := prog_1_method_7_code
def yX7_written : MethodName := ⟨RX7, "written", "()I"⟩
abbrev cX7_keep : ByteArray := prog_1_method_8_code
def yX7_keep : MethodName := ⟨RX7, "keep", "()I"⟩
abbrev cX7_push : ByteArray := prog_1_method_9_code
def yX7_push : MethodName := ⟨RX7, "push", "(Z)I"⟩
abbrev cX7_bit : ByteArray := prog_1_method_10_code
def yX7_bit : MethodName := ⟨RX7, "bit", "(I)I"⟩
abbrev cX7_flip : ByteArray := prog_1_method_11_code
def yX7_flip : MethodName := ⟨RX7, "flip", "(I)V"⟩
abbrev cX7_cut : ByteArray := prog_1_method_12_code
def yX7_cut : MethodName := ⟨RX7, "cut", "(I)V"⟩
abbrev cX7_read : ByteArray := prog_1_method_13_code
def yX7_read : MethodName := ⟨RX7, "read", "()I"⟩
abbrev cX7_taken : ByteArray := prog_1_method_14_code
def yX7_taken : MethodName := ⟨RX7, "taken", "()I"⟩
abbrev cX7_event : ByteArray := prog_1_method_15_code
def yX7_event : MethodName := ⟨RX7, "event", "(II)I"⟩
abbrev cX7_again : ByteArray := prog_1_method_16_code
def yX7_again : MethodName := ⟨RX7, "again", "()I"⟩
abbrev cX7_isText : ByteArray := prog_1_method_17_code
def yX7_isText : MethodName := ⟨RX7, "isText", "(I)Z"⟩
abbrev cX7_isName : ByteArray := prog_1_method_18_code
def yX7_isName : MethodName := ⟨RX7, "isName", "(II)Z"⟩
abbrev cX7_countLetters : ByteArray := prog_1_method_19_code
def yX7_countLetters : MethodName := ⟨RX7, "countLetters", "(I)I"⟩
abbrev cX7_placeBits : ByteArray := prog_1_method_20_code
def yX7_placeBits : MethodName := ⟨RX7, "placeBits", "(I)I"⟩
abbrev cX7_isNamed : ByteArray := prog_1_method_21_code
def yX7_isNamed : MethodName := ⟨RX7, "isNamed", "(I)Z"⟩
abbrev cX7_codeOf : ByteArray := prog_1_method_22_code
def yX7_codeOf : MethodName := ⟨RX7, "codeOf", "(II)I"⟩
abbrev cX7_kindOf : ByteArray := prog_1_method_23_code
def yX7_kindOf : MethodName := ⟨RX7, "kindOf", "(I)I"⟩
abbrev cX7_nameOf : ByteArray := prog_1_method_24_code
def yX7_nameOf : MethodName := ⟨RX7, "nameOf", "(I)I"⟩
def RX8 : String := "LearnedCodesModel"
def TX8 : u_T := fun k => match k with
  | 0 => ("LearnedCodesModel", "thrown", "I", false)
  | 1 => ("LearnedCodesModel", "spaceCount", "[I", true)
  | 2 => ("LearnedCodesModel", "spaces", "[I", true)
  | 3 => ("LearnedCodesModel", "localCount", "[I", true)
  | 4 => ("LearnedCodesModel", "locals", "[I", true)
  | 5 => ("LearnedCodesModel", "nameCount", "[I", true)
  | 6 => ("LearnedCodesModel", "nameSpace", "[I", true)
  | 7 => ("LearnedCodesModel", "nameLocal", "[I", true)
  | 8 => ("LearnedCodesModel", "valueCount", "[I", true)
  | 9 => ("LearnedCodesModel", "values", "[I", true)
  | 10 => ("LearnedCodesModel", "allCount", "[I", true)
  | 11 => ("LearnedCodesModel", "all", "[I", true)
  | 12 => ("LearnedCodesModel", "rowCount", "[I", true)
  | 13 => ("LearnedCodesModel", "rows", "[I", true)
  | 14 => ("LearnedCodesModel", "depth", "[I", true)
  | 15 => ("LearnedCodesModel", "openNames", "[I", true)
  | 16 => ("LearnedCodesModel", "inContent", "[Z", true)
  | 17 => ("LearnedCodesModel", "whole", "[Z", true)
  | 18 => ("LearnedCodesModel", "bits", "[Z", true)
  | 19 => ("LearnedCodesModel", "bitCount", "I", false)
  | 20 => ("LearnedCodesModel", "stream", "[Z", true)
  | 21 => ("LearnedCodesModel", "streamSize", "I", false)
  | 22 => ("LearnedCodesModel", "taken", "I", false)
  | 23 => ("LearnedCodesModel", "wrong", "Z", false)
  | 24 => ("LearnedCodesModel", "events", "I", false)
  | 25 => ("LearnedCodesModel", "eventKind", "[I", true)
  | 26 => ("LearnedCodesModel", "eventSpace", "[I", true)
  | 27 => ("LearnedCodesModel", "eventLocal", "[I", true)
  | 28 => ("LearnedCodesModel", "eventValue", "[I", true)
  | _ => ("LearnedCodesModel", "isBegun", "Z", false)
def tyX8 : Nat → FieldType := fun k => match k with
  | 0 => .int
  | 1 => .array .int
  | 2 => .array .int
  | 3 => .array .int
  | 4 => .array .int
  | 5 => .array .int
  | 6 => .array .int
  | 7 => .array .int
  | 8 => .array .int
  | 9 => .array .int
  | 10 => .array .int
  | 11 => .array .int
  | 12 => .array .int
  | 13 => .array .int
  | 14 => .array .int
  | 15 => .array .int
  | 16 => .array .boolean
  | 17 => .array .boolean
  | 18 => .array .boolean
  | 19 => .int
  | 20 => .array .boolean
  | 21 => .int
  | 22 => .int
  | 23 => .boolean
  | 24 => .int
  | 25 => .array .int
  | 26 => .array .int
  | 27 => .array .int
  | 28 => .array .int
  | _ => .boolean
abbrev wsX80 : List Cond := u_ws RX8 TX8 30
theorem nmX8 : ∀ a, a < 30 → ∀ b, b < 30 → a ≠ b → (TX8 a).2.1 ≠ (TX8 b).2.1 := by decide +kernel
theorem tyX8_ok : ∀ k, k < 30 → parseFieldDescriptor (TX8 k).2.2.1 = some (tyX8 k) := by decide +kernel
abbrev cX8_init : ByteArray := prog_10_method_1_code
def yX8_init : MethodName := ⟨RX8, "<init>", "()V"⟩
abbrev cX8_thrown : ByteArray := prog_10_method_2_code
def yX8_thrown : MethodName := ⟨RX8, "thrown", "()I"⟩
abbrev cX8_begin : ByteArray := prog_10_method_3_code
def yX8_begin : MethodName := ⟨RX8, "begin", "(I)V"⟩
abbrev cX8_letters : ByteArray := prog_10_method_4_code
def yX8_letters : MethodName := ⟨RX8, "letters", "(I)I"⟩
abbrev cX8_isText : ByteArray := prog_10_method_5_code
def yX8_isText : MethodName := ⟨RX8, "isText", "(I)Z"⟩
abbrev cX8_findSpace : ByteArray := prog_10_method_6_code
def yX8_findSpace : MethodName := ⟨RX8, "findSpace", "(II)I"⟩
abbrev cX8_findLocal : ByteArray := prog_10_method_7_code
def yX8_findLocal : MethodName := ⟨RX8, "findLocal", "(III)I"⟩
abbrev cX8_findName : ByteArray := prog_10_method_8_code
def yX8_findName : MethodName := ⟨RX8, "findName", "(III)I"⟩
abbrev cX8_newName : ByteArray := prog_10_method_9_code
def yX8_newName : MethodName := ⟨RX8, "newName", "(III)I"⟩
abbrev cX8_addSpace : ByteArray := prog_10_method_10_code
def yX8_addSpace : MethodName := ⟨RX8, "addSpace", "(II)V"⟩
abbrev cX8_addLocal : ByteArray := prog_10_method_11_code
def yX8_addLocal : MethodName := ⟨RX8, "addLocal", "(III)V"⟩
abbrev cX8_addValue : ByteArray := prog_10_method_12_code
def yX8_addValue : MethodName := ⟨RX8, "addValue", "(III)V"⟩
abbrev cX8_rowOf : ByteArray := prog_10_method_13_code
def yX8_rowOf : MethodName := ⟨RX8, "rowOf", "(I)I"⟩
abbrev cX8_opening : ByteArray := prog_10_method_14_code
def yX8_opening : MethodName := ⟨RX8, "opening", "(I)I"⟩
abbrev cX8_attributing : ByteArray := prog_10_method_15_code
def yX8_attributing : MethodName := ⟨RX8, "attributing", "(I)I"⟩
abbrev cX8_findCode : ByteArray := prog_10_method_16_code
def yX8_findCode : MethodName := ⟨RX8, "findCode", "(II)I"⟩
abbrev cX8_learn : ByteArray := prog_10_method_17_code
def yX8_learn : MethodName := ⟨RX8, "learn", "(II)V"⟩
abbrev cX8_enter : ByteArray := prog_10_method_18_code
def yX8_enter : MethodName := ⟨RX8, "enter", "(II)V"⟩
abbrev cX8_leave : ByteArray := prog_10_method_19_code
def yX8_leave : MethodName := ⟨RX8, "leave", "(I)V"⟩
abbrev cX8_putPlace : ByteArray := prog_10_method_20_code
def yX8_putPlace : MethodName := ⟨RX8, "putPlace", "(II)V"⟩
abbrev cX8_putNumber : ByteArray := prog_10_method_21_code
def yX8_putNumber : MethodName := ⟨RX8, "putNumber", "(I)V"⟩
abbrev cX8_putLetters : ByteArray := prog_10_method_22_code
def yX8_putLetters : MethodName := ⟨RX8, "putLetters", "(I)V"⟩
abbrev cX8_putName : ByteArray := prog_10_method_23_code
def yX8_putName : MethodName := ⟨RX8, "putName", "(II)I"⟩
abbrev cX8_putValue : ByteArray := prog_10_method_24_code
def yX8_putValue : MethodName := ⟨RX8, "putValue", "(II)V"⟩
abbrev cX8_putCode : ByteArray := prog_10_method_25_code
def yX8_putCode : MethodName := ⟨RX8, "putCode", "(II)Z"⟩
abbrev cX8_lacks : ByteArray := prog_10_method_26_code
def yX8_lacks : MethodName := ⟨RX8, "lacks", "(II)Z"⟩
abbrev cX8_isLearned : ByteArray := prog_10_method_27_code
def yX8_isLearned : MethodName := ⟨RX8, "isLearned", "(I)Z"⟩
abbrev cX8_isName : ByteArray := prog_10_method_28_code
def yX8_isName : MethodName := ⟨RX8, "isName", "(II)Z"⟩
abbrev cX8_writeOpen : ByteArray := prog_10_method_29_code
def yX8_writeOpen : MethodName := ⟨RX8, "writeOpen", "(II)I"⟩
abbrev cX8_writeAttribute : ByteArray := prog_10_method_30_code
def yX8_writeAttribute : MethodName := ⟨RX8, "writeAttribute", "(III)I"⟩
abbrev cX8_writeText : ByteArray := prog_10_method_31_code
def yX8_writeText : MethodName := ⟨RX8, "writeText", "(I)I"⟩
abbrev cX8_writeClose : ByteArray := prog_10_method_32_code
def yX8_writeClose : MethodName := ⟨RX8, "writeClose", "()I"⟩
abbrev cX8_ready : ByteArray := prog_10_method_33_code
def yX8_ready : MethodName := ⟨RX8, "ready", "()V"⟩
abbrev cX8_open : ByteArray := prog_10_method_34_code
def yX8_open : MethodName := ⟨RX8, "open", "(II)V"⟩
abbrev cX8_attribute : ByteArray := prog_10_method_35_code
def yX8_attribute : MethodName := ⟨RX8, "attribute", "(III)V"⟩
abbrev cX8_text : ByteArray := prog_10_method_36_code
def yX8_text : MethodName := ⟨RX8, "text", "(I)V"⟩
abbrev cX8_close : ByteArray := prog_10_method_37_code
def yX8_close : MethodName := ⟨RX8, "close", "()I"⟩
abbrev cX8_clear : ByteArray := prog_10_method_38_code
def yX8_clear : MethodName := ⟨RX8, "clear", "()V"⟩
abbrev cX8_written : ByteArray := prog_10_method_39_code
def yX8_written : MethodName := ⟨RX8, "written", "()I"⟩
abbrev cX8_keep : ByteArray := prog_10_method_40_code
def yX8_keep : MethodName := ⟨RX8, "keep", "()I"⟩
abbrev cX8_push : ByteArray := prog_10_method_41_code
def yX8_push : MethodName := ⟨RX8, "push", "(Z)I"⟩
abbrev cX8_bit : ByteArray := prog_10_method_42_code
def yX8_bit : MethodName := ⟨RX8, "bit", "(I)I"⟩
abbrev cX8_flip : ByteArray := prog_10_method_43_code
def yX8_flip : MethodName := ⟨RX8, "flip", "(I)V"⟩
abbrev cX8_cut : ByteArray := prog_10_method_44_code
def yX8_cut : MethodName := ⟨RX8, "cut", "(I)V"⟩
abbrev cX8_takeBit : ByteArray := prog_10_method_45_code
def yX8_takeBit : MethodName := ⟨RX8, "takeBit", "()I"⟩
abbrev cX8_takePlace : ByteArray := prog_10_method_46_code
def yX8_takePlace : MethodName := ⟨RX8, "takePlace", "(I)I"⟩
abbrev cX8_takeNumber : ByteArray := prog_10_method_47_code
def yX8_takeNumber : MethodName := ⟨RX8, "takeNumber", "()I"⟩
abbrev cX8_takeLetters : ByteArray := prog_10_method_48_code
def yX8_takeLetters : MethodName := ⟨RX8, "takeLetters", "(I)I"⟩
abbrev cX8_takeName : ByteArray := prog_10_method_49_code
def yX8_takeName : MethodName := ⟨RX8, "takeName", "()I"⟩
abbrev cX8_takeValue : ByteArray := prog_10_method_50_code
def yX8_takeValue : MethodName := ⟨RX8, "takeValue", "(I)I"⟩
abbrev cX8_takeCode : ByteArray := prog_10_method_51_code
def yX8_takeCode : MethodName := ⟨RX8, "takeCode", "(I)I"⟩
abbrev cX8_note : ByteArray := prog_10_method_52_code
def yX8_note : MethodName := ⟨RX8, "note", "(III)V"⟩
abbrev cX8_takeOpen : ByteArray := prog_10_method_53_code
def yX8_takeOpen : MethodName := ⟨RX8, "takeOpen", "(I)V"⟩
abbrev cX8_takeEvent : ByteArray := prog_10_method_54_code
def yX8_takeEvent : MethodName := ⟨RX8, "takeEvent", "()V"⟩
abbrev cX8_read : ByteArray := prog_10_method_55_code
def yX8_read : MethodName := ⟨RX8, "read", "()I"⟩
abbrev cX8_taken : ByteArray := prog_10_method_56_code
def yX8_taken : MethodName := ⟨RX8, "taken", "()I"⟩
abbrev cX8_event : ByteArray := prog_10_method_57_code
def yX8_event : MethodName := ⟨RX8, "event", "(II)I"⟩
abbrev cX8_again : ByteArray := prog_10_method_58_code
def yX8_again : MethodName := ⟨RX8, "again", "()I"⟩
abbrev vwCl : List vw_C := [(RX0, TX0, 2), (RX1, TX1, 2), (RX2, TX2, 6), (RX3, TX3, 5), (RX4, TX4, 3), (RX5, TX5, 6), (RX6, TX6, 3), (RX7, TX7, 2), (RX8, TX8, 30)]
end
section
/-! The methods as tables: printed by wip/whole/gen_names.py out of the claim's own names. A method: its name, code, locals, answer's type, level (calls go to lower ones), arguments with 'this', class, its instructions (place, instruction, length, two numbers: class and field, or method and kind of call). -/
abbrev ax_I : Type := Nat × Instr × Nat × Nat × Nat
abbrev ax_M : Type := MethodName × ByteArray × Nat × Option FieldType × Nat × Nat × Nat × Nat × List ax_I
abbrev ax_y (q : ax_M) : MethodName := q.1
abbrev ax_c (q : ax_M) : ByteArray := q.2.1
abbrev ax_n (q : ax_M) : Nat := q.2.2.1
abbrev ax_r (q : ax_M) : Option FieldType := q.2.2.2.1
abbrev ax_v (q : ax_M) : Nat := q.2.2.2.2.1
abbrev ax_g (q : ax_M) : Nat := q.2.2.2.2.2.1
abbrev ax_o (q : ax_M) : Nat := q.2.2.2.2.2.2.1
abbrev ax_z (q : ax_M) : Nat := q.2.2.2.2.2.2.2.1
abbrev ax_b (q : ax_M) : List ax_I := q.2.2.2.2.2.2.2.2
def ax_t0 : List ax_I := [(0, .aload_n 0, 1, 0, 0), (1, .getfield 15, 3, 0, 1), (4, .aload_n 0, 1, 0, 0), (5, .getfield 9, 3, 0, 0), (8, .arraylength, 1, 0, 0), (9, .if_icmp .lt 7, 3, 0, 0), (12, .iconst 1, 1, 0, 0), (13, .goto 4, 3, 0, 0), (16, .iconst 0, 1, 0, 0), (17, .ireturn, 1, 0, 0)]
def ax_t1 : List ax_I := [(0, .iload_n 1, 1, 0, 0), (1, .ifCond .lt 24, 3, 0, 0), (4, .iload_n 1, 1, 0, 0), (5, .aload_n 0, 1, 0, 0), (6, .getfield 15, 3, 0, 1), (9, .if_icmp .ge 16, 3, 0, 0), (12, .iload_n 1, 1, 0, 0), (13, .aload_n 0, 1, 0, 0), (14, .getfield 9, 3, 0, 0), (17, .arraylength, 1, 0, 0), (18, .if_icmp .ge 7, 3, 0, 0), (21, .iconst 1, 1, 0, 0), (22, .goto 4, 3, 0, 0), (25, .iconst 0, 1, 0, 0), (26, .ireturn, 1, 0, 0)]
def ax_t2 : List ax_I := [(0, .iload_n 2, 1, 0, 0), (1, .iconst 1, 1, 0, 0), (2, .isub, 1, 0, 0), (3, .istore_n 3, 1, 0, 0), (4, .iload_n 3, 1, 0, 0), (5, .ifCond .lt 45, 3, 0, 0), (8, .aload_n 0, 1, 0, 0), (9, .getfield 15, 3, 0, 1), (12, .aload_n 0, 1, 0, 0), (13, .getfield 9, 3, 0, 0), (16, .arraylength, 1, 0, 0), (17, .if_icmp .ge 33, 3, 0, 0), (20, .aload_n 0, 1, 0, 0), (21, .getfield 9, 3, 0, 0), (24, .aload_n 0, 1, 0, 0), (25, .getfield 15, 3, 0, 1), (28, .iload_n 1, 1, 0, 0), (29, .iload_n 3, 1, 0, 0), (30, .ishr, 1, 0, 0), (31, .iconst 1, 1, 0, 0), (32, .iand, 1, 0, 0), (33, .iastore, 1, 0, 0), (34, .aload_n 0, 1, 0, 0), (35, .dup, 1, 0, 0), (36, .getfield 15, 3, 0, 1), (39, .iconst 1, 1, 0, 0), (40, .iadd, 1, 0, 0), (41, .putfield 15, 3, 0, 1), (44, .iinc 3 (-1), 3, 0, 0), (47, .goto (-43), 3, 0, 0), (50, .return_, 1, 0, 0)]
def ax_t3 : List ax_I := [(0, .aload_n 0, 1, 0, 0), (1, .iconst 0, 1, 0, 0), (2, .putfield 15, 3, 0, 1), (5, .iconst 0, 1, 0, 0), (6, .istore_n 2, 1, 0, 0), (7, .iload_n 2, 1, 0, 0), (8, .aload_n 1, 1, 0, 0), (9, .getfield 15, 3, 0, 1), (12, .if_icmp .ge 40, 3, 0, 0), (15, .iload_n 2, 1, 0, 0), (16, .aload_n 0, 1, 0, 0), (17, .getfield 9, 3, 0, 0), (20, .arraylength, 1, 0, 0), (21, .if_icmp .ge 31, 3, 0, 0), (24, .aload_n 0, 1, 0, 0), (25, .getfield 9, 3, 0, 0), (28, .iload_n 2, 1, 0, 0), (29, .aload_n 1, 1, 0, 0), (30, .getfield 9, 3, 0, 0), (33, .iload_n 2, 1, 0, 0), (34, .iaload, 1, 0, 0), (35, .iastore, 1, 0, 0), (36, .aload_n 0, 1, 0, 0), (37, .dup, 1, 0, 0), (38, .getfield 15, 3, 0, 1), (41, .iconst 1, 1, 0, 0), (42, .iadd, 1, 0, 0), (43, .putfield 15, 3, 0, 1), (46, .iinc 2 1, 3, 0, 0), (49, .goto (-42), 3, 0, 0), (52, .return_, 1, 0, 0)]
def ax_t4 : List ax_I := [(0, .aload_n 0, 1, 0, 0), (1, .iconst 0, 1, 0, 0), (2, .putfield 16, 3, 1, 1), (5, .return_, 1, 0, 0)]
def ax_t5 : List ax_I := [(0, .aload_n 0, 1, 0, 0), (1, .getfield 16, 3, 1, 1), (4, .sipush 200, 3, 0, 0), (7, .if_icmp .ge 62, 3, 0, 0), (10, .aload_n 0, 1, 0, 0), (11, .getfield 11, 3, 1, 0), (14, .iconst 0, 1, 0, 0), (15, .aaload, 1, 0, 0), (16, .aload_n 0, 1, 0, 0), (17, .getfield 16, 3, 1, 1), (20, .iload_n 1, 1, 0, 0), (21, .iastore, 1, 0, 0), (22, .aload_n 0, 1, 0, 0), (23, .getfield 11, 3, 1, 0), (26, .iconst 1, 1, 0, 0), (27, .aaload, 1, 0, 0), (28, .aload_n 0, 1, 0, 0), (29, .getfield 16, 3, 1, 1), (32, .iload_n 2, 1, 0, 0), (33, .iastore, 1, 0, 0), (34, .aload_n 0, 1, 0, 0), (35, .getfield 11, 3, 1, 0), (38, .iconst 2, 1, 0, 0), (39, .aaload, 1, 0, 0), (40, .aload_n 0, 1, 0, 0), (41, .getfield 16, 3, 1, 1), (44, .iload_n 3, 1, 0, 0), (45, .iastore, 1, 0, 0), (46, .aload_n 0, 1, 0, 0), (47, .getfield 11, 3, 1, 0), (50, .iconst 3, 1, 0, 0), (51, .aaload, 1, 0, 0), (52, .aload_n 0, 1, 0, 0), (53, .getfield 16, 3, 1, 1), (56, .iload 4, 2, 0, 0), (58, .iastore, 1, 0, 0), (59, .aload_n 0, 1, 0, 0), (60, .dup, 1, 0, 0), (61, .getfield 16, 3, 1, 1), (64, .iconst 1, 1, 0, 0), (65, .iadd, 1, 0, 0), (66, .putfield 16, 3, 1, 1), (69, .return_, 1, 0, 0)]
def ax_t6 : List ax_I := [(0, .iload_n 1, 1, 0, 0), (1, .ifCond .lt 24, 3, 0, 0), (4, .iload_n 1, 1, 0, 0), (5, .aload_n 0, 1, 0, 0), (6, .getfield 16, 3, 1, 1), (9, .if_icmp .ge 16, 3, 0, 0), (12, .iload_n 2, 1, 0, 0), (13, .ifCond .lt 12, 3, 0, 0), (16, .iload_n 2, 1, 0, 0), (17, .iconst 4, 1, 0, 0), (18, .if_icmp .ge 7, 3, 0, 0), (21, .iconst 1, 1, 0, 0), (22, .goto 4, 3, 0, 0), (25, .iconst 0, 1, 0, 0), (26, .istore_n 3, 1, 0, 0), (27, .iload_n 3, 1, 0, 0), (28, .ifCond .eq 14, 3, 0, 0), (31, .aload_n 0, 1, 0, 0), (32, .getfield 11, 3, 1, 0), (35, .iload_n 2, 1, 0, 0), (36, .aaload, 1, 0, 0), (37, .iload_n 1, 1, 0, 0), (38, .iaload, 1, 0, 0), (39, .goto 4, 3, 0, 0), (42, .iconst (-1), 1, 0, 0), (43, .ireturn, 1, 0, 0)]
def ax_t7 : List ax_I := [(0, .aload_n 0, 1, 0, 0), (1, .getfield 14, 3, 2, 0), (4, .invokevirtual 31, 3, 41, 0), (7, .aload_n 0, 1, 0, 0), (8, .getfield 20, 3, 2, 1), (11, .invokevirtual 31, 3, 41, 0), (14, .aload_n 0, 1, 0, 0), (15, .iconst 0, 1, 0, 0), (16, .putfield 34, 3, 2, 4), (19, .aload_n 0, 1, 0, 0), (20, .iconst 0, 1, 0, 0), (21, .putfield 38, 3, 2, 5), (24, .return_, 1, 0, 0)]
def ax_t8 : List ax_I := [(0, .aload_n 0, 1, 0, 0), (1, .getfield 34, 3, 2, 4), (4, .ireturn, 1, 0, 0)]
def ax_t9 : List ax_I := [(0, .aload_n 0, 1, 0, 0), (1, .getfield 38, 3, 2, 5), (4, .ireturn, 1, 0, 0)]
def ax_t10 : List ax_I := [(0, .aload_n 0, 1, 0, 0), (1, .getfield 38, 3, 2, 5), (4, .ifCond .eq 14, 3, 0, 0), (7, .aload_n 0, 1, 0, 0), (8, .getfield 34, 3, 2, 4), (11, .ifCond .ne 7, 3, 0, 0), (14, .iconst 1, 1, 0, 0), (15, .goto 4, 3, 0, 0), (18, .iconst 0, 1, 0, 0), (19, .ireturn, 1, 0, 0)]
def ax_t11 : List ax_I := [(0, .aload_n 0, 1, 0, 0), (1, .getfield 34, 3, 2, 4), (4, .bipush 8, 2, 0, 0), (6, .if_icmp .lt 7, 3, 0, 0), (9, .iconst 1, 1, 0, 0), (10, .goto 4, 3, 0, 0), (13, .iconst 0, 1, 0, 0), (14, .ireturn, 1, 0, 0)]
def ax_t12 : List ax_I := [(0, .aload_n 0, 1, 0, 0), (1, .getfield 34, 3, 2, 4), (4, .ifCond .le 29, 3, 0, 0), (7, .aload_n 0, 1, 0, 0), (8, .getfield 34, 3, 2, 4), (11, .aload_n 0, 1, 0, 0), (12, .getfield 23, 3, 2, 2), (15, .arraylength, 1, 0, 0), (16, .if_icmp .gt 17, 3, 0, 0), (19, .aload_n 0, 1, 0, 0), (20, .getfield 23, 3, 2, 2), (23, .aload_n 0, 1, 0, 0), (24, .getfield 34, 3, 2, 4), (27, .iconst 1, 1, 0, 0), (28, .isub, 1, 0, 0), (29, .iaload, 1, 0, 0), (30, .goto 4, 3, 0, 0), (33, .iconst (-1), 1, 0, 0), (34, .ireturn, 1, 0, 0)]
def ax_t13 : List ax_I := [(0, .aload_n 0, 1, 0, 0), (1, .getfield 34, 3, 2, 4), (4, .ifCond .le 33, 3, 0, 0), (7, .aload_n 0, 1, 0, 0), (8, .getfield 34, 3, 2, 4), (11, .aload_n 0, 1, 0, 0), (12, .getfield 27, 3, 2, 3), (15, .arraylength, 1, 0, 0), (16, .if_icmp .gt 21, 3, 0, 0), (19, .aload_n 0, 1, 0, 0), (20, .getfield 27, 3, 2, 3), (23, .aload_n 0, 1, 0, 0), (24, .getfield 34, 3, 2, 4), (27, .iconst 1, 1, 0, 0), (28, .isub, 1, 0, 0), (29, .baload, 1, 0, 0), (30, .ifCond .ne 7, 3, 0, 0), (33, .iconst 1, 1, 0, 0), (34, .goto 4, 3, 0, 0), (37, .iconst 0, 1, 0, 0), (38, .ireturn, 1, 0, 0)]
def ax_t14 : List ax_I := [(0, .aload_n 0, 1, 0, 0), (1, .getfield 34, 3, 2, 4), (4, .ifCond .le 27, 3, 0, 0), (7, .aload_n 0, 1, 0, 0), (8, .getfield 34, 3, 2, 4), (11, .aload_n 0, 1, 0, 0), (12, .getfield 27, 3, 2, 3), (15, .arraylength, 1, 0, 0), (16, .if_icmp .gt 15, 3, 0, 0), (19, .aload_n 0, 1, 0, 0), (20, .getfield 27, 3, 2, 3), (23, .aload_n 0, 1, 0, 0), (24, .getfield 34, 3, 2, 4), (27, .iconst 1, 1, 0, 0), (28, .isub, 1, 0, 0), (29, .iconst 1, 1, 0, 0), (30, .bastore, 1, 0, 0), (31, .return_, 1, 0, 0)]
def ax_t15 : List ax_I := [(0, .aload_n 0, 1, 0, 0), (1, .invokevirtual 42, 3, 14, 0), (4, .aload_n 0, 1, 0, 0), (5, .iconst 1, 1, 0, 0), (6, .putfield 38, 3, 2, 5), (9, .aload_n 0, 1, 0, 0), (10, .getfield 34, 3, 2, 4), (13, .aload_n 0, 1, 0, 0), (14, .getfield 23, 3, 2, 2), (17, .arraylength, 1, 0, 0), (18, .if_icmp .ge 45, 3, 0, 0), (21, .aload_n 0, 1, 0, 0), (22, .getfield 34, 3, 2, 4), (25, .aload_n 0, 1, 0, 0), (26, .getfield 27, 3, 2, 3), (29, .arraylength, 1, 0, 0), (30, .if_icmp .ge 33, 3, 0, 0), (33, .aload_n 0, 1, 0, 0), (34, .getfield 23, 3, 2, 2), (37, .aload_n 0, 1, 0, 0), (38, .getfield 34, 3, 2, 4), (41, .iload_n 1, 1, 0, 0), (42, .iastore, 1, 0, 0), (43, .aload_n 0, 1, 0, 0), (44, .getfield 27, 3, 2, 3), (47, .aload_n 0, 1, 0, 0), (48, .getfield 34, 3, 2, 4), (51, .iconst 0, 1, 0, 0), (52, .bastore, 1, 0, 0), (53, .aload_n 0, 1, 0, 0), (54, .dup, 1, 0, 0), (55, .getfield 34, 3, 2, 4), (58, .iconst 1, 1, 0, 0), (59, .iadd, 1, 0, 0), (60, .putfield 34, 3, 2, 4), (63, .return_, 1, 0, 0)]
def ax_t16 : List ax_I := [(0, .aload_n 0, 1, 0, 0), (1, .getfield 34, 3, 2, 4), (4, .ifCond .le 13, 3, 0, 0), (7, .aload_n 0, 1, 0, 0), (8, .dup, 1, 0, 0), (9, .getfield 34, 3, 2, 4), (12, .iconst 1, 1, 0, 0), (13, .isub, 1, 0, 0), (14, .putfield 34, 3, 2, 4), (17, .return_, 1, 0, 0)]
def ax_t17 : List ax_I := [(0, .aload_n 0, 1, 0, 0), (1, .invokevirtual 45, 3, 13, 0), (4, .ifCond .eq 17, 3, 0, 0), (7, .aload_n 0, 1, 0, 0), (8, .getfield 14, 3, 2, 0), (11, .aload_n 0, 1, 0, 0), (12, .invokevirtual 49, 3, 12, 0), (15, .invokevirtual 53, 3, 42, 0), (18, .goto 14, 3, 0, 0), (21, .aload_n 0, 1, 0, 0), (22, .getfield 20, 3, 2, 1), (25, .aload_n 0, 1, 0, 0), (26, .invokevirtual 49, 3, 12, 0), (29, .invokevirtual 53, 3, 42, 0), (32, .ireturn, 1, 0, 0)]
def ax_t18 : List ax_I := [(0, .aload_n 0, 1, 0, 0), (1, .invokevirtual 45, 3, 13, 0), (4, .ifCond .eq 12, 3, 0, 0), (7, .aload_n 0, 1, 0, 0), (8, .invokevirtual 57, 3, 17, 0), (11, .iconst 1, 1, 0, 0), (12, .iadd, 1, 0, 0), (13, .goto 9, 3, 0, 0), (16, .aload_n 0, 1, 0, 0), (17, .invokevirtual 57, 3, 17, 0), (20, .iconst 2, 1, 0, 0), (21, .iadd, 1, 0, 0), (22, .ireturn, 1, 0, 0)]
def ax_t19 : List ax_I := [(0, .aload_n 0, 1, 0, 0), (1, .invokevirtual 45, 3, 13, 0), (4, .ifCond .eq 18, 3, 0, 0), (7, .aload_n 0, 1, 0, 0), (8, .getfield 14, 3, 2, 0), (11, .aload_n 0, 1, 0, 0), (12, .invokevirtual 49, 3, 12, 0), (15, .iload_n 1, 1, 0, 0), (16, .invokevirtual 60, 3, 44, 0), (19, .goto 15, 3, 0, 0), (22, .aload_n 0, 1, 0, 0), (23, .getfield 20, 3, 2, 1), (26, .aload_n 0, 1, 0, 0), (27, .invokevirtual 49, 3, 12, 0), (30, .iload_n 1, 1, 0, 0), (31, .invokevirtual 60, 3, 44, 0), (34, .ireturn, 1, 0, 0)]
def ax_t20 : List ax_I := [(0, .aload_n 0, 1, 0, 0), (1, .invokevirtual 45, 3, 13, 0), (4, .ifCond .eq 18, 3, 0, 0), (7, .aload_n 0, 1, 0, 0), (8, .getfield 14, 3, 2, 0), (11, .aload_n 0, 1, 0, 0), (12, .invokevirtual 49, 3, 12, 0), (15, .iload_n 1, 1, 0, 0), (16, .invokevirtual 64, 3, 45, 0), (19, .goto 15, 3, 0, 0), (22, .aload_n 0, 1, 0, 0), (23, .getfield 20, 3, 2, 1), (26, .aload_n 0, 1, 0, 0), (27, .invokevirtual 49, 3, 12, 0), (30, .iload_n 1, 1, 0, 0), (31, .invokevirtual 64, 3, 45, 0), (34, .ireturn, 1, 0, 0)]
def ax_t21 : List ax_I := [(0, .aload_n 0, 1, 0, 0), (1, .iload_n 1, 1, 0, 0), (2, .invokevirtual 67, 3, 20, 0), (5, .iconst (-1), 1, 0, 0), (6, .if_icmp .eq 4, 3, 0, 0), (9, .return_, 1, 0, 0), (10, .aload_n 0, 1, 0, 0), (11, .invokevirtual 45, 3, 13, 0), (14, .ifCond .eq 18, 3, 0, 0), (17, .aload_n 0, 1, 0, 0), (18, .getfield 14, 3, 2, 0), (21, .aload_n 0, 1, 0, 0), (22, .invokevirtual 49, 3, 12, 0), (25, .iload_n 1, 1, 0, 0), (26, .invokevirtual 70, 3, 47, 0), (29, .goto 15, 3, 0, 0), (32, .aload_n 0, 1, 0, 0), (33, .getfield 20, 3, 2, 1), (36, .aload_n 0, 1, 0, 0), (37, .invokevirtual 49, 3, 12, 0), (40, .iload_n 1, 1, 0, 0), (41, .invokevirtual 70, 3, 47, 0), (44, .return_, 1, 0, 0)]
def ax_t22 : List ax_I := [(0, .aload_n 0, 1, 0, 0), (1, .iconst 0, 1, 0, 0), (2, .putfield 39, 3, 3, 4), (5, .aload_n 0, 1, 0, 0), (6, .getfield 21, 3, 3, 1), (9, .invokevirtual 43, 3, 4, 0), (12, .aload_n 0, 1, 0, 0), (13, .getfield 28, 3, 3, 2), (16, .invokevirtual 46, 3, 48, 0), (19, .aload_n 0, 1, 0, 0), (20, .getfield 35, 3, 3, 3), (23, .invokevirtual 49, 3, 7, 0), (26, .return_, 1, 0, 0)]
def ax_t23 : List ax_I := [(0, .aload_n 0, 1, 0, 0), (1, .getfield 35, 3, 3, 3), (4, .invokevirtual 50, 3, 10, 0), (7, .ireturn, 1, 0, 0)]
def ax_t24 : List ax_I := [(0, .aload_n 0, 1, 0, 0), (1, .getfield 35, 3, 3, 3), (4, .invokevirtual 54, 3, 9, 0), (7, .ifCond .eq 10, 3, 0, 0), (10, .aload_n 0, 1, 0, 0), (11, .invokevirtual 57, 3, 29, 0), (14, .goto 7, 3, 0, 0), (17, .aload_n 0, 1, 0, 0), (18, .invokevirtual 61, 3, 28, 0), (21, .istore_n 1, 1, 0, 0), (22, .iload_n 1, 1, 0, 0), (23, .iconst (-1), 1, 0, 0), (24, .if_icmp .ne 5, 3, 0, 0), (27, .iconst 0, 1, 0, 0), (28, .ireturn, 1, 0, 0), (29, .iload_n 1, 1, 0, 0), (30, .invokestatic 64, 3, 83, 2), (33, .tableswitch 50 1 3 #[27, 36, 45], 27, 0, 0), (60, .aload_n 0, 1, 0, 0), (61, .iload_n 1, 1, 0, 0), (62, .invokestatic 68, 3, 84, 2), (65, .invokevirtual 71, 3, 25, 0), (68, .ireturn, 1, 0, 0), (69, .aload_n 0, 1, 0, 0), (70, .iload_n 1, 1, 0, 0), (71, .invokestatic 68, 3, 84, 2), (74, .invokevirtual 75, 3, 26, 0), (77, .ireturn, 1, 0, 0), (78, .aload_n 0, 1, 0, 0), (79, .invokevirtual 78, 3, 27, 0), (82, .ireturn, 1, 0, 0), (83, .aload_n 0, 1, 0, 0), (84, .getfield 35, 3, 3, 3), (87, .invokevirtual 81, 3, 16, 0), (90, .aload_n 0, 1, 0, 0), (91, .getfield 21, 3, 3, 1), (94, .iconst 4, 1, 0, 0), (95, .iconst 0, 1, 0, 0), (96, .iconst 0, 1, 0, 0), (97, .iconst 0, 1, 0, 0), (98, .invokevirtual 84, 3, 5, 0), (101, .iconst 1, 1, 0, 0), (102, .ireturn, 1, 0, 0)]
def ax_t25 : List ax_I := [(0, .aload_n 0, 1, 0, 0), (1, .getfield 35, 3, 3, 3), (4, .invokevirtual 88, 3, 11, 0), (7, .ifCond .eq 5, 3, 0, 0), (10, .iconst 0, 1, 0, 0), (11, .ireturn, 1, 0, 0), (12, .aload_n 0, 1, 0, 0), (13, .getfield 35, 3, 3, 3), (16, .iload_n 1, 1, 0, 0), (17, .invokevirtual 91, 3, 15, 0), (20, .aload_n 0, 1, 0, 0), (21, .getfield 21, 3, 3, 1), (24, .iconst 1, 1, 0, 0), (25, .aload_n 0, 1, 0, 0), (26, .getfield 28, 3, 3, 2), (29, .iload_n 1, 1, 0, 0), (30, .invokevirtual 95, 3, 49, 0), (33, .aload_n 0, 1, 0, 0), (34, .getfield 28, 3, 3, 2), (37, .iload_n 1, 1, 0, 0), (38, .invokevirtual 98, 3, 50, 0), (41, .iconst 0, 1, 0, 0), (42, .invokevirtual 84, 3, 5, 0), (45, .iconst 1, 1, 0, 0), (46, .ireturn, 1, 0, 0)]
def ax_t26 : List ax_I := [(0, .aload_n 0, 1, 0, 0), (1, .iload_n 1, 1, 0, 0), (2, .invokevirtual 101, 3, 35, 0), (5, .istore_n 2, 1, 0, 0), (6, .iload_n 2, 1, 0, 0), (7, .iconst (-1), 1, 0, 0), (8, .if_icmp .ne 5, 3, 0, 0), (11, .iconst 0, 1, 0, 0), (12, .ireturn, 1, 0, 0), (13, .aload_n 0, 1, 0, 0), (14, .getfield 21, 3, 3, 1), (17, .iconst 2, 1, 0, 0), (18, .aload_n 0, 1, 0, 0), (19, .getfield 28, 3, 3, 2), (22, .iload_n 1, 1, 0, 0), (23, .invokevirtual 95, 3, 49, 0), (26, .aload_n 0, 1, 0, 0), (27, .getfield 28, 3, 3, 2), (30, .iload_n 1, 1, 0, 0), (31, .invokevirtual 98, 3, 50, 0), (34, .iload_n 2, 1, 0, 0), (35, .invokevirtual 84, 3, 5, 0), (38, .iconst 1, 1, 0, 0), (39, .ireturn, 1, 0, 0)]
def ax_t27 : List ax_I := [(0, .aload_n 0, 1, 0, 0), (1, .getfield 35, 3, 3, 3), (4, .invokevirtual 104, 3, 14, 0), (7, .aload_n 0, 1, 0, 0), (8, .aload_n 0, 1, 0, 0), (9, .getfield 35, 3, 3, 3), (12, .invokevirtual 107, 3, 12, 0), (15, .invokevirtual 101, 3, 35, 0), (18, .istore_n 1, 1, 0, 0), (19, .iload_n 1, 1, 0, 0), (20, .iconst (-1), 1, 0, 0), (21, .if_icmp .ne 5, 3, 0, 0), (24, .iconst 0, 1, 0, 0), (25, .ireturn, 1, 0, 0), (26, .aload_n 0, 1, 0, 0), (27, .getfield 21, 3, 3, 1), (30, .iconst 3, 1, 0, 0), (31, .iconst 0, 1, 0, 0), (32, .iconst 0, 1, 0, 0), (33, .iload_n 1, 1, 0, 0), (34, .invokevirtual 84, 3, 5, 0), (37, .iconst 1, 1, 0, 0), (38, .ireturn, 1, 0, 0)]
def ax_t28 : List ax_I := [(0, .aload_n 0, 1, 0, 0), (1, .invokevirtual 110, 3, 32, 0), (4, .istore_n 1, 1, 0, 0), (5, .iload_n 1, 1, 0, 0), (6, .iconst (-1), 1, 0, 0), (7, .if_icmp .ne 7, 3, 0, 0), (10, .iconst (-1), 1, 0, 0), (11, .goto 8, 3, 0, 0), (14, .iconst 1, 1, 0, 0), (15, .iload_n 1, 1, 0, 0), (16, .invokestatic 113, 3, 82, 2), (19, .ireturn, 1, 0, 0)]
def ax_t29 : List ax_I := [(0, .aload_n 0, 1, 0, 0), (1, .aload_n 0, 1, 0, 0), (2, .getfield 35, 3, 3, 3), (5, .invokevirtual 117, 3, 18, 0), (8, .invokevirtual 120, 3, 39, 0), (11, .istore_n 1, 1, 0, 0), (12, .iload_n 1, 1, 0, 0), (13, .iconst (-1), 1, 0, 0), (14, .if_icmp .eq 14, 3, 0, 0), (17, .iload_n 1, 1, 0, 0), (18, .aload_n 0, 1, 0, 0), (19, .getfield 35, 3, 3, 3), (22, .invokevirtual 123, 3, 17, 0), (25, .if_icmp .ge 12, 3, 0, 0), (28, .aload_n 0, 1, 0, 0), (29, .getfield 35, 3, 3, 3), (32, .iload_n 1, 1, 0, 0), (33, .invokevirtual 126, 3, 19, 0), (36, .ireturn, 1, 0, 0), (37, .aload_n 0, 1, 0, 0), (38, .getfield 35, 3, 3, 3), (41, .invokevirtual 129, 3, 13, 0), (44, .ifCond .ne 20, 3, 0, 0), (47, .iload_n 1, 1, 0, 0), (48, .aload_n 0, 1, 0, 0), (49, .getfield 35, 3, 3, 3), (52, .invokevirtual 123, 3, 17, 0), (55, .if_icmp .ne 9, 3, 0, 0), (58, .iconst 4, 1, 0, 0), (59, .iconst 0, 1, 0, 0), (60, .invokestatic 113, 3, 82, 2), (63, .ireturn, 1, 0, 0), (64, .aload_n 0, 1, 0, 0), (65, .getfield 35, 3, 3, 3), (68, .invokevirtual 129, 3, 13, 0), (71, .ifCond .eq 10, 3, 0, 0), (74, .aload_n 0, 1, 0, 0), (75, .invokevirtual 132, 3, 30, 0), (78, .goto 7, 3, 0, 0), (81, .aload_n 0, 1, 0, 0), (82, .invokevirtual 135, 3, 31, 0), (85, .istore_n 2, 1, 0, 0), (86, .iload_n 2, 1, 0, 0), (87, .invokestatic 138, 3, 81, 2), (90, .ifCond .eq 10, 3, 0, 0), (93, .aload_n 0, 1, 0, 0), (94, .invokevirtual 110, 3, 32, 0), (97, .goto 4, 3, 0, 0), (100, .iconst 0, 1, 0, 0), (101, .istore_n 3, 1, 0, 0), (102, .iload_n 2, 1, 0, 0), (103, .iconst (-1), 1, 0, 0), (104, .if_icmp .eq 8, 3, 0, 0), (107, .iload_n 3, 1, 0, 0), (108, .iconst (-1), 1, 0, 0), (109, .if_icmp .ne 5, 3, 0, 0), (112, .iconst (-1), 1, 0, 0), (113, .ireturn, 1, 0, 0), (114, .aload_n 0, 1, 0, 0), (115, .getfield 35, 3, 3, 3), (118, .iload_n 2, 1, 0, 0), (119, .iload_n 3, 1, 0, 0), (120, .invokestatic 113, 3, 82, 2), (123, .invokevirtual 141, 3, 21, 0), (126, .iload_n 2, 1, 0, 0), (127, .iload_n 3, 1, 0, 0), (128, .invokestatic 113, 3, 82, 2), (131, .ireturn, 1, 0, 0)]
def ax_t30 : List ax_I := [(0, .aload_n 0, 1, 0, 0), (1, .iconst 4, 1, 0, 0), (2, .invokevirtual 120, 3, 39, 0), (5, .tableswitch 39 0 3 #[31, 33, 35, 37], 31, 0, 0), (36, .iconst 4, 1, 0, 0), (37, .ireturn, 1, 0, 0), (38, .iconst 2, 1, 0, 0), (39, .ireturn, 1, 0, 0), (40, .iconst 1, 1, 0, 0), (41, .ireturn, 1, 0, 0), (42, .iconst 3, 1, 0, 0), (43, .ireturn, 1, 0, 0), (44, .iconst (-1), 1, 0, 0), (45, .ireturn, 1, 0, 0)]
def ax_t31 : List ax_I := [(0, .aload_n 0, 1, 0, 0), (1, .iconst 2, 1, 0, 0), (2, .invokevirtual 120, 3, 39, 0), (5, .lookupswitch 31 #[(0, 27), (1, 29)], 27, 0, 0), (32, .iconst 1, 1, 0, 0), (33, .ireturn, 1, 0, 0), (34, .iconst 3, 1, 0, 0), (35, .ireturn, 1, 0, 0), (36, .iconst (-1), 1, 0, 0), (37, .ireturn, 1, 0, 0)]
def ax_t32 : List ax_I := [(0, .aload_n 0, 1, 0, 0), (1, .invokevirtual 144, 3, 33, 0), (4, .istore_n 1, 1, 0, 0), (5, .iload_n 1, 1, 0, 0), (6, .iconst (-1), 1, 0, 0), (7, .if_icmp .ne 5, 3, 0, 0), (10, .iconst (-1), 1, 0, 0), (11, .ireturn, 1, 0, 0), (12, .aload_n 0, 1, 0, 0), (13, .iload_n 1, 1, 0, 0), (14, .invokevirtual 147, 3, 34, 0), (17, .istore_n 2, 1, 0, 0), (18, .iload_n 2, 1, 0, 0), (19, .iconst (-1), 1, 0, 0), (20, .if_icmp .ne 5, 3, 0, 0), (23, .iconst (-1), 1, 0, 0), (24, .ireturn, 1, 0, 0), (25, .aload_n 0, 1, 0, 0), (26, .getfield 28, 3, 3, 2), (29, .aload_n 0, 1, 0, 0), (30, .getfield 28, 3, 3, 2), (33, .getfield 150, 3, 5, 0), (36, .iconst 0, 1, 0, 0), (37, .iload_n 1, 1, 0, 0), (38, .invokevirtual 154, 3, 44, 0), (41, .iload_n 2, 1, 0, 0), (42, .invokevirtual 159, 3, 53, 0), (45, .ireturn, 1, 0, 0)]
def ax_t33 : List ax_I := [(0, .aload_n 0, 1, 0, 0), (1, .aload_n 0, 1, 0, 0), (2, .getfield 28, 3, 3, 2), (5, .getfield 150, 3, 5, 0), (8, .iconst 0, 1, 0, 0), (9, .invokevirtual 162, 3, 42, 0), (12, .iconst 1, 1, 0, 0), (13, .iadd, 1, 0, 0), (14, .invokevirtual 120, 3, 39, 0), (17, .istore_n 1, 1, 0, 0), (18, .iload_n 1, 1, 0, 0), (19, .ifCond .eq 16, 3, 0, 0), (22, .iload_n 1, 1, 0, 0), (23, .iconst (-1), 1, 0, 0), (24, .if_icmp .ne 7, 3, 0, 0), (27, .iconst (-1), 1, 0, 0), (28, .goto 6, 3, 0, 0), (31, .iload_n 1, 1, 0, 0), (32, .iconst 1, 1, 0, 0), (33, .isub, 1, 0, 0), (34, .ireturn, 1, 0, 0), (35, .aload_n 0, 1, 0, 0), (36, .aload_n 0, 1, 0, 0), (37, .invokevirtual 165, 3, 38, 0), (40, .invokevirtual 168, 3, 37, 0), (43, .istore_n 2, 1, 0, 0), (44, .iload_n 2, 1, 0, 0), (45, .iconst (-1), 1, 0, 0), (46, .if_icmp .ne 7, 3, 0, 0), (49, .iconst (-1), 1, 0, 0), (50, .goto 11, 3, 0, 0), (53, .aload_n 0, 1, 0, 0), (54, .getfield 28, 3, 3, 2), (57, .iload_n 2, 1, 0, 0), (58, .invokevirtual 171, 3, 52, 0), (61, .ireturn, 1, 0, 0)]
def ax_t34 : List ax_I := [(0, .aload_n 0, 1, 0, 0), (1, .invokevirtual 165, 3, 38, 0), (4, .istore_n 2, 1, 0, 0), (5, .iload_n 2, 1, 0, 0), (6, .ifCond .ne 16, 3, 0, 0), (9, .aload_n 0, 1, 0, 0), (10, .aload_n 0, 1, 0, 0), (11, .getfield 28, 3, 3, 2), (14, .getfield 174, 3, 5, 1), (17, .iload_n 1, 1, 0, 0), (18, .invokevirtual 177, 3, 36, 0), (21, .ireturn, 1, 0, 0), (22, .aload_n 0, 1, 0, 0), (23, .iload_n 2, 1, 0, 0), (24, .invokevirtual 168, 3, 37, 0), (27, .istore_n 3, 1, 0, 0), (28, .iload_n 3, 1, 0, 0), (29, .iconst (-1), 1, 0, 0), (30, .if_icmp .eq 17, 3, 0, 0), (33, .aload_n 0, 1, 0, 0), (34, .getfield 28, 3, 3, 2), (37, .getfield 174, 3, 5, 1), (40, .iload_n 1, 1, 0, 0), (41, .invokevirtual 181, 3, 43, 0), (44, .ifCond .eq 5, 3, 0, 0), (47, .iconst (-1), 1, 0, 0), (48, .ireturn, 1, 0, 0), (49, .aload_n 0, 1, 0, 0), (50, .getfield 28, 3, 3, 2), (53, .getfield 174, 3, 5, 1), (56, .iload_n 1, 1, 0, 0), (57, .iload_n 3, 1, 0, 0), (58, .invokevirtual 184, 3, 46, 0), (61, .iload_n 3, 1, 0, 0), (62, .ireturn, 1, 0, 0)]
def ax_t35 : List ax_I := [(0, .aload_n 0, 1, 0, 0), (1, .invokevirtual 165, 3, 38, 0), (4, .istore_n 2, 1, 0, 0), (5, .iload_n 2, 1, 0, 0), (6, .iconst (-1), 1, 0, 0), (7, .if_icmp .ne 5, 3, 0, 0), (10, .iconst (-1), 1, 0, 0), (11, .ireturn, 1, 0, 0), (12, .iload_n 2, 1, 0, 0), (13, .ifCond .ne 16, 3, 0, 0), (16, .aload_n 0, 1, 0, 0), (17, .aload_n 0, 1, 0, 0), (18, .getfield 28, 3, 3, 2), (21, .getfield 188, 3, 5, 2), (24, .iload_n 1, 1, 0, 0), (25, .invokevirtual 177, 3, 36, 0), (28, .ireturn, 1, 0, 0), (29, .iload_n 2, 1, 0, 0), (30, .iconst 1, 1, 0, 0), (31, .if_icmp .ne 16, 3, 0, 0), (34, .aload_n 0, 1, 0, 0), (35, .aload_n 0, 1, 0, 0), (36, .getfield 28, 3, 3, 2), (39, .getfield 191, 3, 5, 3), (42, .iconst 0, 1, 0, 0), (43, .invokevirtual 177, 3, 36, 0), (46, .ireturn, 1, 0, 0), (47, .aload_n 0, 1, 0, 0), (48, .iload_n 2, 1, 0, 0), (49, .iconst 2, 1, 0, 0), (50, .isub, 1, 0, 0), (51, .invokevirtual 168, 3, 37, 0), (54, .istore_n 3, 1, 0, 0), (55, .iload_n 3, 1, 0, 0), (56, .iconst (-1), 1, 0, 0), (57, .if_icmp .eq 12, 3, 0, 0), (60, .aload_n 0, 1, 0, 0), (61, .getfield 28, 3, 3, 2), (64, .iload_n 1, 1, 0, 0), (65, .iload_n 3, 1, 0, 0), (66, .invokevirtual 194, 3, 55, 0), (69, .iload_n 3, 1, 0, 0), (70, .ireturn, 1, 0, 0)]
def ax_t36 : List ax_I := [(0, .aload_n 1, 1, 0, 0), (1, .iload_n 2, 1, 0, 0), (2, .aload_n 0, 1, 0, 0), (3, .aload_n 1, 1, 0, 0), (4, .iload_n 2, 1, 0, 0), (5, .invokevirtual 162, 3, 42, 0), (8, .invokevirtual 120, 3, 39, 0), (11, .invokevirtual 154, 3, 44, 0), (14, .ireturn, 1, 0, 0)]
def ax_t37 : List ax_I := [(0, .iload_n 1, 1, 0, 0), (1, .ifCond .lt 8, 3, 0, 0), (4, .iload_n 1, 1, 0, 0), (5, .iconst 5, 1, 0, 0), (6, .if_icmp .le 5, 3, 0, 0), (9, .iconst (-1), 1, 0, 0), (10, .ireturn, 1, 0, 0), (11, .iconst 0, 1, 0, 0), (12, .istore_n 2, 1, 0, 0), (13, .iconst 1, 1, 0, 0), (14, .istore_n 3, 1, 0, 0), (15, .iconst 0, 1, 0, 0), (16, .istore 4, 2, 0, 0), (18, .iload 4, 2, 0, 0), (20, .iload_n 1, 1, 0, 0), (21, .if_icmp .ge 42, 3, 0, 0), (24, .aload_n 0, 1, 0, 0), (25, .invokevirtual 165, 3, 38, 0), (28, .istore 5, 2, 0, 0), (30, .iload 5, 2, 0, 0), (32, .iconst 1, 1, 0, 0), (33, .if_icmp .lt 10, 3, 0, 0), (36, .iload 5, 2, 0, 0), (38, .bipush 27, 2, 0, 0), (40, .if_icmp .lt 5, 3, 0, 0), (43, .iconst (-1), 1, 0, 0), (44, .ireturn, 1, 0, 0), (45, .iload_n 2, 1, 0, 0), (46, .iload 5, 2, 0, 0), (48, .iload_n 3, 1, 0, 0), (49, .imul, 1, 0, 0), (50, .iadd, 1, 0, 0), (51, .istore_n 2, 1, 0, 0), (52, .iload_n 3, 1, 0, 0), (53, .bipush 27, 2, 0, 0), (55, .imul, 1, 0, 0), (56, .istore_n 3, 1, 0, 0), (57, .iinc 4 1, 3, 0, 0), (60, .goto (-42), 3, 0, 0), (63, .iload_n 2, 1, 0, 0), (64, .ireturn, 1, 0, 0)]
def ax_t38 : List ax_I := [(0, .iconst 0, 1, 0, 0), (1, .istore_n 1, 1, 0, 0), (2, .iconst 1, 1, 0, 0), (3, .istore_n 2, 1, 0, 0), (4, .iconst 0, 1, 0, 0), (5, .istore_n 3, 1, 0, 0), (6, .iload_n 3, 1, 0, 0), (7, .iconst 4, 1, 0, 0), (8, .if_icmp .ge 48, 3, 0, 0), (11, .aload_n 0, 1, 0, 0), (12, .iconst 4, 1, 0, 0), (13, .invokevirtual 197, 3, 40, 0), (16, .istore 4, 2, 0, 0), (18, .iload 4, 2, 0, 0), (20, .iconst (-1), 1, 0, 0), (21, .if_icmp .ne 5, 3, 0, 0), (24, .iconst (-1), 1, 0, 0), (25, .ireturn, 1, 0, 0), (26, .iload_n 1, 1, 0, 0), (27, .iload_n 2, 1, 0, 0), (28, .iload 4, 2, 0, 0), (30, .bipush 8, 2, 0, 0), (32, .irem, 1, 0, 0), (33, .imul, 1, 0, 0), (34, .iadd, 1, 0, 0), (35, .istore_n 1, 1, 0, 0), (36, .iload_n 2, 1, 0, 0), (37, .bipush 8, 2, 0, 0), (39, .imul, 1, 0, 0), (40, .istore_n 2, 1, 0, 0), (41, .iload 4, 2, 0, 0), (43, .bipush 8, 2, 0, 0), (45, .if_icmp .ge 5, 3, 0, 0), (48, .iload_n 1, 1, 0, 0), (49, .ireturn, 1, 0, 0), (50, .iinc 3 1, 3, 0, 0), (53, .goto (-47), 3, 0, 0), (56, .iconst (-1), 1, 0, 0), (57, .ireturn, 1, 0, 0)]
def ax_t39 : List ax_I := [(0, .aload_n 0, 1, 0, 0), (1, .iload_n 1, 1, 0, 0), (2, .invokestatic 200, 3, 80, 2), (5, .invokevirtual 197, 3, 40, 0), (8, .istore_n 2, 1, 0, 0), (9, .iload_n 2, 1, 0, 0), (10, .iload_n 1, 1, 0, 0), (11, .if_icmp .ge 7, 3, 0, 0), (14, .iload_n 2, 1, 0, 0), (15, .goto 4, 3, 0, 0), (18, .iconst (-1), 1, 0, 0), (19, .ireturn, 1, 0, 0)]
def ax_t40 : List ax_I := [(0, .iconst 0, 1, 0, 0), (1, .istore_n 2, 1, 0, 0), (2, .iconst 0, 1, 0, 0), (3, .istore_n 3, 1, 0, 0), (4, .iload_n 3, 1, 0, 0), (5, .iload_n 1, 1, 0, 0), (6, .if_icmp .ge 67, 3, 0, 0), (9, .aload_n 0, 1, 0, 0), (10, .getfield 39, 3, 3, 4), (13, .aload_n 0, 1, 0, 0), (14, .getfield 12, 3, 3, 0), (17, .getfield 203, 3, 0, 1), (20, .if_icmp .ge 18, 3, 0, 0), (23, .aload_n 0, 1, 0, 0), (24, .getfield 39, 3, 3, 4), (27, .aload_n 0, 1, 0, 0), (28, .getfield 12, 3, 3, 0), (31, .getfield 206, 3, 0, 0), (34, .arraylength, 1, 0, 0), (35, .if_icmp .lt 5, 3, 0, 0), (38, .iconst (-1), 1, 0, 0), (39, .ireturn, 1, 0, 0), (40, .iload_n 2, 1, 0, 0), (41, .iconst 2, 1, 0, 0), (42, .imul, 1, 0, 0), (43, .aload_n 0, 1, 0, 0), (44, .getfield 12, 3, 3, 0), (47, .getfield 206, 3, 0, 0), (50, .aload_n 0, 1, 0, 0), (51, .getfield 39, 3, 3, 4), (54, .iaload, 1, 0, 0), (55, .iadd, 1, 0, 0), (56, .istore_n 2, 1, 0, 0), (57, .aload_n 0, 1, 0, 0), (58, .dup, 1, 0, 0), (59, .getfield 39, 3, 3, 4), (62, .iconst 1, 1, 0, 0), (63, .iadd, 1, 0, 0), (64, .putfield 39, 3, 3, 4), (67, .iinc 3 1, 3, 0, 0), (70, .goto (-66), 3, 0, 0), (73, .iload_n 2, 1, 0, 0), (74, .ireturn, 1, 0, 0)]
def ax_t41 : List ax_I := [(0, .iconst 0, 1, 0, 0), (1, .istore_n 1, 1, 0, 0), (2, .iload_n 1, 1, 0, 0), (3, .aload_n 0, 1, 0, 0), (4, .getfield 16, 3, 4, 1), (7, .arraylength, 1, 0, 0), (8, .if_icmp .ge 16, 3, 0, 0), (11, .aload_n 0, 1, 0, 0), (12, .getfield 16, 3, 4, 1), (15, .iload_n 1, 1, 0, 0), (16, .iconst 0, 1, 0, 0), (17, .iastore, 1, 0, 0), (18, .iinc 1 1, 3, 0, 0), (21, .goto (-19), 3, 0, 0), (24, .return_, 1, 0, 0)]
def ax_t42 : List ax_I := [(0, .iload_n 1, 1, 0, 0), (1, .ifCond .lt 21, 3, 0, 0), (4, .iload_n 1, 1, 0, 0), (5, .aload_n 0, 1, 0, 0), (6, .getfield 16, 3, 4, 1), (9, .arraylength, 1, 0, 0), (10, .if_icmp .ge 12, 3, 0, 0), (13, .aload_n 0, 1, 0, 0), (14, .getfield 16, 3, 4, 1), (17, .iload_n 1, 1, 0, 0), (18, .iaload, 1, 0, 0), (19, .goto 4, 3, 0, 0), (22, .iconst 0, 1, 0, 0), (23, .ireturn, 1, 0, 0)]
def ax_t43 : List ax_I := [(0, .aload_n 0, 1, 0, 0), (1, .iload_n 1, 1, 0, 0), (2, .invokevirtual 24, 3, 42, 0), (5, .aload_n 0, 1, 0, 0), (6, .getfield 20, 3, 4, 2), (9, .if_icmp .lt 7, 3, 0, 0), (12, .iconst 1, 1, 0, 0), (13, .goto 4, 3, 0, 0), (16, .iconst 0, 1, 0, 0), (17, .ireturn, 1, 0, 0)]
def ax_t44 : List ax_I := [(0, .iload_n 2, 1, 0, 0), (1, .ifCond .lt 23, 3, 0, 0), (4, .iload_n 2, 1, 0, 0), (5, .aload_n 0, 1, 0, 0), (6, .iload_n 1, 1, 0, 0), (7, .invokevirtual 24, 3, 42, 0), (10, .if_icmp .ge 14, 3, 0, 0), (13, .aload_n 0, 1, 0, 0), (14, .getfield 11, 3, 4, 0), (17, .iload_n 1, 1, 0, 0), (18, .aaload, 1, 0, 0), (19, .iload_n 2, 1, 0, 0), (20, .iaload, 1, 0, 0), (21, .goto 4, 3, 0, 0), (24, .iconst (-1), 1, 0, 0), (25, .ireturn, 1, 0, 0)]
def ax_t45 : List ax_I := [(0, .aload_n 0, 1, 0, 0), (1, .iload_n 1, 1, 0, 0), (2, .invokevirtual 24, 3, 42, 0), (5, .istore_n 3, 1, 0, 0), (6, .iconst 0, 1, 0, 0), (7, .istore 4, 2, 0, 0), (9, .iload 4, 2, 0, 0), (11, .iload_n 3, 1, 0, 0), (12, .if_icmp .ge 25, 3, 0, 0), (15, .aload_n 0, 1, 0, 0), (16, .getfield 11, 3, 4, 0), (19, .iload_n 1, 1, 0, 0), (20, .aaload, 1, 0, 0), (21, .iload 4, 2, 0, 0), (23, .iaload, 1, 0, 0), (24, .iload_n 2, 1, 0, 0), (25, .if_icmp .ne 6, 3, 0, 0), (28, .iload 4, 2, 0, 0), (30, .ireturn, 1, 0, 0), (31, .iinc 4 1, 3, 0, 0), (34, .goto (-25), 3, 0, 0), (37, .iconst (-1), 1, 0, 0), (38, .ireturn, 1, 0, 0)]
def ax_t46 : List ax_I := [(0, .iload_n 1, 1, 0, 0), (1, .ifCond .lt 49, 3, 0, 0), (4, .iload_n 1, 1, 0, 0), (5, .aload_n 0, 1, 0, 0), (6, .getfield 16, 3, 4, 1), (9, .arraylength, 1, 0, 0), (10, .if_icmp .ge 40, 3, 0, 0), (13, .aload_n 0, 1, 0, 0), (14, .getfield 16, 3, 4, 1), (17, .iload_n 1, 1, 0, 0), (18, .iaload, 1, 0, 0), (19, .aload_n 0, 1, 0, 0), (20, .getfield 20, 3, 4, 2), (23, .if_icmp .ge 27, 3, 0, 0), (26, .aload_n 0, 1, 0, 0), (27, .getfield 11, 3, 4, 0), (30, .iload_n 1, 1, 0, 0), (31, .aaload, 1, 0, 0), (32, .aload_n 0, 1, 0, 0), (33, .getfield 16, 3, 4, 1), (36, .iload_n 1, 1, 0, 0), (37, .iaload, 1, 0, 0), (38, .iload_n 2, 1, 0, 0), (39, .iastore, 1, 0, 0), (40, .aload_n 0, 1, 0, 0), (41, .getfield 16, 3, 4, 1), (44, .iload_n 1, 1, 0, 0), (45, .dup2, 1, 0, 0), (46, .iaload, 1, 0, 0), (47, .iconst 1, 1, 0, 0), (48, .iadd, 1, 0, 0), (49, .iastore, 1, 0, 0), (50, .return_, 1, 0, 0)]
def ax_t47 : List ax_I := [(0, .iload_n 1, 1, 0, 0), (1, .ifCond .lt 79, 3, 0, 0), (4, .iload_n 1, 1, 0, 0), (5, .aload_n 0, 1, 0, 0), (6, .getfield 16, 3, 4, 1), (9, .arraylength, 1, 0, 0), (10, .if_icmp .ge 70, 3, 0, 0), (13, .aload_n 0, 1, 0, 0), (14, .getfield 16, 3, 4, 1), (17, .iload_n 1, 1, 0, 0), (18, .iaload, 1, 0, 0), (19, .aload_n 0, 1, 0, 0), (20, .getfield 20, 3, 4, 2), (23, .if_icmp .ge 57, 3, 0, 0), (26, .aload_n 0, 1, 0, 0), (27, .getfield 16, 3, 4, 1), (30, .iload_n 1, 1, 0, 0), (31, .iaload, 1, 0, 0), (32, .istore_n 3, 1, 0, 0), (33, .iload_n 3, 1, 0, 0), (34, .ifCond .le 27, 3, 0, 0), (37, .aload_n 0, 1, 0, 0), (38, .getfield 11, 3, 4, 0), (41, .iload_n 1, 1, 0, 0), (42, .aaload, 1, 0, 0), (43, .iload_n 3, 1, 0, 0), (44, .aload_n 0, 1, 0, 0), (45, .getfield 11, 3, 4, 0), (48, .iload_n 1, 1, 0, 0), (49, .aaload, 1, 0, 0), (50, .iload_n 3, 1, 0, 0), (51, .iconst 1, 1, 0, 0), (52, .isub, 1, 0, 0), (53, .iaload, 1, 0, 0), (54, .iastore, 1, 0, 0), (55, .iinc 3 (-1), 3, 0, 0), (58, .goto (-25), 3, 0, 0), (61, .aload_n 0, 1, 0, 0), (62, .getfield 11, 3, 4, 0), (65, .iload_n 1, 1, 0, 0), (66, .aaload, 1, 0, 0), (67, .iconst 0, 1, 0, 0), (68, .iload_n 2, 1, 0, 0), (69, .iastore, 1, 0, 0), (70, .aload_n 0, 1, 0, 0), (71, .getfield 16, 3, 4, 1), (74, .iload_n 1, 1, 0, 0), (75, .dup2, 1, 0, 0), (76, .iaload, 1, 0, 0), (77, .iconst 1, 1, 0, 0), (78, .iadd, 1, 0, 0), (79, .iastore, 1, 0, 0), (80, .return_, 1, 0, 0)]
def ax_t48 : List ax_I := [(0, .aload_n 0, 1, 0, 0), (1, .getfield 14, 3, 5, 0), (4, .invokevirtual 35, 3, 41, 0), (7, .aload_n 0, 1, 0, 0), (8, .getfield 14, 3, 5, 0), (11, .iconst 0, 1, 0, 0), (12, .iconst 0, 1, 0, 0), (13, .invokevirtual 38, 3, 46, 0), (16, .aload_n 0, 1, 0, 0), (17, .getfield 20, 3, 5, 1), (20, .invokevirtual 35, 3, 41, 0), (23, .aload_n 0, 1, 0, 0), (24, .getfield 23, 3, 5, 2), (27, .invokevirtual 35, 3, 41, 0), (30, .aload_n 0, 1, 0, 0), (31, .getfield 26, 3, 5, 3), (34, .invokevirtual 35, 3, 41, 0), (37, .aload_n 0, 1, 0, 0), (38, .getfield 29, 3, 5, 4), (41, .invokevirtual 35, 3, 41, 0), (44, .aload_n 0, 1, 0, 0), (45, .getfield 32, 3, 5, 5), (48, .invokevirtual 35, 3, 41, 0), (51, .return_, 1, 0, 0)]
def ax_t49 : List ax_I := [(0, .aload_n 0, 1, 0, 0), (1, .getfield 29, 3, 5, 4), (4, .iconst 0, 1, 0, 0), (5, .iload_n 1, 1, 0, 0), (6, .invokevirtual 41, 3, 44, 0), (9, .ireturn, 1, 0, 0)]
def ax_t50 : List ax_I := [(0, .aload_n 0, 1, 0, 0), (1, .getfield 32, 3, 5, 5), (4, .iconst 0, 1, 0, 0), (5, .iload_n 1, 1, 0, 0), (6, .invokevirtual 41, 3, 44, 0), (9, .ireturn, 1, 0, 0)]
def ax_t51 : List ax_I := [(0, .aload_n 0, 1, 0, 0), (1, .getfield 29, 3, 5, 4), (4, .iconst 0, 1, 0, 0), (5, .invokevirtual 45, 3, 42, 0), (8, .istore_n 3, 1, 0, 0), (9, .iconst 0, 1, 0, 0), (10, .istore 4, 2, 0, 0), (12, .iload 4, 2, 0, 0), (14, .iload_n 3, 1, 0, 0), (15, .if_icmp .ge 40, 3, 0, 0), (18, .aload_n 0, 1, 0, 0), (19, .getfield 29, 3, 5, 4), (22, .iconst 0, 1, 0, 0), (23, .iload 4, 2, 0, 0), (25, .invokevirtual 41, 3, 44, 0), (28, .iload_n 1, 1, 0, 0), (29, .if_icmp .ne 20, 3, 0, 0), (32, .aload_n 0, 1, 0, 0), (33, .getfield 32, 3, 5, 5), (36, .iconst 0, 1, 0, 0), (37, .iload 4, 2, 0, 0), (39, .invokevirtual 41, 3, 44, 0), (42, .iload_n 2, 1, 0, 0), (43, .if_icmp .ne 6, 3, 0, 0), (46, .iload 4, 2, 0, 0), (48, .ireturn, 1, 0, 0), (49, .iinc 4 1, 3, 0, 0), (52, .goto (-40), 3, 0, 0), (55, .iconst (-1), 1, 0, 0), (56, .ireturn, 1, 0, 0)]
def ax_t52 : List ax_I := [(0, .aload_n 0, 1, 0, 0), (1, .getfield 14, 3, 5, 0), (4, .iconst 0, 1, 0, 0), (5, .invokevirtual 49, 3, 43, 0), (8, .ifCond .eq 5, 3, 0, 0), (11, .iconst (-1), 1, 0, 0), (12, .ireturn, 1, 0, 0), (13, .aload_n 0, 1, 0, 0), (14, .getfield 14, 3, 5, 0), (17, .iconst 0, 1, 0, 0), (18, .iload_n 1, 1, 0, 0), (19, .invokevirtual 38, 3, 46, 0), (22, .aload_n 0, 1, 0, 0), (23, .getfield 14, 3, 5, 0), (26, .iconst 0, 1, 0, 0), (27, .invokevirtual 45, 3, 42, 0), (30, .iconst 1, 1, 0, 0), (31, .isub, 1, 0, 0), (32, .ireturn, 1, 0, 0)]
def ax_t53 : List ax_I := [(0, .aload_n 0, 1, 0, 0), (1, .iload_n 1, 1, 0, 0), (2, .iload_n 2, 1, 0, 0), (3, .invokevirtual 53, 3, 51, 0), (6, .istore_n 3, 1, 0, 0), (7, .iload_n 3, 1, 0, 0), (8, .iconst (-1), 1, 0, 0), (9, .if_icmp .ne 14, 3, 0, 0), (12, .aload_n 0, 1, 0, 0), (13, .getfield 29, 3, 5, 4), (16, .iconst 0, 1, 0, 0), (17, .invokevirtual 49, 3, 43, 0), (20, .ifCond .eq 5, 3, 0, 0), (23, .iload_n 3, 1, 0, 0), (24, .ireturn, 1, 0, 0), (25, .aload_n 0, 1, 0, 0), (26, .getfield 29, 3, 5, 4), (29, .iconst 0, 1, 0, 0), (30, .iload_n 1, 1, 0, 0), (31, .invokevirtual 38, 3, 46, 0), (34, .aload_n 0, 1, 0, 0), (35, .getfield 32, 3, 5, 5), (38, .iconst 0, 1, 0, 0), (39, .iload_n 2, 1, 0, 0), (40, .invokevirtual 38, 3, 46, 0), (43, .aload_n 0, 1, 0, 0), (44, .getfield 29, 3, 5, 4), (47, .iconst 0, 1, 0, 0), (48, .invokevirtual 45, 3, 42, 0), (51, .iconst 1, 1, 0, 0), (52, .isub, 1, 0, 0), (53, .ireturn, 1, 0, 0)]
def ax_t54 : List ax_I := [(0, .aload_n 0, 1, 0, 0), (1, .iload_n 1, 1, 0, 0), (2, .iload_n 2, 1, 0, 0), (3, .invokevirtual 53, 3, 51, 0), (6, .iconst (-1), 1, 0, 0), (7, .if_icmp .eq 5, 3, 0, 0), (10, .iconst 1, 1, 0, 0), (11, .ireturn, 1, 0, 0), (12, .aload_n 0, 1, 0, 0), (13, .getfield 29, 3, 5, 4), (16, .iconst 0, 1, 0, 0), (17, .invokevirtual 49, 3, 43, 0), (20, .ifCond .eq 5, 3, 0, 0), (23, .iconst 0, 1, 0, 0), (24, .ireturn, 1, 0, 0), (25, .aload_n 0, 1, 0, 0), (26, .getfield 14, 3, 5, 0), (29, .iconst 0, 1, 0, 0), (30, .iload_n 1, 1, 0, 0), (31, .invokevirtual 56, 3, 45, 0), (34, .istore_n 3, 1, 0, 0), (35, .iload_n 3, 1, 0, 0), (36, .iconst (-1), 1, 0, 0), (37, .if_icmp .ne 22, 3, 0, 0), (40, .aload_n 0, 1, 0, 0), (41, .getfield 14, 3, 5, 0), (44, .iconst 0, 1, 0, 0), (45, .invokevirtual 49, 3, 43, 0), (48, .ifCond .ne 7, 3, 0, 0), (51, .iconst 1, 1, 0, 0), (52, .goto 23, 3, 0, 0), (55, .iconst 0, 1, 0, 0), (56, .goto 19, 3, 0, 0), (59, .aload_n 0, 1, 0, 0), (60, .getfield 20, 3, 5, 1), (63, .iload_n 3, 1, 0, 0), (64, .invokevirtual 49, 3, 43, 0), (67, .ifCond .ne 7, 3, 0, 0), (70, .iconst 1, 1, 0, 0), (71, .goto 4, 3, 0, 0), (74, .iconst 0, 1, 0, 0), (75, .ireturn, 1, 0, 0)]
def ax_t55 : List ax_I := [(0, .iload_n 2, 1, 0, 0), (1, .ifCond .eq 21, 3, 0, 0), (4, .aload_n 0, 1, 0, 0), (5, .getfield 23, 3, 5, 2), (8, .iload_n 1, 1, 0, 0), (9, .iload_n 2, 1, 0, 0), (10, .invokevirtual 38, 3, 46, 0), (13, .aload_n 0, 1, 0, 0), (14, .getfield 26, 3, 5, 3), (17, .iconst 0, 1, 0, 0), (18, .iload_n 2, 1, 0, 0), (19, .invokevirtual 38, 3, 46, 0), (22, .return_, 1, 0, 0)]
def ax_t56 : List ax_I := [(0, .aload_n 0, 1, 0, 0), (1, .getfield 12, 3, 6, 0), (4, .iconst 0, 1, 0, 0), (5, .putfield 32, 3, 0, 1), (8, .aload_n 0, 1, 0, 0), (9, .getfield 21, 3, 6, 1), (12, .invokevirtual 36, 3, 48, 0), (15, .aload_n 0, 1, 0, 0), (16, .getfield 28, 3, 6, 2), (19, .invokevirtual 39, 3, 7, 0), (22, .return_, 1, 0, 0)]
def ax_t57 : List ax_I := [(0, .aload_n 0, 1, 0, 0), (1, .getfield 28, 3, 6, 2), (4, .invokevirtual 40, 3, 10, 0), (7, .ireturn, 1, 0, 0)]
def ax_t58 : List ax_I := [(0, .aload_n 0, 1, 0, 0), (1, .getfield 28, 3, 6, 2), (4, .invokevirtual 44, 3, 13, 0), (7, .ireturn, 1, 0, 0)]
def ax_t59 : List ax_I := [(0, .aload_n 0, 1, 0, 0), (1, .getfield 28, 3, 6, 2), (4, .invokevirtual 47, 3, 8, 0), (7, .ireturn, 1, 0, 0)]
def ax_t60 : List ax_I := [(0, .aload_n 0, 1, 0, 0), (1, .iload_n 1, 1, 0, 0), (2, .iload_n 2, 1, 0, 0), (3, .iload_n 3, 1, 0, 0), (4, .invokevirtual 51, 3, 61, 0), (7, .ifCond .ne 5, 3, 0, 0), (10, .iconst 0, 1, 0, 0), (11, .ireturn, 1, 0, 0), (12, .iload_n 1, 1, 0, 0), (13, .tableswitch 107 1 3 #[27, 63, 79], 27, 0, 0), (40, .aload_n 0, 1, 0, 0), (41, .getfield 28, 3, 6, 2), (44, .aload_n 0, 1, 0, 0), (45, .getfield 28, 3, 6, 2), (48, .invokevirtual 55, 3, 9, 0), (51, .ifCond .eq 13, 3, 0, 0), (54, .aload_n 0, 1, 0, 0), (55, .iconst 1, 1, 0, 0), (56, .iload_n 2, 1, 0, 0), (57, .iload_n 3, 1, 0, 0), (58, .invokevirtual 58, 3, 63, 0), (61, .goto 9, 3, 0, 0), (64, .aload_n 0, 1, 0, 0), (65, .iload_n 2, 1, 0, 0), (66, .iload_n 3, 1, 0, 0), (67, .invokevirtual 62, 3, 66, 0), (70, .invokevirtual 66, 3, 15, 0), (73, .goto 58, 3, 0, 0), (76, .aload_n 0, 1, 0, 0), (77, .aload_n 0, 1, 0, 0), (78, .iconst 2, 1, 0, 0), (79, .iload_n 2, 1, 0, 0), (80, .iload_n 3, 1, 0, 0), (81, .invokevirtual 58, 3, 63, 0), (84, .iload 4, 2, 0, 0), (86, .invokevirtual 70, 3, 69, 0), (89, .goto 42, 3, 0, 0), (92, .aload_n 0, 1, 0, 0), (93, .iconst 3, 1, 0, 0), (94, .invokevirtual 74, 3, 64, 0), (97, .aload_n 0, 1, 0, 0), (98, .getfield 28, 3, 6, 2), (101, .invokevirtual 77, 3, 14, 0), (104, .aload_n 0, 1, 0, 0), (105, .aload_n 0, 1, 0, 0), (106, .getfield 28, 3, 6, 2), (109, .invokevirtual 80, 3, 12, 0), (112, .iload 4, 2, 0, 0), (114, .invokevirtual 70, 3, 69, 0), (117, .goto 14, 3, 0, 0), (120, .aload_n 0, 1, 0, 0), (121, .invokevirtual 83, 3, 62, 0), (124, .aload_n 0, 1, 0, 0), (125, .getfield 28, 3, 6, 2), (128, .invokevirtual 86, 3, 16, 0), (131, .iconst 1, 1, 0, 0), (132, .ireturn, 1, 0, 0)]
def ax_t61 : List ax_I := [(0, .aload_n 0, 1, 0, 0), (1, .getfield 12, 3, 6, 0), (4, .getfield 32, 3, 0, 1), (7, .sipush 3800, 3, 0, 0), (10, .if_icmp .gt 18, 3, 0, 0), (13, .iload_n 1, 1, 0, 0), (14, .iconst 1, 1, 0, 0), (15, .if_icmp .ne 15, 3, 0, 0), (18, .aload_n 0, 1, 0, 0), (19, .getfield 28, 3, 6, 2), (22, .invokevirtual 89, 3, 11, 0), (25, .ifCond .eq 5, 3, 0, 0), (28, .iconst 0, 1, 0, 0), (29, .ireturn, 1, 0, 0), (30, .iload_n 1, 1, 0, 0), (31, .invokestatic 92, 3, 81, 2), (34, .ifCond .eq 15, 3, 0, 0), (37, .aload_n 0, 1, 0, 0), (38, .getfield 21, 3, 6, 1), (41, .iload_n 2, 1, 0, 0), (42, .iload_n 3, 1, 0, 0), (43, .invokevirtual 96, 3, 54, 0), (46, .ifCond .eq 7, 3, 0, 0), (49, .iconst 1, 1, 0, 0), (50, .goto 4, 3, 0, 0), (53, .iconst 0, 1, 0, 0), (54, .ireturn, 1, 0, 0)]
def ax_t62 : List ax_I := [(0, .aload_n 0, 1, 0, 0), (1, .getfield 28, 3, 6, 2), (4, .invokevirtual 44, 3, 13, 0), (7, .ifCond .eq 11, 3, 0, 0), (10, .aload_n 0, 1, 0, 0), (11, .iconst 4, 1, 0, 0), (12, .invokevirtual 74, 3, 64, 0), (15, .goto 21, 3, 0, 0), (18, .aload_n 0, 1, 0, 0), (19, .aload_n 0, 1, 0, 0), (20, .getfield 28, 3, 6, 2), (23, .invokevirtual 100, 3, 17, 0), (26, .aload_n 0, 1, 0, 0), (27, .getfield 28, 3, 6, 2), (30, .invokevirtual 103, 3, 18, 0), (33, .invokevirtual 106, 3, 72, 0), (36, .return_, 1, 0, 0)]
def ax_t63 : List ax_I := [(0, .aload_n 0, 1, 0, 0), (1, .getfield 21, 3, 6, 1), (4, .iload_n 2, 1, 0, 0), (5, .iload_n 3, 1, 0, 0), (6, .invokevirtual 109, 3, 51, 0), (9, .istore 4, 2, 0, 0), (11, .iload 4, 2, 0, 0), (13, .iconst (-1), 1, 0, 0), (14, .if_icmp .ne 7, 3, 0, 0), (17, .iconst (-1), 1, 0, 0), (18, .goto 16, 3, 0, 0), (21, .aload_n 0, 1, 0, 0), (22, .getfield 28, 3, 6, 2), (25, .iload_n 1, 1, 0, 0), (26, .iload 4, 2, 0, 0), (28, .invokestatic 112, 3, 82, 2), (31, .invokevirtual 115, 3, 20, 0), (34, .istore 5, 2, 0, 0), (36, .iload 5, 2, 0, 0), (38, .iconst (-1), 1, 0, 0), (39, .if_icmp .eq 19, 3, 0, 0), (42, .aload_n 0, 1, 0, 0), (43, .iload 5, 2, 0, 0), (45, .aload_n 0, 1, 0, 0), (46, .getfield 28, 3, 6, 2), (49, .invokevirtual 103, 3, 18, 0), (52, .invokevirtual 106, 3, 72, 0), (55, .iload 4, 2, 0, 0), (57, .ireturn, 1, 0, 0), (58, .aload_n 0, 1, 0, 0), (59, .iload_n 1, 1, 0, 0), (60, .invokevirtual 119, 3, 65, 0), (63, .aload_n 0, 1, 0, 0), (64, .iload_n 2, 1, 0, 0), (65, .iload_n 3, 1, 0, 0), (66, .invokevirtual 62, 3, 66, 0), (69, .istore 6, 2, 0, 0), (71, .aload_n 0, 1, 0, 0), (72, .getfield 28, 3, 6, 2), (75, .iload_n 1, 1, 0, 0), (76, .iload 6, 2, 0, 0), (78, .invokestatic 112, 3, 82, 2), (81, .invokevirtual 122, 3, 21, 0), (84, .iload 6, 2, 0, 0), (86, .ireturn, 1, 0, 0)]
def ax_t64 : List ax_I := [(0, .iload_n 1, 1, 0, 0), (1, .iconst 0, 1, 0, 0), (2, .invokestatic 112, 3, 82, 2), (5, .istore_n 2, 1, 0, 0), (6, .aload_n 0, 1, 0, 0), (7, .getfield 28, 3, 6, 2), (10, .iload_n 2, 1, 0, 0), (11, .invokevirtual 115, 3, 20, 0), (14, .istore_n 3, 1, 0, 0), (15, .iload_n 3, 1, 0, 0), (16, .iconst (-1), 1, 0, 0), (17, .if_icmp .eq 16, 3, 0, 0), (20, .aload_n 0, 1, 0, 0), (21, .iload_n 3, 1, 0, 0), (22, .aload_n 0, 1, 0, 0), (23, .getfield 28, 3, 6, 2), (26, .invokevirtual 103, 3, 18, 0), (29, .invokevirtual 106, 3, 72, 0), (32, .return_, 1, 0, 0), (33, .aload_n 0, 1, 0, 0), (34, .iload_n 1, 1, 0, 0), (35, .invokevirtual 119, 3, 65, 0), (38, .aload_n 0, 1, 0, 0), (39, .getfield 28, 3, 6, 2), (42, .iload_n 2, 1, 0, 0), (43, .invokevirtual 122, 3, 21, 0), (46, .return_, 1, 0, 0)]
def ax_t65 : List ax_I := [(0, .aload_n 0, 1, 0, 0), (1, .aload_n 0, 1, 0, 0), (2, .getfield 28, 3, 6, 2), (5, .invokevirtual 103, 3, 18, 0), (8, .iconst 1, 1, 0, 0), (9, .isub, 1, 0, 0), (10, .aload_n 0, 1, 0, 0), (11, .getfield 28, 3, 6, 2), (14, .invokevirtual 103, 3, 18, 0), (17, .invokevirtual 106, 3, 72, 0), (20, .aload_n 0, 1, 0, 0), (21, .getfield 28, 3, 6, 2), (24, .invokevirtual 44, 3, 13, 0), (27, .ifCond .ne 19, 3, 0, 0), (30, .aload_n 0, 1, 0, 0), (31, .iload_n 1, 1, 0, 0), (32, .iconst 1, 1, 0, 0), (33, .if_icmp .ne 7, 3, 0, 0), (36, .iconst 0, 1, 0, 0), (37, .goto 4, 3, 0, 0), (40, .iconst 1, 1, 0, 0), (41, .iconst 2, 1, 0, 0), (42, .invokevirtual 106, 3, 72, 0), (45, .return_, 1, 0, 0), (46, .iload_n 1, 1, 0, 0), (47, .tableswitch 52 1 3 #[34, 25, 43], 25, 0, 0), (72, .aload_n 0, 1, 0, 0), (73, .iconst 1, 1, 0, 0), (74, .iconst 4, 1, 0, 0), (75, .invokevirtual 106, 3, 72, 0), (78, .goto 27, 3, 0, 0), (81, .aload_n 0, 1, 0, 0), (82, .iconst 2, 1, 0, 0), (83, .iconst 4, 1, 0, 0), (84, .invokevirtual 106, 3, 72, 0), (87, .goto 18, 3, 0, 0), (90, .aload_n 0, 1, 0, 0), (91, .iconst 3, 1, 0, 0), (92, .iconst 4, 1, 0, 0), (93, .invokevirtual 106, 3, 72, 0), (96, .goto 9, 3, 0, 0), (99, .aload_n 0, 1, 0, 0), (100, .iconst 0, 1, 0, 0), (101, .iconst 4, 1, 0, 0), (102, .invokevirtual 106, 3, 72, 0), (105, .return_, 1, 0, 0)]
def ax_t66 : List ax_I := [(0, .aload_n 0, 1, 0, 0), (1, .aload_n 0, 1, 0, 0), (2, .iload_n 1, 1, 0, 0), (3, .invokevirtual 125, 3, 67, 0), (6, .iload_n 2, 1, 0, 0), (7, .invokevirtual 128, 3, 68, 0), (10, .aload_n 0, 1, 0, 0), (11, .getfield 21, 3, 6, 1), (14, .iload_n 1, 1, 0, 0), (15, .iload_n 2, 1, 0, 0), (16, .invokevirtual 131, 3, 53, 0), (19, .ireturn, 1, 0, 0)]
def ax_t67 : List ax_I := [(0, .aload_n 0, 1, 0, 0), (1, .getfield 21, 3, 6, 1), (4, .getfield 134, 3, 5, 0), (7, .iconst 0, 1, 0, 0), (8, .invokevirtual 138, 3, 42, 0), (11, .istore_n 2, 1, 0, 0), (12, .aload_n 0, 1, 0, 0), (13, .getfield 21, 3, 6, 1), (16, .getfield 134, 3, 5, 0), (19, .iconst 0, 1, 0, 0), (20, .iload_n 1, 1, 0, 0), (21, .invokevirtual 143, 3, 45, 0), (24, .istore_n 3, 1, 0, 0), (25, .iload_n 3, 1, 0, 0), (26, .iconst (-1), 1, 0, 0), (27, .if_icmp .eq 15, 3, 0, 0), (30, .aload_n 0, 1, 0, 0), (31, .iload_n 3, 1, 0, 0), (32, .iconst 1, 1, 0, 0), (33, .iadd, 1, 0, 0), (34, .iload_n 2, 1, 0, 0), (35, .iconst 1, 1, 0, 0), (36, .iadd, 1, 0, 0), (37, .invokevirtual 106, 3, 72, 0), (40, .iload_n 3, 1, 0, 0), (41, .ireturn, 1, 0, 0), (42, .aload_n 0, 1, 0, 0), (43, .iconst 0, 1, 0, 0), (44, .iload_n 2, 1, 0, 0), (45, .iconst 1, 1, 0, 0), (46, .iadd, 1, 0, 0), (47, .invokevirtual 106, 3, 72, 0), (50, .aload_n 0, 1, 0, 0), (51, .iload_n 1, 1, 0, 0), (52, .invokestatic 146, 3, 79, 2), (55, .invokevirtual 149, 3, 71, 0), (58, .aload_n 0, 1, 0, 0), (59, .iload_n 1, 1, 0, 0), (60, .invokevirtual 152, 3, 70, 0), (63, .aload_n 0, 1, 0, 0), (64, .getfield 21, 3, 6, 1), (67, .iload_n 1, 1, 0, 0), (68, .invokevirtual 155, 3, 52, 0), (71, .ireturn, 1, 0, 0)]
def ax_t68 : List ax_I := [(0, .aload_n 0, 1, 0, 0), (1, .getfield 21, 3, 6, 1), (4, .getfield 158, 3, 5, 1), (7, .iload_n 1, 1, 0, 0), (8, .iload_n 2, 1, 0, 0), (9, .invokevirtual 143, 3, 45, 0), (12, .istore_n 3, 1, 0, 0), (13, .iload_n 3, 1, 0, 0), (14, .iconst (-1), 1, 0, 0), (15, .if_icmp .eq 25, 3, 0, 0), (18, .aload_n 0, 1, 0, 0), (19, .iconst 0, 1, 0, 0), (20, .invokevirtual 149, 3, 71, 0), (23, .aload_n 0, 1, 0, 0), (24, .iload_n 3, 1, 0, 0), (25, .aload_n 0, 1, 0, 0), (26, .getfield 21, 3, 6, 1), (29, .getfield 158, 3, 5, 1), (32, .iload_n 1, 1, 0, 0), (33, .invokevirtual 138, 3, 42, 0), (36, .invokevirtual 106, 3, 72, 0), (39, .return_, 1, 0, 0), (40, .aload_n 0, 1, 0, 0), (41, .iload_n 2, 1, 0, 0), (42, .invokestatic 146, 3, 79, 2), (45, .invokevirtual 149, 3, 71, 0), (48, .aload_n 0, 1, 0, 0), (49, .iload_n 2, 1, 0, 0), (50, .invokevirtual 152, 3, 70, 0), (53, .aload_n 0, 1, 0, 0), (54, .getfield 21, 3, 6, 1), (57, .getfield 158, 3, 5, 1), (60, .iload_n 1, 1, 0, 0), (61, .iload_n 2, 1, 0, 0), (62, .invokevirtual 161, 3, 46, 0), (65, .return_, 1, 0, 0)]
def ax_t69 : List ax_I := [(0, .aload_n 0, 1, 0, 0), (1, .getfield 21, 3, 6, 1), (4, .getfield 164, 3, 5, 2), (7, .iload_n 1, 1, 0, 0), (8, .iload_n 2, 1, 0, 0), (9, .invokevirtual 143, 3, 45, 0), (12, .istore_n 3, 1, 0, 0), (13, .iload_n 3, 1, 0, 0), (14, .iconst (-1), 1, 0, 0), (15, .if_icmp .eq 25, 3, 0, 0), (18, .aload_n 0, 1, 0, 0), (19, .iconst 0, 1, 0, 0), (20, .invokevirtual 149, 3, 71, 0), (23, .aload_n 0, 1, 0, 0), (24, .iload_n 3, 1, 0, 0), (25, .aload_n 0, 1, 0, 0), (26, .getfield 21, 3, 6, 1), (29, .getfield 164, 3, 5, 2), (32, .iload_n 1, 1, 0, 0), (33, .invokevirtual 138, 3, 42, 0), (36, .invokevirtual 106, 3, 72, 0), (39, .return_, 1, 0, 0), (40, .aload_n 0, 1, 0, 0), (41, .getfield 21, 3, 6, 1), (44, .getfield 167, 3, 5, 3), (47, .iconst 0, 1, 0, 0), (48, .iload_n 2, 1, 0, 0), (49, .invokevirtual 143, 3, 45, 0), (52, .istore_n 3, 1, 0, 0), (53, .iload_n 3, 1, 0, 0), (54, .iconst (-1), 1, 0, 0), (55, .if_icmp .eq 25, 3, 0, 0), (58, .aload_n 0, 1, 0, 0), (59, .iconst 1, 1, 0, 0), (60, .invokevirtual 149, 3, 71, 0), (63, .aload_n 0, 1, 0, 0), (64, .iload_n 3, 1, 0, 0), (65, .aload_n 0, 1, 0, 0), (66, .getfield 21, 3, 6, 1), (69, .getfield 167, 3, 5, 3), (72, .iconst 0, 1, 0, 0), (73, .invokevirtual 138, 3, 42, 0), (76, .invokevirtual 106, 3, 72, 0), (79, .return_, 1, 0, 0), (80, .aload_n 0, 1, 0, 0), (81, .iload_n 2, 1, 0, 0), (82, .invokestatic 146, 3, 79, 2), (85, .iconst 2, 1, 0, 0), (86, .iadd, 1, 0, 0), (87, .invokevirtual 149, 3, 71, 0), (90, .aload_n 0, 1, 0, 0), (91, .iload_n 2, 1, 0, 0), (92, .invokevirtual 152, 3, 70, 0), (95, .aload_n 0, 1, 0, 0), (96, .getfield 21, 3, 6, 1), (99, .iload_n 1, 1, 0, 0), (100, .iload_n 2, 1, 0, 0), (101, .invokevirtual 170, 3, 55, 0), (104, .return_, 1, 0, 0)]
def ax_t70 : List ax_I := [(0, .iload_n 1, 1, 0, 0), (1, .istore_n 2, 1, 0, 0), (2, .iconst 0, 1, 0, 0), (3, .istore_n 3, 1, 0, 0), (4, .iload_n 3, 1, 0, 0), (5, .iconst 5, 1, 0, 0), (6, .if_icmp .ge 26, 3, 0, 0), (9, .iload_n 2, 1, 0, 0), (10, .ifCond .le 22, 3, 0, 0), (13, .aload_n 0, 1, 0, 0), (14, .iload_n 2, 1, 0, 0), (15, .bipush 27, 2, 0, 0), (17, .irem, 1, 0, 0), (18, .invokevirtual 149, 3, 71, 0), (21, .iload_n 2, 1, 0, 0), (22, .bipush 27, 2, 0, 0), (24, .idiv, 1, 0, 0), (25, .istore_n 2, 1, 0, 0), (26, .iinc 3 1, 3, 0, 0), (29, .goto (-25), 3, 0, 0), (32, .return_, 1, 0, 0)]
def ax_t71 : List ax_I := [(0, .iload_n 1, 1, 0, 0), (1, .istore_n 2, 1, 0, 0), (2, .iconst 1, 1, 0, 0), (3, .istore_n 3, 1, 0, 0), (4, .iload_n 3, 1, 0, 0), (5, .iconst 4, 1, 0, 0), (6, .if_icmp .ge 35, 3, 0, 0), (9, .iload_n 2, 1, 0, 0), (10, .bipush 8, 2, 0, 0), (12, .if_icmp .lt 29, 3, 0, 0), (15, .aload_n 0, 1, 0, 0), (16, .getfield 12, 3, 6, 0), (19, .bipush 8, 2, 0, 0), (21, .iload_n 2, 1, 0, 0), (22, .bipush 8, 2, 0, 0), (24, .irem, 1, 0, 0), (25, .iadd, 1, 0, 0), (26, .iconst 4, 1, 0, 0), (27, .invokevirtual 173, 3, 2, 0), (30, .iload_n 2, 1, 0, 0), (31, .bipush 8, 2, 0, 0), (33, .idiv, 1, 0, 0), (34, .istore_n 2, 1, 0, 0), (35, .iinc 3 1, 3, 0, 0), (38, .goto (-34), 3, 0, 0), (41, .aload_n 0, 1, 0, 0), (42, .getfield 12, 3, 6, 0), (45, .iload_n 2, 1, 0, 0), (46, .iconst 4, 1, 0, 0), (47, .invokevirtual 173, 3, 2, 0), (50, .return_, 1, 0, 0)]
def ax_t72 : List ax_I := [(0, .aload_n 0, 1, 0, 0), (1, .getfield 12, 3, 6, 0), (4, .iload_n 1, 1, 0, 0), (5, .iload_n 2, 1, 0, 0), (6, .invokestatic 176, 3, 80, 2), (9, .invokevirtual 173, 3, 2, 0), (12, .return_, 1, 0, 0)]
def ax_t73 : List ax_I := [(0, .aload_n 0, 1, 0, 0), (1, .getfield 10, 3, 7, 0), (4, .invokevirtual 23, 3, 56, 0), (7, .return_, 1, 0, 0)]
def ax_t74 : List ax_I := [(0, .aload_n 0, 1, 0, 0), (1, .getfield 10, 3, 7, 0), (4, .getfield 78, 3, 6, 0), (7, .getfield 82, 3, 0, 1), (10, .ireturn, 1, 0, 0)]
def ax_t75 : List ax_I := [(0, .aload_n 0, 1, 0, 0), (1, .getfield 19, 3, 7, 1), (4, .getfield 88, 3, 3, 0), (7, .aload_n 0, 1, 0, 0), (8, .getfield 10, 3, 7, 0), (11, .getfield 78, 3, 6, 0), (14, .invokevirtual 91, 3, 3, 0), (17, .aload_n 0, 1, 0, 0), (18, .getfield 19, 3, 7, 1), (21, .getfield 88, 3, 3, 0), (24, .getfield 82, 3, 0, 1), (27, .ireturn, 1, 0, 0)]
def ax_t76 : List ax_I := [(0, .aload_n 0, 1, 0, 0), (1, .getfield 19, 3, 7, 1), (4, .getfield 136, 3, 3, 4), (7, .ireturn, 1, 0, 0)]
def ax_t77 : List ax_I := [(0, .iload_n 0, 1, 0, 0), (1, .istore_n 1, 1, 0, 0), (2, .iconst 0, 1, 0, 0), (3, .istore_n 2, 1, 0, 0), (4, .iload_n 2, 1, 0, 0), (5, .iconst 5, 1, 0, 0), (6, .if_icmp .ge 27, 3, 0, 0), (9, .iload_n 1, 1, 0, 0), (10, .ifCond .le 23, 3, 0, 0), (13, .iload_n 1, 1, 0, 0), (14, .bipush 27, 2, 0, 0), (16, .irem, 1, 0, 0), (17, .ifCond .ne 5, 3, 0, 0), (20, .iconst 0, 1, 0, 0), (21, .ireturn, 1, 0, 0), (22, .iload_n 1, 1, 0, 0), (23, .bipush 27, 2, 0, 0), (25, .idiv, 1, 0, 0), (26, .istore_n 1, 1, 0, 0), (27, .iinc 2 1, 3, 0, 0), (30, .goto (-26), 3, 0, 0), (33, .iload_n 1, 1, 0, 0), (34, .ifCond .ne 7, 3, 0, 0), (37, .iconst 1, 1, 0, 0), (38, .goto 4, 3, 0, 0), (41, .iconst 0, 1, 0, 0), (42, .ireturn, 1, 0, 0)]
def ax_t78 : List ax_I := [(0, .iload_n 0, 1, 0, 0), (1, .invokestatic 55, 3, 77, 1), (4, .ifCond .eq 18, 3, 0, 0), (7, .iload_n 1, 1, 0, 0), (8, .invokestatic 55, 3, 77, 1), (11, .ifCond .eq 11, 3, 0, 0), (14, .iload_n 1, 1, 0, 0), (15, .ifCond .eq 7, 3, 0, 0), (18, .iconst 1, 1, 0, 0), (19, .goto 4, 3, 0, 0), (22, .iconst 0, 1, 0, 0), (23, .ireturn, 1, 0, 0)]
def ax_t79 : List ax_I := [(0, .iconst 0, 1, 0, 0), (1, .istore_n 1, 1, 0, 0), (2, .iload_n 0, 1, 0, 0), (3, .istore_n 2, 1, 0, 0), (4, .iload_n 1, 1, 0, 0), (5, .iconst 5, 1, 0, 0), (6, .if_icmp .ge 18, 3, 0, 0), (9, .iload_n 2, 1, 0, 0), (10, .ifCond .le 14, 3, 0, 0), (13, .iload_n 2, 1, 0, 0), (14, .bipush 27, 2, 0, 0), (16, .idiv, 1, 0, 0), (17, .istore_n 2, 1, 0, 0), (18, .iinc 1 1, 3, 0, 0), (21, .goto (-17), 3, 0, 0), (24, .iload_n 1, 1, 0, 0), (25, .ireturn, 1, 0, 0)]
def ax_t80 : List ax_I := [(0, .iconst 0, 1, 0, 0), (1, .istore_n 1, 1, 0, 0), (2, .iload_n 1, 1, 0, 0), (3, .bipush 30, 2, 0, 0), (5, .if_icmp .ge 16, 3, 0, 0), (8, .iconst 1, 1, 0, 0), (9, .iload_n 1, 1, 0, 0), (10, .ishl, 1, 0, 0), (11, .iload_n 0, 1, 0, 0), (12, .if_icmp .ge 9, 3, 0, 0), (15, .iinc 1 1, 3, 0, 0), (18, .goto (-16), 3, 0, 0), (21, .iload_n 1, 1, 0, 0), (22, .ireturn, 1, 0, 0)]
def ax_t81 : List ax_I := [(0, .iload_n 0, 1, 0, 0), (1, .iconst 1, 1, 0, 0), (2, .if_icmp .eq 8, 3, 0, 0), (5, .iload_n 0, 1, 0, 0), (6, .iconst 2, 1, 0, 0), (7, .if_icmp .ne 7, 3, 0, 0), (10, .iconst 1, 1, 0, 0), (11, .goto 4, 3, 0, 0), (14, .iconst 0, 1, 0, 0), (15, .ireturn, 1, 0, 0)]
def ax_t82 : List ax_I := [(0, .iload_n 1, 1, 0, 0), (1, .bipush 8, 2, 0, 0), (3, .imul, 1, 0, 0), (4, .iload_n 0, 1, 0, 0), (5, .iadd, 1, 0, 0), (6, .ireturn, 1, 0, 0)]
def ax_t83 : List ax_I := [(0, .iload_n 0, 1, 0, 0), (1, .bipush 8, 2, 0, 0), (3, .irem, 1, 0, 0), (4, .ireturn, 1, 0, 0)]
def ax_t84 : List ax_I := [(0, .iload_n 0, 1, 0, 0), (1, .bipush 8, 2, 0, 0), (3, .idiv, 1, 0, 0), (4, .ireturn, 1, 0, 0)]
def ax_t85 : List ax_I := [(0, .aload_n 0, 1, 0, 0), (1, .getfield 80, 3, 8, 0), (4, .ireturn, 1, 0, 0)]
def ax_t86 : List ax_I := [(0, .aload_n 0, 1, 0, 0), (1, .getfield 7, 3, 8, 1), (4, .iload_n 1, 1, 0, 0), (5, .iconst 1, 1, 0, 0), (6, .iastore, 1, 0, 0), (7, .aload_n 0, 1, 0, 0), (8, .getfield 13, 3, 8, 2), (11, .bipush 6, 2, 0, 0), (13, .iload_n 1, 1, 0, 0), (14, .imul, 1, 0, 0), (15, .iconst 0, 1, 0, 0), (16, .iastore, 1, 0, 0), (17, .iconst 0, 1, 0, 0), (18, .istore_n 2, 1, 0, 0), (19, .iload_n 2, 1, 0, 0), (20, .bipush 6, 2, 0, 0), (22, .if_icmp .ge 21, 3, 0, 0), (25, .aload_n 0, 1, 0, 0), (26, .getfield 16, 3, 8, 3), (29, .bipush 6, 2, 0, 0), (31, .iload_n 1, 1, 0, 0), (32, .imul, 1, 0, 0), (33, .iload_n 2, 1, 0, 0), (34, .iadd, 1, 0, 0), (35, .iconst 0, 1, 0, 0), (36, .iastore, 1, 0, 0), (37, .iinc 2 1, 3, 0, 0), (40, .goto (-21), 3, 0, 0), (43, .aload_n 0, 1, 0, 0), (44, .getfield 22, 3, 8, 5), (47, .iload_n 1, 1, 0, 0), (48, .iconst 0, 1, 0, 0), (49, .iastore, 1, 0, 0), (50, .aload_n 0, 1, 0, 0), (51, .getfield 37, 3, 8, 10), (54, .iload_n 1, 1, 0, 0), (55, .iconst 0, 1, 0, 0), (56, .iastore, 1, 0, 0), (57, .aload_n 0, 1, 0, 0), (58, .getfield 49, 3, 8, 14), (61, .iload_n 1, 1, 0, 0), (62, .iconst 0, 1, 0, 0), (63, .iastore, 1, 0, 0), (64, .aload_n 0, 1, 0, 0), (65, .getfield 59, 3, 8, 17), (68, .iload_n 1, 1, 0, 0), (69, .iconst 0, 1, 0, 0), (70, .bastore, 1, 0, 0), (71, .return_, 1, 0, 0)]
def ax_t87 : List ax_I := [(0, .iconst 0, 1, 0, 0), (1, .istore_n 1, 1, 0, 0), (2, .iload_n 0, 1, 0, 0), (3, .istore_n 2, 1, 0, 0), (4, .iload_n 2, 1, 0, 0), (5, .ifCond .le 14, 3, 0, 0), (8, .iinc 1 1, 3, 0, 0), (11, .iload_n 2, 1, 0, 0), (12, .bipush 27, 2, 0, 0), (14, .idiv, 1, 0, 0), (15, .istore_n 2, 1, 0, 0), (16, .goto (-12), 3, 0, 0), (19, .iload_n 1, 1, 0, 0), (20, .ireturn, 1, 0, 0)]
def ax_t88 : List ax_I := [(0, .iload_n 0, 1, 0, 0), (1, .ifCond .lt 11, 3, 0, 0), (4, .iload_n 0, 1, 0, 0), (5, .invokestatic 84, 3, 87, 1), (8, .iconst 5, 1, 0, 0), (9, .if_icmp .le 5, 3, 0, 0), (12, .iconst 0, 1, 0, 0), (13, .ireturn, 1, 0, 0), (14, .iload_n 0, 1, 0, 0), (15, .istore_n 1, 1, 0, 0), (16, .iload_n 1, 1, 0, 0), (17, .ifCond .le 20, 3, 0, 0), (20, .iload_n 1, 1, 0, 0), (21, .bipush 27, 2, 0, 0), (23, .irem, 1, 0, 0), (24, .ifCond .ne 5, 3, 0, 0), (27, .iconst 0, 1, 0, 0), (28, .ireturn, 1, 0, 0), (29, .iload_n 1, 1, 0, 0), (30, .bipush 27, 2, 0, 0), (32, .idiv, 1, 0, 0), (33, .istore_n 1, 1, 0, 0), (34, .goto (-18), 3, 0, 0), (37, .iconst 1, 1, 0, 0), (38, .ireturn, 1, 0, 0)]
def ax_t89 : List ax_I := [(0, .iconst 0, 1, 0, 0), (1, .istore_n 3, 1, 0, 0), (2, .iload_n 3, 1, 0, 0), (3, .aload_n 0, 1, 0, 0), (4, .getfield 7, 3, 8, 1), (7, .iload_n 1, 1, 0, 0), (8, .iaload, 1, 0, 0), (9, .if_icmp .ge 24, 3, 0, 0), (12, .aload_n 0, 1, 0, 0), (13, .getfield 13, 3, 8, 2), (16, .bipush 6, 2, 0, 0), (18, .iload_n 1, 1, 0, 0), (19, .imul, 1, 0, 0), (20, .iload_n 3, 1, 0, 0), (21, .iadd, 1, 0, 0), (22, .iaload, 1, 0, 0), (23, .iload_n 2, 1, 0, 0), (24, .if_icmp .eq 9, 3, 0, 0), (27, .iinc 3 1, 3, 0, 0), (30, .goto (-28), 3, 0, 0), (33, .iload_n 3, 1, 0, 0), (34, .aload_n 0, 1, 0, 0), (35, .getfield 7, 3, 8, 1), (38, .iload_n 1, 1, 0, 0), (39, .iaload, 1, 0, 0), (40, .if_icmp .ge 7, 3, 0, 0), (43, .iload_n 3, 1, 0, 0), (44, .goto 4, 3, 0, 0), (47, .iconst (-1), 1, 0, 0), (48, .ireturn, 1, 0, 0)]
def ax_t90 : List ax_I := [(0, .bipush 6, 2, 0, 0), (2, .iload_n 1, 1, 0, 0), (3, .imul, 1, 0, 0), (4, .iload_n 2, 1, 0, 0), (5, .iadd, 1, 0, 0), (6, .istore 4, 2, 0, 0), (8, .iconst 0, 1, 0, 0), (9, .istore 5, 2, 0, 0), (11, .iload 5, 2, 0, 0), (13, .aload_n 0, 1, 0, 0), (14, .getfield 16, 3, 8, 3), (17, .iload 4, 2, 0, 0), (19, .iaload, 1, 0, 0), (20, .if_icmp .ge 26, 3, 0, 0), (23, .aload_n 0, 1, 0, 0), (24, .getfield 19, 3, 8, 4), (27, .bipush 10, 2, 0, 0), (29, .iload 4, 2, 0, 0), (31, .imul, 1, 0, 0), (32, .iload 5, 2, 0, 0), (34, .iadd, 1, 0, 0), (35, .iaload, 1, 0, 0), (36, .iload_n 3, 1, 0, 0), (37, .if_icmp .eq 9, 3, 0, 0), (40, .iinc 5 1, 3, 0, 0), (43, .goto (-32), 3, 0, 0), (46, .iload 5, 2, 0, 0), (48, .aload_n 0, 1, 0, 0), (49, .getfield 16, 3, 8, 3), (52, .iload 4, 2, 0, 0), (54, .iaload, 1, 0, 0), (55, .if_icmp .ge 8, 3, 0, 0), (58, .iload 5, 2, 0, 0), (60, .goto 4, 3, 0, 0), (63, .iconst (-1), 1, 0, 0), (64, .ireturn, 1, 0, 0)]
def ax_t91 : List ax_I := [(0, .iconst 0, 1, 0, 0), (1, .istore 4, 2, 0, 0), (3, .iload 4, 2, 0, 0), (5, .aload_n 0, 1, 0, 0), (6, .getfield 22, 3, 8, 5), (9, .iload_n 1, 1, 0, 0), (10, .iaload, 1, 0, 0), (11, .if_icmp .ge 44, 3, 0, 0), (14, .aload_n 0, 1, 0, 0), (15, .getfield 25, 3, 8, 6), (18, .bipush 20, 2, 0, 0), (20, .iload_n 1, 1, 0, 0), (21, .imul, 1, 0, 0), (22, .iload 4, 2, 0, 0), (24, .iadd, 1, 0, 0), (25, .iaload, 1, 0, 0), (26, .iload_n 2, 1, 0, 0), (27, .if_icmp .ne 22, 3, 0, 0), (30, .aload_n 0, 1, 0, 0), (31, .getfield 28, 3, 8, 7), (34, .bipush 20, 2, 0, 0), (36, .iload_n 1, 1, 0, 0), (37, .imul, 1, 0, 0), (38, .iload 4, 2, 0, 0), (40, .iadd, 1, 0, 0), (41, .iaload, 1, 0, 0), (42, .iload_n 3, 1, 0, 0), (43, .if_icmp .ne 6, 3, 0, 0), (46, .iload 4, 2, 0, 0), (48, .ireturn, 1, 0, 0), (49, .iinc 4 1, 3, 0, 0), (52, .goto (-49), 3, 0, 0), (55, .iconst (-1), 1, 0, 0), (56, .ireturn, 1, 0, 0)]
def ax_t92 : List ax_I := [(0, .aload_n 0, 1, 0, 0), (1, .getfield 22, 3, 8, 5), (4, .iload_n 1, 1, 0, 0), (5, .iaload, 1, 0, 0), (6, .istore 4, 2, 0, 0), (8, .aload_n 0, 1, 0, 0), (9, .getfield 22, 3, 8, 5), (12, .iload_n 1, 1, 0, 0), (13, .dup2, 1, 0, 0), (14, .iaload, 1, 0, 0), (15, .iconst 1, 1, 0, 0), (16, .iadd, 1, 0, 0), (17, .iastore, 1, 0, 0), (18, .aload_n 0, 1, 0, 0), (19, .getfield 25, 3, 8, 6), (22, .bipush 20, 2, 0, 0), (24, .iload_n 1, 1, 0, 0), (25, .imul, 1, 0, 0), (26, .iload 4, 2, 0, 0), (28, .iadd, 1, 0, 0), (29, .iload_n 2, 1, 0, 0), (30, .iastore, 1, 0, 0), (31, .aload_n 0, 1, 0, 0), (32, .getfield 28, 3, 8, 7), (35, .bipush 20, 2, 0, 0), (37, .iload_n 1, 1, 0, 0), (38, .imul, 1, 0, 0), (39, .iload 4, 2, 0, 0), (41, .iadd, 1, 0, 0), (42, .iload_n 3, 1, 0, 0), (43, .iastore, 1, 0, 0), (44, .aload_n 0, 1, 0, 0), (45, .getfield 31, 3, 8, 8), (48, .bipush 20, 2, 0, 0), (50, .iload_n 1, 1, 0, 0), (51, .imul, 1, 0, 0), (52, .iload 4, 2, 0, 0), (54, .iadd, 1, 0, 0), (55, .iconst 0, 1, 0, 0), (56, .iastore, 1, 0, 0), (57, .aload_n 0, 1, 0, 0), (58, .getfield 43, 3, 8, 12), (61, .bipush 40, 2, 0, 0), (63, .iload_n 1, 1, 0, 0), (64, .imul, 1, 0, 0), (65, .iconst 2, 1, 0, 0), (66, .iload 4, 2, 0, 0), (68, .imul, 1, 0, 0), (69, .iadd, 1, 0, 0), (70, .iconst 0, 1, 0, 0), (71, .iastore, 1, 0, 0), (72, .aload_n 0, 1, 0, 0), (73, .getfield 43, 3, 8, 12), (76, .bipush 40, 2, 0, 0), (78, .iload_n 1, 1, 0, 0), (79, .imul, 1, 0, 0), (80, .iconst 2, 1, 0, 0), (81, .iload 4, 2, 0, 0), (83, .imul, 1, 0, 0), (84, .iadd, 1, 0, 0), (85, .iconst 1, 1, 0, 0), (86, .iadd, 1, 0, 0), (87, .iconst 0, 1, 0, 0), (88, .iastore, 1, 0, 0), (89, .iload 4, 2, 0, 0), (91, .ireturn, 1, 0, 0)]
def ax_t93 : List ax_I := [(0, .aload_n 0, 1, 0, 0), (1, .getfield 16, 3, 8, 3), (4, .bipush 6, 2, 0, 0), (6, .iload_n 1, 1, 0, 0), (7, .imul, 1, 0, 0), (8, .aload_n 0, 1, 0, 0), (9, .getfield 7, 3, 8, 1), (12, .iload_n 1, 1, 0, 0), (13, .iaload, 1, 0, 0), (14, .iadd, 1, 0, 0), (15, .iconst 0, 1, 0, 0), (16, .iastore, 1, 0, 0), (17, .aload_n 0, 1, 0, 0), (18, .getfield 13, 3, 8, 2), (21, .bipush 6, 2, 0, 0), (23, .iload_n 1, 1, 0, 0), (24, .imul, 1, 0, 0), (25, .aload_n 0, 1, 0, 0), (26, .getfield 7, 3, 8, 1), (29, .iload_n 1, 1, 0, 0), (30, .iaload, 1, 0, 0), (31, .iadd, 1, 0, 0), (32, .iload_n 2, 1, 0, 0), (33, .iastore, 1, 0, 0), (34, .aload_n 0, 1, 0, 0), (35, .getfield 7, 3, 8, 1), (38, .iload_n 1, 1, 0, 0), (39, .dup2, 1, 0, 0), (40, .iaload, 1, 0, 0), (41, .iconst 1, 1, 0, 0), (42, .iadd, 1, 0, 0), (43, .iastore, 1, 0, 0), (44, .return_, 1, 0, 0)]
def ax_t94 : List ax_I := [(0, .bipush 6, 2, 0, 0), (2, .iload_n 1, 1, 0, 0), (3, .imul, 1, 0, 0), (4, .iload_n 2, 1, 0, 0), (5, .iadd, 1, 0, 0), (6, .istore 4, 2, 0, 0), (8, .aload_n 0, 1, 0, 0), (9, .getfield 19, 3, 8, 4), (12, .bipush 10, 2, 0, 0), (14, .iload 4, 2, 0, 0), (16, .imul, 1, 0, 0), (17, .aload_n 0, 1, 0, 0), (18, .getfield 16, 3, 8, 3), (21, .iload 4, 2, 0, 0), (23, .iaload, 1, 0, 0), (24, .iadd, 1, 0, 0), (25, .iload_n 3, 1, 0, 0), (26, .iastore, 1, 0, 0), (27, .aload_n 0, 1, 0, 0), (28, .getfield 16, 3, 8, 3), (31, .iload 4, 2, 0, 0), (33, .dup2, 1, 0, 0), (34, .iaload, 1, 0, 0), (35, .iconst 1, 1, 0, 0), (36, .iadd, 1, 0, 0), (37, .iastore, 1, 0, 0), (38, .return_, 1, 0, 0)]
def ax_t95 : List ax_I := [(0, .bipush 20, 2, 0, 0), (2, .iload_n 1, 1, 0, 0), (3, .imul, 1, 0, 0), (4, .iload_n 2, 1, 0, 0), (5, .iadd, 1, 0, 0), (6, .istore 4, 2, 0, 0), (8, .iload_n 3, 1, 0, 0), (9, .ifCond .le 43, 3, 0, 0), (12, .aload_n 0, 1, 0, 0), (13, .getfield 31, 3, 8, 8), (16, .iload 4, 2, 0, 0), (18, .iaload, 1, 0, 0), (19, .iconst 5, 1, 0, 0), (20, .if_icmp .ge 32, 3, 0, 0), (23, .aload_n 0, 1, 0, 0), (24, .getfield 34, 3, 8, 9), (27, .iconst 5, 1, 0, 0), (28, .iload 4, 2, 0, 0), (30, .imul, 1, 0, 0), (31, .aload_n 0, 1, 0, 0), (32, .getfield 31, 3, 8, 8), (35, .iload 4, 2, 0, 0), (37, .iaload, 1, 0, 0), (38, .iadd, 1, 0, 0), (39, .iload_n 3, 1, 0, 0), (40, .iastore, 1, 0, 0), (41, .aload_n 0, 1, 0, 0), (42, .getfield 31, 3, 8, 8), (45, .iload 4, 2, 0, 0), (47, .dup2, 1, 0, 0), (48, .iaload, 1, 0, 0), (49, .iconst 1, 1, 0, 0), (50, .iadd, 1, 0, 0), (51, .iastore, 1, 0, 0), (52, .iload_n 3, 1, 0, 0), (53, .ifCond .le 41, 3, 0, 0), (56, .aload_n 0, 1, 0, 0), (57, .getfield 37, 3, 8, 10), (60, .iload_n 1, 1, 0, 0), (61, .iaload, 1, 0, 0), (62, .bipush 20, 2, 0, 0), (64, .if_icmp .ge 30, 3, 0, 0), (67, .aload_n 0, 1, 0, 0), (68, .getfield 40, 3, 8, 11), (71, .bipush 20, 2, 0, 0), (73, .iload_n 1, 1, 0, 0), (74, .imul, 1, 0, 0), (75, .aload_n 0, 1, 0, 0), (76, .getfield 37, 3, 8, 10), (79, .iload_n 1, 1, 0, 0), (80, .iaload, 1, 0, 0), (81, .iadd, 1, 0, 0), (82, .iload_n 3, 1, 0, 0), (83, .iastore, 1, 0, 0), (84, .aload_n 0, 1, 0, 0), (85, .getfield 37, 3, 8, 10), (88, .iload_n 1, 1, 0, 0), (89, .dup2, 1, 0, 0), (90, .iaload, 1, 0, 0), (91, .iconst 1, 1, 0, 0), (92, .iadd, 1, 0, 0), (93, .iastore, 1, 0, 0), (94, .return_, 1, 0, 0)]
def ax_t96 : List ax_I := [(0, .bipush 8, 2, 0, 0), (2, .iload_n 1, 1, 0, 0), (3, .imul, 1, 0, 0), (4, .aload_n 0, 1, 0, 0), (5, .getfield 49, 3, 8, 14), (8, .iload_n 1, 1, 0, 0), (9, .iaload, 1, 0, 0), (10, .iadd, 1, 0, 0), (11, .iconst 1, 1, 0, 0), (12, .isub, 1, 0, 0), (13, .istore_n 2, 1, 0, 0), (14, .bipush 40, 2, 0, 0), (16, .iload_n 1, 1, 0, 0), (17, .imul, 1, 0, 0), (18, .iconst 2, 1, 0, 0), (19, .aload_n 0, 1, 0, 0), (20, .getfield 52, 3, 8, 15), (23, .iload_n 2, 1, 0, 0), (24, .iaload, 1, 0, 0), (25, .imul, 1, 0, 0), (26, .iadd, 1, 0, 0), (27, .aload_n 0, 1, 0, 0), (28, .getfield 55, 3, 8, 16), (31, .iload_n 2, 1, 0, 0), (32, .baload, 1, 0, 0), (33, .ifCond .eq 7, 3, 0, 0), (36, .iconst 1, 1, 0, 0), (37, .goto 4, 3, 0, 0), (40, .iconst 0, 1, 0, 0), (41, .iadd, 1, 0, 0), (42, .ireturn, 1, 0, 0)]
def ax_t97 : List ax_I := [(0, .iconst 2, 1, 0, 0), (1, .iconst 2, 1, 0, 0), (2, .iload_n 0, 1, 0, 0), (3, .imul, 1, 0, 0), (4, .iadd, 1, 0, 0), (5, .ireturn, 1, 0, 0)]
def ax_t98 : List ax_I := [(0, .iconst 3, 1, 0, 0), (1, .iconst 2, 1, 0, 0), (2, .iload_n 0, 1, 0, 0), (3, .imul, 1, 0, 0), (4, .iadd, 1, 0, 0), (5, .ireturn, 1, 0, 0)]
def ax_t99 : List ax_I := [(0, .iconst 0, 1, 0, 0), (1, .istore_n 3, 1, 0, 0), (2, .iload_n 3, 1, 0, 0), (3, .aload_n 0, 1, 0, 0), (4, .getfield 43, 3, 8, 12), (7, .iload_n 1, 1, 0, 0), (8, .iaload, 1, 0, 0), (9, .if_icmp .ge 24, 3, 0, 0), (12, .aload_n 0, 1, 0, 0), (13, .getfield 46, 3, 8, 13), (16, .bipush 12, 2, 0, 0), (18, .iload_n 1, 1, 0, 0), (19, .imul, 1, 0, 0), (20, .iload_n 3, 1, 0, 0), (21, .iadd, 1, 0, 0), (22, .iaload, 1, 0, 0), (23, .iload_n 2, 1, 0, 0), (24, .if_icmp .eq 9, 3, 0, 0), (27, .iinc 3 1, 3, 0, 0), (30, .goto (-28), 3, 0, 0), (33, .iload_n 3, 1, 0, 0), (34, .aload_n 0, 1, 0, 0), (35, .getfield 43, 3, 8, 12), (38, .iload_n 1, 1, 0, 0), (39, .iaload, 1, 0, 0), (40, .if_icmp .ge 7, 3, 0, 0), (43, .iload_n 3, 1, 0, 0), (44, .goto 4, 3, 0, 0), (47, .iconst (-1), 1, 0, 0), (48, .ireturn, 1, 0, 0)]
def ax_t100 : List ax_I := [(0, .aload_n 0, 1, 0, 0), (1, .iload_n 1, 1, 0, 0), (2, .iload_n 2, 1, 0, 0), (3, .invokevirtual 88, 3, 99, 0), (6, .ifCond .ge 14, 3, 0, 0), (9, .aload_n 0, 1, 0, 0), (10, .getfield 43, 3, 8, 12), (13, .iload_n 1, 1, 0, 0), (14, .iaload, 1, 0, 0), (15, .bipush 12, 2, 0, 0), (17, .if_icmp .ne 4, 3, 0, 0), (20, .return_, 1, 0, 0), (21, .aload_n 0, 1, 0, 0), (22, .getfield 43, 3, 8, 12), (25, .iload_n 1, 1, 0, 0), (26, .iaload, 1, 0, 0), (27, .istore_n 3, 1, 0, 0), (28, .iload_n 3, 1, 0, 0), (29, .ifCond .le 33, 3, 0, 0), (32, .aload_n 0, 1, 0, 0), (33, .getfield 46, 3, 8, 13), (36, .bipush 12, 2, 0, 0), (38, .iload_n 1, 1, 0, 0), (39, .imul, 1, 0, 0), (40, .iload_n 3, 1, 0, 0), (41, .iadd, 1, 0, 0), (42, .aload_n 0, 1, 0, 0), (43, .getfield 46, 3, 8, 13), (46, .bipush 12, 2, 0, 0), (48, .iload_n 1, 1, 0, 0), (49, .imul, 1, 0, 0), (50, .iload_n 3, 1, 0, 0), (51, .iadd, 1, 0, 0), (52, .iconst 1, 1, 0, 0), (53, .isub, 1, 0, 0), (54, .iaload, 1, 0, 0), (55, .iastore, 1, 0, 0), (56, .iinc 3 (-1), 3, 0, 0), (59, .goto (-31), 3, 0, 0), (62, .aload_n 0, 1, 0, 0), (63, .getfield 46, 3, 8, 13), (66, .bipush 12, 2, 0, 0), (68, .iload_n 1, 1, 0, 0), (69, .imul, 1, 0, 0), (70, .iload_n 2, 1, 0, 0), (71, .iastore, 1, 0, 0), (72, .aload_n 0, 1, 0, 0), (73, .getfield 43, 3, 8, 12), (76, .iload_n 1, 1, 0, 0), (77, .dup2, 1, 0, 0), (78, .iaload, 1, 0, 0), (79, .iconst 1, 1, 0, 0), (80, .iadd, 1, 0, 0), (81, .iastore, 1, 0, 0), (82, .return_, 1, 0, 0)]
def ax_t101 : List ax_I := [(0, .aload_n 0, 1, 0, 0), (1, .getfield 49, 3, 8, 14), (4, .iload_n 1, 1, 0, 0), (5, .iaload, 1, 0, 0), (6, .ifCond .le 22, 3, 0, 0), (9, .aload_n 0, 1, 0, 0), (10, .getfield 55, 3, 8, 16), (13, .bipush 8, 2, 0, 0), (15, .iload_n 1, 1, 0, 0), (16, .imul, 1, 0, 0), (17, .aload_n 0, 1, 0, 0), (18, .getfield 49, 3, 8, 14), (21, .iload_n 1, 1, 0, 0), (22, .iaload, 1, 0, 0), (23, .iadd, 1, 0, 0), (24, .iconst 1, 1, 0, 0), (25, .isub, 1, 0, 0), (26, .iconst 1, 1, 0, 0), (27, .bastore, 1, 0, 0), (28, .aload_n 0, 1, 0, 0), (29, .getfield 52, 3, 8, 15), (32, .bipush 8, 2, 0, 0), (34, .iload_n 1, 1, 0, 0), (35, .imul, 1, 0, 0), (36, .aload_n 0, 1, 0, 0), (37, .getfield 49, 3, 8, 14), (40, .iload_n 1, 1, 0, 0), (41, .iaload, 1, 0, 0), (42, .iadd, 1, 0, 0), (43, .iload_n 2, 1, 0, 0), (44, .iastore, 1, 0, 0), (45, .aload_n 0, 1, 0, 0), (46, .getfield 55, 3, 8, 16), (49, .bipush 8, 2, 0, 0), (51, .iload_n 1, 1, 0, 0), (52, .imul, 1, 0, 0), (53, .aload_n 0, 1, 0, 0), (54, .getfield 49, 3, 8, 14), (57, .iload_n 1, 1, 0, 0), (58, .iaload, 1, 0, 0), (59, .iadd, 1, 0, 0), (60, .iconst 0, 1, 0, 0), (61, .bastore, 1, 0, 0), (62, .aload_n 0, 1, 0, 0), (63, .getfield 49, 3, 8, 14), (66, .iload_n 1, 1, 0, 0), (67, .dup2, 1, 0, 0), (68, .iaload, 1, 0, 0), (69, .iconst 1, 1, 0, 0), (70, .iadd, 1, 0, 0), (71, .iastore, 1, 0, 0), (72, .return_, 1, 0, 0)]
def ax_t102 : List ax_I := [(0, .aload_n 0, 1, 0, 0), (1, .getfield 49, 3, 8, 14), (4, .iload_n 1, 1, 0, 0), (5, .dup2, 1, 0, 0), (6, .iaload, 1, 0, 0), (7, .iconst 1, 1, 0, 0), (8, .isub, 1, 0, 0), (9, .iastore, 1, 0, 0), (10, .aload_n 0, 1, 0, 0), (11, .getfield 59, 3, 8, 17), (14, .iload_n 1, 1, 0, 0), (15, .aload_n 0, 1, 0, 0), (16, .getfield 49, 3, 8, 14), (19, .iload_n 1, 1, 0, 0), (20, .iaload, 1, 0, 0), (21, .ifCond .ne 7, 3, 0, 0), (24, .iconst 1, 1, 0, 0), (25, .goto 4, 3, 0, 0), (28, .iconst 0, 1, 0, 0), (29, .bastore, 1, 0, 0), (30, .return_, 1, 0, 0)]
def ax_t103 : List ax_I := [(0, .iconst 0, 1, 0, 0), (1, .istore_n 3, 1, 0, 0), (2, .iconst 1, 1, 0, 0), (3, .iload_n 3, 1, 0, 0), (4, .ishl, 1, 0, 0), (5, .iload_n 2, 1, 0, 0), (6, .if_icmp .ge 9, 3, 0, 0), (9, .iinc 3 1, 3, 0, 0), (12, .goto (-10), 3, 0, 0), (15, .iload_n 3, 1, 0, 0), (16, .iconst 1, 1, 0, 0), (17, .isub, 1, 0, 0), (18, .istore 4, 2, 0, 0), (20, .iload 4, 2, 0, 0), (22, .ifCond .lt 43, 3, 0, 0), (25, .aload_n 0, 1, 0, 0), (26, .getfield 62, 3, 8, 18), (29, .aload_n 0, 1, 0, 0), (30, .getfield 92, 3, 8, 19), (33, .iload_n 1, 1, 0, 0), (34, .iload 4, 2, 0, 0), (36, .ishr, 1, 0, 0), (37, .iconst 1, 1, 0, 0), (38, .iand, 1, 0, 0), (39, .iconst 1, 1, 0, 0), (40, .if_icmp .ne 7, 3, 0, 0), (43, .iconst 1, 1, 0, 0), (44, .goto 4, 3, 0, 0), (47, .iconst 0, 1, 0, 0), (48, .bastore, 1, 0, 0), (49, .aload_n 0, 1, 0, 0), (50, .dup, 1, 0, 0), (51, .getfield 92, 3, 8, 19), (54, .iconst 1, 1, 0, 0), (55, .iadd, 1, 0, 0), (56, .putfield 92, 3, 8, 19), (59, .iinc 4 (-1), 3, 0, 0), (62, .goto (-42), 3, 0, 0), (65, .return_, 1, 0, 0)]
def ax_t104 : List ax_I := [(0, .iload_n 1, 1, 0, 0), (1, .istore_n 2, 1, 0, 0), (2, .iconst 1, 1, 0, 0), (3, .istore_n 3, 1, 0, 0), (4, .iload_n 3, 1, 0, 0), (5, .ifCond .eq 45, 3, 0, 0), (8, .iload_n 2, 1, 0, 0), (9, .bipush 7, 2, 0, 0), (11, .iand, 1, 0, 0), (12, .istore 4, 2, 0, 0), (14, .iload_n 2, 1, 0, 0), (15, .iconst 3, 1, 0, 0), (16, .ishr, 1, 0, 0), (17, .istore_n 2, 1, 0, 0), (18, .iload_n 2, 1, 0, 0), (19, .ifCond .le 7, 3, 0, 0), (22, .iconst 1, 1, 0, 0), (23, .goto 4, 3, 0, 0), (26, .iconst 0, 1, 0, 0), (27, .istore_n 3, 1, 0, 0), (28, .aload_n 0, 1, 0, 0), (29, .iload_n 3, 1, 0, 0), (30, .ifCond .eq 8, 3, 0, 0), (33, .bipush 8, 2, 0, 0), (35, .goto 4, 3, 0, 0), (38, .iconst 0, 1, 0, 0), (39, .iload 4, 2, 0, 0), (41, .iadd, 1, 0, 0), (42, .bipush 16, 2, 0, 0), (44, .invokevirtual 95, 3, 103, 0), (47, .goto (-43), 3, 0, 0), (50, .return_, 1, 0, 0)]
def ax_t105 : List ax_I := [(0, .iload_n 1, 1, 0, 0), (1, .istore_n 2, 1, 0, 0), (2, .iload_n 2, 1, 0, 0), (3, .ifCond .le 19, 3, 0, 0), (6, .aload_n 0, 1, 0, 0), (7, .iload_n 2, 1, 0, 0), (8, .bipush 27, 2, 0, 0), (10, .irem, 1, 0, 0), (11, .invokevirtual 99, 3, 104, 0), (14, .iload_n 2, 1, 0, 0), (15, .bipush 27, 2, 0, 0), (17, .idiv, 1, 0, 0), (18, .istore_n 2, 1, 0, 0), (19, .goto (-17), 3, 0, 0), (22, .return_, 1, 0, 0)]
def ax_t106 : List ax_I := [(0, .aload_n 0, 1, 0, 0), (1, .iconst 0, 1, 0, 0), (2, .iload_n 1, 1, 0, 0), (3, .invokevirtual 103, 3, 89, 0), (6, .istore_n 3, 1, 0, 0), (7, .aload_n 0, 1, 0, 0), (8, .iload_n 3, 1, 0, 0), (9, .iconst 1, 1, 0, 0), (10, .iadd, 1, 0, 0), (11, .aload_n 0, 1, 0, 0), (12, .getfield 7, 3, 8, 1), (15, .iconst 0, 1, 0, 0), (16, .iaload, 1, 0, 0), (17, .iconst 1, 1, 0, 0), (18, .iadd, 1, 0, 0), (19, .invokevirtual 95, 3, 103, 0), (22, .iload_n 3, 1, 0, 0), (23, .ifCond .ge 29, 3, 0, 0), (26, .aload_n 0, 1, 0, 0), (27, .iload_n 1, 1, 0, 0), (28, .invokestatic 84, 3, 87, 1), (31, .invokevirtual 99, 3, 104, 0), (34, .aload_n 0, 1, 0, 0), (35, .iload_n 1, 1, 0, 0), (36, .invokevirtual 106, 3, 105, 0), (39, .aload_n 0, 1, 0, 0), (40, .getfield 7, 3, 8, 1), (43, .iconst 0, 1, 0, 0), (44, .iaload, 1, 0, 0), (45, .istore_n 3, 1, 0, 0), (46, .aload_n 0, 1, 0, 0), (47, .iconst 0, 1, 0, 0), (48, .iload_n 1, 1, 0, 0), (49, .invokevirtual 109, 3, 93, 0), (52, .aload_n 0, 1, 0, 0), (53, .iconst 0, 1, 0, 0), (54, .iload_n 3, 1, 0, 0), (55, .iload_n 2, 1, 0, 0), (56, .invokevirtual 112, 3, 90, 0), (59, .istore 4, 2, 0, 0), (61, .iload 4, 2, 0, 0), (63, .ifCond .ge 26, 3, 0, 0), (66, .aload_n 0, 1, 0, 0), (67, .iload_n 2, 1, 0, 0), (68, .invokestatic 84, 3, 87, 1), (71, .invokevirtual 99, 3, 104, 0), (74, .aload_n 0, 1, 0, 0), (75, .iload_n 2, 1, 0, 0), (76, .invokevirtual 106, 3, 105, 0), (79, .aload_n 0, 1, 0, 0), (80, .iconst 0, 1, 0, 0), (81, .iload_n 3, 1, 0, 0), (82, .iload_n 2, 1, 0, 0), (83, .invokevirtual 116, 3, 94, 0), (86, .goto 20, 3, 0, 0), (89, .aload_n 0, 1, 0, 0), (90, .iconst 0, 1, 0, 0), (91, .invokevirtual 99, 3, 104, 0), (94, .aload_n 0, 1, 0, 0), (95, .iload 4, 2, 0, 0), (97, .aload_n 0, 1, 0, 0), (98, .getfield 16, 3, 8, 3), (101, .iload_n 3, 1, 0, 0), (102, .iaload, 1, 0, 0), (103, .invokevirtual 95, 3, 103, 0), (106, .aload_n 0, 1, 0, 0), (107, .iconst 0, 1, 0, 0), (108, .iload_n 1, 1, 0, 0), (109, .iload_n 2, 1, 0, 0), (110, .invokevirtual 120, 3, 91, 0), (113, .istore 5, 2, 0, 0), (115, .iload 5, 2, 0, 0), (117, .ifCond .ge 13, 3, 0, 0), (120, .aload_n 0, 1, 0, 0), (121, .iconst 0, 1, 0, 0), (122, .iload_n 1, 1, 0, 0), (123, .iload_n 2, 1, 0, 0), (124, .invokevirtual 123, 3, 92, 0), (127, .goto 5, 3, 0, 0), (130, .iload 5, 2, 0, 0), (132, .ireturn, 1, 0, 0)]
def ax_t107 : List ax_I := [(0, .iconst 0, 1, 0, 0), (1, .istore_n 3, 1, 0, 0), (2, .iload_n 3, 1, 0, 0), (3, .aload_n 0, 1, 0, 0), (4, .getfield 31, 3, 8, 8), (7, .iload_n 1, 1, 0, 0), (8, .iaload, 1, 0, 0), (9, .if_icmp .ge 40, 3, 0, 0), (12, .aload_n 0, 1, 0, 0), (13, .getfield 34, 3, 8, 9), (16, .iconst 5, 1, 0, 0), (17, .iload_n 1, 1, 0, 0), (18, .imul, 1, 0, 0), (19, .iload_n 3, 1, 0, 0), (20, .iadd, 1, 0, 0), (21, .iaload, 1, 0, 0), (22, .iload_n 2, 1, 0, 0), (23, .if_icmp .ne 20, 3, 0, 0), (26, .aload_n 0, 1, 0, 0), (27, .iconst 0, 1, 0, 0), (28, .invokevirtual 99, 3, 104, 0), (31, .aload_n 0, 1, 0, 0), (32, .iload_n 3, 1, 0, 0), (33, .aload_n 0, 1, 0, 0), (34, .getfield 31, 3, 8, 8), (37, .iload_n 1, 1, 0, 0), (38, .iaload, 1, 0, 0), (39, .invokevirtual 95, 3, 103, 0), (42, .return_, 1, 0, 0), (43, .iinc 3 1, 3, 0, 0), (46, .goto (-44), 3, 0, 0), (49, .iconst 0, 1, 0, 0), (50, .istore_n 3, 1, 0, 0), (51, .iload_n 3, 1, 0, 0), (52, .aload_n 0, 1, 0, 0), (53, .getfield 37, 3, 8, 10), (56, .iconst 0, 1, 0, 0), (57, .iaload, 1, 0, 0), (58, .if_icmp .ge 36, 3, 0, 0), (61, .aload_n 0, 1, 0, 0), (62, .getfield 40, 3, 8, 11), (65, .iload_n 3, 1, 0, 0), (66, .iaload, 1, 0, 0), (67, .iload_n 2, 1, 0, 0), (68, .if_icmp .ne 20, 3, 0, 0), (71, .aload_n 0, 1, 0, 0), (72, .iconst 1, 1, 0, 0), (73, .invokevirtual 99, 3, 104, 0), (76, .aload_n 0, 1, 0, 0), (77, .iload_n 3, 1, 0, 0), (78, .aload_n 0, 1, 0, 0), (79, .getfield 37, 3, 8, 10), (82, .iconst 0, 1, 0, 0), (83, .iaload, 1, 0, 0), (84, .invokevirtual 95, 3, 103, 0), (87, .return_, 1, 0, 0), (88, .iinc 3 1, 3, 0, 0), (91, .goto (-40), 3, 0, 0), (94, .aload_n 0, 1, 0, 0), (95, .iload_n 2, 1, 0, 0), (96, .invokestatic 84, 3, 87, 1), (99, .iconst 2, 1, 0, 0), (100, .iadd, 1, 0, 0), (101, .invokevirtual 99, 3, 104, 0), (104, .aload_n 0, 1, 0, 0), (105, .iload_n 2, 1, 0, 0), (106, .invokevirtual 106, 3, 105, 0), (109, .aload_n 0, 1, 0, 0), (110, .iconst 0, 1, 0, 0), (111, .iload_n 1, 1, 0, 0), (112, .iload_n 2, 1, 0, 0), (113, .invokevirtual 126, 3, 95, 0), (116, .return_, 1, 0, 0)]
def ax_t108 : List ax_I := [(0, .aload_n 0, 1, 0, 0), (1, .iconst 0, 1, 0, 0), (2, .invokevirtual 129, 3, 96, 0), (5, .istore_n 3, 1, 0, 0), (6, .aload_n 0, 1, 0, 0), (7, .getfield 43, 3, 8, 12), (10, .iload_n 3, 1, 0, 0), (11, .iaload, 1, 0, 0), (12, .istore 4, 2, 0, 0), (14, .iload_n 3, 1, 0, 0), (15, .iconst 2, 1, 0, 0), (16, .irem, 1, 0, 0), (17, .iconst 1, 1, 0, 0), (18, .if_icmp .ne 7, 3, 0, 0), (21, .iconst 1, 1, 0, 0), (22, .goto 4, 3, 0, 0), (25, .iconst 0, 1, 0, 0), (26, .istore 5, 2, 0, 0), (28, .iload_n 1, 1, 0, 0), (29, .ifCond .ge 7, 3, 0, 0), (32, .iconst (-1), 1, 0, 0), (33, .goto 9, 3, 0, 0), (36, .aload_n 0, 1, 0, 0), (37, .iload_n 3, 1, 0, 0), (38, .iload_n 1, 1, 0, 0), (39, .invokevirtual 88, 3, 99, 0), (42, .istore 6, 2, 0, 0), (44, .iload 6, 2, 0, 0), (46, .ifCond .lt 24, 3, 0, 0), (49, .aload_n 0, 1, 0, 0), (50, .iload 6, 2, 0, 0), (52, .iload 4, 2, 0, 0), (54, .iload 5, 2, 0, 0), (56, .ifCond .eq 7, 3, 0, 0), (59, .iconst 2, 1, 0, 0), (60, .goto 4, 3, 0, 0), (63, .iconst 1, 1, 0, 0), (64, .iadd, 1, 0, 0), (65, .invokevirtual 95, 3, 103, 0), (68, .iconst 1, 1, 0, 0), (69, .ireturn, 1, 0, 0), (70, .iload 5, 2, 0, 0), (72, .ifCond .ne 22, 3, 0, 0), (75, .aload_n 0, 1, 0, 0), (76, .iload 4, 2, 0, 0), (78, .iload 4, 2, 0, 0), (80, .iconst 1, 1, 0, 0), (81, .iadd, 1, 0, 0), (82, .invokevirtual 95, 3, 103, 0), (85, .aload_n 0, 1, 0, 0), (86, .iload_n 2, 1, 0, 0), (87, .iconst 4, 1, 0, 0), (88, .invokevirtual 95, 3, 103, 0), (91, .goto 40, 3, 0, 0), (94, .iload_n 2, 1, 0, 0), (95, .ifCond .ne 16, 3, 0, 0), (98, .aload_n 0, 1, 0, 0), (99, .iload 4, 2, 0, 0), (101, .iload 4, 2, 0, 0), (103, .iconst 2, 1, 0, 0), (104, .iadd, 1, 0, 0), (105, .invokevirtual 95, 3, 103, 0), (108, .goto 23, 3, 0, 0), (111, .aload_n 0, 1, 0, 0), (112, .iload 4, 2, 0, 0), (114, .iconst 1, 1, 0, 0), (115, .iadd, 1, 0, 0), (116, .iload 4, 2, 0, 0), (118, .iconst 2, 1, 0, 0), (119, .iadd, 1, 0, 0), (120, .invokevirtual 95, 3, 103, 0), (123, .aload_n 0, 1, 0, 0), (124, .iload_n 2, 1, 0, 0), (125, .iconst 2, 1, 0, 0), (126, .isub, 1, 0, 0), (127, .iconst 2, 1, 0, 0), (128, .invokevirtual 95, 3, 103, 0), (131, .iconst 0, 1, 0, 0), (132, .ireturn, 1, 0, 0)]
def ax_t109 : List ax_I := [(0, .aload_n 0, 1, 0, 0), (1, .iconst 0, 1, 0, 0), (2, .iload_n 1, 1, 0, 0), (3, .invokevirtual 103, 3, 89, 0), (6, .istore_n 3, 1, 0, 0), (7, .iload_n 3, 1, 0, 0), (8, .ifCond .ge 31, 3, 0, 0), (11, .aload_n 0, 1, 0, 0), (12, .getfield 7, 3, 8, 1), (15, .iconst 0, 1, 0, 0), (16, .iaload, 1, 0, 0), (17, .bipush 6, 2, 0, 0), (19, .if_icmp .eq 14, 3, 0, 0), (22, .aload_n 0, 1, 0, 0), (23, .getfield 22, 3, 8, 5), (26, .iconst 0, 1, 0, 0), (27, .iaload, 1, 0, 0), (28, .bipush 20, 2, 0, 0), (30, .if_icmp .ne 7, 3, 0, 0), (33, .iconst 1, 1, 0, 0), (34, .goto 4, 3, 0, 0), (37, .iconst 0, 1, 0, 0), (38, .ireturn, 1, 0, 0), (39, .aload_n 0, 1, 0, 0), (40, .iconst 0, 1, 0, 0), (41, .iload_n 3, 1, 0, 0), (42, .iload_n 2, 1, 0, 0), (43, .invokevirtual 112, 3, 90, 0), (46, .ifCond .ge 18, 3, 0, 0), (49, .aload_n 0, 1, 0, 0), (50, .getfield 16, 3, 8, 3), (53, .iload_n 3, 1, 0, 0), (54, .iaload, 1, 0, 0), (55, .bipush 10, 2, 0, 0), (57, .if_icmp .ne 7, 3, 0, 0), (60, .iconst 1, 1, 0, 0), (61, .goto 4, 3, 0, 0), (64, .iconst 0, 1, 0, 0), (65, .istore 4, 2, 0, 0), (67, .iload 4, 2, 0, 0), (69, .ifCond .ne 24, 3, 0, 0), (72, .aload_n 0, 1, 0, 0), (73, .iconst 0, 1, 0, 0), (74, .iload_n 1, 1, 0, 0), (75, .iload_n 2, 1, 0, 0), (76, .invokevirtual 120, 3, 91, 0), (79, .ifCond .ge 18, 3, 0, 0), (82, .aload_n 0, 1, 0, 0), (83, .getfield 22, 3, 8, 5), (86, .iconst 0, 1, 0, 0), (87, .iaload, 1, 0, 0), (88, .bipush 20, 2, 0, 0), (90, .if_icmp .ne 7, 3, 0, 0), (93, .iconst 1, 1, 0, 0), (94, .goto 4, 3, 0, 0), (97, .iconst 0, 1, 0, 0), (98, .ireturn, 1, 0, 0)]
def ax_t110 : List ax_I := [(0, .aload_n 0, 1, 0, 0), (1, .getfield 49, 3, 8, 14), (4, .iconst 0, 1, 0, 0), (5, .iaload, 1, 0, 0), (6, .ifCond .le 20, 3, 0, 0), (9, .aload_n 0, 1, 0, 0), (10, .aload_n 0, 1, 0, 0), (11, .iconst 0, 1, 0, 0), (12, .invokevirtual 129, 3, 96, 0), (15, .iload_n 1, 1, 0, 0), (16, .invokevirtual 88, 3, 99, 0), (19, .ifCond .lt 7, 3, 0, 0), (22, .iconst 1, 1, 0, 0), (23, .goto 4, 3, 0, 0), (26, .iconst 0, 1, 0, 0), (27, .ireturn, 1, 0, 0)]
def ax_t111 : List ax_I := [(0, .iload_n 0, 1, 0, 0), (1, .invokestatic 132, 3, 88, 1), (4, .ifCond .eq 18, 3, 0, 0), (7, .iload_n 1, 1, 0, 0), (8, .invokestatic 132, 3, 88, 1), (11, .ifCond .eq 11, 3, 0, 0), (14, .iload_n 1, 1, 0, 0), (15, .ifCond .le 7, 3, 0, 0), (18, .iconst 1, 1, 0, 0), (19, .goto 4, 3, 0, 0), (22, .iconst 0, 1, 0, 0), (23, .ireturn, 1, 0, 0)]
def ax_t112 : List ax_I := [(0, .aload_n 0, 1, 0, 0), (1, .getfield 59, 3, 8, 17), (4, .iconst 0, 1, 0, 0), (5, .baload, 1, 0, 0), (6, .ifCond .eq 5, 3, 0, 0), (9, .iconst 2, 1, 0, 0), (10, .ireturn, 1, 0, 0), (11, .aload_n 0, 1, 0, 0), (12, .iconst 0, 1, 0, 0), (13, .iload_n 1, 1, 0, 0), (14, .iload_n 2, 1, 0, 0), (15, .invokevirtual 120, 3, 91, 0), (18, .istore_n 3, 1, 0, 0), (19, .iload_n 3, 1, 0, 0), (20, .ifCond .lt 18, 3, 0, 0), (23, .aload_n 0, 1, 0, 0), (24, .iload_n 3, 1, 0, 0), (25, .invokestatic 136, 3, 97, 1), (28, .invokevirtual 139, 3, 110, 0), (31, .ifCond .eq 7, 3, 0, 0), (34, .iconst 1, 1, 0, 0), (35, .goto 4, 3, 0, 0), (38, .iconst 0, 1, 0, 0), (39, .istore 4, 2, 0, 0), (41, .aload_n 0, 1, 0, 0), (42, .getfield 49, 3, 8, 14), (45, .iconst 0, 1, 0, 0), (46, .iaload, 1, 0, 0), (47, .bipush 8, 2, 0, 0), (49, .if_icmp .eq 27, 3, 0, 0), (52, .aload_n 0, 1, 0, 0), (53, .getfield 92, 3, 8, 19), (56, .sipush 3800, 3, 0, 0), (59, .if_icmp .gt 17, 3, 0, 0), (62, .iload 4, 2, 0, 0), (64, .ifCond .ne 14, 3, 0, 0), (67, .aload_n 0, 1, 0, 0), (68, .iload_n 1, 1, 0, 0), (69, .iload_n 2, 1, 0, 0), (70, .invokevirtual 142, 3, 109, 0), (73, .ifCond .eq 5, 3, 0, 0), (76, .iconst 3, 1, 0, 0), (77, .ireturn, 1, 0, 0), (78, .aload_n 0, 1, 0, 0), (79, .getfield 49, 3, 8, 14), (82, .iconst 0, 1, 0, 0), (83, .iaload, 1, 0, 0), (84, .ifCond .le 50, 3, 0, 0), (87, .aload_n 0, 1, 0, 0), (88, .iconst 0, 1, 0, 0), (89, .invokevirtual 129, 3, 96, 0), (92, .istore 5, 2, 0, 0), (94, .aload_n 0, 1, 0, 0), (95, .iload_n 3, 1, 0, 0), (96, .ifCond .ge 7, 3, 0, 0), (99, .iconst (-1), 1, 0, 0), (100, .goto 7, 3, 0, 0), (103, .iload_n 3, 1, 0, 0), (104, .invokestatic 136, 3, 97, 1), (107, .iconst 2, 1, 0, 0), (108, .invokevirtual 146, 3, 108, 0), (111, .ifCond .ne 20, 3, 0, 0), (114, .aload_n 0, 1, 0, 0), (115, .iload_n 1, 1, 0, 0), (116, .iload_n 2, 1, 0, 0), (117, .invokevirtual 149, 3, 106, 0), (120, .istore_n 3, 1, 0, 0), (121, .aload_n 0, 1, 0, 0), (122, .iload 5, 2, 0, 0), (124, .iload_n 3, 1, 0, 0), (125, .invokestatic 136, 3, 97, 1), (128, .invokevirtual 152, 3, 100, 0), (131, .goto 10, 3, 0, 0), (134, .aload_n 0, 1, 0, 0), (135, .iload_n 1, 1, 0, 0), (136, .iload_n 2, 1, 0, 0), (137, .invokevirtual 149, 3, 106, 0), (140, .istore_n 3, 1, 0, 0), (141, .aload_n 0, 1, 0, 0), (142, .iconst 0, 1, 0, 0), (143, .iload_n 3, 1, 0, 0), (144, .invokevirtual 155, 3, 101, 0), (147, .iconst 0, 1, 0, 0), (148, .ireturn, 1, 0, 0)]
def ax_t113 : List ax_I := [(0, .aload_n 0, 1, 0, 0), (1, .getfield 49, 3, 8, 14), (4, .iconst 0, 1, 0, 0), (5, .iaload, 1, 0, 0), (6, .ifCond .eq 19, 3, 0, 0), (9, .aload_n 0, 1, 0, 0), (10, .getfield 55, 3, 8, 16), (13, .aload_n 0, 1, 0, 0), (14, .getfield 49, 3, 8, 14), (17, .iconst 0, 1, 0, 0), (18, .iaload, 1, 0, 0), (19, .iconst 1, 1, 0, 0), (20, .isub, 1, 0, 0), (21, .baload, 1, 0, 0), (22, .ifCond .eq 5, 3, 0, 0), (25, .iconst 2, 1, 0, 0), (26, .ireturn, 1, 0, 0), (27, .aload_n 0, 1, 0, 0), (28, .iconst 0, 1, 0, 0), (29, .iload_n 1, 1, 0, 0), (30, .iload_n 2, 1, 0, 0), (31, .invokevirtual 120, 3, 91, 0), (34, .istore 4, 2, 0, 0), (36, .iload 4, 2, 0, 0), (38, .ifCond .lt 19, 3, 0, 0), (41, .aload_n 0, 1, 0, 0), (42, .iload 4, 2, 0, 0), (44, .invokestatic 158, 3, 98, 1), (47, .invokevirtual 139, 3, 110, 0), (50, .ifCond .eq 7, 3, 0, 0), (53, .iconst 1, 1, 0, 0), (54, .goto 4, 3, 0, 0), (57, .iconst 0, 1, 0, 0), (58, .istore 5, 2, 0, 0), (60, .aload_n 0, 1, 0, 0), (61, .getfield 92, 3, 8, 19), (64, .sipush 3800, 3, 0, 0), (67, .if_icmp .gt 17, 3, 0, 0), (70, .iload 5, 2, 0, 0), (72, .ifCond .ne 14, 3, 0, 0), (75, .aload_n 0, 1, 0, 0), (76, .iload_n 1, 1, 0, 0), (77, .iload_n 2, 1, 0, 0), (78, .invokevirtual 142, 3, 109, 0), (81, .ifCond .eq 5, 3, 0, 0), (84, .iconst 3, 1, 0, 0), (85, .ireturn, 1, 0, 0), (86, .aload_n 0, 1, 0, 0), (87, .iconst 0, 1, 0, 0), (88, .invokevirtual 129, 3, 96, 0), (91, .istore 6, 2, 0, 0), (93, .aload_n 0, 1, 0, 0), (94, .iload 4, 2, 0, 0), (96, .ifCond .ge 7, 3, 0, 0), (99, .iconst (-1), 1, 0, 0), (100, .goto 8, 3, 0, 0), (103, .iload 4, 2, 0, 0), (105, .invokestatic 158, 3, 98, 1), (108, .iconst 1, 1, 0, 0), (109, .invokevirtual 146, 3, 108, 0), (112, .ifCond .ne 22, 3, 0, 0), (115, .aload_n 0, 1, 0, 0), (116, .iload_n 1, 1, 0, 0), (117, .iload_n 2, 1, 0, 0), (118, .invokevirtual 149, 3, 106, 0), (121, .istore 4, 2, 0, 0), (123, .aload_n 0, 1, 0, 0), (124, .iload 6, 2, 0, 0), (126, .iload 4, 2, 0, 0), (128, .invokestatic 158, 3, 98, 1), (131, .invokevirtual 152, 3, 100, 0), (134, .aload_n 0, 1, 0, 0), (135, .iload 4, 2, 0, 0), (137, .iload_n 3, 1, 0, 0), (138, .invokevirtual 161, 3, 107, 0), (141, .iconst 0, 1, 0, 0), (142, .ireturn, 1, 0, 0)]
def ax_t114 : List ax_I := [(0, .aload_n 0, 1, 0, 0), (1, .getfield 49, 3, 8, 14), (4, .iconst 0, 1, 0, 0), (5, .iaload, 1, 0, 0), (6, .ifCond .ne 5, 3, 0, 0), (9, .iconst 2, 1, 0, 0), (10, .ireturn, 1, 0, 0), (11, .aload_n 0, 1, 0, 0), (12, .getfield 92, 3, 8, 19), (15, .sipush 3800, 3, 0, 0), (18, .if_icmp .le 5, 3, 0, 0), (21, .iconst 3, 1, 0, 0), (22, .ireturn, 1, 0, 0), (23, .aload_n 0, 1, 0, 0), (24, .iconst 0, 1, 0, 0), (25, .invokevirtual 129, 3, 96, 0), (28, .istore_n 2, 1, 0, 0), (29, .aload_n 0, 1, 0, 0), (30, .iconst 1, 1, 0, 0), (31, .iconst 3, 1, 0, 0), (32, .invokevirtual 146, 3, 108, 0), (35, .ifCond .ne 9, 3, 0, 0), (38, .aload_n 0, 1, 0, 0), (39, .iload_n 2, 1, 0, 0), (40, .iconst 1, 1, 0, 0), (41, .invokevirtual 152, 3, 100, 0), (44, .aload_n 0, 1, 0, 0), (45, .getfield 49, 3, 8, 14), (48, .iconst 0, 1, 0, 0), (49, .iaload, 1, 0, 0), (50, .iconst 1, 1, 0, 0), (51, .isub, 1, 0, 0), (52, .istore_n 3, 1, 0, 0), (53, .aload_n 0, 1, 0, 0), (54, .aload_n 0, 1, 0, 0), (55, .getfield 52, 3, 8, 15), (58, .iload_n 3, 1, 0, 0), (59, .iaload, 1, 0, 0), (60, .iload_n 1, 1, 0, 0), (61, .invokevirtual 161, 3, 107, 0), (64, .aload_n 0, 1, 0, 0), (65, .getfield 55, 3, 8, 16), (68, .iload_n 3, 1, 0, 0), (69, .iconst 1, 1, 0, 0), (70, .bastore, 1, 0, 0), (71, .iconst 0, 1, 0, 0), (72, .ireturn, 1, 0, 0)]
def ax_t115 : List ax_I := [(0, .aload_n 0, 1, 0, 0), (1, .getfield 49, 3, 8, 14), (4, .iconst 0, 1, 0, 0), (5, .iaload, 1, 0, 0), (6, .ifCond .ne 5, 3, 0, 0), (9, .iconst 2, 1, 0, 0), (10, .ireturn, 1, 0, 0), (11, .aload_n 0, 1, 0, 0), (12, .getfield 92, 3, 8, 19), (15, .sipush 3800, 3, 0, 0), (18, .if_icmp .le 5, 3, 0, 0), (21, .iconst 3, 1, 0, 0), (22, .ireturn, 1, 0, 0), (23, .aload_n 0, 1, 0, 0), (24, .iconst 0, 1, 0, 0), (25, .invokevirtual 129, 3, 96, 0), (28, .istore_n 1, 1, 0, 0), (29, .aload_n 0, 1, 0, 0), (30, .iconst 0, 1, 0, 0), (31, .iconst 0, 1, 0, 0), (32, .invokevirtual 146, 3, 108, 0), (35, .ifCond .ne 15, 3, 0, 0), (38, .iload_n 1, 1, 0, 0), (39, .iconst 2, 1, 0, 0), (40, .irem, 1, 0, 0), (41, .ifCond .ne 9, 3, 0, 0), (44, .aload_n 0, 1, 0, 0), (45, .iload_n 1, 1, 0, 0), (46, .iconst 0, 1, 0, 0), (47, .invokevirtual 152, 3, 100, 0), (50, .aload_n 0, 1, 0, 0), (51, .iconst 0, 1, 0, 0), (52, .invokevirtual 164, 3, 102, 0), (55, .iconst 0, 1, 0, 0), (56, .ireturn, 1, 0, 0)]
def ax_t116 : List ax_I := [(0, .aload_n 0, 1, 0, 0), (1, .iconst 0, 1, 0, 0), (2, .putfield 80, 3, 8, 0), (5, .aload_n 0, 1, 0, 0), (6, .getfield 167, 3, 8, 29), (9, .ifCond .ne 13, 3, 0, 0), (12, .aload_n 0, 1, 0, 0), (13, .iconst 0, 1, 0, 0), (14, .invokevirtual 171, 3, 86, 0), (17, .aload_n 0, 1, 0, 0), (18, .iconst 1, 1, 0, 0), (19, .putfield 167, 3, 8, 29), (22, .return_, 1, 0, 0)]
def ax_t117 : List ax_I := [(0, .aload_n 0, 1, 0, 0), (1, .invokevirtual 174, 3, 116, 0), (4, .aload_n 0, 1, 0, 0), (5, .iload_n 1, 1, 0, 0), (6, .iload_n 2, 1, 0, 0), (7, .invokestatic 177, 3, 111, 1), (10, .ifCond .eq 12, 3, 0, 0), (13, .aload_n 0, 1, 0, 0), (14, .iload_n 1, 1, 0, 0), (15, .iload_n 2, 1, 0, 0), (16, .invokevirtual 180, 3, 112, 0), (19, .goto 4, 3, 0, 0), (22, .iconst 1, 1, 0, 0), (23, .putfield 80, 3, 8, 0), (26, .return_, 1, 0, 0)]
def ax_t118 : List ax_I := [(0, .aload_n 0, 1, 0, 0), (1, .invokevirtual 174, 3, 116, 0), (4, .aload_n 0, 1, 0, 0), (5, .iload_n 1, 1, 0, 0), (6, .iload_n 2, 1, 0, 0), (7, .invokestatic 177, 3, 111, 1), (10, .ifCond .eq 20, 3, 0, 0), (13, .iload_n 3, 1, 0, 0), (14, .invokestatic 132, 3, 88, 1), (17, .ifCond .eq 13, 3, 0, 0), (20, .aload_n 0, 1, 0, 0), (21, .iload_n 1, 1, 0, 0), (22, .iload_n 2, 1, 0, 0), (23, .iload_n 3, 1, 0, 0), (24, .invokevirtual 183, 3, 113, 0), (27, .goto 4, 3, 0, 0), (30, .iconst 1, 1, 0, 0), (31, .putfield 80, 3, 8, 0), (34, .return_, 1, 0, 0)]
def ax_t119 : List ax_I := [(0, .aload_n 0, 1, 0, 0), (1, .invokevirtual 174, 3, 116, 0), (4, .aload_n 0, 1, 0, 0), (5, .iload_n 1, 1, 0, 0), (6, .invokestatic 132, 3, 88, 1), (9, .ifCond .eq 11, 3, 0, 0), (12, .aload_n 0, 1, 0, 0), (13, .iload_n 1, 1, 0, 0), (14, .invokevirtual 186, 3, 114, 0), (17, .goto 4, 3, 0, 0), (20, .iconst 1, 1, 0, 0), (21, .putfield 80, 3, 8, 0), (24, .return_, 1, 0, 0)]
def ax_t120 : List ax_I := [(0, .aload_n 0, 1, 0, 0), (1, .invokevirtual 174, 3, 116, 0), (4, .aload_n 0, 1, 0, 0), (5, .invokevirtual 189, 3, 115, 0), (8, .istore_n 1, 1, 0, 0), (9, .aload_n 0, 1, 0, 0), (10, .iload_n 1, 1, 0, 0), (11, .ifCond .ne 7, 3, 0, 0), (14, .iconst 0, 1, 0, 0), (15, .goto 6, 3, 0, 0), (18, .iload_n 1, 1, 0, 0), (19, .iconst 1, 1, 0, 0), (20, .isub, 1, 0, 0), (21, .putfield 80, 3, 8, 0), (24, .aload_n 0, 1, 0, 0), (25, .getfield 80, 3, 8, 0), (28, .ifCond .le 7, 3, 0, 0), (31, .iconst 0, 1, 0, 0), (32, .goto 9, 3, 0, 0), (35, .aload_n 0, 1, 0, 0), (36, .getfield 49, 3, 8, 14), (39, .iconst 0, 1, 0, 0), (40, .iaload, 1, 0, 0), (41, .ireturn, 1, 0, 0)]
def ax_t121 : List ax_I := [(0, .aload_n 0, 1, 0, 0), (1, .invokevirtual 174, 3, 116, 0), (4, .aload_n 0, 1, 0, 0), (5, .iconst 0, 1, 0, 0), (6, .invokevirtual 171, 3, 86, 0), (9, .aload_n 0, 1, 0, 0), (10, .iconst 0, 1, 0, 0), (11, .putfield 92, 3, 8, 19), (14, .return_, 1, 0, 0)]
def ax_t122 : List ax_I := [(0, .aload_n 0, 1, 0, 0), (1, .iconst 0, 1, 0, 0), (2, .putfield 80, 3, 8, 0), (5, .aload_n 0, 1, 0, 0), (6, .getfield 92, 3, 8, 19), (9, .ireturn, 1, 0, 0)]
def ax_t123 : List ax_I := [(0, .aload_n 0, 1, 0, 0), (1, .iconst 0, 1, 0, 0), (2, .putfield 80, 3, 8, 0), (5, .iconst 0, 1, 0, 0), (6, .istore_n 1, 1, 0, 0), (7, .iload_n 1, 1, 0, 0), (8, .aload_n 0, 1, 0, 0), (9, .getfield 92, 3, 8, 19), (12, .if_icmp .ge 21, 3, 0, 0), (15, .aload_n 0, 1, 0, 0), (16, .getfield 65, 3, 8, 20), (19, .iload_n 1, 1, 0, 0), (20, .aload_n 0, 1, 0, 0), (21, .getfield 62, 3, 8, 18), (24, .iload_n 1, 1, 0, 0), (25, .baload, 1, 0, 0), (26, .bastore, 1, 0, 0), (27, .iinc 1 1, 3, 0, 0), (30, .goto (-23), 3, 0, 0), (33, .aload_n 0, 1, 0, 0), (34, .aload_n 0, 1, 0, 0), (35, .getfield 92, 3, 8, 19), (38, .putfield 193, 3, 8, 21), (41, .aload_n 0, 1, 0, 0), (42, .getfield 193, 3, 8, 21), (45, .ireturn, 1, 0, 0)]
def ax_t124 : List ax_I := [(0, .aload_n 0, 1, 0, 0), (1, .aload_n 0, 1, 0, 0), (2, .getfield 193, 3, 8, 21), (5, .sipush 4000, 3, 0, 0), (8, .if_icmp .lt 7, 3, 0, 0), (11, .iconst 1, 1, 0, 0), (12, .goto 4, 3, 0, 0), (15, .iconst 0, 1, 0, 0), (16, .putfield 80, 3, 8, 0), (19, .aload_n 0, 1, 0, 0), (20, .getfield 80, 3, 8, 0), (23, .ifCond .le 5, 3, 0, 0), (26, .iconst 0, 1, 0, 0), (27, .ireturn, 1, 0, 0), (28, .aload_n 0, 1, 0, 0), (29, .getfield 65, 3, 8, 20), (32, .aload_n 0, 1, 0, 0), (33, .getfield 193, 3, 8, 21), (36, .iload_n 1, 1, 0, 0), (37, .bastore, 1, 0, 0), (38, .aload_n 0, 1, 0, 0), (39, .dup, 1, 0, 0), (40, .getfield 193, 3, 8, 21), (43, .iconst 1, 1, 0, 0), (44, .iadd, 1, 0, 0), (45, .putfield 193, 3, 8, 21), (48, .aload_n 0, 1, 0, 0), (49, .getfield 193, 3, 8, 21), (52, .ireturn, 1, 0, 0)]
def ax_t125 : List ax_I := [(0, .aload_n 0, 1, 0, 0), (1, .iload_n 1, 1, 0, 0), (2, .ifCond .lt 11, 3, 0, 0), (5, .iload_n 1, 1, 0, 0), (6, .aload_n 0, 1, 0, 0), (7, .getfield 193, 3, 8, 21), (10, .if_icmp .lt 7, 3, 0, 0), (13, .iconst 1, 1, 0, 0), (14, .goto 4, 3, 0, 0), (17, .iconst 0, 1, 0, 0), (18, .putfield 80, 3, 8, 0), (21, .aload_n 0, 1, 0, 0), (22, .getfield 80, 3, 8, 0), (25, .ifCond .ne 16, 3, 0, 0), (28, .aload_n 0, 1, 0, 0), (29, .getfield 65, 3, 8, 20), (32, .iload_n 1, 1, 0, 0), (33, .baload, 1, 0, 0), (34, .ifCond .eq 7, 3, 0, 0), (37, .iconst 1, 1, 0, 0), (38, .goto 4, 3, 0, 0), (41, .iconst 0, 1, 0, 0), (42, .ireturn, 1, 0, 0)]
def ax_t126 : List ax_I := [(0, .aload_n 0, 1, 0, 0), (1, .iload_n 1, 1, 0, 0), (2, .ifCond .lt 11, 3, 0, 0), (5, .iload_n 1, 1, 0, 0), (6, .aload_n 0, 1, 0, 0), (7, .getfield 193, 3, 8, 21), (10, .if_icmp .lt 7, 3, 0, 0), (13, .iconst 1, 1, 0, 0), (14, .goto 4, 3, 0, 0), (17, .iconst 0, 1, 0, 0), (18, .putfield 80, 3, 8, 0), (21, .aload_n 0, 1, 0, 0), (22, .getfield 80, 3, 8, 0), (25, .ifCond .ne 23, 3, 0, 0), (28, .aload_n 0, 1, 0, 0), (29, .getfield 65, 3, 8, 20), (32, .iload_n 1, 1, 0, 0), (33, .aload_n 0, 1, 0, 0), (34, .getfield 65, 3, 8, 20), (37, .iload_n 1, 1, 0, 0), (38, .baload, 1, 0, 0), (39, .ifCond .ne 7, 3, 0, 0), (42, .iconst 1, 1, 0, 0), (43, .goto 4, 3, 0, 0), (46, .iconst 0, 1, 0, 0), (47, .bastore, 1, 0, 0), (48, .return_, 1, 0, 0)]
def ax_t127 : List ax_I := [(0, .aload_n 0, 1, 0, 0), (1, .iload_n 1, 1, 0, 0), (2, .ifCond .lt 11, 3, 0, 0), (5, .iload_n 1, 1, 0, 0), (6, .aload_n 0, 1, 0, 0), (7, .getfield 193, 3, 8, 21), (10, .if_icmp .le 7, 3, 0, 0), (13, .iconst 1, 1, 0, 0), (14, .goto 4, 3, 0, 0), (17, .iconst 0, 1, 0, 0), (18, .putfield 80, 3, 8, 0), (21, .aload_n 0, 1, 0, 0), (22, .getfield 80, 3, 8, 0), (25, .ifCond .ne 8, 3, 0, 0), (28, .aload_n 0, 1, 0, 0), (29, .iload_n 1, 1, 0, 0), (30, .putfield 193, 3, 8, 21), (33, .return_, 1, 0, 0)]
def ax_t128 : List ax_I := [(0, .aload_n 0, 1, 0, 0), (1, .aload_n 0, 1, 0, 0), (2, .getfield 196, 3, 8, 23), (5, .ifCond .ne 14, 3, 0, 0), (8, .aload_n 0, 1, 0, 0), (9, .getfield 199, 3, 8, 22), (12, .aload_n 0, 1, 0, 0), (13, .getfield 193, 3, 8, 21), (16, .if_icmp .ne 7, 3, 0, 0), (19, .iconst 1, 1, 0, 0), (20, .goto 4, 3, 0, 0), (23, .iconst 0, 1, 0, 0), (24, .putfield 196, 3, 8, 23), (27, .aload_n 0, 1, 0, 0), (28, .getfield 196, 3, 8, 23), (31, .ifCond .eq 5, 3, 0, 0), (34, .iconst 0, 1, 0, 0), (35, .ireturn, 1, 0, 0), (36, .aload_n 0, 1, 0, 0), (37, .dup, 1, 0, 0), (38, .getfield 199, 3, 8, 22), (41, .iconst 1, 1, 0, 0), (42, .iadd, 1, 0, 0), (43, .putfield 199, 3, 8, 22), (46, .aload_n 0, 1, 0, 0), (47, .getfield 65, 3, 8, 20), (50, .aload_n 0, 1, 0, 0), (51, .getfield 199, 3, 8, 22), (54, .iconst 1, 1, 0, 0), (55, .isub, 1, 0, 0), (56, .baload, 1, 0, 0), (57, .ifCond .eq 7, 3, 0, 0), (60, .iconst 1, 1, 0, 0), (61, .goto 4, 3, 0, 0), (64, .iconst 0, 1, 0, 0), (65, .ireturn, 1, 0, 0)]
def ax_t129 : List ax_I := [(0, .iconst 0, 1, 0, 0), (1, .istore_n 2, 1, 0, 0), (2, .iconst 1, 1, 0, 0), (3, .istore_n 3, 1, 0, 0), (4, .iload_n 3, 1, 0, 0), (5, .iload_n 1, 1, 0, 0), (6, .if_icmp .ge 19, 3, 0, 0), (9, .iconst 2, 1, 0, 0), (10, .iload_n 2, 1, 0, 0), (11, .imul, 1, 0, 0), (12, .aload_n 0, 1, 0, 0), (13, .invokevirtual 202, 3, 128, 0), (16, .iadd, 1, 0, 0), (17, .istore_n 2, 1, 0, 0), (18, .iconst 2, 1, 0, 0), (19, .iload_n 3, 1, 0, 0), (20, .imul, 1, 0, 0), (21, .istore_n 3, 1, 0, 0), (22, .goto (-18), 3, 0, 0), (25, .aload_n 0, 1, 0, 0), (26, .aload_n 0, 1, 0, 0), (27, .getfield 196, 3, 8, 23), (30, .ifCond .ne 8, 3, 0, 0), (33, .iload_n 2, 1, 0, 0), (34, .iload_n 1, 1, 0, 0), (35, .if_icmp .lt 7, 3, 0, 0), (38, .iconst 1, 1, 0, 0), (39, .goto 4, 3, 0, 0), (42, .iconst 0, 1, 0, 0), (43, .putfield 196, 3, 8, 23), (46, .aload_n 0, 1, 0, 0), (47, .getfield 196, 3, 8, 23), (50, .ifCond .eq 7, 3, 0, 0), (53, .iconst 0, 1, 0, 0), (54, .goto 4, 3, 0, 0), (57, .iload_n 2, 1, 0, 0), (58, .ireturn, 1, 0, 0)]
def ax_t130 : List ax_I := [(0, .iconst 0, 1, 0, 0), (1, .istore_n 1, 1, 0, 0), (2, .iconst 0, 1, 0, 0), (3, .istore_n 2, 1, 0, 0), (4, .iconst 1, 1, 0, 0), (5, .istore_n 3, 1, 0, 0), (6, .iload_n 3, 1, 0, 0), (7, .ifCond .eq 55, 3, 0, 0), (10, .aload_n 0, 1, 0, 0), (11, .getfield 196, 3, 8, 23), (14, .ifCond .ne 48, 3, 0, 0), (17, .iload_n 2, 1, 0, 0), (18, .iconst 4, 1, 0, 0), (19, .if_icmp .ne 10, 3, 0, 0), (22, .aload_n 0, 1, 0, 0), (23, .iconst 1, 1, 0, 0), (24, .putfield 196, 3, 8, 23), (27, .iconst 0, 1, 0, 0), (28, .ireturn, 1, 0, 0), (29, .aload_n 0, 1, 0, 0), (30, .invokevirtual 202, 3, 128, 0), (33, .iconst 1, 1, 0, 0), (34, .if_icmp .ne 7, 3, 0, 0), (37, .iconst 1, 1, 0, 0), (38, .goto 4, 3, 0, 0), (41, .iconst 0, 1, 0, 0), (42, .istore_n 3, 1, 0, 0), (43, .iload_n 1, 1, 0, 0), (44, .aload_n 0, 1, 0, 0), (45, .bipush 8, 2, 0, 0), (47, .invokevirtual 205, 3, 129, 0), (50, .iconst 3, 1, 0, 0), (51, .iload_n 2, 1, 0, 0), (52, .imul, 1, 0, 0), (53, .ishl, 1, 0, 0), (54, .iadd, 1, 0, 0), (55, .istore_n 1, 1, 0, 0), (56, .iinc 2 1, 3, 0, 0), (59, .goto (-53), 3, 0, 0), (62, .iload_n 1, 1, 0, 0), (63, .ireturn, 1, 0, 0)]
def ax_t131 : List ax_I := [(0, .aload_n 0, 1, 0, 0), (1, .aload_n 0, 1, 0, 0), (2, .getfield 196, 3, 8, 23), (5, .ifCond .ne 8, 3, 0, 0), (8, .iload_n 1, 1, 0, 0), (9, .iconst 5, 1, 0, 0), (10, .if_icmp .le 7, 3, 0, 0), (13, .iconst 1, 1, 0, 0), (14, .goto 4, 3, 0, 0), (17, .iconst 0, 1, 0, 0), (18, .putfield 196, 3, 8, 23), (21, .iconst 0, 1, 0, 0), (22, .istore_n 2, 1, 0, 0), (23, .iconst 1, 1, 0, 0), (24, .istore_n 3, 1, 0, 0), (25, .iconst 0, 1, 0, 0), (26, .istore 4, 2, 0, 0), (28, .iload 4, 2, 0, 0), (30, .iload_n 1, 1, 0, 0), (31, .if_icmp .ge 74, 3, 0, 0), (34, .aload_n 0, 1, 0, 0), (35, .getfield 196, 3, 8, 23), (38, .ifCond .ne 67, 3, 0, 0), (41, .aload_n 0, 1, 0, 0), (42, .invokevirtual 208, 3, 130, 0), (45, .istore 5, 2, 0, 0), (47, .aload_n 0, 1, 0, 0), (48, .aload_n 0, 1, 0, 0), (49, .getfield 196, 3, 8, 23), (52, .ifCond .ne 16, 3, 0, 0), (55, .iload 5, 2, 0, 0), (57, .iconst 1, 1, 0, 0), (58, .if_icmp .lt 10, 3, 0, 0), (61, .iload 5, 2, 0, 0), (63, .bipush 26, 2, 0, 0), (65, .if_icmp .le 7, 3, 0, 0), (68, .iconst 1, 1, 0, 0), (69, .goto 4, 3, 0, 0), (72, .iconst 0, 1, 0, 0), (73, .putfield 196, 3, 8, 23), (76, .iload_n 2, 1, 0, 0), (77, .aload_n 0, 1, 0, 0), (78, .getfield 196, 3, 8, 23), (81, .ifCond .eq 7, 3, 0, 0), (84, .iconst 0, 1, 0, 0), (85, .goto 7, 3, 0, 0), (88, .iload_n 3, 1, 0, 0), (89, .iload 5, 2, 0, 0), (91, .imul, 1, 0, 0), (92, .iadd, 1, 0, 0), (93, .istore_n 2, 1, 0, 0), (94, .bipush 27, 2, 0, 0), (96, .iload_n 3, 1, 0, 0), (97, .imul, 1, 0, 0), (98, .istore_n 3, 1, 0, 0), (99, .iinc 4 1, 3, 0, 0), (102, .goto (-74), 3, 0, 0), (105, .iload_n 2, 1, 0, 0), (106, .ireturn, 1, 0, 0)]
def ax_t132 : List ax_I := [(0, .aload_n 0, 1, 0, 0), (1, .aload_n 0, 1, 0, 0), (2, .getfield 7, 3, 8, 1), (5, .iconst 1, 1, 0, 0), (6, .iaload, 1, 0, 0), (7, .iconst 1, 1, 0, 0), (8, .iadd, 1, 0, 0), (9, .invokevirtual 205, 3, 129, 0), (12, .iconst 1, 1, 0, 0), (13, .isub, 1, 0, 0), (14, .istore_n 1, 1, 0, 0), (15, .iload_n 1, 1, 0, 0), (16, .ifCond .ge 61, 3, 0, 0), (19, .aload_n 0, 1, 0, 0), (20, .aload_n 0, 1, 0, 0), (21, .invokevirtual 208, 3, 130, 0), (24, .invokevirtual 211, 3, 131, 0), (27, .istore_n 2, 1, 0, 0), (28, .aload_n 0, 1, 0, 0), (29, .aload_n 0, 1, 0, 0), (30, .getfield 196, 3, 8, 23), (33, .ifCond .ne 14, 3, 0, 0), (36, .aload_n 0, 1, 0, 0), (37, .getfield 7, 3, 8, 1), (40, .iconst 1, 1, 0, 0), (41, .iaload, 1, 0, 0), (42, .bipush 6, 2, 0, 0), (44, .if_icmp .ne 7, 3, 0, 0), (47, .iconst 1, 1, 0, 0), (48, .goto 4, 3, 0, 0), (51, .iconst 0, 1, 0, 0), (52, .putfield 196, 3, 8, 23), (55, .aload_n 0, 1, 0, 0), (56, .getfield 196, 3, 8, 23), (59, .ifCond .eq 5, 3, 0, 0), (62, .iconst (-1), 1, 0, 0), (63, .ireturn, 1, 0, 0), (64, .aload_n 0, 1, 0, 0), (65, .getfield 7, 3, 8, 1), (68, .iconst 1, 1, 0, 0), (69, .iaload, 1, 0, 0), (70, .istore_n 1, 1, 0, 0), (71, .aload_n 0, 1, 0, 0), (72, .iconst 1, 1, 0, 0), (73, .iload_n 2, 1, 0, 0), (74, .invokevirtual 109, 3, 93, 0), (77, .bipush 6, 2, 0, 0), (79, .iload_n 1, 1, 0, 0), (80, .iadd, 1, 0, 0), (81, .istore_n 2, 1, 0, 0), (82, .aload_n 0, 1, 0, 0), (83, .invokevirtual 208, 3, 130, 0), (86, .istore_n 3, 1, 0, 0), (87, .aload_n 0, 1, 0, 0), (88, .getfield 196, 3, 8, 23), (91, .ifCond .eq 5, 3, 0, 0), (94, .iconst (-1), 1, 0, 0), (95, .ireturn, 1, 0, 0), (96, .iload_n 3, 1, 0, 0), (97, .ifCond .ne 28, 3, 0, 0), (100, .aload_n 0, 1, 0, 0), (101, .getfield 19, 3, 8, 4), (104, .bipush 10, 2, 0, 0), (106, .iload_n 2, 1, 0, 0), (107, .imul, 1, 0, 0), (108, .aload_n 0, 1, 0, 0), (109, .aload_n 0, 1, 0, 0), (110, .getfield 16, 3, 8, 3), (113, .iload_n 2, 1, 0, 0), (114, .iaload, 1, 0, 0), (115, .invokevirtual 205, 3, 129, 0), (118, .iadd, 1, 0, 0), (119, .iaload, 1, 0, 0), (120, .istore 4, 2, 0, 0), (122, .goto 52, 3, 0, 0), (125, .aload_n 0, 1, 0, 0), (126, .iload_n 3, 1, 0, 0), (127, .invokevirtual 211, 3, 131, 0), (130, .istore 4, 2, 0, 0), (132, .aload_n 0, 1, 0, 0), (133, .aload_n 0, 1, 0, 0), (134, .getfield 196, 3, 8, 23), (137, .ifCond .ne 14, 3, 0, 0), (140, .aload_n 0, 1, 0, 0), (141, .getfield 16, 3, 8, 3), (144, .iload_n 2, 1, 0, 0), (145, .iaload, 1, 0, 0), (146, .bipush 10, 2, 0, 0), (148, .if_icmp .ne 7, 3, 0, 0), (151, .iconst 1, 1, 0, 0), (152, .goto 4, 3, 0, 0), (155, .iconst 0, 1, 0, 0), (156, .putfield 196, 3, 8, 23), (159, .aload_n 0, 1, 0, 0), (160, .getfield 196, 3, 8, 23), (163, .ifCond .ne 11, 3, 0, 0), (166, .aload_n 0, 1, 0, 0), (167, .iconst 1, 1, 0, 0), (168, .iload_n 1, 1, 0, 0), (169, .iload 4, 2, 0, 0), (171, .invokevirtual 116, 3, 94, 0), (174, .aload_n 0, 1, 0, 0), (175, .getfield 196, 3, 8, 23), (178, .ifCond .eq 5, 3, 0, 0), (181, .iconst (-1), 1, 0, 0), (182, .ireturn, 1, 0, 0), (183, .aload_n 0, 1, 0, 0), (184, .getfield 13, 3, 8, 2), (187, .iload_n 2, 1, 0, 0), (188, .iaload, 1, 0, 0), (189, .istore 5, 2, 0, 0), (191, .aload_n 0, 1, 0, 0), (192, .iconst 1, 1, 0, 0), (193, .iload 5, 2, 0, 0), (195, .iload 4, 2, 0, 0), (197, .invokevirtual 120, 3, 91, 0), (200, .istore 6, 2, 0, 0), (202, .aload_n 0, 1, 0, 0), (203, .iload 6, 2, 0, 0), (205, .ifCond .ge 18, 3, 0, 0), (208, .aload_n 0, 1, 0, 0), (209, .getfield 22, 3, 8, 5), (212, .iconst 1, 1, 0, 0), (213, .iaload, 1, 0, 0), (214, .bipush 20, 2, 0, 0), (216, .if_icmp .ne 7, 3, 0, 0), (219, .iconst 1, 1, 0, 0), (220, .goto 4, 3, 0, 0), (223, .iconst 0, 1, 0, 0), (224, .putfield 196, 3, 8, 23), (227, .aload_n 0, 1, 0, 0), (228, .getfield 196, 3, 8, 23), (231, .ifCond .eq 7, 3, 0, 0), (234, .iconst (-1), 1, 0, 0), (235, .goto 22, 3, 0, 0), (238, .iload 6, 2, 0, 0), (240, .ifCond .ge 15, 3, 0, 0), (243, .aload_n 0, 1, 0, 0), (244, .iconst 1, 1, 0, 0), (245, .iload 5, 2, 0, 0), (247, .iload 4, 2, 0, 0), (249, .invokevirtual 123, 3, 92, 0), (252, .goto 5, 3, 0, 0), (255, .iload 6, 2, 0, 0), (257, .ireturn, 1, 0, 0)]
def ax_t133 : List ax_I := [(0, .aload_n 0, 1, 0, 0), (1, .invokevirtual 208, 3, 130, 0), (4, .istore_n 2, 1, 0, 0), (5, .aload_n 0, 1, 0, 0), (6, .getfield 196, 3, 8, 23), (9, .ifCond .eq 5, 3, 0, 0), (12, .iconst 0, 1, 0, 0), (13, .ireturn, 1, 0, 0), (14, .iload_n 2, 1, 0, 0), (15, .ifCond .ne 42, 3, 0, 0), (18, .aload_n 0, 1, 0, 0), (19, .aload_n 0, 1, 0, 0), (20, .getfield 31, 3, 8, 8), (23, .bipush 20, 2, 0, 0), (25, .iload_n 1, 1, 0, 0), (26, .iadd, 1, 0, 0), (27, .iaload, 1, 0, 0), (28, .invokevirtual 205, 3, 129, 0), (31, .istore_n 3, 1, 0, 0), (32, .aload_n 0, 1, 0, 0), (33, .getfield 196, 3, 8, 23), (36, .ifCond .eq 7, 3, 0, 0), (39, .iconst 0, 1, 0, 0), (40, .goto 16, 3, 0, 0), (43, .aload_n 0, 1, 0, 0), (44, .getfield 34, 3, 8, 9), (47, .iconst 5, 1, 0, 0), (48, .bipush 20, 2, 0, 0), (50, .iload_n 1, 1, 0, 0), (51, .iadd, 1, 0, 0), (52, .imul, 1, 0, 0), (53, .iload_n 3, 1, 0, 0), (54, .iadd, 1, 0, 0), (55, .iaload, 1, 0, 0), (56, .ireturn, 1, 0, 0), (57, .iload_n 2, 1, 0, 0), (58, .iconst 1, 1, 0, 0), (59, .if_icmp .ne 35, 3, 0, 0), (62, .aload_n 0, 1, 0, 0), (63, .aload_n 0, 1, 0, 0), (64, .getfield 37, 3, 8, 10), (67, .iconst 1, 1, 0, 0), (68, .iaload, 1, 0, 0), (69, .invokevirtual 205, 3, 129, 0), (72, .istore_n 3, 1, 0, 0), (73, .aload_n 0, 1, 0, 0), (74, .getfield 196, 3, 8, 23), (77, .ifCond .eq 7, 3, 0, 0), (80, .iconst 0, 1, 0, 0), (81, .goto 12, 3, 0, 0), (84, .aload_n 0, 1, 0, 0), (85, .getfield 40, 3, 8, 11), (88, .bipush 20, 2, 0, 0), (90, .iload_n 3, 1, 0, 0), (91, .iadd, 1, 0, 0), (92, .iaload, 1, 0, 0), (93, .ireturn, 1, 0, 0), (94, .aload_n 0, 1, 0, 0), (95, .iload_n 2, 1, 0, 0), (96, .iconst 2, 1, 0, 0), (97, .isub, 1, 0, 0), (98, .invokevirtual 211, 3, 131, 0), (101, .istore_n 3, 1, 0, 0), (102, .aload_n 0, 1, 0, 0), (103, .getfield 196, 3, 8, 23), (106, .ifCond .ne 10, 3, 0, 0), (109, .aload_n 0, 1, 0, 0), (110, .iconst 1, 1, 0, 0), (111, .iload_n 1, 1, 0, 0), (112, .iload_n 3, 1, 0, 0), (113, .invokevirtual 126, 3, 95, 0), (116, .iload_n 3, 1, 0, 0), (117, .ireturn, 1, 0, 0)]
def ax_t134 : List ax_I := [(0, .aload_n 0, 1, 0, 0), (1, .getfield 43, 3, 8, 12), (4, .iload_n 1, 1, 0, 0), (5, .iaload, 1, 0, 0), (6, .istore_n 2, 1, 0, 0), (7, .iload_n 1, 1, 0, 0), (8, .iconst 2, 1, 0, 0), (9, .irem, 1, 0, 0), (10, .iconst 1, 1, 0, 0), (11, .if_icmp .ne 7, 3, 0, 0), (14, .iconst 1, 1, 0, 0), (15, .goto 4, 3, 0, 0), (18, .iconst 0, 1, 0, 0), (19, .istore_n 3, 1, 0, 0), (20, .aload_n 0, 1, 0, 0), (21, .iload_n 2, 1, 0, 0), (22, .iload_n 3, 1, 0, 0), (23, .ifCond .eq 7, 3, 0, 0), (26, .iconst 2, 1, 0, 0), (27, .goto 4, 3, 0, 0), (30, .iconst 1, 1, 0, 0), (31, .iadd, 1, 0, 0), (32, .invokevirtual 205, 3, 129, 0), (35, .istore 4, 2, 0, 0), (37, .aload_n 0, 1, 0, 0), (38, .getfield 196, 3, 8, 23), (41, .ifCond .eq 5, 3, 0, 0), (44, .iconst 0, 1, 0, 0), (45, .ireturn, 1, 0, 0), (46, .iload 4, 2, 0, 0), (48, .iload_n 2, 1, 0, 0), (49, .if_icmp .ge 16, 3, 0, 0), (52, .aload_n 0, 1, 0, 0), (53, .getfield 46, 3, 8, 13), (56, .bipush 12, 2, 0, 0), (58, .iload_n 1, 1, 0, 0), (59, .imul, 1, 0, 0), (60, .iload 4, 2, 0, 0), (62, .iadd, 1, 0, 0), (63, .iaload, 1, 0, 0), (64, .ireturn, 1, 0, 0), (65, .iload_n 3, 1, 0, 0), (66, .ifCond .ne 11, 3, 0, 0), (69, .iconst (-1), 1, 0, 0), (70, .aload_n 0, 1, 0, 0), (71, .iconst 4, 1, 0, 0), (72, .invokevirtual 205, 3, 129, 0), (75, .isub, 1, 0, 0), (76, .ireturn, 1, 0, 0), (77, .iload 4, 2, 0, 0), (79, .iload_n 2, 1, 0, 0), (80, .if_icmp .ne 8, 3, 0, 0), (83, .bipush (-9), 2, 0, 0), (85, .goto 11, 3, 0, 0), (88, .bipush (-3), 2, 0, 0), (90, .aload_n 0, 1, 0, 0), (91, .iconst 2, 1, 0, 0), (92, .invokevirtual 205, 3, 129, 0), (95, .isub, 1, 0, 0), (96, .ireturn, 1, 0, 0)]
def ax_t135 : List ax_I := [(0, .aload_n 0, 1, 0, 0), (1, .getfield 68, 3, 8, 25), (4, .aload_n 0, 1, 0, 0), (5, .getfield 214, 3, 8, 24), (8, .iload_n 1, 1, 0, 0), (9, .iastore, 1, 0, 0), (10, .aload_n 0, 1, 0, 0), (11, .getfield 71, 3, 8, 26), (14, .aload_n 0, 1, 0, 0), (15, .getfield 214, 3, 8, 24), (18, .iload_n 2, 1, 0, 0), (19, .ifCond .ge 7, 3, 0, 0), (22, .iconst 0, 1, 0, 0), (23, .goto 12, 3, 0, 0), (26, .aload_n 0, 1, 0, 0), (27, .getfield 25, 3, 8, 6), (30, .bipush 20, 2, 0, 0), (32, .iload_n 2, 1, 0, 0), (33, .iadd, 1, 0, 0), (34, .iaload, 1, 0, 0), (35, .iastore, 1, 0, 0), (36, .aload_n 0, 1, 0, 0), (37, .getfield 74, 3, 8, 27), (40, .aload_n 0, 1, 0, 0), (41, .getfield 214, 3, 8, 24), (44, .iload_n 2, 1, 0, 0), (45, .ifCond .ge 7, 3, 0, 0), (48, .iconst 0, 1, 0, 0), (49, .goto 12, 3, 0, 0), (52, .aload_n 0, 1, 0, 0), (53, .getfield 28, 3, 8, 7), (56, .bipush 20, 2, 0, 0), (58, .iload_n 2, 1, 0, 0), (59, .iadd, 1, 0, 0), (60, .iaload, 1, 0, 0), (61, .iastore, 1, 0, 0), (62, .aload_n 0, 1, 0, 0), (63, .getfield 77, 3, 8, 28), (66, .aload_n 0, 1, 0, 0), (67, .getfield 214, 3, 8, 24), (70, .iload_n 3, 1, 0, 0), (71, .iastore, 1, 0, 0), (72, .aload_n 0, 1, 0, 0), (73, .dup, 1, 0, 0), (74, .getfield 214, 3, 8, 24), (77, .iconst 1, 1, 0, 0), (78, .iadd, 1, 0, 0), (79, .putfield 214, 3, 8, 24), (82, .return_, 1, 0, 0)]
def ax_t136 : List ax_I := [(0, .aload_n 0, 1, 0, 0), (1, .aload_n 0, 1, 0, 0), (2, .getfield 196, 3, 8, 23), (5, .ifCond .ne 14, 3, 0, 0), (8, .aload_n 0, 1, 0, 0), (9, .getfield 49, 3, 8, 14), (12, .iconst 1, 1, 0, 0), (13, .iaload, 1, 0, 0), (14, .bipush 8, 2, 0, 0), (16, .if_icmp .ne 7, 3, 0, 0), (19, .iconst 1, 1, 0, 0), (20, .goto 4, 3, 0, 0), (23, .iconst 0, 1, 0, 0), (24, .putfield 196, 3, 8, 23), (27, .aload_n 0, 1, 0, 0), (28, .getfield 196, 3, 8, 23), (31, .ifCond .ne 16, 3, 0, 0), (34, .aload_n 0, 1, 0, 0), (35, .iconst 1, 1, 0, 0), (36, .iload_n 1, 1, 0, 0), (37, .invokevirtual 155, 3, 101, 0), (40, .aload_n 0, 1, 0, 0), (41, .iconst 1, 1, 0, 0), (42, .iload_n 1, 1, 0, 0), (43, .iconst 0, 1, 0, 0), (44, .invokevirtual 217, 3, 135, 0), (47, .return_, 1, 0, 0)]
def ax_t137 : List ax_I := [(0, .aload_n 0, 1, 0, 0), (1, .getfield 49, 3, 8, 14), (4, .iconst 1, 1, 0, 0), (5, .iaload, 1, 0, 0), (6, .ifCond .ne 12, 3, 0, 0), (9, .aload_n 0, 1, 0, 0), (10, .aload_n 0, 1, 0, 0), (11, .invokevirtual 220, 3, 132, 0), (14, .invokevirtual 223, 3, 136, 0), (17, .return_, 1, 0, 0), (18, .aload_n 0, 1, 0, 0), (19, .iconst 1, 1, 0, 0), (20, .invokevirtual 129, 3, 96, 0), (23, .istore_n 1, 1, 0, 0), (24, .aload_n 0, 1, 0, 0), (25, .iload_n 1, 1, 0, 0), (26, .invokevirtual 226, 3, 134, 0), (29, .istore_n 2, 1, 0, 0), (30, .aload_n 0, 1, 0, 0), (31, .getfield 196, 3, 8, 23), (34, .ifCond .eq 4, 3, 0, 0), (37, .return_, 1, 0, 0), (38, .iload_n 2, 1, 0, 0), (39, .ifCond .eq 9, 3, 0, 0), (42, .iload_n 2, 1, 0, 0), (43, .bipush (-9), 2, 0, 0), (45, .if_icmp .ne 7, 3, 0, 0), (48, .iconst 0, 1, 0, 0), (49, .goto 27, 3, 0, 0), (52, .iload_n 2, 1, 0, 0), (53, .iconst 1, 1, 0, 0), (54, .if_icmp .ne 7, 3, 0, 0), (57, .iconst 3, 1, 0, 0), (58, .goto 18, 3, 0, 0), (61, .iload_n 2, 1, 0, 0), (62, .ifCond .le 11, 3, 0, 0), (65, .iconst 2, 1, 0, 0), (66, .iload_n 2, 1, 0, 0), (67, .iconst 2, 1, 0, 0), (68, .irem, 1, 0, 0), (69, .isub, 1, 0, 0), (70, .goto 6, 3, 0, 0), (73, .iconst (-1), 1, 0, 0), (74, .iload_n 2, 1, 0, 0), (75, .isub, 1, 0, 0), (76, .istore_n 3, 1, 0, 0), (77, .iload_n 2, 1, 0, 0), (78, .iconst 1, 1, 0, 0), (79, .if_icmp .le 11, 3, 0, 0), (82, .iload_n 2, 1, 0, 0), (83, .iconst 2, 1, 0, 0), (84, .isub, 1, 0, 0), (85, .iconst 2, 1, 0, 0), (86, .idiv, 1, 0, 0), (87, .goto 4, 3, 0, 0), (90, .iconst (-1), 1, 0, 0), (91, .istore 4, 2, 0, 0), (93, .iload_n 2, 1, 0, 0), (94, .ifCond .ge 27, 3, 0, 0), (97, .iload_n 3, 1, 0, 0), (98, .iconst 1, 1, 0, 0), (99, .if_icmp .eq 8, 3, 0, 0), (102, .iload_n 3, 1, 0, 0), (103, .iconst 2, 1, 0, 0), (104, .if_icmp .ne 17, 3, 0, 0), (107, .aload_n 0, 1, 0, 0), (108, .invokevirtual 220, 3, 132, 0), (111, .istore 4, 2, 0, 0), (113, .aload_n 0, 1, 0, 0), (114, .getfield 196, 3, 8, 23), (117, .ifCond .eq 4, 3, 0, 0), (120, .return_, 1, 0, 0), (121, .iload_n 2, 1, 0, 0), (122, .ifCond .ge 49, 3, 0, 0), (125, .iload_n 2, 1, 0, 0), (126, .bipush (-9), 2, 0, 0), (128, .if_icmp .eq 43, 3, 0, 0), (131, .aload_n 0, 1, 0, 0), (132, .iload_n 1, 1, 0, 0), (133, .iload_n 3, 1, 0, 0), (134, .ifCond .ne 7, 3, 0, 0), (137, .iconst 0, 1, 0, 0), (138, .goto 30, 3, 0, 0), (141, .iload_n 3, 1, 0, 0), (142, .iconst 3, 1, 0, 0), (143, .if_icmp .ne 7, 3, 0, 0), (146, .iconst 1, 1, 0, 0), (147, .goto 21, 3, 0, 0), (150, .iload_n 3, 1, 0, 0), (151, .iconst 2, 1, 0, 0), (152, .if_icmp .ne 11, 3, 0, 0), (155, .iload 4, 2, 0, 0), (157, .invokestatic 136, 3, 97, 1), (160, .goto 8, 3, 0, 0), (163, .iload 4, 2, 0, 0), (165, .invokestatic 158, 3, 98, 1), (168, .invokevirtual 152, 3, 100, 0), (171, .iload_n 3, 1, 0, 0), (172, .ifCond .ne 18, 3, 0, 0), (175, .aload_n 0, 1, 0, 0), (176, .iconst 1, 1, 0, 0), (177, .invokevirtual 164, 3, 102, 0), (180, .aload_n 0, 1, 0, 0), (181, .iconst 4, 1, 0, 0), (182, .iconst (-1), 1, 0, 0), (183, .iconst 0, 1, 0, 0), (184, .invokevirtual 217, 3, 135, 0), (187, .goto 98, 3, 0, 0), (190, .iload_n 3, 1, 0, 0), (191, .iconst 2, 1, 0, 0), (192, .if_icmp .ne 12, 3, 0, 0), (195, .aload_n 0, 1, 0, 0), (196, .iload 4, 2, 0, 0), (198, .invokevirtual 223, 3, 136, 0), (201, .goto 84, 3, 0, 0), (204, .iload_n 3, 1, 0, 0), (205, .iconst 1, 1, 0, 0), (206, .if_icmp .ne 30, 3, 0, 0), (209, .aload_n 0, 1, 0, 0), (210, .iload 4, 2, 0, 0), (212, .invokevirtual 229, 3, 133, 0), (215, .istore 5, 2, 0, 0), (217, .aload_n 0, 1, 0, 0), (218, .getfield 196, 3, 8, 23), (221, .ifCond .ne 12, 3, 0, 0), (224, .aload_n 0, 1, 0, 0), (225, .iconst 2, 1, 0, 0), (226, .iload 4, 2, 0, 0), (228, .iload 5, 2, 0, 0), (230, .invokevirtual 217, 3, 135, 0), (233, .goto 52, 3, 0, 0), (236, .bipush 8, 2, 0, 0), (238, .aload_n 0, 1, 0, 0), (239, .getfield 49, 3, 8, 14), (242, .iconst 1, 1, 0, 0), (243, .iaload, 1, 0, 0), (244, .iadd, 1, 0, 0), (245, .iconst 1, 1, 0, 0), (246, .isub, 1, 0, 0), (247, .istore 5, 2, 0, 0), (249, .aload_n 0, 1, 0, 0), (250, .aload_n 0, 1, 0, 0), (251, .getfield 52, 3, 8, 15), (254, .iload 5, 2, 0, 0), (256, .iaload, 1, 0, 0), (257, .invokevirtual 229, 3, 133, 0), (260, .istore 6, 2, 0, 0), (262, .aload_n 0, 1, 0, 0), (263, .getfield 55, 3, 8, 16), (266, .iload 5, 2, 0, 0), (268, .iconst 1, 1, 0, 0), (269, .bastore, 1, 0, 0), (270, .aload_n 0, 1, 0, 0), (271, .getfield 196, 3, 8, 23), (274, .ifCond .ne 11, 3, 0, 0), (277, .aload_n 0, 1, 0, 0), (278, .iconst 3, 1, 0, 0), (279, .iconst (-1), 1, 0, 0), (280, .iload 6, 2, 0, 0), (282, .invokevirtual 217, 3, 135, 0), (285, .return_, 1, 0, 0)]
def ax_t138 : List ax_I := [(0, .aload_n 0, 1, 0, 0), (1, .iconst 1, 1, 0, 0), (2, .invokevirtual 171, 3, 86, 0), (5, .aload_n 0, 1, 0, 0), (6, .iconst 0, 1, 0, 0), (7, .putfield 199, 3, 8, 22), (10, .aload_n 0, 1, 0, 0), (11, .iconst 0, 1, 0, 0), (12, .putfield 196, 3, 8, 23), (15, .aload_n 0, 1, 0, 0), (16, .iconst 0, 1, 0, 0), (17, .putfield 214, 3, 8, 24), (20, .aload_n 0, 1, 0, 0), (21, .getfield 59, 3, 8, 17), (24, .iconst 1, 1, 0, 0), (25, .baload, 1, 0, 0), (26, .ifCond .ne 27, 3, 0, 0), (29, .aload_n 0, 1, 0, 0), (30, .getfield 196, 3, 8, 23), (33, .ifCond .ne 20, 3, 0, 0), (36, .aload_n 0, 1, 0, 0), (37, .getfield 214, 3, 8, 24), (40, .sipush 201, 3, 0, 0), (43, .if_icmp .ge 10, 3, 0, 0), (46, .aload_n 0, 1, 0, 0), (47, .invokevirtual 232, 3, 137, 0), (50, .goto (-30), 3, 0, 0), (53, .aload_n 0, 1, 0, 0), (54, .aload_n 0, 1, 0, 0), (55, .getfield 196, 3, 8, 23), (58, .ifCond .eq 7, 3, 0, 0), (61, .iconst 1, 1, 0, 0), (62, .goto 18, 3, 0, 0), (65, .aload_n 0, 1, 0, 0), (66, .getfield 214, 3, 8, 24), (69, .sipush 200, 3, 0, 0), (72, .if_icmp .le 7, 3, 0, 0), (75, .iconst 2, 1, 0, 0), (76, .goto 4, 3, 0, 0), (79, .iconst 0, 1, 0, 0), (80, .putfield 80, 3, 8, 0), (83, .aload_n 0, 1, 0, 0), (84, .aload_n 0, 1, 0, 0), (85, .getfield 80, 3, 8, 0), (88, .ifCond .le 7, 3, 0, 0), (91, .iconst 0, 1, 0, 0), (92, .goto 7, 3, 0, 0), (95, .aload_n 0, 1, 0, 0), (96, .getfield 214, 3, 8, 24), (99, .putfield 214, 3, 8, 24), (102, .aload_n 0, 1, 0, 0), (103, .getfield 214, 3, 8, 24), (106, .ireturn, 1, 0, 0)]
def ax_t139 : List ax_I := [(0, .aload_n 0, 1, 0, 0), (1, .iconst 0, 1, 0, 0), (2, .putfield 80, 3, 8, 0), (5, .aload_n 0, 1, 0, 0), (6, .getfield 199, 3, 8, 22), (9, .ireturn, 1, 0, 0)]
def ax_t140 : List ax_I := [(0, .aload_n 0, 1, 0, 0), (1, .iload_n 1, 1, 0, 0), (2, .ifCond .lt 11, 3, 0, 0), (5, .iload_n 1, 1, 0, 0), (6, .aload_n 0, 1, 0, 0), (7, .getfield 214, 3, 8, 24), (10, .if_icmp .lt 7, 3, 0, 0), (13, .iconst 1, 1, 0, 0), (14, .goto 17, 3, 0, 0), (17, .iload_n 2, 1, 0, 0), (18, .ifCond .lt 8, 3, 0, 0), (21, .iload_n 2, 1, 0, 0), (22, .iconst 3, 1, 0, 0), (23, .if_icmp .le 7, 3, 0, 0), (26, .iconst 2, 1, 0, 0), (27, .goto 4, 3, 0, 0), (30, .iconst 0, 1, 0, 0), (31, .putfield 80, 3, 8, 0), (34, .aload_n 0, 1, 0, 0), (35, .getfield 80, 3, 8, 0), (38, .ifCond .le 5, 3, 0, 0), (41, .iconst 0, 1, 0, 0), (42, .ireturn, 1, 0, 0), (43, .iload_n 2, 1, 0, 0), (44, .ifCond .ne 12, 3, 0, 0), (47, .aload_n 0, 1, 0, 0), (48, .getfield 68, 3, 8, 25), (51, .iload_n 1, 1, 0, 0), (52, .iaload, 1, 0, 0), (53, .goto 37, 3, 0, 0), (56, .iload_n 2, 1, 0, 0), (57, .iconst 1, 1, 0, 0), (58, .if_icmp .ne 12, 3, 0, 0), (61, .aload_n 0, 1, 0, 0), (62, .getfield 71, 3, 8, 26), (65, .iload_n 1, 1, 0, 0), (66, .iaload, 1, 0, 0), (67, .goto 23, 3, 0, 0), (70, .iload_n 2, 1, 0, 0), (71, .iconst 2, 1, 0, 0), (72, .if_icmp .ne 12, 3, 0, 0), (75, .aload_n 0, 1, 0, 0), (76, .getfield 74, 3, 8, 27), (79, .iload_n 1, 1, 0, 0), (80, .iaload, 1, 0, 0), (81, .goto 9, 3, 0, 0), (84, .aload_n 0, 1, 0, 0), (85, .getfield 77, 3, 8, 28), (88, .iload_n 1, 1, 0, 0), (89, .iaload, 1, 0, 0), (90, .ireturn, 1, 0, 0)]
def ax_t141 : List ax_I := [(0, .aload_n 0, 1, 0, 0), (1, .invokevirtual 174, 3, 116, 0), (4, .aload_n 0, 1, 0, 0), (5, .aload_n 0, 1, 0, 0), (6, .getfield 214, 3, 8, 24), (9, .ifCond .ne 7, 3, 0, 0), (12, .iconst 1, 1, 0, 0), (13, .goto 4, 3, 0, 0), (16, .iconst 0, 1, 0, 0), (17, .putfield 80, 3, 8, 0), (20, .aload_n 0, 1, 0, 0), (21, .getfield 80, 3, 8, 0), (24, .ifCond .le 5, 3, 0, 0), (27, .iconst 0, 1, 0, 0), (28, .ireturn, 1, 0, 0), (29, .aload_n 0, 1, 0, 0), (30, .iconst 0, 1, 0, 0), (31, .invokevirtual 171, 3, 86, 0), (34, .aload_n 0, 1, 0, 0), (35, .iconst 0, 1, 0, 0), (36, .putfield 92, 3, 8, 19), (39, .iconst 0, 1, 0, 0), (40, .istore_n 1, 1, 0, 0), (41, .iconst 0, 1, 0, 0), (42, .istore_n 2, 1, 0, 0), (43, .iload_n 2, 1, 0, 0), (44, .aload_n 0, 1, 0, 0), (45, .getfield 214, 3, 8, 24), (48, .if_icmp .ge 97, 3, 0, 0), (51, .iload_n 1, 1, 0, 0), (52, .ifCond .ne 93, 3, 0, 0), (55, .aload_n 0, 1, 0, 0), (56, .getfield 68, 3, 8, 25), (59, .iload_n 2, 1, 0, 0), (60, .iaload, 1, 0, 0), (61, .istore_n 3, 1, 0, 0), (62, .iload_n 3, 1, 0, 0), (63, .iconst 1, 1, 0, 0), (64, .if_icmp .ne 22, 3, 0, 0), (67, .aload_n 0, 1, 0, 0), (68, .aload_n 0, 1, 0, 0), (69, .getfield 71, 3, 8, 26), (72, .iload_n 2, 1, 0, 0), (73, .iaload, 1, 0, 0), (74, .aload_n 0, 1, 0, 0), (75, .getfield 74, 3, 8, 27), (78, .iload_n 2, 1, 0, 0), (79, .iaload, 1, 0, 0), (80, .invokevirtual 180, 3, 112, 0), (83, .goto 55, 3, 0, 0), (86, .iload_n 3, 1, 0, 0), (87, .iconst 2, 1, 0, 0), (88, .if_icmp .ne 28, 3, 0, 0), (91, .aload_n 0, 1, 0, 0), (92, .aload_n 0, 1, 0, 0), (93, .getfield 71, 3, 8, 26), (96, .iload_n 2, 1, 0, 0), (97, .iaload, 1, 0, 0), (98, .aload_n 0, 1, 0, 0), (99, .getfield 74, 3, 8, 27), (102, .iload_n 2, 1, 0, 0), (103, .iaload, 1, 0, 0), (104, .aload_n 0, 1, 0, 0), (105, .getfield 77, 3, 8, 28), (108, .iload_n 2, 1, 0, 0), (109, .iaload, 1, 0, 0), (110, .invokevirtual 183, 3, 113, 0), (113, .goto 25, 3, 0, 0), (116, .iload_n 3, 1, 0, 0), (117, .iconst 3, 1, 0, 0), (118, .if_icmp .ne 16, 3, 0, 0), (121, .aload_n 0, 1, 0, 0), (122, .aload_n 0, 1, 0, 0), (123, .getfield 77, 3, 8, 28), (126, .iload_n 2, 1, 0, 0), (127, .iaload, 1, 0, 0), (128, .invokevirtual 186, 3, 114, 0), (131, .goto 7, 3, 0, 0), (134, .aload_n 0, 1, 0, 0), (135, .invokevirtual 189, 3, 115, 0), (138, .istore_n 1, 1, 0, 0), (139, .iinc 2 1, 3, 0, 0), (142, .goto (-99), 3, 0, 0), (145, .iload_n 1, 1, 0, 0), (146, .ifCond .le 20, 3, 0, 0), (149, .aload_n 0, 1, 0, 0), (150, .iconst 0, 1, 0, 0), (151, .invokevirtual 171, 3, 86, 0), (154, .aload_n 0, 1, 0, 0), (155, .iconst 0, 1, 0, 0), (156, .putfield 92, 3, 8, 19), (159, .aload_n 0, 1, 0, 0), (160, .iconst 2, 1, 0, 0), (161, .putfield 80, 3, 8, 0), (164, .iconst 0, 1, 0, 0), (165, .ireturn, 1, 0, 0), (166, .aload_n 0, 1, 0, 0), (167, .getfield 92, 3, 8, 19), (170, .ireturn, 1, 0, 0)]
/-- LearnedCodes$Bits.isFull()Z -/
def ax_m0 : ax_M := (yX0_isFull, cX0_isFull, 1, (some .boolean), 1, 1, 0, 0, ax_t0)
/-- LearnedCodes$Bits.has(I)Z -/
def ax_m1 : ax_M := (yX0_has, cX0_has, 2, (some .boolean), 1, 2, 0, 0, ax_t1)
/-- LearnedCodes$Bits.append(II)V -/
def ax_m2 : ax_M := (yX0_append, cX0_append, 4, none, 1, 3, 0, 0, ax_t2)
/-- LearnedCodes$Bits.become(LLearnedCodes$Bits;)V -/
def ax_m3 : ax_M := (yX0_become, cX0_become, 3, none, 1, 2, 0, 0, ax_t3)
/-- LearnedCodes$Events.forget()V -/
def ax_m4 : ax_M := (yX1_forget, cX1_forget, 1, none, 1, 1, 1, 0, ax_t4)
/-- LearnedCodes$Events.add(IIII)V -/
def ax_m5 : ax_M := (yX1_add, cX1_add, 5, none, 1, 5, 1, 0, ax_t5)
/-- LearnedCodes$Events.part(II)I -/
def ax_m6 : ax_M := (yX1_part, cX1_part, 4, (some .int), 1, 3, 1, 0, ax_t6)
/-- LearnedCodes$Grammars.begin()V -/
def ax_m7 : ax_M := (yX2_begin, cX2_begin, 1, none, 2, 1, 2, 0, ax_t7)
/-- LearnedCodes$Grammars.openElements()I -/
def ax_m8 : ax_M := (yX2_openElements, cX2_openElements, 1, (some .int), 1, 1, 2, 0, ax_t8)
/-- LearnedCodes$Grammars.hasBegun()Z -/
def ax_m9 : ax_M := (yX2_hasBegun, cX2_hasBegun, 1, (some .boolean), 1, 1, 2, 0, ax_t9)
/-- LearnedCodes$Grammars.isWhole()Z -/
def ax_m10 : ax_M := (yX2_isWhole, cX2_isWhole, 1, (some .boolean), 1, 1, 2, 0, ax_t10)
/-- LearnedCodes$Grammars.isDeepest()Z -/
def ax_m11 : ax_M := (yX2_isDeepest, cX2_isDeepest, 1, (some .boolean), 1, 1, 2, 0, ax_t11)
/-- LearnedCodes$Grammars.name()I -/
def ax_m12 : ax_M := (yX2_name, cX2_name, 1, (some .int), 1, 1, 2, 0, ax_t12)
/-- LearnedCodes$Grammars.isInTag()Z -/
def ax_m13 : ax_M := (yX2_isInTag, cX2_isInTag, 1, (some .boolean), 1, 1, 2, 0, ax_t13)
/-- LearnedCodes$Grammars.fill()V -/
def ax_m14 : ax_M := (yX2_fill, cX2_fill, 1, none, 1, 1, 2, 0, ax_t14)
/-- LearnedCodes$Grammars.enter(I)V -/
def ax_m15 : ax_M := (yX2_enter, cX2_enter, 2, none, 2, 2, 2, 0, ax_t15)
/-- LearnedCodes$Grammars.leave()V -/
def ax_m16 : ax_M := (yX2_leave, cX2_leave, 1, none, 1, 1, 2, 0, ax_t16)
/-- LearnedCodes$Grammars.learned()I -/
def ax_m17 : ax_M := (yX2_learned, cX2_learned, 1, (some .int), 2, 1, 2, 0, ax_t17)
/-- LearnedCodes$Grammars.choices()I -/
def ax_m18 : ax_M := (yX2_choices, cX2_choices, 1, (some .int), 3, 1, 2, 0, ax_t18)
/-- LearnedCodes$Grammars.codeAt(I)I -/
def ax_m19 : ax_M := (yX2_codeAt, cX2_codeAt, 2, (some .int), 3, 2, 2, 0, ax_t19)
/-- LearnedCodes$Grammars.findCode(I)I -/
def ax_m20 : ax_M := (yX2_findCode, cX2_findCode, 2, (some .int), 3, 2, 2, 0, ax_t20)
/-- LearnedCodes$Grammars.learn(I)V -/
def ax_m21 : ax_M := (yX2_learn, cX2_learn, 2, none, 4, 2, 2, 0, ax_t21)
/-- LearnedCodes$Reader.begin()V -/
def ax_m22 : ax_M := (yX3_begin, cX3_begin, 1, none, 3, 1, 3, 0, ax_t22)
/-- LearnedCodes$Reader.isWhole()Z -/
def ax_m23 : ax_M := (yX3_isWhole, cX3_isWhole, 1, (some .boolean), 2, 1, 3, 0, ax_t23)
/-- LearnedCodes$Reader.readEvent()Z -/
def ax_m24 : ax_M := (yX3_readEvent, cX3_readEvent, 2, (some .boolean), 7, 1, 3, 0, ax_t24)
/-- LearnedCodes$Reader.finishOpen(I)Z -/
def ax_m25 : ax_M := (yX3_finishOpen, cX3_finishOpen, 2, (some .boolean), 4, 2, 3, 0, ax_t25)
/-- LearnedCodes$Reader.finishAttribute(I)Z -/
def ax_m26 : ax_M := (yX3_finishAttribute, cX3_finishAttribute, 3, (some .boolean), 5, 2, 3, 0, ax_t26)
/-- LearnedCodes$Reader.finishText()Z -/
def ax_m27 : ax_M := (yX3_finishText, cX3_finishText, 2, (some .boolean), 5, 1, 3, 0, ax_t27)
/-- LearnedCodes$Reader.takeFirst()I -/
def ax_m28 : ax_M := (yX3_takeFirst, cX3_takeFirst, 2, (some .int), 6, 1, 3, 0, ax_t28)
/-- LearnedCodes$Reader.takeCode()I -/
def ax_m29 : ax_M := (yX3_takeCode, cX3_takeCode, 4, (some .int), 6, 1, 3, 0, ax_t29)
/-- LearnedCodes$Reader.takeTagKind()I -/
def ax_m30 : ax_M := (yX3_takeTagKind, cX3_takeTagKind, 1, (some .int), 3, 1, 3, 0, ax_t30)
/-- LearnedCodes$Reader.takeContentKind()I -/
def ax_m31 : ax_M := (yX3_takeContentKind, cX3_takeContentKind, 1, (some .int), 3, 1, 3, 0, ax_t31)
/-- LearnedCodes$Reader.takeName()I -/
def ax_m32 : ax_M := (yX3_takeName, cX3_takeName, 3, (some .int), 5, 1, 3, 0, ax_t32)
/-- LearnedCodes$Reader.takeSpace()I -/
def ax_m33 : ax_M := (yX3_takeSpace, cX3_takeSpace, 3, (some .int), 4, 1, 3, 0, ax_t33)
/-- LearnedCodes$Reader.takeLocal(I)I -/
def ax_m34 : ax_M := (yX3_takeLocal, cX3_takeLocal, 4, (some .int), 4, 2, 3, 0, ax_t34)
/-- LearnedCodes$Reader.takeValue(I)I -/
def ax_m35 : ax_M := (yX3_takeValue, cX3_takeValue, 4, (some .int), 4, 2, 3, 0, ax_t35)
/-- LearnedCodes$Reader.takeFrom(LLearnedCodes$Rows;I)I -/
def ax_m36 : ax_M := (yX3_takeFrom, cX3_takeFrom, 3, (some .int), 3, 3, 3, 0, ax_t36)
/-- LearnedCodes$Reader.takeLetters(I)I -/
def ax_m37 : ax_M := (yX3_takeLetters, cX3_takeLetters, 6, (some .int), 3, 2, 3, 0, ax_t37)
/-- LearnedCodes$Reader.takeNumber()I -/
def ax_m38 : ax_M := (yX3_takeNumber, cX3_takeNumber, 5, (some .int), 2, 1, 3, 0, ax_t38)
/-- LearnedCodes$Reader.takePlace(I)I -/
def ax_m39 : ax_M := (yX3_takePlace, cX3_takePlace, 3, (some .int), 2, 2, 3, 0, ax_t39)
/-- LearnedCodes$Reader.takeBits(I)I -/
def ax_m40 : ax_M := (yX3_takeBits, cX3_takeBits, 4, (some .int), 1, 2, 3, 0, ax_t40)
/-- LearnedCodes$Rows.forget()V -/
def ax_m41 : ax_M := (yX4_forget, cX4_forget, 2, none, 1, 1, 4, 0, ax_t41)
/-- LearnedCodes$Rows.count(I)I -/
def ax_m42 : ax_M := (yX4_count, cX4_count, 2, (some .int), 1, 2, 4, 0, ax_t42)
/-- LearnedCodes$Rows.isFull(I)Z -/
def ax_m43 : ax_M := (yX4_isFull, cX4_isFull, 2, (some .boolean), 2, 2, 4, 0, ax_t43)
/-- LearnedCodes$Rows.get(II)I -/
def ax_m44 : ax_M := (yX4_get, cX4_get, 3, (some .int), 2, 3, 4, 0, ax_t44)
/-- LearnedCodes$Rows.find(II)I -/
def ax_m45 : ax_M := (yX4_find, cX4_find, 5, (some .int), 2, 3, 4, 0, ax_t45)
/-- LearnedCodes$Rows.addLast(II)V -/
def ax_m46 : ax_M := (yX4_addLast, cX4_addLast, 3, none, 1, 3, 4, 0, ax_t46)
/-- LearnedCodes$Rows.addFirst(II)V -/
def ax_m47 : ax_M := (yX4_addFirst, cX4_addFirst, 4, none, 1, 3, 4, 0, ax_t47)
/-- LearnedCodes$Tables.begin()V -/
def ax_m48 : ax_M := (yX5_begin, cX5_begin, 1, none, 2, 1, 5, 0, ax_t48)
/-- LearnedCodes$Tables.spaceOf(I)I -/
def ax_m49 : ax_M := (yX5_spaceOf, cX5_spaceOf, 2, (some .int), 3, 2, 5, 0, ax_t49)
/-- LearnedCodes$Tables.localOf(I)I -/
def ax_m50 : ax_M := (yX5_localOf, cX5_localOf, 2, (some .int), 3, 2, 5, 0, ax_t50)
/-- LearnedCodes$Tables.findName(II)I -/
def ax_m51 : ax_M := (yX5_findName, cX5_findName, 5, (some .int), 3, 3, 5, 0, ax_t51)
/-- LearnedCodes$Tables.addSpace(I)I -/
def ax_m52 : ax_M := (yX5_addSpace, cX5_addSpace, 2, (some .int), 3, 2, 5, 0, ax_t52)
/-- LearnedCodes$Tables.findOrAddName(II)I -/
def ax_m53 : ax_M := (yX5_findOrAddName, cX5_findOrAddName, 4, (some .int), 4, 3, 5, 0, ax_t53)
/-- LearnedCodes$Tables.hasRoomForName(II)Z -/
def ax_m54 : ax_M := (yX5_hasRoomForName, cX5_hasRoomForName, 4, (some .boolean), 4, 3, 5, 0, ax_t54)
/-- LearnedCodes$Tables.addValue(II)V -/
def ax_m55 : ax_M := (yX5_addValue, cX5_addValue, 3, none, 2, 3, 5, 0, ax_t55)
/-- LearnedCodes$Writer.begin()V -/
def ax_m56 : ax_M := (yX6_begin, cX6_begin, 1, none, 3, 1, 6, 0, ax_t56)
/-- LearnedCodes$Writer.isWhole()Z -/
def ax_m57 : ax_M := (yX6_isWhole, cX6_isWhole, 1, (some .boolean), 2, 1, 6, 0, ax_t57)
/-- LearnedCodes$Writer.takesAttributes()Z -/
def ax_m58 : ax_M := (yX6_takesAttributes, cX6_takesAttributes, 1, (some .boolean), 2, 1, 6, 0, ax_t58)
/-- LearnedCodes$Writer.openElements()I -/
def ax_m59 : ax_M := (yX6_openElements, cX6_openElements, 1, (some .int), 2, 1, 6, 0, ax_t59)
/-- LearnedCodes$Writer.writeEvent(IIII)Z -/
def ax_m60 : ax_M := (yX6_writeEvent, cX6_writeEvent, 5, (some .boolean), 7, 5, 6, 0, ax_t60)
/-- LearnedCodes$Writer.hasRoomFor(III)Z -/
def ax_m61 : ax_M := (yX6_hasRoomFor, cX6_hasRoomFor, 4, (some .boolean), 5, 4, 6, 0, ax_t61)
/-- LearnedCodes$Writer.tellClose()V -/
def ax_m62 : ax_M := (yX6_tellClose, cX6_tellClose, 1, none, 6, 1, 6, 0, ax_t62)
/-- LearnedCodes$Writer.tellNamed(III)I -/
def ax_m63 : ax_M := (yX6_tellNamed, cX6_tellNamed, 7, (some .int), 6, 4, 6, 0, ax_t63)
/-- LearnedCodes$Writer.tellNameless(I)V -/
def ax_m64 : ax_M := (yX6_tellNameless, cX6_tellNameless, 4, none, 5, 2, 6, 0, ax_t64)
/-- LearnedCodes$Writer.tellKind(I)V -/
def ax_m65 : ax_M := (yX6_tellKind, cX6_tellKind, 2, none, 4, 2, 6, 0, ax_t65)
/-- LearnedCodes$Writer.tellName(II)I -/
def ax_m66 : ax_M := (yX6_tellName, cX6_tellName, 3, (some .int), 5, 3, 6, 0, ax_t66)
/-- LearnedCodes$Writer.tellSpace(I)I -/
def ax_m67 : ax_M := (yX6_tellSpace, cX6_tellSpace, 4, (some .int), 4, 2, 6, 0, ax_t67)
/-- LearnedCodes$Writer.tellLocal(II)V -/
def ax_m68 : ax_M := (yX6_tellLocal, cX6_tellLocal, 4, none, 4, 3, 6, 0, ax_t68)
/-- LearnedCodes$Writer.tellValue(II)V -/
def ax_m69 : ax_M := (yX6_tellValue, cX6_tellValue, 4, none, 4, 3, 6, 0, ax_t69)
/-- LearnedCodes$Writer.tellLetters(I)V -/
def ax_m70 : ax_M := (yX6_tellLetters, cX6_tellLetters, 4, none, 3, 2, 6, 0, ax_t70)
/-- LearnedCodes$Writer.tellNumber(I)V -/
def ax_m71 : ax_M := (yX6_tellNumber, cX6_tellNumber, 4, none, 2, 2, 6, 0, ax_t71)
/-- LearnedCodes$Writer.tellPlace(II)V -/
def ax_m72 : ax_M := (yX6_tellPlace, cX6_tellPlace, 3, none, 2, 3, 6, 0, ax_t72)
/-- LearnedCodes.clear()V -/
def ax_m73 : ax_M := (yX7_clear, cX7_clear, 1, none, 4, 1, 7, 0, ax_t73)
/-- LearnedCodes.written()I -/
def ax_m74 : ax_M := (yX7_written, cX7_written, 1, (some .int), 1, 1, 7, 0, ax_t74)
/-- LearnedCodes.keep()I -/
def ax_m75 : ax_M := (yX7_keep, cX7_keep, 1, (some .int), 2, 1, 7, 0, ax_t75)
/-- LearnedCodes.taken()I -/
def ax_m76 : ax_M := (yX7_taken, cX7_taken, 1, (some .int), 1, 1, 7, 0, ax_t76)
/-- LearnedCodes.isText(I)Z -/
def ax_m77 : ax_M := (yX7_isText, cX7_isText, 3, (some .boolean), 1, 1, 7, 1, ax_t77)
/-- LearnedCodes.isName(II)Z -/
def ax_m78 : ax_M := (yX7_isName, cX7_isName, 2, (some .boolean), 2, 2, 7, 1, ax_t78)
/-- LearnedCodes.countLetters(I)I -/
def ax_m79 : ax_M := (yX7_countLetters, cX7_countLetters, 3, (some .int), 1, 1, 7, 1, ax_t79)
/-- LearnedCodes.placeBits(I)I -/
def ax_m80 : ax_M := (yX7_placeBits, cX7_placeBits, 2, (some .int), 1, 1, 7, 1, ax_t80)
/-- LearnedCodes.isNamed(I)Z -/
def ax_m81 : ax_M := (yX7_isNamed, cX7_isNamed, 1, (some .boolean), 1, 1, 7, 1, ax_t81)
/-- LearnedCodes.codeOf(II)I -/
def ax_m82 : ax_M := (yX7_codeOf, cX7_codeOf, 2, (some .int), 1, 2, 7, 1, ax_t82)
/-- LearnedCodes.kindOf(I)I -/
def ax_m83 : ax_M := (yX7_kindOf, cX7_kindOf, 1, (some .int), 1, 1, 7, 1, ax_t83)
/-- LearnedCodes.nameOf(I)I -/
def ax_m84 : ax_M := (yX7_nameOf, cX7_nameOf, 1, (some .int), 1, 1, 7, 1, ax_t84)
/-- LearnedCodesModel.thrown()I -/
def ax_m85 : ax_M := (yX8_thrown, cX8_thrown, 1, (some .int), 1, 1, 8, 0, ax_t85)
/-- LearnedCodesModel.begin(I)V -/
def ax_m86 : ax_M := (yX8_begin, cX8_begin, 3, none, 1, 2, 8, 0, ax_t86)
/-- LearnedCodesModel.letters(I)I -/
def ax_m87 : ax_M := (yX8_letters, cX8_letters, 3, (some .int), 1, 1, 8, 1, ax_t87)
/-- LearnedCodesModel.isText(I)Z -/
def ax_m88 : ax_M := (yX8_isText, cX8_isText, 2, (some .boolean), 2, 1, 8, 1, ax_t88)
/-- LearnedCodesModel.findSpace(II)I -/
def ax_m89 : ax_M := (yX8_findSpace, cX8_findSpace, 4, (some .int), 1, 3, 8, 0, ax_t89)
/-- LearnedCodesModel.findLocal(III)I -/
def ax_m90 : ax_M := (yX8_findLocal, cX8_findLocal, 6, (some .int), 1, 4, 8, 0, ax_t90)
/-- LearnedCodesModel.findName(III)I -/
def ax_m91 : ax_M := (yX8_findName, cX8_findName, 5, (some .int), 1, 4, 8, 0, ax_t91)
/-- LearnedCodesModel.newName(III)I -/
def ax_m92 : ax_M := (yX8_newName, cX8_newName, 5, (some .int), 1, 4, 8, 0, ax_t92)
/-- LearnedCodesModel.addSpace(II)V -/
def ax_m93 : ax_M := (yX8_addSpace, cX8_addSpace, 3, none, 1, 3, 8, 0, ax_t93)
/-- LearnedCodesModel.addLocal(III)V -/
def ax_m94 : ax_M := (yX8_addLocal, cX8_addLocal, 5, none, 1, 4, 8, 0, ax_t94)
/-- LearnedCodesModel.addValue(III)V -/
def ax_m95 : ax_M := (yX8_addValue, cX8_addValue, 5, none, 1, 4, 8, 0, ax_t95)
/-- LearnedCodesModel.rowOf(I)I -/
def ax_m96 : ax_M := (yX8_rowOf, cX8_rowOf, 3, (some .int), 1, 2, 8, 0, ax_t96)
/-- LearnedCodesModel.opening(I)I -/
def ax_m97 : ax_M := (yX8_opening, cX8_opening, 1, (some .int), 1, 1, 8, 1, ax_t97)
/-- LearnedCodesModel.attributing(I)I -/
def ax_m98 : ax_M := (yX8_attributing, cX8_attributing, 1, (some .int), 1, 1, 8, 1, ax_t98)
/-- LearnedCodesModel.findCode(II)I -/
def ax_m99 : ax_M := (yX8_findCode, cX8_findCode, 4, (some .int), 1, 3, 8, 0, ax_t99)
/-- LearnedCodesModel.learn(II)V -/
def ax_m100 : ax_M := (yX8_learn, cX8_learn, 4, none, 2, 3, 8, 0, ax_t100)
/-- LearnedCodesModel.enter(II)V -/
def ax_m101 : ax_M := (yX8_enter, cX8_enter, 3, none, 1, 3, 8, 0, ax_t101)
/-- LearnedCodesModel.leave(I)V -/
def ax_m102 : ax_M := (yX8_leave, cX8_leave, 2, none, 1, 2, 8, 0, ax_t102)
/-- LearnedCodesModel.putPlace(II)V -/
def ax_m103 : ax_M := (yX8_putPlace, cX8_putPlace, 5, none, 1, 3, 8, 0, ax_t103)
/-- LearnedCodesModel.putNumber(I)V -/
def ax_m104 : ax_M := (yX8_putNumber, cX8_putNumber, 5, none, 2, 2, 8, 0, ax_t104)
/-- LearnedCodesModel.putLetters(I)V -/
def ax_m105 : ax_M := (yX8_putLetters, cX8_putLetters, 3, none, 3, 2, 8, 0, ax_t105)
/-- LearnedCodesModel.putName(II)I -/
def ax_m106 : ax_M := (yX8_putName, cX8_putName, 6, (some .int), 4, 3, 8, 0, ax_t106)
/-- LearnedCodesModel.putValue(II)V -/
def ax_m107 : ax_M := (yX8_putValue, cX8_putValue, 4, none, 4, 3, 8, 0, ax_t107)
/-- LearnedCodesModel.putCode(II)Z -/
def ax_m108 : ax_M := (yX8_putCode, cX8_putCode, 7, (some .boolean), 2, 3, 8, 0, ax_t108)
/-- LearnedCodesModel.lacks(II)Z -/
def ax_m109 : ax_M := (yX8_lacks, cX8_lacks, 5, (some .boolean), 2, 3, 8, 0, ax_t109)
/-- LearnedCodesModel.isLearned(I)Z -/
def ax_m110 : ax_M := (yX8_isLearned, cX8_isLearned, 2, (some .boolean), 2, 2, 8, 0, ax_t110)
/-- LearnedCodesModel.isName(II)Z -/
def ax_m111 : ax_M := (yX8_isName, cX8_isName, 2, (some .boolean), 3, 2, 8, 1, ax_t111)
/-- LearnedCodesModel.writeOpen(II)I -/
def ax_m112 : ax_M := (yX8_writeOpen, cX8_writeOpen, 6, (some .int), 5, 3, 8, 0, ax_t112)
/-- LearnedCodesModel.writeAttribute(III)I -/
def ax_m113 : ax_M := (yX8_writeAttribute, cX8_writeAttribute, 7, (some .int), 5, 4, 8, 0, ax_t113)
/-- LearnedCodesModel.writeText(I)I -/
def ax_m114 : ax_M := (yX8_writeText, cX8_writeText, 4, (some .int), 5, 2, 8, 0, ax_t114)
/-- LearnedCodesModel.writeClose()I -/
def ax_m115 : ax_M := (yX8_writeClose, cX8_writeClose, 2, (some .int), 3, 1, 8, 0, ax_t115)
/-- LearnedCodesModel.ready()V -/
def ax_m116 : ax_M := (yX8_ready, cX8_ready, 1, none, 2, 1, 8, 0, ax_t116)
/-- LearnedCodesModel.open(II)V -/
def ax_m117 : ax_M := (yX8_open, cX8_open, 3, none, 6, 3, 8, 0, ax_t117)
/-- LearnedCodesModel.attribute(III)V -/
def ax_m118 : ax_M := (yX8_attribute, cX8_attribute, 4, none, 6, 4, 8, 0, ax_t118)
/-- LearnedCodesModel.text(I)V -/
def ax_m119 : ax_M := (yX8_text, cX8_text, 2, none, 6, 2, 8, 0, ax_t119)
/-- LearnedCodesModel.close()I -/
def ax_m120 : ax_M := (yX8_close, cX8_close, 2, (some .int), 4, 1, 8, 0, ax_t120)
/-- LearnedCodesModel.clear()V -/
def ax_m121 : ax_M := (yX8_clear, cX8_clear, 1, none, 3, 1, 8, 0, ax_t121)
/-- LearnedCodesModel.written()I -/
def ax_m122 : ax_M := (yX8_written, cX8_written, 1, (some .int), 1, 1, 8, 0, ax_t122)
/-- LearnedCodesModel.keep()I -/
def ax_m123 : ax_M := (yX8_keep, cX8_keep, 2, (some .int), 1, 1, 8, 0, ax_t123)
/-- LearnedCodesModel.push(Z)I -/
def ax_m124 : ax_M := (yX8_push, cX8_push, 2, (some .int), 1, 2, 8, 0, ax_t124)
/-- LearnedCodesModel.bit(I)I -/
def ax_m125 : ax_M := (yX8_bit, cX8_bit, 2, (some .int), 1, 2, 8, 0, ax_t125)
/-- LearnedCodesModel.flip(I)V -/
def ax_m126 : ax_M := (yX8_flip, cX8_flip, 2, none, 1, 2, 8, 0, ax_t126)
/-- LearnedCodesModel.cut(I)V -/
def ax_m127 : ax_M := (yX8_cut, cX8_cut, 2, none, 1, 2, 8, 0, ax_t127)
/-- LearnedCodesModel.takeBit()I -/
def ax_m128 : ax_M := (yX8_takeBit, cX8_takeBit, 1, (some .int), 1, 1, 8, 0, ax_t128)
/-- LearnedCodesModel.takePlace(I)I -/
def ax_m129 : ax_M := (yX8_takePlace, cX8_takePlace, 4, (some .int), 2, 2, 8, 0, ax_t129)
/-- LearnedCodesModel.takeNumber()I -/
def ax_m130 : ax_M := (yX8_takeNumber, cX8_takeNumber, 4, (some .int), 3, 1, 8, 0, ax_t130)
/-- LearnedCodesModel.takeLetters(I)I -/
def ax_m131 : ax_M := (yX8_takeLetters, cX8_takeLetters, 6, (some .int), 4, 2, 8, 0, ax_t131)
/-- LearnedCodesModel.takeName()I -/
def ax_m132 : ax_M := (yX8_takeName, cX8_takeName, 7, (some .int), 5, 1, 8, 0, ax_t132)
/-- LearnedCodesModel.takeValue(I)I -/
def ax_m133 : ax_M := (yX8_takeValue, cX8_takeValue, 4, (some .int), 5, 2, 8, 0, ax_t133)
/-- LearnedCodesModel.takeCode(I)I -/
def ax_m134 : ax_M := (yX8_takeCode, cX8_takeCode, 5, (some .int), 3, 2, 8, 0, ax_t134)
/-- LearnedCodesModel.note(III)V -/
def ax_m135 : ax_M := (yX8_note, cX8_note, 4, none, 1, 4, 8, 0, ax_t135)
/-- LearnedCodesModel.takeOpen(I)V -/
def ax_m136 : ax_M := (yX8_takeOpen, cX8_takeOpen, 2, none, 2, 2, 8, 0, ax_t136)
/-- LearnedCodesModel.takeEvent()V -/
def ax_m137 : ax_M := (yX8_takeEvent, cX8_takeEvent, 7, none, 6, 1, 8, 0, ax_t137)
/-- LearnedCodesModel.read()I -/
def ax_m138 : ax_M := (yX8_read, cX8_read, 1, (some .int), 7, 1, 8, 0, ax_t138)
/-- LearnedCodesModel.taken()I -/
def ax_m139 : ax_M := (yX8_taken, cX8_taken, 1, (some .int), 1, 1, 8, 0, ax_t139)
/-- LearnedCodesModel.event(II)I -/
def ax_m140 : ax_M := (yX8_event, cX8_event, 3, (some .int), 1, 3, 8, 0, ax_t140)
/-- LearnedCodesModel.again()I -/
def ax_m141 : ax_M := (yX8_again, cX8_again, 4, (some .int), 6, 1, 8, 0, ax_t141)
def ax_Ms : List ax_M := [ax_m0, ax_m1, ax_m2, ax_m3, ax_m4, ax_m5, ax_m6, ax_m7, ax_m8, ax_m9, ax_m10, ax_m11, ax_m12, ax_m13, ax_m14, ax_m15, ax_m16, ax_m17, ax_m18, ax_m19, ax_m20, ax_m21, ax_m22, ax_m23, ax_m24, ax_m25, ax_m26, ax_m27, ax_m28, ax_m29, ax_m30, ax_m31, ax_m32, ax_m33, ax_m34, ax_m35, ax_m36, ax_m37, ax_m38, ax_m39, ax_m40, ax_m41, ax_m42, ax_m43, ax_m44, ax_m45, ax_m46, ax_m47, ax_m48, ax_m49, ax_m50, ax_m51, ax_m52, ax_m53, ax_m54, ax_m55, ax_m56, ax_m57, ax_m58, ax_m59, ax_m60, ax_m61, ax_m62, ax_m63, ax_m64, ax_m65, ax_m66, ax_m67, ax_m68, ax_m69, ax_m70, ax_m71, ax_m72, ax_m73, ax_m74, ax_m75, ax_m76, ax_m77, ax_m78, ax_m79, ax_m80, ax_m81, ax_m82, ax_m83, ax_m84, ax_m85, ax_m86, ax_m87, ax_m88, ax_m89, ax_m90, ax_m91, ax_m92, ax_m93, ax_m94, ax_m95, ax_m96, ax_m97, ax_m98, ax_m99, ax_m100, ax_m101, ax_m102, ax_m103, ax_m104, ax_m105, ax_m106, ax_m107, ax_m108, ax_m109, ax_m110, ax_m111, ax_m112, ax_m113, ax_m114, ax_m115, ax_m116, ax_m117, ax_m118, ax_m119, ax_m120, ax_m121, ax_m122, ax_m123, ax_m124, ax_m125, ax_m126, ax_m127, ax_m128, ax_m129, ax_m130, ax_m131, ax_m132, ax_m133, ax_m134, ax_m135, ax_m136, ax_m137, ax_m138, ax_m139, ax_m140, ax_m141]
def ax_me (k : Nat) : ax_M := ax_Ms.getD k (yX0_isFull, cX0_isFull, 0, none, 0, 0, 0, 0, [])
def ax_TW : List Cond := lw_tbl.filter goodWord
def ax_ws (q : ax_M) : List Cond := .code (ax_y q) (ax_c q) (ax_n q) (ax_r q) :: ax_TW
end
section
def ax_rd (ci : Nat) : vw_C := vwCl.getD ci (RX0, TX0, 2)
/-- the field links that the methods use: own class, entry, class, field; and their places in the tables -/
def ax_F : List (Nat × Nat × Nat × Nat × Nat) := [(0, 15, 0, 1, 105), (0, 9, 0, 0, 102), (1, 16, 1, 1, 221), (1, 11, 1, 0, 220), (2, 14, 2, 0, 174), (2, 20, 2, 1, 175), (2, 34, 2, 4, 178), (2, 38, 2, 5, 179), (2, 23, 2, 2, 176), (2, 27, 2, 3, 177), (3, 39, 3, 4, 238), (3, 21, 3, 1, 234), (3, 28, 3, 2, 236), (3, 35, 3, 3, 237), (3, 150, 5, 0, 140), (3, 174, 5, 1, 144), (3, 188, 5, 2, 147), (3, 191, 5, 3, 149), (3, 12, 3, 0, 232), (3, 203, 0, 1, 108), (3, 206, 0, 0, 104), (4, 16, 4, 1, 130), (4, 20, 4, 2, 131), (4, 11, 4, 0, 129), (5, 14, 5, 0, 139), (5, 20, 5, 1, 142), (5, 23, 5, 2, 145), (5, 26, 5, 3, 148), (5, 29, 5, 4, 151), (5, 32, 5, 5, 152), (6, 12, 6, 0, 194), (6, 32, 0, 1, 106), (6, 21, 6, 1, 196), (6, 28, 6, 2, 197), (6, 134, 5, 0, 141), (6, 158, 5, 1, 143), (6, 164, 5, 2, 146), (6, 167, 5, 3, 150), (7, 10, 7, 0, 272), (7, 78, 6, 0, 195), (7, 82, 0, 1, 107), (7, 19, 7, 1, 273), (7, 88, 3, 0, 233), (7, 136, 3, 4, 239), (8, 80, 8, 0, 847), (8, 7, 8, 1, 848), (8, 13, 8, 2, 849), (8, 16, 8, 3, 850), (8, 22, 8, 5, 852), (8, 37, 8, 10, 857), (8, 49, 8, 14, 861), (8, 59, 8, 17, 864), (8, 19, 8, 4, 851), (8, 25, 8, 6, 853), (8, 28, 8, 7, 854), (8, 31, 8, 8, 855), (8, 43, 8, 12, 859), (8, 34, 8, 9, 856), (8, 40, 8, 11, 858), (8, 52, 8, 15, 862), (8, 55, 8, 16, 863), (8, 46, 8, 13, 860), (8, 62, 8, 18, 865), (8, 92, 8, 19, 866), (8, 167, 8, 29, 876), (8, 65, 8, 20, 867), (8, 193, 8, 21, 868), (8, 196, 8, 23, 870), (8, 199, 8, 22, 869), (8, 68, 8, 25, 872), (8, 214, 8, 24, 871), (8, 71, 8, 26, 873), (8, 74, 8, 27, 874), (8, 77, 8, 28, 875)]
/-- the method links: own class, entry, method, kind of call (0 by the receiver, 1 static in the class, 2 static across the nest), place -/
def ax_L : List (Nat × Nat × Nat × Nat × Nat) := [(2, 31, 41, 0, 271), (2, 42, 14, 0, 545), (2, 45, 13, 0, 464), (2, 49, 12, 0, 468), (2, 53, 42, 0, 481), (2, 57, 17, 0, 477), (2, 60, 44, 0, 724), (2, 64, 45, 0, 472), (2, 67, 20, 0, 536), (2, 70, 47, 0, 537), (3, 43, 4, 0, 694), (3, 46, 48, 0, 698), (3, 49, 7, 0, 699), (3, 50, 10, 0, 817), (3, 54, 9, 0, 704), (3, 57, 29, 0, 705), (3, 61, 28, 0, 767), (3, 64, 83, 2, 771), (3, 68, 84, 2, 774), (3, 71, 25, 0, 777), (3, 75, 26, 0, 795), (3, 78, 27, 0, 804), (3, 81, 16, 0, 810), (3, 84, 5, 0, 791), (3, 88, 11, 0, 781), (3, 91, 15, 0, 782), (3, 95, 49, 0, 783), (3, 98, 50, 0, 787), (3, 101, 35, 0, 799), (3, 104, 14, 0, 808), (3, 107, 12, 0, 809), (3, 110, 32, 0, 736), (3, 113, 82, 2, 726), (3, 117, 18, 0, 709), (3, 120, 39, 0, 710), (3, 123, 17, 0, 719), (3, 126, 19, 0, 720), (3, 129, 13, 0, 725), (3, 132, 30, 0, 727), (3, 135, 31, 0, 731), (3, 138, 81, 2, 735), (3, 141, 21, 0, 766), (3, 144, 33, 0, 740), (3, 147, 34, 0, 754), (3, 154, 44, 0, 762), (3, 159, 53, 0, 765), (3, 162, 42, 0, 744), (3, 165, 38, 0, 745), (3, 168, 37, 0, 749), (3, 171, 52, 0, 753), (3, 177, 36, 0, 758), (3, 181, 43, 0, 763), (3, 184, 46, 0, 764), (3, 194, 55, 0, 803), (3, 197, 40, 0, 715), (3, 200, 80, 2, 714), (4, 24, 42, 0, 439), (5, 35, 41, 0, 259), (5, 38, 46, 0, 263), (5, 41, 44, 0, 435), (5, 45, 42, 0, 431), (5, 49, 43, 0, 440), (5, 53, 51, 0, 427), (5, 56, 45, 0, 444), (6, 36, 48, 0, 255), (6, 39, 7, 0, 267), (6, 40, 10, 0, 388), (6, 44, 13, 0, 497), (6, 47, 8, 0, 614), (6, 51, 61, 0, 412), (6, 55, 9, 0, 448), (6, 58, 63, 0, 452), (6, 62, 66, 0, 498), (6, 66, 15, 0, 541), (6, 70, 69, 0, 549), (6, 74, 64, 0, 557), (6, 77, 14, 0, 561), (6, 80, 12, 0, 562), (6, 83, 62, 0, 563), (6, 86, 16, 0, 568), (6, 89, 11, 0, 416), (6, 92, 81, 2, 420), (6, 96, 54, 0, 423), (6, 100, 17, 0, 567), (6, 103, 18, 0, 473), (6, 106, 72, 0, 482), (6, 109, 51, 0, 456), (6, 112, 82, 2, 457), (6, 115, 20, 0, 460), (6, 119, 65, 0, 493), (6, 122, 21, 0, 532), (6, 125, 67, 0, 502), (6, 128, 68, 0, 523), (6, 131, 53, 0, 528), (6, 138, 42, 0, 506), (6, 143, 45, 0, 507), (6, 146, 79, 2, 508), (6, 149, 71, 0, 511), (6, 152, 70, 0, 515), (6, 155, 52, 0, 519), (6, 161, 46, 0, 527), (6, 170, 55, 0, 553), (6, 173, 2, 0, 489), (6, 176, 80, 2, 486), (7, 23, 56, 0, 251), (7, 91, 3, 0, 291), (7, 55, 77, 1, 312), (8, 84, 87, 1, 960), (8, 88, 99, 0, 982), (8, 95, 103, 0, 1002), (8, 99, 104, 0, 1010), (8, 103, 89, 0, 990), (8, 106, 105, 0, 1014), (8, 109, 93, 0, 1018), (8, 112, 90, 0, 994), (8, 116, 94, 0, 1022), (8, 120, 91, 0, 967), (8, 123, 92, 0, 1026), (8, 126, 95, 0, 1053), (8, 129, 96, 0, 978), (8, 132, 88, 1, 957), (8, 136, 97, 1, 971), (8, 139, 110, 0, 974), (8, 142, 109, 0, 986), (8, 146, 108, 0, 998), (8, 149, 106, 0, 1006), (8, 152, 100, 0, 1030), (8, 155, 101, 0, 1034), (8, 158, 98, 1, 1046), (8, 161, 107, 0, 1049), (8, 164, 102, 0, 1073), (8, 171, 86, 0, 950), (8, 174, 116, 0, 946), (8, 177, 111, 1, 954), (8, 180, 112, 0, 963), (8, 183, 113, 0, 1042), (8, 186, 114, 0, 1061), (8, 189, 115, 0, 1069), (8, 202, 128, 0, 1121), (8, 205, 129, 0, 1117), (8, 208, 130, 0, 1125), (8, 211, 131, 0, 1129), (8, 217, 135, 0, 1137), (8, 220, 132, 0, 1113), (8, 223, 136, 0, 1133), (8, 226, 134, 0, 1141), (8, 229, 133, 0, 1145), (8, 232, 137, 0, 1109)]
def ax_fok (e : Nat × Nat × Nat × Nat × Nat) : Bool := decide (e.2.2.1 < 9) && decide (e.2.2.2.1 < (ax_rd e.2.2.1).2.2) && decide (lw_tbl[e.2.2.2.2]? = some (Cond.fieldLink (ax_rd e.1).1 e.2.1 ((ax_rd e.2.2.1).2.1 e.2.2.2.1).1 ((ax_rd e.2.2.1).2.1 e.2.2.2.1).2.1 ((ax_rd e.2.2.1).2.1 e.2.2.2.1).2.2.1))
def ax_lok (e : Nat × Nat × Nat × Nat × Nat) : Bool := (match e.2.2.2.1 with
  | 0 => decide (lw_tbl[e.2.2.2.2]? = some (Cond.methodLink (ax_rd e.1).1 e.2.1 (ax_y (ax_me e.2.2.1)))) && decide (ax_z (ax_me e.2.2.1) = 0)
  | 1 => decide (lw_tbl[e.2.2.2.2]? = some (Cond.methodLink (ax_rd e.1).1 e.2.1 (ax_y (ax_me e.2.2.1)))) && decide (ax_z (ax_me e.2.2.1) = 1) && decide (ax_o (ax_me e.2.2.1) = e.1)
  | _ => decide (lw_tbl[e.2.2.2.2]? = some (Cond.methodLinkNest (ax_rd e.1).1 e.2.1 (ax_y (ax_me e.2.2.1)) "LearnedCodes")) && decide (ax_z (ax_me e.2.2.1) = 1)) && decide (e.2.2.1 < ax_Ms.length)
theorem ax_fok_0 : ((ax_F.drop 0).take 20).all ax_fok = true := by decide +kernel
theorem ax_fok_1 : ((ax_F.drop 20).take 20).all ax_fok = true := by decide +kernel
theorem ax_fok_2 : ((ax_F.drop 40).take 20).all ax_fok = true := by decide +kernel
theorem ax_fok_3 : ((ax_F.drop 60).take 20).all ax_fok = true := by decide +kernel
theorem ax_Fok : ∀ e ∈ ax_F, ax_fok e = true := by
  intro e he
  obtain ⟨k, hk⟩ := List.getElem?_of_mem he
  have hl : k < 74 := (List.getElem?_eq_some_iff.mp hk).1
  have key : ∀ c, c = k / 20 → ((ax_F.drop (20 * c)).take 20).all ax_fok = true → ax_fok e = true := by
    intro c hc h
    refine List.all_eq_true.mp h e (List.mem_of_getElem? (i := k % 20) ?_)
    rw [List.getElem?_take, if_pos (Nat.mod_lt _ (by decide)), List.getElem?_drop, show 20 * c + k % 20 = k by omega]
    exact hk
  have hc : k / 20 = 0 ∨ k / 20 = 1 ∨ k / 20 = 2 ∨ k / 20 = 3 := by omega
  rcases hc with h | h | h | h
  · exact key 0 h.symm ax_fok_0
  · exact key 1 h.symm ax_fok_1
  · exact key 2 h.symm ax_fok_2
  · exact key 3 h.symm ax_fok_3
theorem ax_lok_0 : ((ax_L.drop 0).take 20).all ax_lok = true := by decide +kernel
theorem ax_lok_1 : ((ax_L.drop 20).take 20).all ax_lok = true := by decide +kernel
theorem ax_lok_2 : ((ax_L.drop 40).take 20).all ax_lok = true := by decide +kernel
theorem ax_lok_3 : ((ax_L.drop 60).take 20).all ax_lok = true := by decide +kernel
theorem ax_lok_4 : ((ax_L.drop 80).take 20).all ax_lok = true := by decide +kernel
theorem ax_lok_5 : ((ax_L.drop 100).take 20).all ax_lok = true := by decide +kernel
theorem ax_lok_6 : ((ax_L.drop 120).take 20).all ax_lok = true := by decide +kernel
theorem ax_lok_7 : ((ax_L.drop 140).take 20).all ax_lok = true := by decide +kernel
theorem ax_Lok : ∀ e ∈ ax_L, ax_lok e = true := by
  intro e he
  obtain ⟨k, hk⟩ := List.getElem?_of_mem he
  have hl : k < 148 := (List.getElem?_eq_some_iff.mp hk).1
  have key : ∀ c, c = k / 20 → ((ax_L.drop (20 * c)).take 20).all ax_lok = true → ax_lok e = true := by
    intro c hc h
    refine List.all_eq_true.mp h e (List.mem_of_getElem? (i := k % 20) ?_)
    rw [List.getElem?_take, if_pos (Nat.mod_lt _ (by decide)), List.getElem?_drop, show 20 * c + k % 20 = k by omega]
    exact hk
  have hc : k / 20 = 0 ∨ k / 20 = 1 ∨ k / 20 = 2 ∨ k / 20 = 3 ∨ k / 20 = 4 ∨ k / 20 = 5 ∨ k / 20 = 6 ∨ k / 20 = 7 := by omega
  rcases hc with h | h | h | h | h | h | h | h
  · exact key 0 h.symm ax_lok_0
  · exact key 1 h.symm ax_lok_1
  · exact key 2 h.symm ax_lok_2
  · exact key 3 h.symm ax_lok_3
  · exact key 4 h.symm ax_lok_4
  · exact key 5 h.symm ax_lok_5
  · exact key 6 h.symm ax_lok_6
  · exact key 7 h.symm ax_lok_7
def ax_ick (q : ax_M) (e : ax_I) : Bool := decide (decode (ax_c q) e.1 = .ok (e.2.1, e.2.2.1)) && (match e.2.1 with
  | .getfield idx => ax_F.any (fun z => decide (z.1 = ax_o q ∧ z.2.1 = idx ∧ z.2.2.1 = e.2.2.2.1 ∧ z.2.2.2.1 = e.2.2.2.2))
  | .putfield idx => ax_F.any (fun z => decide (z.1 = ax_o q ∧ z.2.1 = idx ∧ z.2.2.1 = e.2.2.2.1 ∧ z.2.2.2.1 = e.2.2.2.2)) && !((ax_rd e.2.2.2.1).2.1 e.2.2.2.2).2.2.2
  | .invokevirtual idx => ax_L.any (fun z => decide (z.1 = ax_o q ∧ z.2.1 = idx ∧ z.2.2.1 = e.2.2.2.1 ∧ z.2.2.2.1 = 0)) && decide (ax_v (ax_me e.2.2.2.1) < ax_v q)
  | .invokestatic idx => ax_L.any (fun z => decide (z.1 = ax_o q ∧ z.2.1 = idx ∧ z.2.2.1 = e.2.2.2.1 ∧ z.2.2.2.1 = e.2.2.2.2)) && decide (0 < e.2.2.2.2) && decide (ax_v (ax_me e.2.2.2.1) < ax_v q)
  | _ => true)
/-- of a method: its class, its arguments, its table -/
def ax_mck (q : ax_M) : Bool := plainName (ax_y q).cls && decide ((ax_y q).cls ≠ "java/lang/invoke/MethodHandle") && decide ((ax_y q).cls ≠ "java/lang/invoke/VarHandle") && decide ((ax_rd (ax_o q)).1 = (ax_y q).cls) && decide (ax_o q < 9) && decide (ax_n q ≤ 9) && decide (ax_g q ≤ ax_n q) && decide (0 < ax_v q) && decide ((parseMethodDescriptor (ax_y q).desc).map (fun d => d.parameters.length + 1) = some (ax_g q + ax_z q)) && (ax_b q).all (ax_ick q)
/-- its words: of a static one and of one that has a receiver -/
def ax_wck (q : ax_M) : Prop := if ax_z q = 0 then Cond.instanceMethod (ax_y q) ∈ lw_tbl ∧ Cond.selects (ax_y q).cls (ax_y q) (ax_y q) ∈ lw_tbl else Cond.static (ax_y q) ∈ lw_tbl
theorem ax_k0 : ax_mck ax_m0 = true := by decide +kernel
theorem ax_k1 : ax_mck ax_m1 = true := by decide +kernel
theorem ax_k2 : ax_mck ax_m2 = true := by decide +kernel
theorem ax_k3 : ax_mck ax_m3 = true := by decide +kernel
theorem ax_k4 : ax_mck ax_m4 = true := by decide +kernel
theorem ax_k5 : ax_mck ax_m5 = true := by decide +kernel
theorem ax_k6 : ax_mck ax_m6 = true := by decide +kernel
theorem ax_k7 : ax_mck ax_m7 = true := by decide +kernel
theorem ax_k8 : ax_mck ax_m8 = true := by decide +kernel
theorem ax_k9 : ax_mck ax_m9 = true := by decide +kernel
theorem ax_k10 : ax_mck ax_m10 = true := by decide +kernel
theorem ax_k11 : ax_mck ax_m11 = true := by decide +kernel
theorem ax_k12 : ax_mck ax_m12 = true := by decide +kernel
theorem ax_k13 : ax_mck ax_m13 = true := by decide +kernel
theorem ax_k14 : ax_mck ax_m14 = true := by decide +kernel
theorem ax_k15 : ax_mck ax_m15 = true := by decide +kernel
theorem ax_k16 : ax_mck ax_m16 = true := by decide +kernel
theorem ax_k17 : ax_mck ax_m17 = true := by decide +kernel
theorem ax_k18 : ax_mck ax_m18 = true := by decide +kernel
theorem ax_k19 : ax_mck ax_m19 = true := by decide +kernel
theorem ax_k20 : ax_mck ax_m20 = true := by decide +kernel
theorem ax_k21 : ax_mck ax_m21 = true := by decide +kernel
theorem ax_k22 : ax_mck ax_m22 = true := by decide +kernel
theorem ax_k23 : ax_mck ax_m23 = true := by decide +kernel
theorem ax_k24 : ax_mck ax_m24 = true := by decide +kernel
theorem ax_k25 : ax_mck ax_m25 = true := by decide +kernel
theorem ax_k26 : ax_mck ax_m26 = true := by decide +kernel
theorem ax_k27 : ax_mck ax_m27 = true := by decide +kernel
theorem ax_k28 : ax_mck ax_m28 = true := by decide +kernel
theorem ax_k29 : ax_mck ax_m29 = true := by decide +kernel
theorem ax_k30 : ax_mck ax_m30 = true := by decide +kernel
theorem ax_k31 : ax_mck ax_m31 = true := by decide +kernel
theorem ax_k32 : ax_mck ax_m32 = true := by decide +kernel
theorem ax_k33 : ax_mck ax_m33 = true := by decide +kernel
theorem ax_k34 : ax_mck ax_m34 = true := by decide +kernel
theorem ax_k35 : ax_mck ax_m35 = true := by decide +kernel
theorem ax_k36 : ax_mck ax_m36 = true := by decide +kernel
theorem ax_k37 : ax_mck ax_m37 = true := by decide +kernel
theorem ax_k38 : ax_mck ax_m38 = true := by decide +kernel
theorem ax_k39 : ax_mck ax_m39 = true := by decide +kernel
theorem ax_k40 : ax_mck ax_m40 = true := by decide +kernel
theorem ax_k41 : ax_mck ax_m41 = true := by decide +kernel
theorem ax_k42 : ax_mck ax_m42 = true := by decide +kernel
theorem ax_k43 : ax_mck ax_m43 = true := by decide +kernel
theorem ax_k44 : ax_mck ax_m44 = true := by decide +kernel
theorem ax_k45 : ax_mck ax_m45 = true := by decide +kernel
theorem ax_k46 : ax_mck ax_m46 = true := by decide +kernel
theorem ax_k47 : ax_mck ax_m47 = true := by decide +kernel
theorem ax_k48 : ax_mck ax_m48 = true := by decide +kernel
theorem ax_k49 : ax_mck ax_m49 = true := by decide +kernel
theorem ax_k50 : ax_mck ax_m50 = true := by decide +kernel
theorem ax_k51 : ax_mck ax_m51 = true := by decide +kernel
theorem ax_k52 : ax_mck ax_m52 = true := by decide +kernel
theorem ax_k53 : ax_mck ax_m53 = true := by decide +kernel
theorem ax_k54 : ax_mck ax_m54 = true := by decide +kernel
theorem ax_k55 : ax_mck ax_m55 = true := by decide +kernel
theorem ax_k56 : ax_mck ax_m56 = true := by decide +kernel
theorem ax_k57 : ax_mck ax_m57 = true := by decide +kernel
theorem ax_k58 : ax_mck ax_m58 = true := by decide +kernel
theorem ax_k59 : ax_mck ax_m59 = true := by decide +kernel
theorem ax_k60 : ax_mck ax_m60 = true := by decide +kernel
theorem ax_k61 : ax_mck ax_m61 = true := by decide +kernel
theorem ax_k62 : ax_mck ax_m62 = true := by decide +kernel
theorem ax_k63 : ax_mck ax_m63 = true := by decide +kernel
theorem ax_k64 : ax_mck ax_m64 = true := by decide +kernel
theorem ax_k65 : ax_mck ax_m65 = true := by decide +kernel
theorem ax_k66 : ax_mck ax_m66 = true := by decide +kernel
theorem ax_k67 : ax_mck ax_m67 = true := by decide +kernel
theorem ax_k68 : ax_mck ax_m68 = true := by decide +kernel
theorem ax_k69 : ax_mck ax_m69 = true := by decide +kernel
theorem ax_k70 : ax_mck ax_m70 = true := by decide +kernel
theorem ax_k71 : ax_mck ax_m71 = true := by decide +kernel
theorem ax_k72 : ax_mck ax_m72 = true := by decide +kernel
theorem ax_k73 : ax_mck ax_m73 = true := by decide +kernel
theorem ax_k74 : ax_mck ax_m74 = true := by decide +kernel
theorem ax_k75 : ax_mck ax_m75 = true := by decide +kernel
theorem ax_k76 : ax_mck ax_m76 = true := by decide +kernel
theorem ax_k77 : ax_mck ax_m77 = true := by decide +kernel
theorem ax_k78 : ax_mck ax_m78 = true := by decide +kernel
theorem ax_k79 : ax_mck ax_m79 = true := by decide +kernel
theorem ax_k80 : ax_mck ax_m80 = true := by decide +kernel
theorem ax_k81 : ax_mck ax_m81 = true := by decide +kernel
theorem ax_k82 : ax_mck ax_m82 = true := by decide +kernel
theorem ax_k83 : ax_mck ax_m83 = true := by decide +kernel
theorem ax_k84 : ax_mck ax_m84 = true := by decide +kernel
theorem ax_k85 : ax_mck ax_m85 = true := by decide +kernel
theorem ax_k86 : ax_mck ax_m86 = true := by decide +kernel
theorem ax_k87 : ax_mck ax_m87 = true := by decide +kernel
theorem ax_k88 : ax_mck ax_m88 = true := by decide +kernel
theorem ax_k89 : ax_mck ax_m89 = true := by decide +kernel
theorem ax_k90 : ax_mck ax_m90 = true := by decide +kernel
theorem ax_k91 : ax_mck ax_m91 = true := by decide +kernel
theorem ax_k92 : ax_mck ax_m92 = true := by decide +kernel
theorem ax_k93 : ax_mck ax_m93 = true := by decide +kernel
theorem ax_k94 : ax_mck ax_m94 = true := by decide +kernel
theorem ax_k95 : ax_mck ax_m95 = true := by decide +kernel
theorem ax_k96 : ax_mck ax_m96 = true := by decide +kernel
theorem ax_k97 : ax_mck ax_m97 = true := by decide +kernel
theorem ax_k98 : ax_mck ax_m98 = true := by decide +kernel
theorem ax_k99 : ax_mck ax_m99 = true := by decide +kernel
theorem ax_k100 : ax_mck ax_m100 = true := by decide +kernel
theorem ax_k101 : ax_mck ax_m101 = true := by decide +kernel
theorem ax_k102 : ax_mck ax_m102 = true := by decide +kernel
theorem ax_k103 : ax_mck ax_m103 = true := by decide +kernel
theorem ax_k104 : ax_mck ax_m104 = true := by decide +kernel
theorem ax_k105 : ax_mck ax_m105 = true := by decide +kernel
theorem ax_k106 : ax_mck ax_m106 = true := by decide +kernel
theorem ax_k107 : ax_mck ax_m107 = true := by decide +kernel
theorem ax_k108 : ax_mck ax_m108 = true := by decide +kernel
theorem ax_k109 : ax_mck ax_m109 = true := by decide +kernel
theorem ax_k110 : ax_mck ax_m110 = true := by decide +kernel
theorem ax_k111 : ax_mck ax_m111 = true := by decide +kernel
theorem ax_k112 : ax_mck ax_m112 = true := by decide +kernel
theorem ax_k113 : ax_mck ax_m113 = true := by decide +kernel
theorem ax_k114 : ax_mck ax_m114 = true := by decide +kernel
theorem ax_k115 : ax_mck ax_m115 = true := by decide +kernel
theorem ax_k116 : ax_mck ax_m116 = true := by decide +kernel
theorem ax_k117 : ax_mck ax_m117 = true := by decide +kernel
theorem ax_k118 : ax_mck ax_m118 = true := by decide +kernel
theorem ax_k119 : ax_mck ax_m119 = true := by decide +kernel
theorem ax_k120 : ax_mck ax_m120 = true := by decide +kernel
theorem ax_k121 : ax_mck ax_m121 = true := by decide +kernel
theorem ax_k122 : ax_mck ax_m122 = true := by decide +kernel
theorem ax_k123 : ax_mck ax_m123 = true := by decide +kernel
theorem ax_k124 : ax_mck ax_m124 = true := by decide +kernel
theorem ax_k125 : ax_mck ax_m125 = true := by decide +kernel
theorem ax_k126 : ax_mck ax_m126 = true := by decide +kernel
theorem ax_k127 : ax_mck ax_m127 = true := by decide +kernel
theorem ax_k128 : ax_mck ax_m128 = true := by decide +kernel
theorem ax_k129 : ax_mck ax_m129 = true := by decide +kernel
theorem ax_k130 : ax_mck ax_m130 = true := by decide +kernel
theorem ax_k131 : ax_mck ax_m131 = true := by decide +kernel
theorem ax_k132 : ax_mck ax_m132 = true := by decide +kernel
theorem ax_k133 : ax_mck ax_m133 = true := by decide +kernel
theorem ax_k134 : ax_mck ax_m134 = true := by decide +kernel
theorem ax_k135 : ax_mck ax_m135 = true := by decide +kernel
theorem ax_k136 : ax_mck ax_m136 = true := by decide +kernel
theorem ax_k137 : ax_mck ax_m137 = true := by decide +kernel
theorem ax_k138 : ax_mck ax_m138 = true := by decide +kernel
theorem ax_k139 : ax_mck ax_m139 = true := by decide +kernel
theorem ax_k140 : ax_mck ax_m140 = true := by decide +kernel
theorem ax_k141 : ax_mck ax_m141 = true := by decide +kernel
set_option maxRecDepth 20000 in
theorem ax_p0 : Cond.code (ax_y ax_m0) (ax_c ax_m0) (ax_n ax_m0) (ax_r ax_m0) ∈ lw_tbl := List.mem_of_getElem? (i := 637) rfl
theorem ax_q0 : ax_wck ax_m0 := (⟨List.mem_of_getElem? (i := 635) (by decide +kernel), List.mem_of_getElem? (i := 636) (by decide +kernel)⟩ : Cond.instanceMethod (ax_y ax_m0) ∈ lw_tbl ∧ Cond.selects (ax_y ax_m0).cls (ax_y ax_m0) (ax_y ax_m0) ∈ lw_tbl)
set_option maxRecDepth 20000 in
theorem ax_p1 : Cond.code (ax_y ax_m1) (ax_c ax_m1) (ax_n ax_m1) (ax_r ax_m1) ∈ lw_tbl := List.mem_of_getElem? (i := 651) rfl
theorem ax_q1 : ax_wck ax_m1 := (⟨List.mem_of_getElem? (i := 649) (by decide +kernel), List.mem_of_getElem? (i := 650) (by decide +kernel)⟩ : Cond.instanceMethod (ax_y ax_m1) ∈ lw_tbl ∧ Cond.selects (ax_y ax_m1).cls (ax_y ax_m1) (ax_y ax_m1) ∈ lw_tbl)
set_option maxRecDepth 20000 in
theorem ax_p2 : Cond.code (ax_y ax_m2) (ax_c ax_m2) (ax_n ax_m2) (ax_r ax_m2) ∈ lw_tbl := List.mem_of_getElem? (i := 492) rfl
theorem ax_q2 : ax_wck ax_m2 := (⟨List.mem_of_getElem? (i := 490) (by decide +kernel), List.mem_of_getElem? (i := 491) (by decide +kernel)⟩ : Cond.instanceMethod (ax_y ax_m2) ∈ lw_tbl ∧ Cond.selects (ax_y ax_m2).cls (ax_y ax_m2) (ax_y ax_m2) ∈ lw_tbl)
set_option maxRecDepth 20000 in
theorem ax_p3 : Cond.code (ax_y ax_m3) (ax_c ax_m3) (ax_n ax_m3) (ax_r ax_m3) ∈ lw_tbl := List.mem_of_getElem? (i := 294) rfl
theorem ax_q3 : ax_wck ax_m3 := (⟨List.mem_of_getElem? (i := 292) (by decide +kernel), List.mem_of_getElem? (i := 293) (by decide +kernel)⟩ : Cond.instanceMethod (ax_y ax_m3) ∈ lw_tbl ∧ Cond.selects (ax_y ax_m3).cls (ax_y ax_m3) (ax_y ax_m3) ∈ lw_tbl)
set_option maxRecDepth 20000 in
theorem ax_p4 : Cond.code (ax_y ax_m4) (ax_c ax_m4) (ax_n ax_m4) (ax_r ax_m4) ∈ lw_tbl := List.mem_of_getElem? (i := 697) rfl
theorem ax_q4 : ax_wck ax_m4 := (⟨List.mem_of_getElem? (i := 695) (by decide +kernel), List.mem_of_getElem? (i := 696) (by decide +kernel)⟩ : Cond.instanceMethod (ax_y ax_m4) ∈ lw_tbl ∧ Cond.selects (ax_y ax_m4).cls (ax_y ax_m4) (ax_y ax_m4) ∈ lw_tbl)
set_option maxRecDepth 20000 in
theorem ax_p5 : Cond.code (ax_y ax_m5) (ax_c ax_m5) (ax_n ax_m5) (ax_r ax_m5) ∈ lw_tbl := List.mem_of_getElem? (i := 794) rfl
theorem ax_q5 : ax_wck ax_m5 := (⟨List.mem_of_getElem? (i := 792) (by decide +kernel), List.mem_of_getElem? (i := 793) (by decide +kernel)⟩ : Cond.instanceMethod (ax_y ax_m5) ∈ lw_tbl ∧ Cond.selects (ax_y ax_m5).cls (ax_y ax_m5) (ax_y ax_m5) ∈ lw_tbl)
set_option maxRecDepth 20000 in
theorem ax_p6 : Cond.code (ax_y ax_m6) (ax_c ax_m6) (ax_n ax_m6) (ax_r ax_m6) ∈ lw_tbl := List.mem_of_getElem? (i := 831) rfl
theorem ax_q6 : ax_wck ax_m6 := (⟨List.mem_of_getElem? (i := 829) (by decide +kernel), List.mem_of_getElem? (i := 830) (by decide +kernel)⟩ : Cond.instanceMethod (ax_y ax_m6) ∈ lw_tbl ∧ Cond.selects (ax_y ax_m6).cls (ax_y ax_m6) (ax_y ax_m6) ∈ lw_tbl)
set_option maxRecDepth 20000 in
theorem ax_p7 : Cond.code (ax_y ax_m7) (ax_c ax_m7) (ax_n ax_m7) (ax_r ax_m7) ∈ lw_tbl := List.mem_of_getElem? (i := 270) rfl
theorem ax_q7 : ax_wck ax_m7 := (⟨List.mem_of_getElem? (i := 268) (by decide +kernel), List.mem_of_getElem? (i := 269) (by decide +kernel)⟩ : Cond.instanceMethod (ax_y ax_m7) ∈ lw_tbl ∧ Cond.selects (ax_y ax_m7).cls (ax_y ax_m7) (ax_y ax_m7) ∈ lw_tbl)
set_option maxRecDepth 20000 in
theorem ax_p8 : Cond.code (ax_y ax_m8) (ax_c ax_m8) (ax_n ax_m8) (ax_r ax_m8) ∈ lw_tbl := List.mem_of_getElem? (i := 617) rfl
theorem ax_q8 : ax_wck ax_m8 := (⟨List.mem_of_getElem? (i := 615) (by decide +kernel), List.mem_of_getElem? (i := 616) (by decide +kernel)⟩ : Cond.instanceMethod (ax_y ax_m8) ∈ lw_tbl ∧ Cond.selects (ax_y ax_m8).cls (ax_y ax_m8) (ax_y ax_m8) ∈ lw_tbl)
set_option maxRecDepth 20000 in
theorem ax_p9 : Cond.code (ax_y ax_m9) (ax_c ax_m9) (ax_n ax_m9) (ax_r ax_m9) ∈ lw_tbl := List.mem_of_getElem? (i := 451) rfl
theorem ax_q9 : ax_wck ax_m9 := (⟨List.mem_of_getElem? (i := 449) (by decide +kernel), List.mem_of_getElem? (i := 450) (by decide +kernel)⟩ : Cond.instanceMethod (ax_y ax_m9) ∈ lw_tbl ∧ Cond.selects (ax_y ax_m9).cls (ax_y ax_m9) (ax_y ax_m9) ∈ lw_tbl)
set_option maxRecDepth 20000 in
theorem ax_p10 : Cond.code (ax_y ax_m10) (ax_c ax_m10) (ax_n ax_m10) (ax_r ax_m10) ∈ lw_tbl := List.mem_of_getElem? (i := 391) rfl
theorem ax_q10 : ax_wck ax_m10 := (⟨List.mem_of_getElem? (i := 389) (by decide +kernel), List.mem_of_getElem? (i := 390) (by decide +kernel)⟩ : Cond.instanceMethod (ax_y ax_m10) ∈ lw_tbl ∧ Cond.selects (ax_y ax_m10).cls (ax_y ax_m10) (ax_y ax_m10) ∈ lw_tbl)
set_option maxRecDepth 20000 in
theorem ax_p11 : Cond.code (ax_y ax_m11) (ax_c ax_m11) (ax_n ax_m11) (ax_r ax_m11) ∈ lw_tbl := List.mem_of_getElem? (i := 419) rfl
theorem ax_q11 : ax_wck ax_m11 := (⟨List.mem_of_getElem? (i := 417) (by decide +kernel), List.mem_of_getElem? (i := 418) (by decide +kernel)⟩ : Cond.instanceMethod (ax_y ax_m11) ∈ lw_tbl ∧ Cond.selects (ax_y ax_m11).cls (ax_y ax_m11) (ax_y ax_m11) ∈ lw_tbl)
set_option maxRecDepth 20000 in
theorem ax_p12 : Cond.code (ax_y ax_m12) (ax_c ax_m12) (ax_n ax_m12) (ax_r ax_m12) ∈ lw_tbl := List.mem_of_getElem? (i := 471) rfl
theorem ax_q12 : ax_wck ax_m12 := (⟨List.mem_of_getElem? (i := 469) (by decide +kernel), List.mem_of_getElem? (i := 470) (by decide +kernel)⟩ : Cond.instanceMethod (ax_y ax_m12) ∈ lw_tbl ∧ Cond.selects (ax_y ax_m12).cls (ax_y ax_m12) (ax_y ax_m12) ∈ lw_tbl)
set_option maxRecDepth 20000 in
theorem ax_p13 : Cond.code (ax_y ax_m13) (ax_c ax_m13) (ax_n ax_m13) (ax_r ax_m13) ∈ lw_tbl := List.mem_of_getElem? (i := 467) rfl
theorem ax_q13 : ax_wck ax_m13 := (⟨List.mem_of_getElem? (i := 465) (by decide +kernel), List.mem_of_getElem? (i := 466) (by decide +kernel)⟩ : Cond.instanceMethod (ax_y ax_m13) ∈ lw_tbl ∧ Cond.selects (ax_y ax_m13).cls (ax_y ax_m13) (ax_y ax_m13) ∈ lw_tbl)
set_option maxRecDepth 20000 in
theorem ax_p14 : Cond.code (ax_y ax_m14) (ax_c ax_m14) (ax_n ax_m14) (ax_r ax_m14) ∈ lw_tbl := List.mem_of_getElem? (i := 548) rfl
theorem ax_q14 : ax_wck ax_m14 := (⟨List.mem_of_getElem? (i := 546) (by decide +kernel), List.mem_of_getElem? (i := 547) (by decide +kernel)⟩ : Cond.instanceMethod (ax_y ax_m14) ∈ lw_tbl ∧ Cond.selects (ax_y ax_m14).cls (ax_y ax_m14) (ax_y ax_m14) ∈ lw_tbl)
set_option maxRecDepth 20000 in
theorem ax_p15 : Cond.code (ax_y ax_m15) (ax_c ax_m15) (ax_n ax_m15) (ax_r ax_m15) ∈ lw_tbl := List.mem_of_getElem? (i := 544) rfl
theorem ax_q15 : ax_wck ax_m15 := (⟨List.mem_of_getElem? (i := 542) (by decide +kernel), List.mem_of_getElem? (i := 543) (by decide +kernel)⟩ : Cond.instanceMethod (ax_y ax_m15) ∈ lw_tbl ∧ Cond.selects (ax_y ax_m15).cls (ax_y ax_m15) (ax_y ax_m15) ∈ lw_tbl)
set_option maxRecDepth 20000 in
theorem ax_p16 : Cond.code (ax_y ax_m16) (ax_c ax_m16) (ax_n ax_m16) (ax_r ax_m16) ∈ lw_tbl := List.mem_of_getElem? (i := 571) rfl
theorem ax_q16 : ax_wck ax_m16 := (⟨List.mem_of_getElem? (i := 569) (by decide +kernel), List.mem_of_getElem? (i := 570) (by decide +kernel)⟩ : Cond.instanceMethod (ax_y ax_m16) ∈ lw_tbl ∧ Cond.selects (ax_y ax_m16).cls (ax_y ax_m16) (ax_y ax_m16) ∈ lw_tbl)
set_option maxRecDepth 20000 in
theorem ax_p17 : Cond.code (ax_y ax_m17) (ax_c ax_m17) (ax_n ax_m17) (ax_r ax_m17) ∈ lw_tbl := List.mem_of_getElem? (i := 480) rfl
theorem ax_q17 : ax_wck ax_m17 := (⟨List.mem_of_getElem? (i := 478) (by decide +kernel), List.mem_of_getElem? (i := 479) (by decide +kernel)⟩ : Cond.instanceMethod (ax_y ax_m17) ∈ lw_tbl ∧ Cond.selects (ax_y ax_m17).cls (ax_y ax_m17) (ax_y ax_m17) ∈ lw_tbl)
set_option maxRecDepth 20000 in
theorem ax_p18 : Cond.code (ax_y ax_m18) (ax_c ax_m18) (ax_n ax_m18) (ax_r ax_m18) ∈ lw_tbl := List.mem_of_getElem? (i := 476) rfl
theorem ax_q18 : ax_wck ax_m18 := (⟨List.mem_of_getElem? (i := 474) (by decide +kernel), List.mem_of_getElem? (i := 475) (by decide +kernel)⟩ : Cond.instanceMethod (ax_y ax_m18) ∈ lw_tbl ∧ Cond.selects (ax_y ax_m18).cls (ax_y ax_m18) (ax_y ax_m18) ∈ lw_tbl)
set_option maxRecDepth 20000 in
theorem ax_p19 : Cond.code (ax_y ax_m19) (ax_c ax_m19) (ax_n ax_m19) (ax_r ax_m19) ∈ lw_tbl := List.mem_of_getElem? (i := 723) rfl
theorem ax_q19 : ax_wck ax_m19 := (⟨List.mem_of_getElem? (i := 721) (by decide +kernel), List.mem_of_getElem? (i := 722) (by decide +kernel)⟩ : Cond.instanceMethod (ax_y ax_m19) ∈ lw_tbl ∧ Cond.selects (ax_y ax_m19).cls (ax_y ax_m19) (ax_y ax_m19) ∈ lw_tbl)
set_option maxRecDepth 20000 in
theorem ax_p20 : Cond.code (ax_y ax_m20) (ax_c ax_m20) (ax_n ax_m20) (ax_r ax_m20) ∈ lw_tbl := List.mem_of_getElem? (i := 463) rfl
theorem ax_q20 : ax_wck ax_m20 := (⟨List.mem_of_getElem? (i := 461) (by decide +kernel), List.mem_of_getElem? (i := 462) (by decide +kernel)⟩ : Cond.instanceMethod (ax_y ax_m20) ∈ lw_tbl ∧ Cond.selects (ax_y ax_m20).cls (ax_y ax_m20) (ax_y ax_m20) ∈ lw_tbl)
set_option maxRecDepth 20000 in
theorem ax_p21 : Cond.code (ax_y ax_m21) (ax_c ax_m21) (ax_n ax_m21) (ax_r ax_m21) ∈ lw_tbl := List.mem_of_getElem? (i := 535) rfl
theorem ax_q21 : ax_wck ax_m21 := (⟨List.mem_of_getElem? (i := 533) (by decide +kernel), List.mem_of_getElem? (i := 534) (by decide +kernel)⟩ : Cond.instanceMethod (ax_y ax_m21) ∈ lw_tbl ∧ Cond.selects (ax_y ax_m21).cls (ax_y ax_m21) (ax_y ax_m21) ∈ lw_tbl)
set_option maxRecDepth 20000 in
theorem ax_p22 : Cond.code (ax_y ax_m22) (ax_c ax_m22) (ax_n ax_m22) (ax_r ax_m22) ∈ lw_tbl := List.mem_of_getElem? (i := 693) rfl
theorem ax_q22 : ax_wck ax_m22 := (⟨List.mem_of_getElem? (i := 691) (by decide +kernel), List.mem_of_getElem? (i := 692) (by decide +kernel)⟩ : Cond.instanceMethod (ax_y ax_m22) ∈ lw_tbl ∧ Cond.selects (ax_y ax_m22).cls (ax_y ax_m22) (ax_y ax_m22) ∈ lw_tbl)
set_option maxRecDepth 20000 in
theorem ax_p23 : Cond.code (ax_y ax_m23) (ax_c ax_m23) (ax_n ax_m23) (ax_r ax_m23) ∈ lw_tbl := List.mem_of_getElem? (i := 816) rfl
theorem ax_q23 : ax_wck ax_m23 := (⟨List.mem_of_getElem? (i := 814) (by decide +kernel), List.mem_of_getElem? (i := 815) (by decide +kernel)⟩ : Cond.instanceMethod (ax_y ax_m23) ∈ lw_tbl ∧ Cond.selects (ax_y ax_m23).cls (ax_y ax_m23) (ax_y ax_m23) ∈ lw_tbl)
set_option maxRecDepth 20000 in
theorem ax_p24 : Cond.code (ax_y ax_m24) (ax_c ax_m24) (ax_n ax_m24) (ax_r ax_m24) ∈ lw_tbl := List.mem_of_getElem? (i := 703) rfl
theorem ax_q24 : ax_wck ax_m24 := (⟨List.mem_of_getElem? (i := 701) (by decide +kernel), List.mem_of_getElem? (i := 702) (by decide +kernel)⟩ : Cond.instanceMethod (ax_y ax_m24) ∈ lw_tbl ∧ Cond.selects (ax_y ax_m24).cls (ax_y ax_m24) (ax_y ax_m24) ∈ lw_tbl)
set_option maxRecDepth 20000 in
theorem ax_p25 : Cond.code (ax_y ax_m25) (ax_c ax_m25) (ax_n ax_m25) (ax_r ax_m25) ∈ lw_tbl := List.mem_of_getElem? (i := 780) rfl
theorem ax_q25 : ax_wck ax_m25 := (⟨List.mem_of_getElem? (i := 779) (by decide +kernel), List.mem_of_getElem? (i := 25) (by decide +kernel)⟩ : Cond.instanceMethod (ax_y ax_m25) ∈ lw_tbl ∧ Cond.selects (ax_y ax_m25).cls (ax_y ax_m25) (ax_y ax_m25) ∈ lw_tbl)
set_option maxRecDepth 20000 in
theorem ax_p26 : Cond.code (ax_y ax_m26) (ax_c ax_m26) (ax_n ax_m26) (ax_r ax_m26) ∈ lw_tbl := List.mem_of_getElem? (i := 798) rfl
theorem ax_q26 : ax_wck ax_m26 := (⟨List.mem_of_getElem? (i := 797) (by decide +kernel), List.mem_of_getElem? (i := 26) (by decide +kernel)⟩ : Cond.instanceMethod (ax_y ax_m26) ∈ lw_tbl ∧ Cond.selects (ax_y ax_m26).cls (ax_y ax_m26) (ax_y ax_m26) ∈ lw_tbl)
set_option maxRecDepth 20000 in
theorem ax_p27 : Cond.code (ax_y ax_m27) (ax_c ax_m27) (ax_n ax_m27) (ax_r ax_m27) ∈ lw_tbl := List.mem_of_getElem? (i := 807) rfl
theorem ax_q27 : ax_wck ax_m27 := (⟨List.mem_of_getElem? (i := 806) (by decide +kernel), List.mem_of_getElem? (i := 28) (by decide +kernel)⟩ : Cond.instanceMethod (ax_y ax_m27) ∈ lw_tbl ∧ Cond.selects (ax_y ax_m27).cls (ax_y ax_m27) (ax_y ax_m27) ∈ lw_tbl)
set_option maxRecDepth 20000 in
theorem ax_p28 : Cond.code (ax_y ax_m28) (ax_c ax_m28) (ax_n ax_m28) (ax_r ax_m28) ∈ lw_tbl := List.mem_of_getElem? (i := 770) rfl
theorem ax_q28 : ax_wck ax_m28 := (⟨List.mem_of_getElem? (i := 769) (by decide +kernel), List.mem_of_getElem? (i := 24) (by decide +kernel)⟩ : Cond.instanceMethod (ax_y ax_m28) ∈ lw_tbl ∧ Cond.selects (ax_y ax_m28).cls (ax_y ax_m28) (ax_y ax_m28) ∈ lw_tbl)
set_option maxRecDepth 20000 in
theorem ax_p29 : Cond.code (ax_y ax_m29) (ax_c ax_m29) (ax_n ax_m29) (ax_r ax_m29) ∈ lw_tbl := List.mem_of_getElem? (i := 708) rfl
theorem ax_q29 : ax_wck ax_m29 := (⟨List.mem_of_getElem? (i := 707) (by decide +kernel), List.mem_of_getElem? (i := 13) (by decide +kernel)⟩ : Cond.instanceMethod (ax_y ax_m29) ∈ lw_tbl ∧ Cond.selects (ax_y ax_m29).cls (ax_y ax_m29) (ax_y ax_m29) ∈ lw_tbl)
set_option maxRecDepth 20000 in
theorem ax_p30 : Cond.code (ax_y ax_m30) (ax_c ax_m30) (ax_n ax_m30) (ax_r ax_m30) ∈ lw_tbl := List.mem_of_getElem? (i := 730) rfl
theorem ax_q30 : ax_wck ax_m30 := (⟨List.mem_of_getElem? (i := 729) (by decide +kernel), List.mem_of_getElem? (i := 16) (by decide +kernel)⟩ : Cond.instanceMethod (ax_y ax_m30) ∈ lw_tbl ∧ Cond.selects (ax_y ax_m30).cls (ax_y ax_m30) (ax_y ax_m30) ∈ lw_tbl)
set_option maxRecDepth 20000 in
theorem ax_p31 : Cond.code (ax_y ax_m31) (ax_c ax_m31) (ax_n ax_m31) (ax_r ax_m31) ∈ lw_tbl := List.mem_of_getElem? (i := 734) rfl
theorem ax_q31 : ax_wck ax_m31 := (⟨List.mem_of_getElem? (i := 733) (by decide +kernel), List.mem_of_getElem? (i := 17) (by decide +kernel)⟩ : Cond.instanceMethod (ax_y ax_m31) ∈ lw_tbl ∧ Cond.selects (ax_y ax_m31).cls (ax_y ax_m31) (ax_y ax_m31) ∈ lw_tbl)
set_option maxRecDepth 20000 in
theorem ax_p32 : Cond.code (ax_y ax_m32) (ax_c ax_m32) (ax_n ax_m32) (ax_r ax_m32) ∈ lw_tbl := List.mem_of_getElem? (i := 739) rfl
theorem ax_q32 : ax_wck ax_m32 := (⟨List.mem_of_getElem? (i := 738) (by decide +kernel), List.mem_of_getElem? (i := 18) (by decide +kernel)⟩ : Cond.instanceMethod (ax_y ax_m32) ∈ lw_tbl ∧ Cond.selects (ax_y ax_m32).cls (ax_y ax_m32) (ax_y ax_m32) ∈ lw_tbl)
set_option maxRecDepth 20000 in
theorem ax_p33 : Cond.code (ax_y ax_m33) (ax_c ax_m33) (ax_n ax_m33) (ax_r ax_m33) ∈ lw_tbl := List.mem_of_getElem? (i := 743) rfl
theorem ax_q33 : ax_wck ax_m33 := (⟨List.mem_of_getElem? (i := 742) (by decide +kernel), List.mem_of_getElem? (i := 19) (by decide +kernel)⟩ : Cond.instanceMethod (ax_y ax_m33) ∈ lw_tbl ∧ Cond.selects (ax_y ax_m33).cls (ax_y ax_m33) (ax_y ax_m33) ∈ lw_tbl)
set_option maxRecDepth 20000 in
theorem ax_p34 : Cond.code (ax_y ax_m34) (ax_c ax_m34) (ax_n ax_m34) (ax_r ax_m34) ∈ lw_tbl := List.mem_of_getElem? (i := 757) rfl
theorem ax_q34 : ax_wck ax_m34 := (⟨List.mem_of_getElem? (i := 756) (by decide +kernel), List.mem_of_getElem? (i := 22) (by decide +kernel)⟩ : Cond.instanceMethod (ax_y ax_m34) ∈ lw_tbl ∧ Cond.selects (ax_y ax_m34).cls (ax_y ax_m34) (ax_y ax_m34) ∈ lw_tbl)
set_option maxRecDepth 20000 in
theorem ax_p35 : Cond.code (ax_y ax_m35) (ax_c ax_m35) (ax_n ax_m35) (ax_r ax_m35) ∈ lw_tbl := List.mem_of_getElem? (i := 802) rfl
theorem ax_q35 : ax_wck ax_m35 := (⟨List.mem_of_getElem? (i := 801) (by decide +kernel), List.mem_of_getElem? (i := 27) (by decide +kernel)⟩ : Cond.instanceMethod (ax_y ax_m35) ∈ lw_tbl ∧ Cond.selects (ax_y ax_m35).cls (ax_y ax_m35) (ax_y ax_m35) ∈ lw_tbl)
set_option maxRecDepth 20000 in
theorem ax_p36 : Cond.code (ax_y ax_m36) (ax_c ax_m36) (ax_n ax_m36) (ax_r ax_m36) ∈ lw_tbl := List.mem_of_getElem? (i := 761) rfl
theorem ax_q36 : ax_wck ax_m36 := (⟨List.mem_of_getElem? (i := 760) (by decide +kernel), List.mem_of_getElem? (i := 23) (by decide +kernel)⟩ : Cond.instanceMethod (ax_y ax_m36) ∈ lw_tbl ∧ Cond.selects (ax_y ax_m36).cls (ax_y ax_m36) (ax_y ax_m36) ∈ lw_tbl)
set_option maxRecDepth 20000 in
theorem ax_p37 : Cond.code (ax_y ax_m37) (ax_c ax_m37) (ax_n ax_m37) (ax_r ax_m37) ∈ lw_tbl := List.mem_of_getElem? (i := 752) rfl
theorem ax_q37 : ax_wck ax_m37 := (⟨List.mem_of_getElem? (i := 751) (by decide +kernel), List.mem_of_getElem? (i := 21) (by decide +kernel)⟩ : Cond.instanceMethod (ax_y ax_m37) ∈ lw_tbl ∧ Cond.selects (ax_y ax_m37).cls (ax_y ax_m37) (ax_y ax_m37) ∈ lw_tbl)
set_option maxRecDepth 20000 in
theorem ax_p38 : Cond.code (ax_y ax_m38) (ax_c ax_m38) (ax_n ax_m38) (ax_r ax_m38) ∈ lw_tbl := List.mem_of_getElem? (i := 748) rfl
theorem ax_q38 : ax_wck ax_m38 := (⟨List.mem_of_getElem? (i := 747) (by decide +kernel), List.mem_of_getElem? (i := 20) (by decide +kernel)⟩ : Cond.instanceMethod (ax_y ax_m38) ∈ lw_tbl ∧ Cond.selects (ax_y ax_m38).cls (ax_y ax_m38) (ax_y ax_m38) ∈ lw_tbl)
set_option maxRecDepth 20000 in
theorem ax_p39 : Cond.code (ax_y ax_m39) (ax_c ax_m39) (ax_n ax_m39) (ax_r ax_m39) ∈ lw_tbl := List.mem_of_getElem? (i := 713) rfl
theorem ax_q39 : ax_wck ax_m39 := (⟨List.mem_of_getElem? (i := 712) (by decide +kernel), List.mem_of_getElem? (i := 14) (by decide +kernel)⟩ : Cond.instanceMethod (ax_y ax_m39) ∈ lw_tbl ∧ Cond.selects (ax_y ax_m39).cls (ax_y ax_m39) (ax_y ax_m39) ∈ lw_tbl)
set_option maxRecDepth 20000 in
theorem ax_p40 : Cond.code (ax_y ax_m40) (ax_c ax_m40) (ax_n ax_m40) (ax_r ax_m40) ∈ lw_tbl := List.mem_of_getElem? (i := 718) rfl
theorem ax_q40 : ax_wck ax_m40 := (⟨List.mem_of_getElem? (i := 717) (by decide +kernel), List.mem_of_getElem? (i := 15) (by decide +kernel)⟩ : Cond.instanceMethod (ax_y ax_m40) ∈ lw_tbl ∧ Cond.selects (ax_y ax_m40).cls (ax_y ax_m40) (ax_y ax_m40) ∈ lw_tbl)
set_option maxRecDepth 20000 in
theorem ax_p41 : Cond.code (ax_y ax_m41) (ax_c ax_m41) (ax_n ax_m41) (ax_r ax_m41) ∈ lw_tbl := List.mem_of_getElem? (i := 262) rfl
theorem ax_q41 : ax_wck ax_m41 := (⟨List.mem_of_getElem? (i := 260) (by decide +kernel), List.mem_of_getElem? (i := 261) (by decide +kernel)⟩ : Cond.instanceMethod (ax_y ax_m41) ∈ lw_tbl ∧ Cond.selects (ax_y ax_m41).cls (ax_y ax_m41) (ax_y ax_m41) ∈ lw_tbl)
set_option maxRecDepth 20000 in
theorem ax_p42 : Cond.code (ax_y ax_m42) (ax_c ax_m42) (ax_n ax_m42) (ax_r ax_m42) ∈ lw_tbl := List.mem_of_getElem? (i := 434) rfl
theorem ax_q42 : ax_wck ax_m42 := (⟨List.mem_of_getElem? (i := 432) (by decide +kernel), List.mem_of_getElem? (i := 433) (by decide +kernel)⟩ : Cond.instanceMethod (ax_y ax_m42) ∈ lw_tbl ∧ Cond.selects (ax_y ax_m42).cls (ax_y ax_m42) (ax_y ax_m42) ∈ lw_tbl)
set_option maxRecDepth 20000 in
theorem ax_p43 : Cond.code (ax_y ax_m43) (ax_c ax_m43) (ax_n ax_m43) (ax_r ax_m43) ∈ lw_tbl := List.mem_of_getElem? (i := 443) rfl
theorem ax_q43 : ax_wck ax_m43 := (⟨List.mem_of_getElem? (i := 441) (by decide +kernel), List.mem_of_getElem? (i := 442) (by decide +kernel)⟩ : Cond.instanceMethod (ax_y ax_m43) ∈ lw_tbl ∧ Cond.selects (ax_y ax_m43).cls (ax_y ax_m43) (ax_y ax_m43) ∈ lw_tbl)
set_option maxRecDepth 20000 in
theorem ax_p44 : Cond.code (ax_y ax_m44) (ax_c ax_m44) (ax_n ax_m44) (ax_r ax_m44) ∈ lw_tbl := List.mem_of_getElem? (i := 438) rfl
theorem ax_q44 : ax_wck ax_m44 := (⟨List.mem_of_getElem? (i := 436) (by decide +kernel), List.mem_of_getElem? (i := 437) (by decide +kernel)⟩ : Cond.instanceMethod (ax_y ax_m44) ∈ lw_tbl ∧ Cond.selects (ax_y ax_m44).cls (ax_y ax_m44) (ax_y ax_m44) ∈ lw_tbl)
set_option maxRecDepth 20000 in
theorem ax_p45 : Cond.code (ax_y ax_m45) (ax_c ax_m45) (ax_n ax_m45) (ax_r ax_m45) ∈ lw_tbl := List.mem_of_getElem? (i := 447) rfl
theorem ax_q45 : ax_wck ax_m45 := (⟨List.mem_of_getElem? (i := 445) (by decide +kernel), List.mem_of_getElem? (i := 446) (by decide +kernel)⟩ : Cond.instanceMethod (ax_y ax_m45) ∈ lw_tbl ∧ Cond.selects (ax_y ax_m45).cls (ax_y ax_m45) (ax_y ax_m45) ∈ lw_tbl)
set_option maxRecDepth 20000 in
theorem ax_p46 : Cond.code (ax_y ax_m46) (ax_c ax_m46) (ax_n ax_m46) (ax_r ax_m46) ∈ lw_tbl := List.mem_of_getElem? (i := 266) rfl
theorem ax_q46 : ax_wck ax_m46 := (⟨List.mem_of_getElem? (i := 264) (by decide +kernel), List.mem_of_getElem? (i := 265) (by decide +kernel)⟩ : Cond.instanceMethod (ax_y ax_m46) ∈ lw_tbl ∧ Cond.selects (ax_y ax_m46).cls (ax_y ax_m46) (ax_y ax_m46) ∈ lw_tbl)
set_option maxRecDepth 20000 in
theorem ax_p47 : Cond.code (ax_y ax_m47) (ax_c ax_m47) (ax_n ax_m47) (ax_r ax_m47) ∈ lw_tbl := List.mem_of_getElem? (i := 540) rfl
theorem ax_q47 : ax_wck ax_m47 := (⟨List.mem_of_getElem? (i := 538) (by decide +kernel), List.mem_of_getElem? (i := 539) (by decide +kernel)⟩ : Cond.instanceMethod (ax_y ax_m47) ∈ lw_tbl ∧ Cond.selects (ax_y ax_m47).cls (ax_y ax_m47) (ax_y ax_m47) ∈ lw_tbl)
set_option maxRecDepth 20000 in
theorem ax_p48 : Cond.code (ax_y ax_m48) (ax_c ax_m48) (ax_n ax_m48) (ax_r ax_m48) ∈ lw_tbl := List.mem_of_getElem? (i := 258) rfl
theorem ax_q48 : ax_wck ax_m48 := (⟨List.mem_of_getElem? (i := 256) (by decide +kernel), List.mem_of_getElem? (i := 257) (by decide +kernel)⟩ : Cond.instanceMethod (ax_y ax_m48) ∈ lw_tbl ∧ Cond.selects (ax_y ax_m48).cls (ax_y ax_m48) (ax_y ax_m48) ∈ lw_tbl)
set_option maxRecDepth 20000 in
theorem ax_p49 : Cond.code (ax_y ax_m49) (ax_c ax_m49) (ax_n ax_m49) (ax_r ax_m49) ∈ lw_tbl := List.mem_of_getElem? (i := 786) rfl
theorem ax_q49 : ax_wck ax_m49 := (⟨List.mem_of_getElem? (i := 784) (by decide +kernel), List.mem_of_getElem? (i := 785) (by decide +kernel)⟩ : Cond.instanceMethod (ax_y ax_m49) ∈ lw_tbl ∧ Cond.selects (ax_y ax_m49).cls (ax_y ax_m49) (ax_y ax_m49) ∈ lw_tbl)
set_option maxRecDepth 20000 in
theorem ax_p50 : Cond.code (ax_y ax_m50) (ax_c ax_m50) (ax_n ax_m50) (ax_r ax_m50) ∈ lw_tbl := List.mem_of_getElem? (i := 790) rfl
theorem ax_q50 : ax_wck ax_m50 := (⟨List.mem_of_getElem? (i := 788) (by decide +kernel), List.mem_of_getElem? (i := 789) (by decide +kernel)⟩ : Cond.instanceMethod (ax_y ax_m50) ∈ lw_tbl ∧ Cond.selects (ax_y ax_m50).cls (ax_y ax_m50) (ax_y ax_m50) ∈ lw_tbl)
set_option maxRecDepth 20000 in
theorem ax_p51 : Cond.code (ax_y ax_m51) (ax_c ax_m51) (ax_n ax_m51) (ax_r ax_m51) ∈ lw_tbl := List.mem_of_getElem? (i := 430) rfl
theorem ax_q51 : ax_wck ax_m51 := (⟨List.mem_of_getElem? (i := 428) (by decide +kernel), List.mem_of_getElem? (i := 429) (by decide +kernel)⟩ : Cond.instanceMethod (ax_y ax_m51) ∈ lw_tbl ∧ Cond.selects (ax_y ax_m51).cls (ax_y ax_m51) (ax_y ax_m51) ∈ lw_tbl)
set_option maxRecDepth 20000 in
theorem ax_p52 : Cond.code (ax_y ax_m52) (ax_c ax_m52) (ax_n ax_m52) (ax_r ax_m52) ∈ lw_tbl := List.mem_of_getElem? (i := 522) rfl
theorem ax_q52 : ax_wck ax_m52 := (⟨List.mem_of_getElem? (i := 520) (by decide +kernel), List.mem_of_getElem? (i := 521) (by decide +kernel)⟩ : Cond.instanceMethod (ax_y ax_m52) ∈ lw_tbl ∧ Cond.selects (ax_y ax_m52).cls (ax_y ax_m52) (ax_y ax_m52) ∈ lw_tbl)
set_option maxRecDepth 20000 in
theorem ax_p53 : Cond.code (ax_y ax_m53) (ax_c ax_m53) (ax_n ax_m53) (ax_r ax_m53) ∈ lw_tbl := List.mem_of_getElem? (i := 531) rfl
theorem ax_q53 : ax_wck ax_m53 := (⟨List.mem_of_getElem? (i := 529) (by decide +kernel), List.mem_of_getElem? (i := 530) (by decide +kernel)⟩ : Cond.instanceMethod (ax_y ax_m53) ∈ lw_tbl ∧ Cond.selects (ax_y ax_m53).cls (ax_y ax_m53) (ax_y ax_m53) ∈ lw_tbl)
set_option maxRecDepth 20000 in
theorem ax_p54 : Cond.code (ax_y ax_m54) (ax_c ax_m54) (ax_n ax_m54) (ax_r ax_m54) ∈ lw_tbl := List.mem_of_getElem? (i := 426) rfl
theorem ax_q54 : ax_wck ax_m54 := (⟨List.mem_of_getElem? (i := 424) (by decide +kernel), List.mem_of_getElem? (i := 425) (by decide +kernel)⟩ : Cond.instanceMethod (ax_y ax_m54) ∈ lw_tbl ∧ Cond.selects (ax_y ax_m54).cls (ax_y ax_m54) (ax_y ax_m54) ∈ lw_tbl)
set_option maxRecDepth 20000 in
theorem ax_p55 : Cond.code (ax_y ax_m55) (ax_c ax_m55) (ax_n ax_m55) (ax_r ax_m55) ∈ lw_tbl := List.mem_of_getElem? (i := 556) rfl
theorem ax_q55 : ax_wck ax_m55 := (⟨List.mem_of_getElem? (i := 554) (by decide +kernel), List.mem_of_getElem? (i := 555) (by decide +kernel)⟩ : Cond.instanceMethod (ax_y ax_m55) ∈ lw_tbl ∧ Cond.selects (ax_y ax_m55).cls (ax_y ax_m55) (ax_y ax_m55) ∈ lw_tbl)
set_option maxRecDepth 20000 in
theorem ax_p56 : Cond.code (ax_y ax_m56) (ax_c ax_m56) (ax_n ax_m56) (ax_r ax_m56) ∈ lw_tbl := List.mem_of_getElem? (i := 254) rfl
theorem ax_q56 : ax_wck ax_m56 := (⟨List.mem_of_getElem? (i := 252) (by decide +kernel), List.mem_of_getElem? (i := 253) (by decide +kernel)⟩ : Cond.instanceMethod (ax_y ax_m56) ∈ lw_tbl ∧ Cond.selects (ax_y ax_m56).cls (ax_y ax_m56) (ax_y ax_m56) ∈ lw_tbl)
set_option maxRecDepth 20000 in
theorem ax_p57 : Cond.code (ax_y ax_m57) (ax_c ax_m57) (ax_n ax_m57) (ax_r ax_m57) ∈ lw_tbl := List.mem_of_getElem? (i := 387) rfl
theorem ax_q57 : ax_wck ax_m57 := (⟨List.mem_of_getElem? (i := 385) (by decide +kernel), List.mem_of_getElem? (i := 386) (by decide +kernel)⟩ : Cond.instanceMethod (ax_y ax_m57) ∈ lw_tbl ∧ Cond.selects (ax_y ax_m57).cls (ax_y ax_m57) (ax_y ax_m57) ∈ lw_tbl)
set_option maxRecDepth 20000 in
theorem ax_p58 : Cond.code (ax_y ax_m58) (ax_c ax_m58) (ax_n ax_m58) (ax_r ax_m58) ∈ lw_tbl := List.mem_of_getElem? (i := 599) rfl
theorem ax_q58 : ax_wck ax_m58 := (⟨List.mem_of_getElem? (i := 597) (by decide +kernel), List.mem_of_getElem? (i := 598) (by decide +kernel)⟩ : Cond.instanceMethod (ax_y ax_m58) ∈ lw_tbl ∧ Cond.selects (ax_y ax_m58).cls (ax_y ax_m58) (ax_y ax_m58) ∈ lw_tbl)
set_option maxRecDepth 20000 in
theorem ax_p59 : Cond.code (ax_y ax_m59) (ax_c ax_m59) (ax_n ax_m59) (ax_r ax_m59) ∈ lw_tbl := List.mem_of_getElem? (i := 613) rfl
theorem ax_q59 : ax_wck ax_m59 := (⟨List.mem_of_getElem? (i := 611) (by decide +kernel), List.mem_of_getElem? (i := 612) (by decide +kernel)⟩ : Cond.instanceMethod (ax_y ax_m59) ∈ lw_tbl ∧ Cond.selects (ax_y ax_m59).cls (ax_y ax_m59) (ax_y ax_m59) ∈ lw_tbl)
set_option maxRecDepth 20000 in
theorem ax_p60 : Cond.code (ax_y ax_m60) (ax_c ax_m60) (ax_n ax_m60) (ax_r ax_m60) ∈ lw_tbl := List.mem_of_getElem? (i := 411) rfl
theorem ax_q60 : ax_wck ax_m60 := (⟨List.mem_of_getElem? (i := 409) (by decide +kernel), List.mem_of_getElem? (i := 410) (by decide +kernel)⟩ : Cond.instanceMethod (ax_y ax_m60) ∈ lw_tbl ∧ Cond.selects (ax_y ax_m60).cls (ax_y ax_m60) (ax_y ax_m60) ∈ lw_tbl)
set_option maxRecDepth 20000 in
theorem ax_p61 : Cond.code (ax_y ax_m61) (ax_c ax_m61) (ax_n ax_m61) (ax_r ax_m61) ∈ lw_tbl := List.mem_of_getElem? (i := 415) rfl
theorem ax_q61 : ax_wck ax_m61 := (⟨List.mem_of_getElem? (i := 414) (by decide +kernel), List.mem_of_getElem? (i := 1) (by decide +kernel)⟩ : Cond.instanceMethod (ax_y ax_m61) ∈ lw_tbl ∧ Cond.selects (ax_y ax_m61).cls (ax_y ax_m61) (ax_y ax_m61) ∈ lw_tbl)
set_option maxRecDepth 20000 in
theorem ax_p62 : Cond.code (ax_y ax_m62) (ax_c ax_m62) (ax_n ax_m62) (ax_r ax_m62) ∈ lw_tbl := List.mem_of_getElem? (i := 566) rfl
theorem ax_q62 : ax_wck ax_m62 := (⟨List.mem_of_getElem? (i := 565) (by decide +kernel), List.mem_of_getElem? (i := 12) (by decide +kernel)⟩ : Cond.instanceMethod (ax_y ax_m62) ∈ lw_tbl ∧ Cond.selects (ax_y ax_m62).cls (ax_y ax_m62) (ax_y ax_m62) ∈ lw_tbl)
set_option maxRecDepth 20000 in
theorem ax_p63 : Cond.code (ax_y ax_m63) (ax_c ax_m63) (ax_n ax_m63) (ax_r ax_m63) ∈ lw_tbl := List.mem_of_getElem? (i := 455) rfl
theorem ax_q63 : ax_wck ax_m63 := (⟨List.mem_of_getElem? (i := 454) (by decide +kernel), List.mem_of_getElem? (i := 2) (by decide +kernel)⟩ : Cond.instanceMethod (ax_y ax_m63) ∈ lw_tbl ∧ Cond.selects (ax_y ax_m63).cls (ax_y ax_m63) (ax_y ax_m63) ∈ lw_tbl)
set_option maxRecDepth 20000 in
theorem ax_p64 : Cond.code (ax_y ax_m64) (ax_c ax_m64) (ax_n ax_m64) (ax_r ax_m64) ∈ lw_tbl := List.mem_of_getElem? (i := 560) rfl
theorem ax_q64 : ax_wck ax_m64 := (⟨List.mem_of_getElem? (i := 559) (by decide +kernel), List.mem_of_getElem? (i := 11) (by decide +kernel)⟩ : Cond.instanceMethod (ax_y ax_m64) ∈ lw_tbl ∧ Cond.selects (ax_y ax_m64).cls (ax_y ax_m64) (ax_y ax_m64) ∈ lw_tbl)
set_option maxRecDepth 20000 in
theorem ax_p65 : Cond.code (ax_y ax_m65) (ax_c ax_m65) (ax_n ax_m65) (ax_r ax_m65) ∈ lw_tbl := List.mem_of_getElem? (i := 496) rfl
theorem ax_q65 : ax_wck ax_m65 := (⟨List.mem_of_getElem? (i := 495) (by decide +kernel), List.mem_of_getElem? (i := 4) (by decide +kernel)⟩ : Cond.instanceMethod (ax_y ax_m65) ∈ lw_tbl ∧ Cond.selects (ax_y ax_m65).cls (ax_y ax_m65) (ax_y ax_m65) ∈ lw_tbl)
set_option maxRecDepth 20000 in
theorem ax_p66 : Cond.code (ax_y ax_m66) (ax_c ax_m66) (ax_n ax_m66) (ax_r ax_m66) ∈ lw_tbl := List.mem_of_getElem? (i := 501) rfl
theorem ax_q66 : ax_wck ax_m66 := (⟨List.mem_of_getElem? (i := 500) (by decide +kernel), List.mem_of_getElem? (i := 5) (by decide +kernel)⟩ : Cond.instanceMethod (ax_y ax_m66) ∈ lw_tbl ∧ Cond.selects (ax_y ax_m66).cls (ax_y ax_m66) (ax_y ax_m66) ∈ lw_tbl)
set_option maxRecDepth 20000 in
theorem ax_p67 : Cond.code (ax_y ax_m67) (ax_c ax_m67) (ax_n ax_m67) (ax_r ax_m67) ∈ lw_tbl := List.mem_of_getElem? (i := 505) rfl
theorem ax_q67 : ax_wck ax_m67 := (⟨List.mem_of_getElem? (i := 504) (by decide +kernel), List.mem_of_getElem? (i := 6) (by decide +kernel)⟩ : Cond.instanceMethod (ax_y ax_m67) ∈ lw_tbl ∧ Cond.selects (ax_y ax_m67).cls (ax_y ax_m67) (ax_y ax_m67) ∈ lw_tbl)
set_option maxRecDepth 20000 in
theorem ax_p68 : Cond.code (ax_y ax_m68) (ax_c ax_m68) (ax_n ax_m68) (ax_r ax_m68) ∈ lw_tbl := List.mem_of_getElem? (i := 526) rfl
theorem ax_q68 : ax_wck ax_m68 := (⟨List.mem_of_getElem? (i := 525) (by decide +kernel), List.mem_of_getElem? (i := 9) (by decide +kernel)⟩ : Cond.instanceMethod (ax_y ax_m68) ∈ lw_tbl ∧ Cond.selects (ax_y ax_m68).cls (ax_y ax_m68) (ax_y ax_m68) ∈ lw_tbl)
set_option maxRecDepth 20000 in
theorem ax_p69 : Cond.code (ax_y ax_m69) (ax_c ax_m69) (ax_n ax_m69) (ax_r ax_m69) ∈ lw_tbl := List.mem_of_getElem? (i := 552) rfl
theorem ax_q69 : ax_wck ax_m69 := (⟨List.mem_of_getElem? (i := 551) (by decide +kernel), List.mem_of_getElem? (i := 10) (by decide +kernel)⟩ : Cond.instanceMethod (ax_y ax_m69) ∈ lw_tbl ∧ Cond.selects (ax_y ax_m69).cls (ax_y ax_m69) (ax_y ax_m69) ∈ lw_tbl)
set_option maxRecDepth 20000 in
theorem ax_p70 : Cond.code (ax_y ax_m70) (ax_c ax_m70) (ax_n ax_m70) (ax_r ax_m70) ∈ lw_tbl := List.mem_of_getElem? (i := 518) rfl
theorem ax_q70 : ax_wck ax_m70 := (⟨List.mem_of_getElem? (i := 517) (by decide +kernel), List.mem_of_getElem? (i := 8) (by decide +kernel)⟩ : Cond.instanceMethod (ax_y ax_m70) ∈ lw_tbl ∧ Cond.selects (ax_y ax_m70).cls (ax_y ax_m70) (ax_y ax_m70) ∈ lw_tbl)
set_option maxRecDepth 20000 in
theorem ax_p71 : Cond.code (ax_y ax_m71) (ax_c ax_m71) (ax_n ax_m71) (ax_r ax_m71) ∈ lw_tbl := List.mem_of_getElem? (i := 514) rfl
theorem ax_q71 : ax_wck ax_m71 := (⟨List.mem_of_getElem? (i := 513) (by decide +kernel), List.mem_of_getElem? (i := 7) (by decide +kernel)⟩ : Cond.instanceMethod (ax_y ax_m71) ∈ lw_tbl ∧ Cond.selects (ax_y ax_m71).cls (ax_y ax_m71) (ax_y ax_m71) ∈ lw_tbl)
set_option maxRecDepth 20000 in
theorem ax_p72 : Cond.code (ax_y ax_m72) (ax_c ax_m72) (ax_n ax_m72) (ax_r ax_m72) ∈ lw_tbl := List.mem_of_getElem? (i := 485) rfl
theorem ax_q72 : ax_wck ax_m72 := (⟨List.mem_of_getElem? (i := 484) (by decide +kernel), List.mem_of_getElem? (i := 3) (by decide +kernel)⟩ : Cond.instanceMethod (ax_y ax_m72) ∈ lw_tbl ∧ Cond.selects (ax_y ax_m72).cls (ax_y ax_m72) (ax_y ax_m72) ∈ lw_tbl)
set_option maxRecDepth 20000 in
theorem ax_p73 : Cond.code (ax_y ax_m73) (ax_c ax_m73) (ax_n ax_m73) (ax_r ax_m73) ∈ lw_tbl := List.mem_of_getElem? (i := 282) rfl
theorem ax_q73 : ax_wck ax_m73 := (⟨List.mem_of_getElem? (i := 280) (by decide +kernel), List.mem_of_getElem? (i := 281) (by decide +kernel)⟩ : Cond.instanceMethod (ax_y ax_m73) ∈ lw_tbl ∧ Cond.selects (ax_y ax_m73).cls (ax_y ax_m73) (ax_y ax_m73) ∈ lw_tbl)
set_option maxRecDepth 20000 in
theorem ax_p74 : Cond.code (ax_y ax_m74) (ax_c ax_m74) (ax_n ax_m74) (ax_r ax_m74) ∈ lw_tbl := List.mem_of_getElem? (i := 286) rfl
theorem ax_q74 : ax_wck ax_m74 := (⟨List.mem_of_getElem? (i := 284) (by decide +kernel), List.mem_of_getElem? (i := 285) (by decide +kernel)⟩ : Cond.instanceMethod (ax_y ax_m74) ∈ lw_tbl ∧ Cond.selects (ax_y ax_m74).cls (ax_y ax_m74) (ax_y ax_m74) ∈ lw_tbl)
set_option maxRecDepth 20000 in
theorem ax_p75 : Cond.code (ax_y ax_m75) (ax_c ax_m75) (ax_n ax_m75) (ax_r ax_m75) ∈ lw_tbl := List.mem_of_getElem? (i := 290) rfl
theorem ax_q75 : ax_wck ax_m75 := (⟨List.mem_of_getElem? (i := 288) (by decide +kernel), List.mem_of_getElem? (i := 289) (by decide +kernel)⟩ : Cond.instanceMethod (ax_y ax_m75) ∈ lw_tbl ∧ Cond.selects (ax_y ax_m75).cls (ax_y ax_m75) (ax_y ax_m75) ∈ lw_tbl)
set_option maxRecDepth 20000 in
theorem ax_p76 : Cond.code (ax_y ax_m76) (ax_c ax_m76) (ax_n ax_m76) (ax_r ax_m76) ∈ lw_tbl := List.mem_of_getElem? (i := 298) rfl
theorem ax_q76 : ax_wck ax_m76 := (⟨List.mem_of_getElem? (i := 296) (by decide +kernel), List.mem_of_getElem? (i := 297) (by decide +kernel)⟩ : Cond.instanceMethod (ax_y ax_m76) ∈ lw_tbl ∧ Cond.selects (ax_y ax_m76).cls (ax_y ax_m76) (ax_y ax_m76) ∈ lw_tbl)
set_option maxRecDepth 20000 in
theorem ax_p77 : Cond.code (ax_y ax_m77) (ax_c ax_m77) (ax_n ax_m77) (ax_r ax_m77) ∈ lw_tbl := List.mem_of_getElem? (i := 314) rfl
theorem ax_q77 : ax_wck ax_m77 := (List.mem_of_getElem? (i := 313) (by decide +kernel) : Cond.static (ax_y ax_m77) ∈ lw_tbl)
set_option maxRecDepth 20000 in
theorem ax_p78 : Cond.code (ax_y ax_m78) (ax_c ax_m78) (ax_n ax_m78) (ax_r ax_m78) ∈ lw_tbl := List.mem_of_getElem? (i := 311) rfl
theorem ax_q78 : ax_wck ax_m78 := (List.mem_of_getElem? (i := 310) (by decide +kernel) : Cond.static (ax_y ax_m78) ∈ lw_tbl)
set_option maxRecDepth 20000 in
theorem ax_p79 : Cond.code (ax_y ax_m79) (ax_c ax_m79) (ax_n ax_m79) (ax_r ax_m79) ∈ lw_tbl := List.mem_of_getElem? (i := 510) rfl
theorem ax_q79 : ax_wck ax_m79 := (List.mem_of_getElem? (i := 509) (by decide +kernel) : Cond.static (ax_y ax_m79) ∈ lw_tbl)
set_option maxRecDepth 20000 in
theorem ax_p80 : Cond.code (ax_y ax_m80) (ax_c ax_m80) (ax_n ax_m80) (ax_r ax_m80) ∈ lw_tbl := List.mem_of_getElem? (i := 488) rfl
theorem ax_q80 : ax_wck ax_m80 := (List.mem_of_getElem? (i := 487) (by decide +kernel) : Cond.static (ax_y ax_m80) ∈ lw_tbl)
set_option maxRecDepth 20000 in
theorem ax_p81 : Cond.code (ax_y ax_m81) (ax_c ax_m81) (ax_n ax_m81) (ax_r ax_m81) ∈ lw_tbl := List.mem_of_getElem? (i := 422) rfl
theorem ax_q81 : ax_wck ax_m81 := (List.mem_of_getElem? (i := 421) (by decide +kernel) : Cond.static (ax_y ax_m81) ∈ lw_tbl)
set_option maxRecDepth 20000 in
theorem ax_p82 : Cond.code (ax_y ax_m82) (ax_c ax_m82) (ax_n ax_m82) (ax_r ax_m82) ∈ lw_tbl := List.mem_of_getElem? (i := 459) rfl
theorem ax_q82 : ax_wck ax_m82 := (List.mem_of_getElem? (i := 458) (by decide +kernel) : Cond.static (ax_y ax_m82) ∈ lw_tbl)
set_option maxRecDepth 20000 in
theorem ax_p83 : Cond.code (ax_y ax_m83) (ax_c ax_m83) (ax_n ax_m83) (ax_r ax_m83) ∈ lw_tbl := List.mem_of_getElem? (i := 773) rfl
theorem ax_q83 : ax_wck ax_m83 := (List.mem_of_getElem? (i := 772) (by decide +kernel) : Cond.static (ax_y ax_m83) ∈ lw_tbl)
set_option maxRecDepth 20000 in
theorem ax_p84 : Cond.code (ax_y ax_m84) (ax_c ax_m84) (ax_n ax_m84) (ax_r ax_m84) ∈ lw_tbl := List.mem_of_getElem? (i := 776) rfl
theorem ax_q84 : ax_wck ax_m84 := (List.mem_of_getElem? (i := 775) (by decide +kernel) : Cond.static (ax_y ax_m84) ∈ lw_tbl)
set_option maxRecDepth 20000 in
theorem ax_p85 : Cond.code (ax_y ax_m85) (ax_c ax_m85) (ax_n ax_m85) (ax_r ax_m85) ∈ lw_tbl := List.mem_of_getElem? (i := 941) rfl
theorem ax_q85 : ax_wck ax_m85 := (⟨List.mem_of_getElem? (i := 939) (by decide +kernel), List.mem_of_getElem? (i := 940) (by decide +kernel)⟩ : Cond.instanceMethod (ax_y ax_m85) ∈ lw_tbl ∧ Cond.selects (ax_y ax_m85).cls (ax_y ax_m85) (ax_y ax_m85) ∈ lw_tbl)
set_option maxRecDepth 20000 in
theorem ax_p86 : Cond.code (ax_y ax_m86) (ax_c ax_m86) (ax_n ax_m86) (ax_r ax_m86) ∈ lw_tbl := List.mem_of_getElem? (i := 953) rfl
theorem ax_q86 : ax_wck ax_m86 := (⟨List.mem_of_getElem? (i := 952) (by decide +kernel), List.mem_of_getElem? (i := 30) (by decide +kernel)⟩ : Cond.instanceMethod (ax_y ax_m86) ∈ lw_tbl ∧ Cond.selects (ax_y ax_m86).cls (ax_y ax_m86) (ax_y ax_m86) ∈ lw_tbl)
set_option maxRecDepth 20000 in
theorem ax_p87 : Cond.code (ax_y ax_m87) (ax_c ax_m87) (ax_n ax_m87) (ax_r ax_m87) ∈ lw_tbl := List.mem_of_getElem? (i := 962) rfl
theorem ax_q87 : ax_wck ax_m87 := (List.mem_of_getElem? (i := 961) (by decide +kernel) : Cond.static (ax_y ax_m87) ∈ lw_tbl)
set_option maxRecDepth 20000 in
theorem ax_p88 : Cond.code (ax_y ax_m88) (ax_c ax_m88) (ax_n ax_m88) (ax_r ax_m88) ∈ lw_tbl := List.mem_of_getElem? (i := 959) rfl
theorem ax_q88 : ax_wck ax_m88 := (List.mem_of_getElem? (i := 958) (by decide +kernel) : Cond.static (ax_y ax_m88) ∈ lw_tbl)
set_option maxRecDepth 20000 in
theorem ax_p89 : Cond.code (ax_y ax_m89) (ax_c ax_m89) (ax_n ax_m89) (ax_r ax_m89) ∈ lw_tbl := List.mem_of_getElem? (i := 993) rfl
theorem ax_q89 : ax_wck ax_m89 := (⟨List.mem_of_getElem? (i := 992) (by decide +kernel), List.mem_of_getElem? (i := 37) (by decide +kernel)⟩ : Cond.instanceMethod (ax_y ax_m89) ∈ lw_tbl ∧ Cond.selects (ax_y ax_m89).cls (ax_y ax_m89) (ax_y ax_m89) ∈ lw_tbl)
set_option maxRecDepth 20000 in
theorem ax_p90 : Cond.code (ax_y ax_m90) (ax_c ax_m90) (ax_n ax_m90) (ax_r ax_m90) ∈ lw_tbl := List.mem_of_getElem? (i := 997) rfl
theorem ax_q90 : ax_wck ax_m90 := (⟨List.mem_of_getElem? (i := 996) (by decide +kernel), List.mem_of_getElem? (i := 38) (by decide +kernel)⟩ : Cond.instanceMethod (ax_y ax_m90) ∈ lw_tbl ∧ Cond.selects (ax_y ax_m90).cls (ax_y ax_m90) (ax_y ax_m90) ∈ lw_tbl)
set_option maxRecDepth 20000 in
theorem ax_p91 : Cond.code (ax_y ax_m91) (ax_c ax_m91) (ax_n ax_m91) (ax_r ax_m91) ∈ lw_tbl := List.mem_of_getElem? (i := 970) rfl
theorem ax_q91 : ax_wck ax_m91 := (⟨List.mem_of_getElem? (i := 969) (by decide +kernel), List.mem_of_getElem? (i := 32) (by decide +kernel)⟩ : Cond.instanceMethod (ax_y ax_m91) ∈ lw_tbl ∧ Cond.selects (ax_y ax_m91).cls (ax_y ax_m91) (ax_y ax_m91) ∈ lw_tbl)
set_option maxRecDepth 20000 in
theorem ax_p92 : Cond.code (ax_y ax_m92) (ax_c ax_m92) (ax_n ax_m92) (ax_r ax_m92) ∈ lw_tbl := List.mem_of_getElem? (i := 1029) rfl
theorem ax_q92 : ax_wck ax_m92 := (⟨List.mem_of_getElem? (i := 1028) (by decide +kernel), List.mem_of_getElem? (i := 46) (by decide +kernel)⟩ : Cond.instanceMethod (ax_y ax_m92) ∈ lw_tbl ∧ Cond.selects (ax_y ax_m92).cls (ax_y ax_m92) (ax_y ax_m92) ∈ lw_tbl)
set_option maxRecDepth 20000 in
theorem ax_p93 : Cond.code (ax_y ax_m93) (ax_c ax_m93) (ax_n ax_m93) (ax_r ax_m93) ∈ lw_tbl := List.mem_of_getElem? (i := 1021) rfl
theorem ax_q93 : ax_wck ax_m93 := (⟨List.mem_of_getElem? (i := 1020) (by decide +kernel), List.mem_of_getElem? (i := 44) (by decide +kernel)⟩ : Cond.instanceMethod (ax_y ax_m93) ∈ lw_tbl ∧ Cond.selects (ax_y ax_m93).cls (ax_y ax_m93) (ax_y ax_m93) ∈ lw_tbl)
set_option maxRecDepth 20000 in
theorem ax_p94 : Cond.code (ax_y ax_m94) (ax_c ax_m94) (ax_n ax_m94) (ax_r ax_m94) ∈ lw_tbl := List.mem_of_getElem? (i := 1025) rfl
theorem ax_q94 : ax_wck ax_m94 := (⟨List.mem_of_getElem? (i := 1024) (by decide +kernel), List.mem_of_getElem? (i := 45) (by decide +kernel)⟩ : Cond.instanceMethod (ax_y ax_m94) ∈ lw_tbl ∧ Cond.selects (ax_y ax_m94).cls (ax_y ax_m94) (ax_y ax_m94) ∈ lw_tbl)
set_option maxRecDepth 20000 in
theorem ax_p95 : Cond.code (ax_y ax_m95) (ax_c ax_m95) (ax_n ax_m95) (ax_r ax_m95) ∈ lw_tbl := List.mem_of_getElem? (i := 1056) rfl
theorem ax_q95 : ax_wck ax_m95 := (⟨List.mem_of_getElem? (i := 1055) (by decide +kernel), List.mem_of_getElem? (i := 51) (by decide +kernel)⟩ : Cond.instanceMethod (ax_y ax_m95) ∈ lw_tbl ∧ Cond.selects (ax_y ax_m95).cls (ax_y ax_m95) (ax_y ax_m95) ∈ lw_tbl)
set_option maxRecDepth 20000 in
theorem ax_p96 : Cond.code (ax_y ax_m96) (ax_c ax_m96) (ax_n ax_m96) (ax_r ax_m96) ∈ lw_tbl := List.mem_of_getElem? (i := 981) rfl
theorem ax_q96 : ax_wck ax_m96 := (⟨List.mem_of_getElem? (i := 980) (by decide +kernel), List.mem_of_getElem? (i := 34) (by decide +kernel)⟩ : Cond.instanceMethod (ax_y ax_m96) ∈ lw_tbl ∧ Cond.selects (ax_y ax_m96).cls (ax_y ax_m96) (ax_y ax_m96) ∈ lw_tbl)
set_option maxRecDepth 20000 in
theorem ax_p97 : Cond.code (ax_y ax_m97) (ax_c ax_m97) (ax_n ax_m97) (ax_r ax_m97) ∈ lw_tbl := List.mem_of_getElem? (i := 973) rfl
theorem ax_q97 : ax_wck ax_m97 := (List.mem_of_getElem? (i := 972) (by decide +kernel) : Cond.static (ax_y ax_m97) ∈ lw_tbl)
set_option maxRecDepth 20000 in
theorem ax_p98 : Cond.code (ax_y ax_m98) (ax_c ax_m98) (ax_n ax_m98) (ax_r ax_m98) ∈ lw_tbl := List.mem_of_getElem? (i := 1048) rfl
theorem ax_q98 : ax_wck ax_m98 := (List.mem_of_getElem? (i := 1047) (by decide +kernel) : Cond.static (ax_y ax_m98) ∈ lw_tbl)
set_option maxRecDepth 20000 in
theorem ax_p99 : Cond.code (ax_y ax_m99) (ax_c ax_m99) (ax_n ax_m99) (ax_r ax_m99) ∈ lw_tbl := List.mem_of_getElem? (i := 985) rfl
theorem ax_q99 : ax_wck ax_m99 := (⟨List.mem_of_getElem? (i := 984) (by decide +kernel), List.mem_of_getElem? (i := 35) (by decide +kernel)⟩ : Cond.instanceMethod (ax_y ax_m99) ∈ lw_tbl ∧ Cond.selects (ax_y ax_m99).cls (ax_y ax_m99) (ax_y ax_m99) ∈ lw_tbl)
set_option maxRecDepth 20000 in
theorem ax_p100 : Cond.code (ax_y ax_m100) (ax_c ax_m100) (ax_n ax_m100) (ax_r ax_m100) ∈ lw_tbl := List.mem_of_getElem? (i := 1033) rfl
theorem ax_q100 : ax_wck ax_m100 := (⟨List.mem_of_getElem? (i := 1032) (by decide +kernel), List.mem_of_getElem? (i := 47) (by decide +kernel)⟩ : Cond.instanceMethod (ax_y ax_m100) ∈ lw_tbl ∧ Cond.selects (ax_y ax_m100).cls (ax_y ax_m100) (ax_y ax_m100) ∈ lw_tbl)
set_option maxRecDepth 20000 in
theorem ax_p101 : Cond.code (ax_y ax_m101) (ax_c ax_m101) (ax_n ax_m101) (ax_r ax_m101) ∈ lw_tbl := List.mem_of_getElem? (i := 1037) rfl
theorem ax_q101 : ax_wck ax_m101 := (⟨List.mem_of_getElem? (i := 1036) (by decide +kernel), List.mem_of_getElem? (i := 48) (by decide +kernel)⟩ : Cond.instanceMethod (ax_y ax_m101) ∈ lw_tbl ∧ Cond.selects (ax_y ax_m101).cls (ax_y ax_m101) (ax_y ax_m101) ∈ lw_tbl)
set_option maxRecDepth 20000 in
theorem ax_p102 : Cond.code (ax_y ax_m102) (ax_c ax_m102) (ax_n ax_m102) (ax_r ax_m102) ∈ lw_tbl := List.mem_of_getElem? (i := 1076) rfl
theorem ax_q102 : ax_wck ax_m102 := (⟨List.mem_of_getElem? (i := 1075) (by decide +kernel), List.mem_of_getElem? (i := 54) (by decide +kernel)⟩ : Cond.instanceMethod (ax_y ax_m102) ∈ lw_tbl ∧ Cond.selects (ax_y ax_m102).cls (ax_y ax_m102) (ax_y ax_m102) ∈ lw_tbl)
set_option maxRecDepth 20000 in
theorem ax_p103 : Cond.code (ax_y ax_m103) (ax_c ax_m103) (ax_n ax_m103) (ax_r ax_m103) ∈ lw_tbl := List.mem_of_getElem? (i := 1005) rfl
theorem ax_q103 : ax_wck ax_m103 := (⟨List.mem_of_getElem? (i := 1004) (by decide +kernel), List.mem_of_getElem? (i := 40) (by decide +kernel)⟩ : Cond.instanceMethod (ax_y ax_m103) ∈ lw_tbl ∧ Cond.selects (ax_y ax_m103).cls (ax_y ax_m103) (ax_y ax_m103) ∈ lw_tbl)
set_option maxRecDepth 20000 in
theorem ax_p104 : Cond.code (ax_y ax_m104) (ax_c ax_m104) (ax_n ax_m104) (ax_r ax_m104) ∈ lw_tbl := List.mem_of_getElem? (i := 1013) rfl
theorem ax_q104 : ax_wck ax_m104 := (⟨List.mem_of_getElem? (i := 1012) (by decide +kernel), List.mem_of_getElem? (i := 42) (by decide +kernel)⟩ : Cond.instanceMethod (ax_y ax_m104) ∈ lw_tbl ∧ Cond.selects (ax_y ax_m104).cls (ax_y ax_m104) (ax_y ax_m104) ∈ lw_tbl)
set_option maxRecDepth 20000 in
theorem ax_p105 : Cond.code (ax_y ax_m105) (ax_c ax_m105) (ax_n ax_m105) (ax_r ax_m105) ∈ lw_tbl := List.mem_of_getElem? (i := 1017) rfl
theorem ax_q105 : ax_wck ax_m105 := (⟨List.mem_of_getElem? (i := 1016) (by decide +kernel), List.mem_of_getElem? (i := 43) (by decide +kernel)⟩ : Cond.instanceMethod (ax_y ax_m105) ∈ lw_tbl ∧ Cond.selects (ax_y ax_m105).cls (ax_y ax_m105) (ax_y ax_m105) ∈ lw_tbl)
set_option maxRecDepth 20000 in
theorem ax_p106 : Cond.code (ax_y ax_m106) (ax_c ax_m106) (ax_n ax_m106) (ax_r ax_m106) ∈ lw_tbl := List.mem_of_getElem? (i := 1009) rfl
theorem ax_q106 : ax_wck ax_m106 := (⟨List.mem_of_getElem? (i := 1008) (by decide +kernel), List.mem_of_getElem? (i := 41) (by decide +kernel)⟩ : Cond.instanceMethod (ax_y ax_m106) ∈ lw_tbl ∧ Cond.selects (ax_y ax_m106).cls (ax_y ax_m106) (ax_y ax_m106) ∈ lw_tbl)
set_option maxRecDepth 20000 in
theorem ax_p107 : Cond.code (ax_y ax_m107) (ax_c ax_m107) (ax_n ax_m107) (ax_r ax_m107) ∈ lw_tbl := List.mem_of_getElem? (i := 1052) rfl
theorem ax_q107 : ax_wck ax_m107 := (⟨List.mem_of_getElem? (i := 1051) (by decide +kernel), List.mem_of_getElem? (i := 50) (by decide +kernel)⟩ : Cond.instanceMethod (ax_y ax_m107) ∈ lw_tbl ∧ Cond.selects (ax_y ax_m107).cls (ax_y ax_m107) (ax_y ax_m107) ∈ lw_tbl)
set_option maxRecDepth 20000 in
theorem ax_p108 : Cond.code (ax_y ax_m108) (ax_c ax_m108) (ax_n ax_m108) (ax_r ax_m108) ∈ lw_tbl := List.mem_of_getElem? (i := 1001) rfl
theorem ax_q108 : ax_wck ax_m108 := (⟨List.mem_of_getElem? (i := 1000) (by decide +kernel), List.mem_of_getElem? (i := 39) (by decide +kernel)⟩ : Cond.instanceMethod (ax_y ax_m108) ∈ lw_tbl ∧ Cond.selects (ax_y ax_m108).cls (ax_y ax_m108) (ax_y ax_m108) ∈ lw_tbl)
set_option maxRecDepth 20000 in
theorem ax_p109 : Cond.code (ax_y ax_m109) (ax_c ax_m109) (ax_n ax_m109) (ax_r ax_m109) ∈ lw_tbl := List.mem_of_getElem? (i := 989) rfl
theorem ax_q109 : ax_wck ax_m109 := (⟨List.mem_of_getElem? (i := 988) (by decide +kernel), List.mem_of_getElem? (i := 36) (by decide +kernel)⟩ : Cond.instanceMethod (ax_y ax_m109) ∈ lw_tbl ∧ Cond.selects (ax_y ax_m109).cls (ax_y ax_m109) (ax_y ax_m109) ∈ lw_tbl)
set_option maxRecDepth 20000 in
theorem ax_p110 : Cond.code (ax_y ax_m110) (ax_c ax_m110) (ax_n ax_m110) (ax_r ax_m110) ∈ lw_tbl := List.mem_of_getElem? (i := 977) rfl
theorem ax_q110 : ax_wck ax_m110 := (⟨List.mem_of_getElem? (i := 976) (by decide +kernel), List.mem_of_getElem? (i := 33) (by decide +kernel)⟩ : Cond.instanceMethod (ax_y ax_m110) ∈ lw_tbl ∧ Cond.selects (ax_y ax_m110).cls (ax_y ax_m110) (ax_y ax_m110) ∈ lw_tbl)
set_option maxRecDepth 20000 in
theorem ax_p111 : Cond.code (ax_y ax_m111) (ax_c ax_m111) (ax_n ax_m111) (ax_r ax_m111) ∈ lw_tbl := List.mem_of_getElem? (i := 956) rfl
theorem ax_q111 : ax_wck ax_m111 := (List.mem_of_getElem? (i := 955) (by decide +kernel) : Cond.static (ax_y ax_m111) ∈ lw_tbl)
set_option maxRecDepth 20000 in
theorem ax_p112 : Cond.code (ax_y ax_m112) (ax_c ax_m112) (ax_n ax_m112) (ax_r ax_m112) ∈ lw_tbl := List.mem_of_getElem? (i := 966) rfl
theorem ax_q112 : ax_wck ax_m112 := (⟨List.mem_of_getElem? (i := 965) (by decide +kernel), List.mem_of_getElem? (i := 31) (by decide +kernel)⟩ : Cond.instanceMethod (ax_y ax_m112) ∈ lw_tbl ∧ Cond.selects (ax_y ax_m112).cls (ax_y ax_m112) (ax_y ax_m112) ∈ lw_tbl)
set_option maxRecDepth 20000 in
theorem ax_p113 : Cond.code (ax_y ax_m113) (ax_c ax_m113) (ax_n ax_m113) (ax_r ax_m113) ∈ lw_tbl := List.mem_of_getElem? (i := 1045) rfl
theorem ax_q113 : ax_wck ax_m113 := (⟨List.mem_of_getElem? (i := 1044) (by decide +kernel), List.mem_of_getElem? (i := 49) (by decide +kernel)⟩ : Cond.instanceMethod (ax_y ax_m113) ∈ lw_tbl ∧ Cond.selects (ax_y ax_m113).cls (ax_y ax_m113) (ax_y ax_m113) ∈ lw_tbl)
set_option maxRecDepth 20000 in
theorem ax_p114 : Cond.code (ax_y ax_m114) (ax_c ax_m114) (ax_n ax_m114) (ax_r ax_m114) ∈ lw_tbl := List.mem_of_getElem? (i := 1064) rfl
theorem ax_q114 : ax_wck ax_m114 := (⟨List.mem_of_getElem? (i := 1063) (by decide +kernel), List.mem_of_getElem? (i := 52) (by decide +kernel)⟩ : Cond.instanceMethod (ax_y ax_m114) ∈ lw_tbl ∧ Cond.selects (ax_y ax_m114).cls (ax_y ax_m114) (ax_y ax_m114) ∈ lw_tbl)
set_option maxRecDepth 20000 in
theorem ax_p115 : Cond.code (ax_y ax_m115) (ax_c ax_m115) (ax_n ax_m115) (ax_r ax_m115) ∈ lw_tbl := List.mem_of_getElem? (i := 1072) rfl
theorem ax_q115 : ax_wck ax_m115 := (⟨List.mem_of_getElem? (i := 1071) (by decide +kernel), List.mem_of_getElem? (i := 53) (by decide +kernel)⟩ : Cond.instanceMethod (ax_y ax_m115) ∈ lw_tbl ∧ Cond.selects (ax_y ax_m115).cls (ax_y ax_m115) (ax_y ax_m115) ∈ lw_tbl)
set_option maxRecDepth 20000 in
theorem ax_p116 : Cond.code (ax_y ax_m116) (ax_c ax_m116) (ax_n ax_m116) (ax_r ax_m116) ∈ lw_tbl := List.mem_of_getElem? (i := 949) rfl
theorem ax_q116 : ax_wck ax_m116 := (⟨List.mem_of_getElem? (i := 948) (by decide +kernel), List.mem_of_getElem? (i := 29) (by decide +kernel)⟩ : Cond.instanceMethod (ax_y ax_m116) ∈ lw_tbl ∧ Cond.selects (ax_y ax_m116).cls (ax_y ax_m116) (ax_y ax_m116) ∈ lw_tbl)
set_option maxRecDepth 20000 in
theorem ax_p117 : Cond.code (ax_y ax_m117) (ax_c ax_m117) (ax_n ax_m117) (ax_r ax_m117) ∈ lw_tbl := List.mem_of_getElem? (i := 945) rfl
theorem ax_q117 : ax_wck ax_m117 := (⟨List.mem_of_getElem? (i := 943) (by decide +kernel), List.mem_of_getElem? (i := 944) (by decide +kernel)⟩ : Cond.instanceMethod (ax_y ax_m117) ∈ lw_tbl ∧ Cond.selects (ax_y ax_m117).cls (ax_y ax_m117) (ax_y ax_m117) ∈ lw_tbl)
set_option maxRecDepth 20000 in
theorem ax_p118 : Cond.code (ax_y ax_m118) (ax_c ax_m118) (ax_n ax_m118) (ax_r ax_m118) ∈ lw_tbl := List.mem_of_getElem? (i := 1041) rfl
theorem ax_q118 : ax_wck ax_m118 := (⟨List.mem_of_getElem? (i := 1039) (by decide +kernel), List.mem_of_getElem? (i := 1040) (by decide +kernel)⟩ : Cond.instanceMethod (ax_y ax_m118) ∈ lw_tbl ∧ Cond.selects (ax_y ax_m118).cls (ax_y ax_m118) (ax_y ax_m118) ∈ lw_tbl)
set_option maxRecDepth 20000 in
theorem ax_p119 : Cond.code (ax_y ax_m119) (ax_c ax_m119) (ax_n ax_m119) (ax_r ax_m119) ∈ lw_tbl := List.mem_of_getElem? (i := 1060) rfl
theorem ax_q119 : ax_wck ax_m119 := (⟨List.mem_of_getElem? (i := 1058) (by decide +kernel), List.mem_of_getElem? (i := 1059) (by decide +kernel)⟩ : Cond.instanceMethod (ax_y ax_m119) ∈ lw_tbl ∧ Cond.selects (ax_y ax_m119).cls (ax_y ax_m119) (ax_y ax_m119) ∈ lw_tbl)
set_option maxRecDepth 20000 in
theorem ax_p120 : Cond.code (ax_y ax_m120) (ax_c ax_m120) (ax_n ax_m120) (ax_r ax_m120) ∈ lw_tbl := List.mem_of_getElem? (i := 1068) rfl
theorem ax_q120 : ax_wck ax_m120 := (⟨List.mem_of_getElem? (i := 1066) (by decide +kernel), List.mem_of_getElem? (i := 1067) (by decide +kernel)⟩ : Cond.instanceMethod (ax_y ax_m120) ∈ lw_tbl ∧ Cond.selects (ax_y ax_m120).cls (ax_y ax_m120) (ax_y ax_m120) ∈ lw_tbl)
set_option maxRecDepth 20000 in
theorem ax_p121 : Cond.code (ax_y ax_m121) (ax_c ax_m121) (ax_n ax_m121) (ax_r ax_m121) ∈ lw_tbl := List.mem_of_getElem? (i := 1080) rfl
theorem ax_q121 : ax_wck ax_m121 := (⟨List.mem_of_getElem? (i := 1078) (by decide +kernel), List.mem_of_getElem? (i := 1079) (by decide +kernel)⟩ : Cond.instanceMethod (ax_y ax_m121) ∈ lw_tbl ∧ Cond.selects (ax_y ax_m121).cls (ax_y ax_m121) (ax_y ax_m121) ∈ lw_tbl)
set_option maxRecDepth 20000 in
theorem ax_p122 : Cond.code (ax_y ax_m122) (ax_c ax_m122) (ax_n ax_m122) (ax_r ax_m122) ∈ lw_tbl := List.mem_of_getElem? (i := 1084) rfl
theorem ax_q122 : ax_wck ax_m122 := (⟨List.mem_of_getElem? (i := 1082) (by decide +kernel), List.mem_of_getElem? (i := 1083) (by decide +kernel)⟩ : Cond.instanceMethod (ax_y ax_m122) ∈ lw_tbl ∧ Cond.selects (ax_y ax_m122).cls (ax_y ax_m122) (ax_y ax_m122) ∈ lw_tbl)
set_option maxRecDepth 20000 in
theorem ax_p123 : Cond.code (ax_y ax_m123) (ax_c ax_m123) (ax_n ax_m123) (ax_r ax_m123) ∈ lw_tbl := List.mem_of_getElem? (i := 1088) rfl
theorem ax_q123 : ax_wck ax_m123 := (⟨List.mem_of_getElem? (i := 1086) (by decide +kernel), List.mem_of_getElem? (i := 1087) (by decide +kernel)⟩ : Cond.instanceMethod (ax_y ax_m123) ∈ lw_tbl ∧ Cond.selects (ax_y ax_m123).cls (ax_y ax_m123) (ax_y ax_m123) ∈ lw_tbl)
set_option maxRecDepth 20000 in
theorem ax_p124 : Cond.code (ax_y ax_m124) (ax_c ax_m124) (ax_n ax_m124) (ax_r ax_m124) ∈ lw_tbl := List.mem_of_getElem? (i := 1092) rfl
theorem ax_q124 : ax_wck ax_m124 := (⟨List.mem_of_getElem? (i := 1090) (by decide +kernel), List.mem_of_getElem? (i := 1091) (by decide +kernel)⟩ : Cond.instanceMethod (ax_y ax_m124) ∈ lw_tbl ∧ Cond.selects (ax_y ax_m124).cls (ax_y ax_m124) (ax_y ax_m124) ∈ lw_tbl)
set_option maxRecDepth 20000 in
theorem ax_p125 : Cond.code (ax_y ax_m125) (ax_c ax_m125) (ax_n ax_m125) (ax_r ax_m125) ∈ lw_tbl := List.mem_of_getElem? (i := 1096) rfl
theorem ax_q125 : ax_wck ax_m125 := (⟨List.mem_of_getElem? (i := 1094) (by decide +kernel), List.mem_of_getElem? (i := 1095) (by decide +kernel)⟩ : Cond.instanceMethod (ax_y ax_m125) ∈ lw_tbl ∧ Cond.selects (ax_y ax_m125).cls (ax_y ax_m125) (ax_y ax_m125) ∈ lw_tbl)
set_option maxRecDepth 20000 in
theorem ax_p126 : Cond.code (ax_y ax_m126) (ax_c ax_m126) (ax_n ax_m126) (ax_r ax_m126) ∈ lw_tbl := List.mem_of_getElem? (i := 1100) rfl
theorem ax_q126 : ax_wck ax_m126 := (⟨List.mem_of_getElem? (i := 1098) (by decide +kernel), List.mem_of_getElem? (i := 1099) (by decide +kernel)⟩ : Cond.instanceMethod (ax_y ax_m126) ∈ lw_tbl ∧ Cond.selects (ax_y ax_m126).cls (ax_y ax_m126) (ax_y ax_m126) ∈ lw_tbl)
set_option maxRecDepth 20000 in
theorem ax_p127 : Cond.code (ax_y ax_m127) (ax_c ax_m127) (ax_n ax_m127) (ax_r ax_m127) ∈ lw_tbl := List.mem_of_getElem? (i := 1104) rfl
theorem ax_q127 : ax_wck ax_m127 := (⟨List.mem_of_getElem? (i := 1102) (by decide +kernel), List.mem_of_getElem? (i := 1103) (by decide +kernel)⟩ : Cond.instanceMethod (ax_y ax_m127) ∈ lw_tbl ∧ Cond.selects (ax_y ax_m127).cls (ax_y ax_m127) (ax_y ax_m127) ∈ lw_tbl)
set_option maxRecDepth 20000 in
theorem ax_p128 : Cond.code (ax_y ax_m128) (ax_c ax_m128) (ax_n ax_m128) (ax_r ax_m128) ∈ lw_tbl := List.mem_of_getElem? (i := 1124) rfl
theorem ax_q128 : ax_wck ax_m128 := (⟨List.mem_of_getElem? (i := 1123) (by decide +kernel), List.mem_of_getElem? (i := 58) (by decide +kernel)⟩ : Cond.instanceMethod (ax_y ax_m128) ∈ lw_tbl ∧ Cond.selects (ax_y ax_m128).cls (ax_y ax_m128) (ax_y ax_m128) ∈ lw_tbl)
set_option maxRecDepth 20000 in
theorem ax_p129 : Cond.code (ax_y ax_m129) (ax_c ax_m129) (ax_n ax_m129) (ax_r ax_m129) ∈ lw_tbl := List.mem_of_getElem? (i := 1120) rfl
theorem ax_q129 : ax_wck ax_m129 := (⟨List.mem_of_getElem? (i := 1119) (by decide +kernel), List.mem_of_getElem? (i := 57) (by decide +kernel)⟩ : Cond.instanceMethod (ax_y ax_m129) ∈ lw_tbl ∧ Cond.selects (ax_y ax_m129).cls (ax_y ax_m129) (ax_y ax_m129) ∈ lw_tbl)
set_option maxRecDepth 20000 in
theorem ax_p130 : Cond.code (ax_y ax_m130) (ax_c ax_m130) (ax_n ax_m130) (ax_r ax_m130) ∈ lw_tbl := List.mem_of_getElem? (i := 1128) rfl
theorem ax_q130 : ax_wck ax_m130 := (⟨List.mem_of_getElem? (i := 1127) (by decide +kernel), List.mem_of_getElem? (i := 59) (by decide +kernel)⟩ : Cond.instanceMethod (ax_y ax_m130) ∈ lw_tbl ∧ Cond.selects (ax_y ax_m130).cls (ax_y ax_m130) (ax_y ax_m130) ∈ lw_tbl)
set_option maxRecDepth 20000 in
theorem ax_p131 : Cond.code (ax_y ax_m131) (ax_c ax_m131) (ax_n ax_m131) (ax_r ax_m131) ∈ lw_tbl := List.mem_of_getElem? (i := 1132) rfl
theorem ax_q131 : ax_wck ax_m131 := (⟨List.mem_of_getElem? (i := 1131) (by decide +kernel), List.mem_of_getElem? (i := 60) (by decide +kernel)⟩ : Cond.instanceMethod (ax_y ax_m131) ∈ lw_tbl ∧ Cond.selects (ax_y ax_m131).cls (ax_y ax_m131) (ax_y ax_m131) ∈ lw_tbl)
set_option maxRecDepth 20000 in
theorem ax_p132 : Cond.code (ax_y ax_m132) (ax_c ax_m132) (ax_n ax_m132) (ax_r ax_m132) ∈ lw_tbl := List.mem_of_getElem? (i := 1116) rfl
theorem ax_q132 : ax_wck ax_m132 := (⟨List.mem_of_getElem? (i := 1115) (by decide +kernel), List.mem_of_getElem? (i := 56) (by decide +kernel)⟩ : Cond.instanceMethod (ax_y ax_m132) ∈ lw_tbl ∧ Cond.selects (ax_y ax_m132).cls (ax_y ax_m132) (ax_y ax_m132) ∈ lw_tbl)
set_option maxRecDepth 20000 in
theorem ax_p133 : Cond.code (ax_y ax_m133) (ax_c ax_m133) (ax_n ax_m133) (ax_r ax_m133) ∈ lw_tbl := List.mem_of_getElem? (i := 1148) rfl
theorem ax_q133 : ax_wck ax_m133 := (⟨List.mem_of_getElem? (i := 1147) (by decide +kernel), List.mem_of_getElem? (i := 64) (by decide +kernel)⟩ : Cond.instanceMethod (ax_y ax_m133) ∈ lw_tbl ∧ Cond.selects (ax_y ax_m133).cls (ax_y ax_m133) (ax_y ax_m133) ∈ lw_tbl)
set_option maxRecDepth 20000 in
theorem ax_p134 : Cond.code (ax_y ax_m134) (ax_c ax_m134) (ax_n ax_m134) (ax_r ax_m134) ∈ lw_tbl := List.mem_of_getElem? (i := 1144) rfl
theorem ax_q134 : ax_wck ax_m134 := (⟨List.mem_of_getElem? (i := 1143) (by decide +kernel), List.mem_of_getElem? (i := 63) (by decide +kernel)⟩ : Cond.instanceMethod (ax_y ax_m134) ∈ lw_tbl ∧ Cond.selects (ax_y ax_m134).cls (ax_y ax_m134) (ax_y ax_m134) ∈ lw_tbl)
set_option maxRecDepth 20000 in
theorem ax_p135 : Cond.code (ax_y ax_m135) (ax_c ax_m135) (ax_n ax_m135) (ax_r ax_m135) ∈ lw_tbl := List.mem_of_getElem? (i := 1140) rfl
theorem ax_q135 : ax_wck ax_m135 := (⟨List.mem_of_getElem? (i := 1139) (by decide +kernel), List.mem_of_getElem? (i := 62) (by decide +kernel)⟩ : Cond.instanceMethod (ax_y ax_m135) ∈ lw_tbl ∧ Cond.selects (ax_y ax_m135).cls (ax_y ax_m135) (ax_y ax_m135) ∈ lw_tbl)
set_option maxRecDepth 20000 in
theorem ax_p136 : Cond.code (ax_y ax_m136) (ax_c ax_m136) (ax_n ax_m136) (ax_r ax_m136) ∈ lw_tbl := List.mem_of_getElem? (i := 1136) rfl
theorem ax_q136 : ax_wck ax_m136 := (⟨List.mem_of_getElem? (i := 1135) (by decide +kernel), List.mem_of_getElem? (i := 61) (by decide +kernel)⟩ : Cond.instanceMethod (ax_y ax_m136) ∈ lw_tbl ∧ Cond.selects (ax_y ax_m136).cls (ax_y ax_m136) (ax_y ax_m136) ∈ lw_tbl)
set_option maxRecDepth 20000 in
theorem ax_p137 : Cond.code (ax_y ax_m137) (ax_c ax_m137) (ax_n ax_m137) (ax_r ax_m137) ∈ lw_tbl := List.mem_of_getElem? (i := 1112) rfl
theorem ax_q137 : ax_wck ax_m137 := (⟨List.mem_of_getElem? (i := 1111) (by decide +kernel), List.mem_of_getElem? (i := 55) (by decide +kernel)⟩ : Cond.instanceMethod (ax_y ax_m137) ∈ lw_tbl ∧ Cond.selects (ax_y ax_m137).cls (ax_y ax_m137) (ax_y ax_m137) ∈ lw_tbl)
set_option maxRecDepth 20000 in
theorem ax_p138 : Cond.code (ax_y ax_m138) (ax_c ax_m138) (ax_n ax_m138) (ax_r ax_m138) ∈ lw_tbl := List.mem_of_getElem? (i := 1108) rfl
theorem ax_q138 : ax_wck ax_m138 := (⟨List.mem_of_getElem? (i := 1106) (by decide +kernel), List.mem_of_getElem? (i := 1107) (by decide +kernel)⟩ : Cond.instanceMethod (ax_y ax_m138) ∈ lw_tbl ∧ Cond.selects (ax_y ax_m138).cls (ax_y ax_m138) (ax_y ax_m138) ∈ lw_tbl)
set_option maxRecDepth 20000 in
theorem ax_p139 : Cond.code (ax_y ax_m139) (ax_c ax_m139) (ax_n ax_m139) (ax_r ax_m139) ∈ lw_tbl := List.mem_of_getElem? (i := 1152) rfl
theorem ax_q139 : ax_wck ax_m139 := (⟨List.mem_of_getElem? (i := 1150) (by decide +kernel), List.mem_of_getElem? (i := 1151) (by decide +kernel)⟩ : Cond.instanceMethod (ax_y ax_m139) ∈ lw_tbl ∧ Cond.selects (ax_y ax_m139).cls (ax_y ax_m139) (ax_y ax_m139) ∈ lw_tbl)
set_option maxRecDepth 20000 in
theorem ax_p140 : Cond.code (ax_y ax_m140) (ax_c ax_m140) (ax_n ax_m140) (ax_r ax_m140) ∈ lw_tbl := List.mem_of_getElem? (i := 1156) rfl
theorem ax_q140 : ax_wck ax_m140 := (⟨List.mem_of_getElem? (i := 1154) (by decide +kernel), List.mem_of_getElem? (i := 1155) (by decide +kernel)⟩ : Cond.instanceMethod (ax_y ax_m140) ∈ lw_tbl ∧ Cond.selects (ax_y ax_m140).cls (ax_y ax_m140) (ax_y ax_m140) ∈ lw_tbl)
set_option maxRecDepth 20000 in
theorem ax_p141 : Cond.code (ax_y ax_m141) (ax_c ax_m141) (ax_n ax_m141) (ax_r ax_m141) ∈ lw_tbl := List.mem_of_getElem? (i := 1160) rfl
theorem ax_q141 : ax_wck ax_m141 := (⟨List.mem_of_getElem? (i := 1158) (by decide +kernel), List.mem_of_getElem? (i := 1159) (by decide +kernel)⟩ : Cond.instanceMethod (ax_y ax_m141) ∈ lw_tbl ∧ Cond.selects (ax_y ax_m141).cls (ax_y ax_m141) (ax_y ax_m141) ∈ lw_tbl)
def ax_ok (q : ax_M) : Prop := ax_mck q = true ∧ Cond.code (ax_y q) (ax_c q) (ax_n q) (ax_r q) ∈ lw_tbl ∧ ax_wck q
theorem ax_all : ∀ q ∈ ax_Ms, ax_ok q := List.forall_mem_cons.mpr ⟨⟨ax_k0, ax_p0, ax_q0⟩, List.forall_mem_cons.mpr ⟨⟨ax_k1, ax_p1, ax_q1⟩, List.forall_mem_cons.mpr ⟨⟨ax_k2, ax_p2, ax_q2⟩, List.forall_mem_cons.mpr ⟨⟨ax_k3, ax_p3, ax_q3⟩, List.forall_mem_cons.mpr ⟨⟨ax_k4, ax_p4, ax_q4⟩, List.forall_mem_cons.mpr ⟨⟨ax_k5, ax_p5, ax_q5⟩, List.forall_mem_cons.mpr ⟨⟨ax_k6, ax_p6, ax_q6⟩, List.forall_mem_cons.mpr ⟨⟨ax_k7, ax_p7, ax_q7⟩, List.forall_mem_cons.mpr ⟨⟨ax_k8, ax_p8, ax_q8⟩, List.forall_mem_cons.mpr ⟨⟨ax_k9, ax_p9, ax_q9⟩, List.forall_mem_cons.mpr ⟨⟨ax_k10, ax_p10, ax_q10⟩, List.forall_mem_cons.mpr ⟨⟨ax_k11, ax_p11, ax_q11⟩, List.forall_mem_cons.mpr ⟨⟨ax_k12, ax_p12, ax_q12⟩, List.forall_mem_cons.mpr ⟨⟨ax_k13, ax_p13, ax_q13⟩, List.forall_mem_cons.mpr ⟨⟨ax_k14, ax_p14, ax_q14⟩, List.forall_mem_cons.mpr ⟨⟨ax_k15, ax_p15, ax_q15⟩, List.forall_mem_cons.mpr ⟨⟨ax_k16, ax_p16, ax_q16⟩, List.forall_mem_cons.mpr ⟨⟨ax_k17, ax_p17, ax_q17⟩, List.forall_mem_cons.mpr ⟨⟨ax_k18, ax_p18, ax_q18⟩, List.forall_mem_cons.mpr ⟨⟨ax_k19, ax_p19, ax_q19⟩, List.forall_mem_cons.mpr ⟨⟨ax_k20, ax_p20, ax_q20⟩, List.forall_mem_cons.mpr ⟨⟨ax_k21, ax_p21, ax_q21⟩, List.forall_mem_cons.mpr ⟨⟨ax_k22, ax_p22, ax_q22⟩, List.forall_mem_cons.mpr ⟨⟨ax_k23, ax_p23, ax_q23⟩, List.forall_mem_cons.mpr ⟨⟨ax_k24, ax_p24, ax_q24⟩, List.forall_mem_cons.mpr ⟨⟨ax_k25, ax_p25, ax_q25⟩, List.forall_mem_cons.mpr ⟨⟨ax_k26, ax_p26, ax_q26⟩, List.forall_mem_cons.mpr ⟨⟨ax_k27, ax_p27, ax_q27⟩, List.forall_mem_cons.mpr ⟨⟨ax_k28, ax_p28, ax_q28⟩, List.forall_mem_cons.mpr ⟨⟨ax_k29, ax_p29, ax_q29⟩, List.forall_mem_cons.mpr ⟨⟨ax_k30, ax_p30, ax_q30⟩, List.forall_mem_cons.mpr ⟨⟨ax_k31, ax_p31, ax_q31⟩, List.forall_mem_cons.mpr ⟨⟨ax_k32, ax_p32, ax_q32⟩, List.forall_mem_cons.mpr ⟨⟨ax_k33, ax_p33, ax_q33⟩, List.forall_mem_cons.mpr ⟨⟨ax_k34, ax_p34, ax_q34⟩, List.forall_mem_cons.mpr ⟨⟨ax_k35, ax_p35, ax_q35⟩, List.forall_mem_cons.mpr ⟨⟨ax_k36, ax_p36, ax_q36⟩, List.forall_mem_cons.mpr ⟨⟨ax_k37, ax_p37, ax_q37⟩, List.forall_mem_cons.mpr ⟨⟨ax_k38, ax_p38, ax_q38⟩, List.forall_mem_cons.mpr ⟨⟨ax_k39, ax_p39, ax_q39⟩, List.forall_mem_cons.mpr ⟨⟨ax_k40, ax_p40, ax_q40⟩, List.forall_mem_cons.mpr ⟨⟨ax_k41, ax_p41, ax_q41⟩, List.forall_mem_cons.mpr ⟨⟨ax_k42, ax_p42, ax_q42⟩, List.forall_mem_cons.mpr ⟨⟨ax_k43, ax_p43, ax_q43⟩, List.forall_mem_cons.mpr ⟨⟨ax_k44, ax_p44, ax_q44⟩, List.forall_mem_cons.mpr ⟨⟨ax_k45, ax_p45, ax_q45⟩, List.forall_mem_cons.mpr ⟨⟨ax_k46, ax_p46, ax_q46⟩, List.forall_mem_cons.mpr ⟨⟨ax_k47, ax_p47, ax_q47⟩, List.forall_mem_cons.mpr ⟨⟨ax_k48, ax_p48, ax_q48⟩, List.forall_mem_cons.mpr ⟨⟨ax_k49, ax_p49, ax_q49⟩, List.forall_mem_cons.mpr ⟨⟨ax_k50, ax_p50, ax_q50⟩, List.forall_mem_cons.mpr ⟨⟨ax_k51, ax_p51, ax_q51⟩, List.forall_mem_cons.mpr ⟨⟨ax_k52, ax_p52, ax_q52⟩, List.forall_mem_cons.mpr ⟨⟨ax_k53, ax_p53, ax_q53⟩, List.forall_mem_cons.mpr ⟨⟨ax_k54, ax_p54, ax_q54⟩, List.forall_mem_cons.mpr ⟨⟨ax_k55, ax_p55, ax_q55⟩, List.forall_mem_cons.mpr ⟨⟨ax_k56, ax_p56, ax_q56⟩, List.forall_mem_cons.mpr ⟨⟨ax_k57, ax_p57, ax_q57⟩, List.forall_mem_cons.mpr ⟨⟨ax_k58, ax_p58, ax_q58⟩, List.forall_mem_cons.mpr ⟨⟨ax_k59, ax_p59, ax_q59⟩, List.forall_mem_cons.mpr ⟨⟨ax_k60, ax_p60, ax_q60⟩, List.forall_mem_cons.mpr ⟨⟨ax_k61, ax_p61, ax_q61⟩, List.forall_mem_cons.mpr ⟨⟨ax_k62, ax_p62, ax_q62⟩, List.forall_mem_cons.mpr ⟨⟨ax_k63, ax_p63, ax_q63⟩, List.forall_mem_cons.mpr ⟨⟨ax_k64, ax_p64, ax_q64⟩, List.forall_mem_cons.mpr ⟨⟨ax_k65, ax_p65, ax_q65⟩, List.forall_mem_cons.mpr ⟨⟨ax_k66, ax_p66, ax_q66⟩, List.forall_mem_cons.mpr ⟨⟨ax_k67, ax_p67, ax_q67⟩, List.forall_mem_cons.mpr ⟨⟨ax_k68, ax_p68, ax_q68⟩, List.forall_mem_cons.mpr ⟨⟨ax_k69, ax_p69, ax_q69⟩, List.forall_mem_cons.mpr ⟨⟨ax_k70, ax_p70, ax_q70⟩, List.forall_mem_cons.mpr ⟨⟨ax_k71, ax_p71, ax_q71⟩, List.forall_mem_cons.mpr ⟨⟨ax_k72, ax_p72, ax_q72⟩, List.forall_mem_cons.mpr ⟨⟨ax_k73, ax_p73, ax_q73⟩, List.forall_mem_cons.mpr ⟨⟨ax_k74, ax_p74, ax_q74⟩, List.forall_mem_cons.mpr ⟨⟨ax_k75, ax_p75, ax_q75⟩, List.forall_mem_cons.mpr ⟨⟨ax_k76, ax_p76, ax_q76⟩, List.forall_mem_cons.mpr ⟨⟨ax_k77, ax_p77, ax_q77⟩, List.forall_mem_cons.mpr ⟨⟨ax_k78, ax_p78, ax_q78⟩, List.forall_mem_cons.mpr ⟨⟨ax_k79, ax_p79, ax_q79⟩, List.forall_mem_cons.mpr ⟨⟨ax_k80, ax_p80, ax_q80⟩, List.forall_mem_cons.mpr ⟨⟨ax_k81, ax_p81, ax_q81⟩, List.forall_mem_cons.mpr ⟨⟨ax_k82, ax_p82, ax_q82⟩, List.forall_mem_cons.mpr ⟨⟨ax_k83, ax_p83, ax_q83⟩, List.forall_mem_cons.mpr ⟨⟨ax_k84, ax_p84, ax_q84⟩, List.forall_mem_cons.mpr ⟨⟨ax_k85, ax_p85, ax_q85⟩, List.forall_mem_cons.mpr ⟨⟨ax_k86, ax_p86, ax_q86⟩, List.forall_mem_cons.mpr ⟨⟨ax_k87, ax_p87, ax_q87⟩, List.forall_mem_cons.mpr ⟨⟨ax_k88, ax_p88, ax_q88⟩, List.forall_mem_cons.mpr ⟨⟨ax_k89, ax_p89, ax_q89⟩, List.forall_mem_cons.mpr ⟨⟨ax_k90, ax_p90, ax_q90⟩, List.forall_mem_cons.mpr ⟨⟨ax_k91, ax_p91, ax_q91⟩, List.forall_mem_cons.mpr ⟨⟨ax_k92, ax_p92, ax_q92⟩, List.forall_mem_cons.mpr ⟨⟨ax_k93, ax_p93, ax_q93⟩, List.forall_mem_cons.mpr ⟨⟨ax_k94, ax_p94, ax_q94⟩, List.forall_mem_cons.mpr ⟨⟨ax_k95, ax_p95, ax_q95⟩, List.forall_mem_cons.mpr ⟨⟨ax_k96, ax_p96, ax_q96⟩, List.forall_mem_cons.mpr ⟨⟨ax_k97, ax_p97, ax_q97⟩, List.forall_mem_cons.mpr ⟨⟨ax_k98, ax_p98, ax_q98⟩, List.forall_mem_cons.mpr ⟨⟨ax_k99, ax_p99, ax_q99⟩, List.forall_mem_cons.mpr ⟨⟨ax_k100, ax_p100, ax_q100⟩, List.forall_mem_cons.mpr ⟨⟨ax_k101, ax_p101, ax_q101⟩, List.forall_mem_cons.mpr ⟨⟨ax_k102, ax_p102, ax_q102⟩, List.forall_mem_cons.mpr ⟨⟨ax_k103, ax_p103, ax_q103⟩, List.forall_mem_cons.mpr ⟨⟨ax_k104, ax_p104, ax_q104⟩, List.forall_mem_cons.mpr ⟨⟨ax_k105, ax_p105, ax_q105⟩, List.forall_mem_cons.mpr ⟨⟨ax_k106, ax_p106, ax_q106⟩, List.forall_mem_cons.mpr ⟨⟨ax_k107, ax_p107, ax_q107⟩, List.forall_mem_cons.mpr ⟨⟨ax_k108, ax_p108, ax_q108⟩, List.forall_mem_cons.mpr ⟨⟨ax_k109, ax_p109, ax_q109⟩, List.forall_mem_cons.mpr ⟨⟨ax_k110, ax_p110, ax_q110⟩, List.forall_mem_cons.mpr ⟨⟨ax_k111, ax_p111, ax_q111⟩, List.forall_mem_cons.mpr ⟨⟨ax_k112, ax_p112, ax_q112⟩, List.forall_mem_cons.mpr ⟨⟨ax_k113, ax_p113, ax_q113⟩, List.forall_mem_cons.mpr ⟨⟨ax_k114, ax_p114, ax_q114⟩, List.forall_mem_cons.mpr ⟨⟨ax_k115, ax_p115, ax_q115⟩, List.forall_mem_cons.mpr ⟨⟨ax_k116, ax_p116, ax_q116⟩, List.forall_mem_cons.mpr ⟨⟨ax_k117, ax_p117, ax_q117⟩, List.forall_mem_cons.mpr ⟨⟨ax_k118, ax_p118, ax_q118⟩, List.forall_mem_cons.mpr ⟨⟨ax_k119, ax_p119, ax_q119⟩, List.forall_mem_cons.mpr ⟨⟨ax_k120, ax_p120, ax_q120⟩, List.forall_mem_cons.mpr ⟨⟨ax_k121, ax_p121, ax_q121⟩, List.forall_mem_cons.mpr ⟨⟨ax_k122, ax_p122, ax_q122⟩, List.forall_mem_cons.mpr ⟨⟨ax_k123, ax_p123, ax_q123⟩, List.forall_mem_cons.mpr ⟨⟨ax_k124, ax_p124, ax_q124⟩, List.forall_mem_cons.mpr ⟨⟨ax_k125, ax_p125, ax_q125⟩, List.forall_mem_cons.mpr ⟨⟨ax_k126, ax_p126, ax_q126⟩, List.forall_mem_cons.mpr ⟨⟨ax_k127, ax_p127, ax_q127⟩, List.forall_mem_cons.mpr ⟨⟨ax_k128, ax_p128, ax_q128⟩, List.forall_mem_cons.mpr ⟨⟨ax_k129, ax_p129, ax_q129⟩, List.forall_mem_cons.mpr ⟨⟨ax_k130, ax_p130, ax_q130⟩, List.forall_mem_cons.mpr ⟨⟨ax_k131, ax_p131, ax_q131⟩, List.forall_mem_cons.mpr ⟨⟨ax_k132, ax_p132, ax_q132⟩, List.forall_mem_cons.mpr ⟨⟨ax_k133, ax_p133, ax_q133⟩, List.forall_mem_cons.mpr ⟨⟨ax_k134, ax_p134, ax_q134⟩, List.forall_mem_cons.mpr ⟨⟨ax_k135, ax_p135, ax_q135⟩, List.forall_mem_cons.mpr ⟨⟨ax_k136, ax_p136, ax_q136⟩, List.forall_mem_cons.mpr ⟨⟨ax_k137, ax_p137, ax_q137⟩, List.forall_mem_cons.mpr ⟨⟨ax_k138, ax_p138, ax_q138⟩, List.forall_mem_cons.mpr ⟨⟨ax_k139, ax_p139, ax_q139⟩, List.forall_mem_cons.mpr ⟨⟨ax_k140, ax_p140, ax_q140⟩, List.forall_mem_cons.mpr ⟨⟨ax_k141, ax_p141, ax_q141⟩, fun _ h => absurd h List.not_mem_nil⟩⟩⟩⟩⟩⟩⟩⟩⟩⟩⟩⟩⟩⟩⟩⟩⟩⟩⟩⟩⟩⟩⟩⟩⟩⟩⟩⟩⟩⟩⟩⟩⟩⟩⟩⟩⟩⟩⟩⟩⟩⟩⟩⟩⟩⟩⟩⟩⟩⟩⟩⟩⟩⟩⟩⟩⟩⟩⟩⟩⟩⟩⟩⟩⟩⟩⟩⟩⟩⟩⟩⟩⟩⟩⟩⟩⟩⟩⟩⟩⟩⟩⟩⟩⟩⟩⟩⟩⟩⟩⟩⟩⟩⟩⟩⟩⟩⟩⟩⟩⟩⟩⟩⟩⟩⟩⟩⟩⟩⟩⟩⟩⟩⟩⟩⟩⟩⟩⟩⟩⟩⟩⟩⟩⟩⟩⟩⟩⟩⟩⟩⟩⟩⟩⟩⟩⟩⟩⟩⟩⟩⟩
/-- the classes: fields, types, words -/
def ax_ty (ci : Nat) : Nat → FieldType := match ci with | 0 => tyX0 | 1 => tyX1 | 2 => tyX2 | 3 => tyX3 | 4 => tyX4 | 5 => tyX5 | 6 => tyX6 | 7 => tyX7 | _ => tyX8
theorem ax_lay : ∀ r ∈ vwCl, ∀ w ∈ u_ws r.1 r.2.1 r.2.2, w ∈ lw_tbl := by decide +kernel
theorem ax_ini : ∀ r ∈ vwCl, Cond.initialized r.1 ∈ lw_tbl := by decide +kernel
end
section
/-! THE WORLD: every cell of the class, of the reference, and the law's long array has a number; 'ax_sh' says what stands there; what changes is whole numbers alone ('ax_D': cell, place). Rows r (0..15, eight of the writer, eight of the reader): 32 r the object, + 1 the array of rows, + 2 the sizes, + 3 + k row k. -/
abbrev ax_D : Type := Nat → Nat → Int32
/-- a field or a place: a cell, a number that changes, a number that stays -/
abbrev ax_X : Type := Nat ⊕ Option Int32
abbrev ax_S : Type := Nat × Nat × (Nat → ax_X)
def ax_nr (r : Nat) : Nat := match r % 8 with | 0 => 1 | 1 => 6 | 2 => 20 | 3 => 1 | 4 => 1 | 5 => 1 | _ => 20
def ax_rm (r : Nat) : Nat := match r % 8 with | 0 => 6 | 1 => 10 | 2 => 5 | 3 => 20 | 4 => 20 | 5 => 20 | _ => 12
def ax_dt : Nat → ax_X := fun _ => .inr none
def ax_of (l : List ax_X) : Nat → ax_X := fun k => l.getD k (.inr none)
def ax_rw (r j : Nat) : Option ax_S :=
  if j = 0 then some (8, 3, ax_of [.inl (32 * r + 1), .inl (32 * r + 2), .inr (some (nI (ax_rm r)))])
  else if j = 1 then some (3, ax_nr r, fun k => .inl (32 * r + 3 + k))
  else if j = 2 then some (0, ax_nr r, ax_dt)
  else if j < 3 + ax_nr r then some (0, ax_rm r, ax_dt) else none
def ax_so : List (Nat × ax_S) := [(512, 11, 2, ax_of [.inl 513, .inl 514]), (513, 10, 3, ax_of [.inl 515, .inl 519, .inl 521]), (514, 7, 5, ax_of [.inl 517, .inl 527, .inl 520, .inl 522, .inr none]),
  (515, 4, 2, ax_of [.inl 516, .inr none]), (516, 0, 4000, ax_dt), (517, 4, 2, ax_of [.inl 518, .inr none]), (518, 0, 4000, ax_dt),
  (519, 9, 6, ax_of [.inl 0, .inl 32, .inl 64, .inl 96, .inl 128, .inl 160]), (520, 9, 6, ax_of [.inl 256, .inl 288, .inl 320, .inl 352, .inl 384, .inl 416]),
  (521, 6, 6, ax_of [.inl 192, .inl 224, .inl 523, .inl 525, .inr none, .inr none]), (522, 6, 6, ax_of [.inl 448, .inl 480, .inl 524, .inl 526, .inr none, .inr none]),
  (523, 0, 8, ax_dt), (524, 0, 8, ax_dt), (525, 1, 8, ax_dt), (526, 1, 8, ax_dt),
  (527, 5, 2, ax_of [.inl 528, .inr none]), (528, 3, 4, fun k => .inl (529 + k)), (529, 0, 200, ax_dt), (530, 0, 200, ax_dt), (531, 0, 200, ax_dt), (532, 0, 200, ax_dt),
  (540, 12, 30, fun k => if k = 0 ∨ k = 19 ∨ k = 21 ∨ k = 22 ∨ k = 23 ∨ k = 24 ∨ k = 29 then .inr none else .inl (541 + k)),
  (542, 0, 2, ax_dt), (543, 0, 12, ax_dt), (544, 0, 12, ax_dt), (545, 0, 120, ax_dt), (546, 0, 2, ax_dt), (547, 0, 40, ax_dt), (548, 0, 40, ax_dt), (549, 0, 40, ax_dt), (550, 0, 200, ax_dt), (551, 0, 2, ax_dt), (552, 0, 40, ax_dt), (553, 0, 80, ax_dt), (554, 0, 960, ax_dt), (555, 0, 2, ax_dt), (556, 0, 16, ax_dt), (557, 1, 16, ax_dt), (558, 1, 2, ax_dt), (559, 1, 4400, ax_dt), (561, 1, 4400, ax_dt), (566, 0, 201, ax_dt), (567, 0, 201, ax_dt), (568, 0, 201, ax_dt), (569, 0, 201, ax_dt), (580, 2, 1, ax_dt)]
def ax_sh (i : Nat) : Option ax_S := if i < 512 then ax_rw (i / 32) (i % 32) else if i < 600 then ax_so.lookup i else none
def ax_ids : List Nat := (List.range 600).filter (fun i => (ax_sh i).isSome)
theorem ax_sh_lt {i : Nat} {q : ax_S} (h : ax_sh i = some q) : i < 600 := by
  unfold ax_sh at h
  split at h
  · omega
  · split at h
    · assumption
    · cases h
theorem ax_sh_in {i : Nat} {q : ax_S} (h : ax_sh i = some q) : i ∈ ax_ids := by
  unfold ax_ids
  rw [List.mem_filter, List.mem_range, h]
  exact ⟨ax_sh_lt h, rfl⟩
/-- values with cells by their numbers, and the same by their addresses -/
def ax_cv (ad : Nat → Nat) (v : Value) : Value := match v with
  | .ref j => .ref (ad j)
  | w => w
def ax_av (d : ax_D) (id : Nat) (f : Nat → ax_X) (k : Nat) : Value := match f k with
  | .inl j => .ref j
  | .inr none => .int (d id k)
  | .inr (some c) => .int c
def ax_rf (ad : Nat → Nat) (x : ax_X) : Option Nat := match x with
  | .inl j => some (ad j)
  | .inr _ => none
def ax_cl (ad : Nat → Nat) (ca : Nat → ClassId) (d : ax_D) (id : Nat) : va_E := match ax_sh id with
  | none => .inr (0, [])
  | some (0, n, _) => .inl (ca 0, n, .inl (d id))
  | some (1, n, _) => .inl (ca 1, n, .inl (d id))
  | some (2, n, _) => .inl (ca 2, n, .inr (.inl (fun i => (d id i).toInt64)))
  | some (3, n, f) => .inl (ca 3, n, .inr (.inr (.inr (.inr (fun i => ax_rf ad (f i))))))
  | some (t + 4, n, f) => .inr (t, (List.range n).map (fun k => ax_cv ad (ax_av d id f k)))
def ax_w (ad : Nat → Nat) (ca : Nat → ClassId) (d : ax_D) : va_W := ax_ids.map (fun i => (ad i, ax_cl ad ca d i))
def ax_up (d : ax_D) (id k : Nat) (x : Int32) : ax_D := va_up d id (upd (d id) k x)
theorem ax_up_at (d : ax_D) (id k : Nat) (x : Int32) : ax_up d id k x id = upd (d id) k x := by simp [ax_up, va_up]
theorem ax_up_ne {d : ax_D} {id k j : Nat} {x : Int32} (h : j ≠ id) : ax_up d id k x j = d j := by simp [ax_up, va_up, h]
theorem ax_cl_eq {ad : Nat → Nat} {ca : Nat → ClassId} {d d' : ax_D} {i : Nat} (h : d' i = d i) : ax_cl ad ca d' i = ax_cl ad ca d i := by
  unfold ax_cl
  split <;> first | rfl | (simp only [h]) | (simp only [ax_av, h])
theorem ax_w_get (ad : Nat → Nat) (ca : Nat → ClassId) (d : ax_D) {i : Nat} {q : ax_S} (h : ax_sh i = some q) : ∃ k : Nat, ax_ids[k]? = some i ∧ (ax_w ad ca d)[k]? = some (ad i, ax_cl ad ca d i) := by
  obtain ⟨k, hk⟩ := List.getElem?_of_mem (ax_sh_in h)
  exact ⟨k, hk, by unfold ax_w; rw [List.getElem?_map, hk]; rfl⟩
theorem ax_w_set {ad : Nat → Nat} {ca : Nat → ClassId} {d d' : ax_D} {A : Nat → Prop} {i k : Nat} (hD : va_D A (ax_w ad ca d)) (hk : ax_ids[k]? = some i) (he : ∀ j, j ≠ i → d' j = d j) : (ax_w ad ca d).set k (ad i, ax_cl ad ca d' i) = ax_w ad ca d' := by
  have hkl : k < ax_ids.length := (List.getElem?_eq_some_iff.mp hk).1
  have hwk : (ax_w ad ca d)[k]? = some (ad i, ax_cl ad ca d i) := by unfold ax_w; rw [List.getElem?_map, hk]; rfl
  apply List.ext_getElem?
  intro j
  by_cases hj : j = k
  · subst hj
    rw [List.getElem?_set_self (by unfold ax_w; rw [List.length_map]; exact hkl)]
    unfold ax_w
    rw [List.getElem?_map, hk]
    rfl
  · rw [List.getElem?_set_ne (Ne.symm hj)]
    unfold ax_w
    rw [List.getElem?_map, List.getElem?_map]
    cases hji : ax_ids[j]? with
    | none => rfl
    | some b =>
      have hb : b ≠ i := by
        rintro rfl
        exact hj (hD.1 j k _ _ (by unfold ax_w; rw [List.getElem?_map, hji]; rfl) hwk rfl)
      show some (ad b, ax_cl ad ca d b) = some (ad b, ax_cl ad ca d' b)
      rw [ax_cl_eq (he b hb)]
theorem ax_w_D {ad : Nat → Nat} {ca : Nat → ClassId} {d d' : ax_D} {A : Nat → Prop} (hD : va_D A (ax_w ad ca d)) : va_D A (ax_w ad ca d') := by
  have key : ∀ (k : Nat) (q : Nat × va_E), (ax_w ad ca d')[k]? = some q → ∃ e, (ax_w ad ca d)[k]? = some (q.1, e) := by
    intro k q hk
    unfold ax_w at hk ⊢
    rw [List.getElem?_map] at hk ⊢
    cases h : ax_ids[k]? with
    | none => rw [h] at hk; cases hk
    | some b =>
      rw [h] at hk
      cases hk
      exact ⟨_, rfl⟩
  refine ⟨fun i j x y hi hj hxy => ?_, fun k q hk => ?_⟩
  · obtain ⟨e1, h1⟩ := key i x hi
    obtain ⟨e2, h2⟩ := key j y hj
    exact hD.1 i j _ _ h1 h2 hxy
  · obtain ⟨e1, h1⟩ := key k q hk
    exact hD.2 k (q.1, e1) h1
/-- which cells the methods may change -/
def ax_A (ad : Nat → Nat) (sz : Nat) : Nat → Prop := fun q => (∃ i, i ∈ ax_ids ∧ q = ad i) ∨ sz ≤ q
theorem ax_A_D {ad : Nat → Nat} {ca : Nat → ClassId} {d : ax_D} {A : Nat → Prop} {sz : Nat} (hD : va_D A (ax_w ad ca d)) : va_D (ax_A ad sz) (ax_w ad ca d) := by
  refine ⟨hD.1, fun k q hk => Or.inl ?_⟩
  unfold ax_w at hk
  rw [List.getElem?_map] at hk
  cases h : ax_ids[k]? with
  | none => rw [h] at hk; cases hk
  | some b =>
    rw [h] at hk
    cases hk
    exact ⟨b, List.mem_of_getElem? h, rfl⟩
theorem ax_A_le {ad : Nat → Nat} {sz sz' : Nat} (h : sz ≤ sz') : ∀ q, ax_A ad sz' q → ax_A ad sz q := fun q hq => hq.elim Or.inl (fun h2 => Or.inr (Nat.le_trans h h2))
abbrev ax_ts (ca : Nat → ClassId) : List (ClassId × FieldType) := [(ca 0, .int), (ca 1, .boolean), (ca 2, .long), (ca 3, .array .int)]
end
section
/-! THE ABSTRACT MACHINE: what a method's instructions do to the world's numbers ('ax_st': one step, as a condition on what comes behind it), the least relation closed under it ('ax_W'), with no heap, no frame, no tables in it. -/
abbrev ax_L1 : Type := List (Option Value)
abbrev ax_Po : Type := Option Value → ax_D → Prop
abbrev ax_J0 : Type := Nat → Nat → ax_L1 → List Value → ax_D → ax_Po → Prop
def ax_in (mi pc : Nat) : Option (Instr × Nat × Nat × Nat) := ((ax_b (ax_me mi)).find? (fun e => e.1 == pc)).map (fun e => e.2)
def ax_cn (c : ClassFile.Cond) (x y : Int32) : Prop := match c with
  | .eq => x = y
  | .ne => ¬ x = y
  | .lt => x < y
  | .ge => y ≤ x
  | .gt => y < x
  | .le => x ≤ y
/-- instructions on the locals and the stack alone: the length that they have, and what they do -/
def ax_sx (i : Instr) (pc : Nat) (L : ax_L1) (st : List Value) : Option (Nat × Nat × ax_L1 × List Value) := match i with
  | .iconst n => some (1, pc + 1, L, .int (Int32.ofInt n) :: st)
  | .bipush n => some (2, pc + 2, L, .int (Int8.ofInt n).toInt32 :: st)
  | .sipush n => some (3, pc + 3, L, .int (Int16.ofInt n).toInt32 :: st)
  | .iload_n k => match L[k.val]? with
    | some (some (.int x)) => some (1, pc + 1, L, .int x :: st)
    | _ => none
  | .iload k => match L[k]? with
    | some (some (.int x)) => some (2, pc + 2, L, .int x :: st)
    | _ => none
  | .aload_n k => match L[k.val]? with
    | some (some (.ref x)) => some (1, pc + 1, L, .ref x :: st)
    | _ => none
  | .aload k => match L[k]? with
    | some (some (.ref x)) => some (2, pc + 2, L, .ref x :: st)
    | _ => none
  | .istore_n k => match st with
    | .int x :: r => if k.val < L.length then some (1, pc + 1, L.set k.val (some (.int x)), r) else none
    | _ => none
  | .istore k => match st with
    | .int x :: r => if k < L.length then some (2, pc + 2, L.set k (some (.int x)), r) else none
    | _ => none
  | .astore_n k => match st with
    | .ref x :: r => if k.val < L.length then some (1, pc + 1, L.set k.val (some (.ref x)), r) else none
    | _ => none
  | .astore k => match st with
    | .ref x :: r => if k < L.length then some (2, pc + 2, L.set k (some (.ref x)), r) else none
    | _ => none
  | .iinc k n => match L[k]? with
    | some (some (.int x)) => if k < L.length then some (3, pc + 3, L.set k (some (.int (x + Int32.ofInt n))), st) else none
    | _ => none
  | .iadd => match st with
    | .int y :: .int x :: r => some (1, pc + 1, L, .int (x + y) :: r)
    | _ => none
  | .isub => match st with
    | .int y :: .int x :: r => some (1, pc + 1, L, .int (x - y) :: r)
    | _ => none
  | .imul => match st with
    | .int y :: .int x :: r => some (1, pc + 1, L, .int (x * y) :: r)
    | _ => none
  | .iand => match st with
    | .int y :: .int x :: r => some (1, pc + 1, L, .int (x &&& y) :: r)
    | _ => none
  | .ishl => match st with
    | .int y :: .int x :: r => some (1, pc + 1, L, .int (x <<< (y &&& 31)) :: r)
    | _ => none
  | .ishr => match st with
    | .int y :: .int x :: r => some (1, pc + 1, L, .int (x >>> (y &&& 31)) :: r)
    | _ => none
  | .dup => match st with
    | .int x :: r => some (1, pc + 1, L, .int x :: .int x :: r)
    | .ref x :: r => some (1, pc + 1, L, .ref x :: .ref x :: r)
    | _ => none
  | .dup2 => match st with
    | .int y :: .ref x :: r => some (1, pc + 1, L, .int y :: .ref x :: .int y :: .ref x :: r)
    | _ => none
  | .goto off => some (3, ((pc : Int) + off).toNat, L, st)
  | _ => none
/-- a call: the callee's condition P, and what comes behind it -/
def ax_ca (X : ax_J0) (mi pc : Nat) (L : ax_L1) (st : List Value) (d : ax_D) (Q : ax_Po) (a : Nat) (dyn : Bool) : Prop :=
  ∃ (as rest : List Value) (P : ax_Po), st = as.reverse ++ rest ∧ as.length = ax_g (ax_me a) ∧ (∀ v ∈ as, v.category = 1) ∧ (rest.map fun v => v.category).sum ≤ 8 ∧
    (dyn = true → ∃ (id : Nat) (tl : List Value) (n : Nat) (f : Nat → ax_X), as = .ref id :: tl ∧ ax_sh id = some (ax_o (ax_me a) + 4, n, f)) ∧
    X a 0 (as.map some ++ List.replicate (ax_n (ax_me a) - as.length) none) [] d P ∧ ∀ (r : Option Value) (d1 : ax_D), P r d1 → X mi (pc + 3) L (r.toList ++ rest) d1 Q
def ax_st (X : ax_J0) (mi pc : Nat) (L : ax_L1) (st : List Value) (d : ax_D) (Q : ax_Po) : Prop := match ax_in mi pc with
  | none => False
  | some (i, len, a, b) => match i with
    | .ireturn => len = 1 ∧ ∃ (v : Int32) (ty : FieldType), st = [.int v] ∧ ax_r (ax_me mi) = some ty ∧ narrow ty (.int v) = .int v ∧ Q (some (.int v)) d
    | .return_ => len = 1 ∧ st = [] ∧ ax_r (ax_me mi) = none ∧ Q none d
    | .ifCond c off => len = 3 ∧ ∃ (x : Int32) (r : List Value) (t : Nat), st = .int x :: r ∧ (pc : Int) + off = (t : Int) ∧ (ax_cn c x 0 → X mi t L r d Q) ∧ (¬ ax_cn c x 0 → X mi (pc + 3) L r d Q)
    | .if_icmp c off => len = 3 ∧ ∃ (x y : Int32) (r : List Value) (t : Nat), st = .int y :: .int x :: r ∧ (pc : Int) + off = (t : Int) ∧ (ax_cn c x y → X mi t L r d Q) ∧ (¬ ax_cn c x y → X mi (pc + 3) L r d Q)
    | .idiv => len = 1 ∧ ∃ (x y : Int32) (r : List Value), st = .int y :: .int x :: r ∧ ¬ y = 0 ∧ X mi (pc + 1) L (.int (x / y) :: r) d Q
    | .irem => len = 1 ∧ ∃ (x y : Int32) (r : List Value), st = .int y :: .int x :: r ∧ ¬ y = 0 ∧ X mi (pc + 1) L (.int (x - x / y * y) :: r) d Q
    | .tableswitch dflt lo hi offs => ∃ (x : Int32) (r : List Value), st = .int x :: r ∧ ((x.toInt < lo ∨ hi < x.toInt) → ∃ t : Nat, (pc : Int) + dflt = (t : Int) ∧ X mi t L r d Q) ∧ (¬ (x.toInt < lo ∨ hi < x.toInt) → ∃ (off : Int) (t : Nat), offs[(x.toInt - lo).toNat]? = some off ∧ (pc : Int) + off = (t : Int) ∧ X mi t L r d Q)
    | .lookupswitch dflt ps => ∃ (x : Int32) (r : List Value) (t : Nat), st = .int x :: r ∧ (ps.toList.zip (ps.toList.drop 1)).all (fun (a, next) => a.1 < next.1) = true ∧ (pc : Int) + Op.lookupswitch.offset ps.toList dflt x.toInt = (t : Int) ∧ X mi t L r d Q
    | .getfield _ => len = 3 ∧ ∃ (id : Nat) (r : List Value) (n : Nat) (f : Nat → ax_X), st = .ref id :: r ∧ ax_sh id = some (a + 4, n, f) ∧ b < n ∧ X mi (pc + 3) L (ax_av d id f b :: r) d Q
    | .putfield _ => len = 3 ∧ ∃ (id : Nat) (x : Int32) (r : List Value) (n : Nat) (f : Nat → ax_X), st = .int x :: .ref id :: r ∧ ax_sh id = some (a + 4, n, f) ∧ b < n ∧ f b = .inr none ∧ narrow (ax_ty a b) (.int x) = .int x ∧ fits (ax_ty a b) (.int x) = true ∧ X mi (pc + 3) L r (ax_up d id b x) Q
    | .iaload => len = 1 ∧ ∃ (id : Nat) (i : Int32) (r : List Value) (n : Nat) (f : Nat → ax_X), st = .int i :: .ref id :: r ∧ ax_sh id = some (0, n, f) ∧ vp_in i n ∧ X mi (pc + 1) L (.int (d id i.toNatClampNeg) :: r) d Q
    | .baload => len = 1 ∧ ∃ (id : Nat) (i : Int32) (r : List Value) (n : Nat) (f : Nat → ax_X), st = .int i :: .ref id :: r ∧ ax_sh id = some (1, n, f) ∧ vp_in i n ∧ X mi (pc + 1) L (.int (d id i.toNatClampNeg) :: r) d Q
    | .iastore => len = 1 ∧ ∃ (id : Nat) (x i : Int32) (r : List Value) (n : Nat) (f : Nat → ax_X), st = .int x :: .int i :: .ref id :: r ∧ ax_sh id = some (0, n, f) ∧ vp_in i n ∧ X mi (pc + 1) L r (ax_up d id i.toNatClampNeg x) Q
    | .bastore => len = 1 ∧ ∃ (id : Nat) (x i : Int32) (r : List Value) (n : Nat) (f : Nat → ax_X), st = .int x :: .int i :: .ref id :: r ∧ ax_sh id = some (1, n, f) ∧ vp_in i n ∧ X mi (pc + 1) L r (ax_up d id i.toNatClampNeg (x &&& 1)) Q
    | .aaload => len = 1 ∧ ∃ (id : Nat) (i : Int32) (r : List Value) (n : Nat) (f : Nat → ax_X) (j : Nat), st = .int i :: .ref id :: r ∧ ax_sh id = some (3, n, f) ∧ vp_in i n ∧ f i.toNatClampNeg = .inl j ∧ X mi (pc + 1) L (.ref j :: r) d Q
    | .arraylength => len = 1 ∧ ∃ (id : Nat) (r : List Value) (t n : Nat) (f : Nat → ax_X), st = .ref id :: r ∧ ax_sh id = some (t, n, f) ∧ t < 4 ∧ X mi (pc + 1) L (.int (nI n) :: r) d Q
    | .invokevirtual _ => len = 3 ∧ ax_ca X mi pc L st d Q a true
    | .invokestatic _ => len = 3 ∧ ax_ca X mi pc L st d Q a false
    | j => ∃ (pc' : Nat) (L' : ax_L1) (st' : List Value), ax_sx j pc L st = some (len, pc', L', st') ∧ (∀ off, j = .goto off → (pc : Int) + off = (pc' : Int)) ∧ X mi pc' L' st' d Q
/-- the least relation that is closed under a step -/
def ax_W (mi pc : Nat) (L : ax_L1) (st : List Value) (d : ax_D) (Q : ax_Po) : Prop := ∀ X : ax_J0, (∀ mi pc L st d Q, ax_st X mi pc L st d Q → X mi pc L st d Q) → X mi pc L st d Q
theorem ax_ca_mono {X Y : ax_J0} (h : ∀ mi pc L st d Q, X mi pc L st d Q → Y mi pc L st d Q) {mi pc : Nat} {L : ax_L1} {st : List Value} {d : ax_D} {Q : ax_Po} {a : Nat} {dyn : Bool} (k : ax_ca X mi pc L st d Q a dyn) : ax_ca Y mi pc L st d Q a dyn := by
  obtain ⟨as, rest, P, h1, h2, h3, h4, h5, h6, h7⟩ := k
  exact ⟨as, rest, P, h1, h2, h3, h4, h5, h _ _ _ _ _ _ h6, fun r d1 hp => h _ _ _ _ _ _ (h7 r d1 hp)⟩
set_option maxHeartbeats 1000000 in
theorem ax_st_mono {X Y : ax_J0} (h : ∀ mi pc L st d Q, X mi pc L st d Q → Y mi pc L st d Q) {mi pc : Nat} {L : ax_L1} {st : List Value} {d : ax_D} {Q : ax_Po} (k : ax_st X mi pc L st d Q) : ax_st Y mi pc L st d Q := by
  unfold ax_st at k ⊢
  split
  · rename_i e; rw [e] at k; exact k
  · rename_i i len a b e
    rw [e] at k
    dsimp only at k
    cases i <;> first
      | exact k
      | (obtain ⟨pc', L', st', h1, h2, h3⟩ := k
         exact ⟨pc', L', st', h1, h2, h _ _ _ _ _ _ h3⟩)
      | (obtain ⟨hl, x, r, t, h1, h2, h3, h4⟩ := k
         exact ⟨hl, x, r, t, h1, h2, fun q => h _ _ _ _ _ _ (h3 q), fun q => h _ _ _ _ _ _ (h4 q)⟩)
      | (obtain ⟨hl, x, y, r, t, h1, h2, h3, h4⟩ := k
         exact ⟨hl, x, y, r, t, h1, h2, fun q => h _ _ _ _ _ _ (h3 q), fun q => h _ _ _ _ _ _ (h4 q)⟩)
      | (obtain ⟨hl, x, y, r, h1, h2, h3⟩ := k
         exact ⟨hl, x, y, r, h1, h2, h _ _ _ _ _ _ h3⟩)
      | (obtain ⟨x, r, h1, h2, h3⟩ := k
         refine ⟨x, r, h1, fun q => ?_, fun q => ?_⟩
         · obtain ⟨t, h4, h5⟩ := h2 q
           exact ⟨t, h4, h _ _ _ _ _ _ h5⟩
         · obtain ⟨off, t, h4, h5, h6⟩ := h3 q
           exact ⟨off, t, h4, h5, h _ _ _ _ _ _ h6⟩)
      | (obtain ⟨x, r, t, h1, h2, h3, h4⟩ := k
         exact ⟨x, r, t, h1, h2, h3, h _ _ _ _ _ _ h4⟩)
      | (obtain ⟨hl, id, r, n, f, h1, h2, h3, h4⟩ := k
         exact ⟨hl, id, r, n, f, h1, h2, h3, h _ _ _ _ _ _ h4⟩)
      | (obtain ⟨hl, id, x, r, n, f, h1, h2, h3, h4, h5, h6, h7⟩ := k
         exact ⟨hl, id, x, r, n, f, h1, h2, h3, h4, h5, h6, h _ _ _ _ _ _ h7⟩)
      | (obtain ⟨hl, id, i, r, n, f, h1, h2, h3, h4⟩ := k
         exact ⟨hl, id, i, r, n, f, h1, h2, h3, h _ _ _ _ _ _ h4⟩)
      | (obtain ⟨hl, id, x, i, r, n, f, h1, h2, h3, h4⟩ := k
         exact ⟨hl, id, x, i, r, n, f, h1, h2, h3, h _ _ _ _ _ _ h4⟩)
      | (obtain ⟨hl, id, i, r, n, f, j, h1, h2, h3, h4, h5⟩ := k
         exact ⟨hl, id, i, r, n, f, j, h1, h2, h3, h4, h _ _ _ _ _ _ h5⟩)
      | (obtain ⟨hl, id, r, t, n, f, h1, h2, h3, h4⟩ := k
         exact ⟨hl, id, r, t, n, f, h1, h2, h3, h _ _ _ _ _ _ h4⟩)
      | exact ⟨k.1, ax_ca_mono h k.2⟩
theorem ax_W_in {mi pc : Nat} {L : ax_L1} {st : List Value} {d : ax_D} {Q : ax_Po} (k : ax_st ax_W mi pc L st d Q) : ax_W mi pc L st d Q := fun X hX => hX _ _ _ _ _ _ (ax_st_mono (fun _ _ _ _ _ _ h => h X hX) k)
/-- out of the tables' checks -/
theorem ax_in_ok {mi pc : Nat} {z : Instr × Nat × Nat × Nat} (h : ax_in mi pc = some z) : ax_ok (ax_me mi) ∧ ax_ick (ax_me mi) (pc, z) = true := by
  unfold ax_in at h
  obtain ⟨e, he, rfl⟩ := Option.map_eq_some_iff.mp h
  have hin := List.mem_of_find?_eq_some he
  have heq : e.1 = pc := by
    have := List.find?_some he
    exact eq_of_beq this
  have hmi : mi < ax_Ms.length := by
    rcases Nat.lt_or_ge mi ax_Ms.length with h1 | h1
    · exact h1
    · exfalso
      have h2 : ax_me mi = (yX0_isFull, cX0_isFull, 0, none, 0, 0, 0, 0, []) := by
        unfold ax_me
        rw [List.getD_eq_getElem?_getD, List.getElem?_eq_none h1]
        rfl
      rw [h2] at hin
      cases hin
  have hm : ax_me mi ∈ ax_Ms := by
    unfold ax_me
    rw [List.getD_eq_getElem?_getD, List.getElem?_eq_getElem hmi]
    exact List.getElem_mem hmi
  have hok := ax_all _ hm
  refine ⟨hok, ?_⟩
  have h3 := hok.1
  unfold ax_mck at h3
  rw [Bool.and_eq_true] at h3
  have h4 := List.all_eq_true.mp h3.2 e hin
  rw [← heq]
  exact h4
end
section
/-! SOUNDNESS: what the abstract machine reaches, the machine reaches ('ax_J': at a frame of the method, over every heap that holds the world's numbers). -/
def ax_R (v : Nat) : Room := { frames := v - 1, cells := 0, slots := 0, locals := 28 * (v - 1) }
def ax_isN : Cond → Bool
  | .methodLinkNest .. => true
  | _ => false
def ax_NW : List Cond := lw_tbl.filter ax_isN
theorem ax_NW_same {u U : State} (h : u.vm = U.vm) (k : ∀ w ∈ ax_NW, va_Nw w u) : ∀ w ∈ ax_NW, va_Nw w U := by
  intro w hw
  have h1 := k w hw
  have h2 := (List.mem_filter.mp hw).2
  cases w <;> first | (exact va_Nw.same rfl h h1) | (cases h2)
theorem ax_NW_warm {s U : State} (h : s.WarmedH U.vm) (k : ∀ w ∈ ax_NW, va_Nw w s) : ∀ w ∈ ax_NW, va_Nw w U := by
  intro w hw
  have h1 := k w hw
  have h2 := (List.mem_filter.mp hw).2
  cases w <;> first | (exact va_Nw.warmM h h1) | (cases h2)
theorem ax_TW_good {ws : List Cond} (h : ∀ w ∈ ws, w ∈ ax_TW) : GoodIn ax_TW ws := fun w hw => ⟨h w hw, good_of_word (List.mem_filter.mp (h w hw)).2⟩
def ax_C (p : Program) (s : State) (m : MethodId) (args : Array Value) (meth : Method) (c : Code) (D : va_G) (ca : Nat → ClassId) (q : ax_M) : Prop :=
  p.tables.exec = Jvm.exec ∧ c.code = ax_c q ∧ meth.sig.returnType = ax_r q ∧ c.maxLocals = ax_n q ∧ s.vm.findClass (ax_y q).cls = some m.cls ∧ (∀ w ∈ ax_TW, w.before args s = true) ∧ meth.locks = false ∧ va_K D vwCl (ax_ts ca) s ∧ ∀ w ∈ ax_NW, va_Nw w s
def ax_Qc (D : va_G) (ad : Nat → Nat) (ca : Nat → ClassId) (Q : ax_Po) (sz : Nat) : Array Value → State → Outcome → State → Prop := fun _ st oc t =>
  (∃ (r : Option Value) (d' : ax_D), oc = .returned (r.map (ax_cv ad)) ∧ Q r d' ∧ va_P D vwCl (ax_w ad ca d') t.heap) ∧ va_F (ax_A ad sz) st t
def ax_Pc (D : va_G) (ad : Nat → Nat) (ca : Nat → ClassId) (as : List Value) (d : ax_D) (sz : Nat) : Array Value → State → Prop :=
  va_Pc (as.map (ax_cv ad)) (fun U => U.heap.size = sz ∧ va_P D vwCl (ax_w ad ca d) U.heap ∧ va_K D vwCl (ax_ts ca) U ∧ va_D (fun _ => True) (ax_w ad ca d) ∧ ∀ w ∈ ax_NW, va_Nw w U)
/-- the locals: what is known of them -/
def ax_lv (ad : Nat → Nat) (L : ax_L1) : List (Nat × Value) := L.zipIdx.filterMap (fun q => match q.1 with
  | some v => if v.category = 1 then some (q.2, ax_cv ad v) else none
  | none => none)
theorem ax_cv_cat (ad : Nat → Nat) (v : Value) : (ax_cv ad v).category = v.category := by cases v <;> rfl
theorem ax_lv_mem {ad : Nat → Nat} {L : ax_L1} {q : Nat × Value} (h : q ∈ ax_lv ad L) : ∃ w : Value, L[q.1]? = some (some w) ∧ w.category = 1 ∧ q.2 = ax_cv ad w := by
  unfold ax_lv at h
  obtain ⟨⟨o, i⟩, h1, h2⟩ := List.mem_filterMap.mp h
  have h3 := List.mk_mem_zipIdx_iff_getElem?.mp h1
  cases o with
  | none => simp at h2
  | some w =>
    by_cases hc : w.category = 1
    · simp [hc] at h2
      subst h2
      exact ⟨w, h3, hc, rfl⟩
    · simp [hc] at h2
theorem ax_lv_in {ad : Nat → Nat} {L : ax_L1} {i : Nat} {w : Value} (h : L[i]? = some (some w)) (hc : w.category = 1) : (i, ax_cv ad w) ∈ ax_lv ad L := by
  unfold ax_lv
  refine List.mem_filterMap.mpr ⟨(some w, i), List.mk_mem_zipIdx_iff_getElem?.mpr h, ?_⟩
  simp [hc]
theorem ax_lv_at {ad : Nat → Nat} {L : ax_L1} {ls : Array Slot} {n i : Nat} {w : Value} (h : lv_has ls n (ax_lv ad L)) (hL : L[i]? = some (some w)) (hc : w.category = 1) : ls[i]? = some (.val (ax_cv ad w)) := h.2.2 _ (ax_lv_in hL hc)
theorem ax_lv_set {ad : Nat → Nat} {L : ax_L1} {ls' : Array Slot} {n i : Nat} {v : Value} (hL : i < L.length) (h2 : lv_has ls' n ((i, ax_cv ad v) :: (ax_lv ad L).filter (fun q => !(q.1 == i) && !(q.1 + 1 == i && q.2.category == 2)))) : lv_has ls' n (ax_lv ad (L.set i (some v))) := by
  refine ⟨h2.1, h2.2.1, fun q hq => ?_⟩
  obtain ⟨w, h3, h4, h5⟩ := ax_lv_mem hq
  by_cases hqi : q.1 = i
  · rw [hqi, List.getElem?_set_self hL] at h3
    cases h3
    refine h2.2.2 q (List.mem_cons.mpr (Or.inl ?_))
    rw [← h5, ← hqi]
  · rw [List.getElem?_set_ne (Ne.symm hqi)] at h3
    refine h2.2.2 q (List.mem_cons_of_mem _ (List.mem_filter.mpr ⟨?_, ?_⟩))
    · have := ax_lv_in (ad := ad) h3 h4
      rw [← h5] at this
      exact this
    · have h6 : q.2.category = 1 := by rw [h5, ax_cv_cat]; exact h4
      simp [hqi, h6]
/-- a frame of method mi at pc, over any heap that holds d: it comes to an end with Q -/
def ax_J (l : Launch) (D : va_G) (ad : Nat → Nat) (ca : Nat → ClassId) : ax_J0 := fun mi pc L st d Q =>
  ∀ (p : Program) (e : Env) (s : State) (m : MethodId) (args : Array Value) (below : List Frame) (meth : Method) (c : Code) (H : Heap) (locs : List Loc) (ls : Array Slot), ax_C p s m args meth c D ca (ax_me mi) → va_P D vwCl (ax_w ad ca d) H → va_D (ax_A ad s.heap.size) (ax_w ad ca d) → va_S (ax_A ad s.heap.size) s.heap H locs → L.length = ax_n (ax_me mi) → lv_has ls (ax_n (ax_me mi)) (ax_lv ad L) →
    W p l e (ax_R (ax_v (ax_me mi))) s m args below meth c H locs 0 0 (MQ below (ax_Qc D ad ca Q s.heap.size) args s 0 0 (ax_A ad s.heap.size)) (F0 m pc ls (st.map (ax_cv ad)))
section AXS
variable {p : Program} {l : Launch} {e : Env} {R : Room} {s : State} {m : MethodId} {args : Array Value} {below : List Frame} {meth : Method} {c : Code} {H : Heap} {locs : List Loc} {cells slots : Nat} {Qt : State → Prop}
set_option maxHeartbeats 4000000 in
/-- the instructions on locals and stack -/
theorem ax_s1 {cc : ByteArray} {ad : Nat → Nat} {i : Instr} {len n pc pc' : Nat} {L L' : ax_L1} {st st' : List Value} {ls : Array Slot} (hx : p.tables.exec = Jvm.exec) (hb : c.code = cc) (hd : decode cc pc = .ok (i, len)) (hs : ax_sx i pc L st = some (len, pc', L', st')) (hg : ∀ off, i = .goto off → (pc : Int) + off = (pc' : Int)) (hL : L.length = n) (hl : lv_has ls n (ax_lv ad L))
    (k : ∀ ls' : Array Slot, L'.length = n → lv_has ls' n (ax_lv ad L') → W p l e R s m args below meth c H locs cells slots Qt (F0 m pc' ls' (st'.map (ax_cv ad)))) : W p l e R s m args below meth c H locs cells slots Qt (F0 m pc ls (st.map (ax_cv ad))) := by
  unfold ax_sx at hs
  split at hs
  · cases hs; exact lv_iconst hx hb hd rfl (k ls hL hl)
  · cases hs; exact lv_bipush hx hb hd rfl (k ls hL hl)
  · cases hs; exact lv_sipush hx hb hd rfl (k ls hL hl)
  · split at hs
    · rename_i hq; cases hs; exact lv_iload_n hx hb hd rfl (ax_lv_at hl hq rfl) (k ls hL hl)
    · cases hs
  · split at hs
    · rename_i hq; cases hs; exact lv_iload hx hb hd (ax_lv_at hl hq rfl) (k ls hL hl)
    · cases hs
  · split at hs
    · rename_i hq; cases hs; exact lv_aload_n hx hb hd rfl (ax_lv_at hl hq rfl) (k ls hL hl)
    · cases hs
  · split at hs
    · rename_i hq; cases hs; exact lv_aload hx hb hd (ax_lv_at hl hq rfl) (k ls hL hl)
    · cases hs
  · split at hs
    · split at hs
      · rename_i hk
        cases hs
        exact lv_istore_n hx hb hd rfl hl (by rw [← hL]; exact hk) rfl (fun ls' h' => k ls' (by rw [List.length_set]; exact hL) (ax_lv_set hk h'))
      · cases hs
    · cases hs
  · split at hs
    · split at hs
      · rename_i hk
        cases hs
        exact lv_istore hx hb hd hl (by rw [← hL]; exact hk) rfl (fun ls' h' => k ls' (by rw [List.length_set]; exact hL) (ax_lv_set hk h'))
      · cases hs
    · cases hs
  · split at hs
    · split at hs
      · rename_i hk
        cases hs
        exact lv_astore_n hx hb hd rfl hl (by rw [← hL]; exact hk) rfl (fun ls' h' => k ls' (by rw [List.length_set]; exact hL) (ax_lv_set hk h'))
      · cases hs
    · cases hs
  · split at hs
    · split at hs
      · rename_i hk
        cases hs
        exact lv_astore hx hb hd hl (by rw [← hL]; exact hk) rfl (fun ls' h' => k ls' (by rw [List.length_set]; exact hL) (ax_lv_set hk h'))
      · cases hs
    · cases hs
  · split at hs
    · rename_i hq
      split at hs
      · rename_i hk
        cases hs
        obtain ⟨z, hz⟩ := List.getElem?_of_mem (ax_lv_in (ad := ad) hq rfl)
        exact lv_iinc hx hb hd hl hz rfl (by rw [← hL]; exact hk) rfl (fun ls' h' => k ls' (by rw [List.length_set]; exact hL) (ax_lv_set hk h'))
      · cases hs
    · cases hs
  · split at hs
    · cases hs; exact lv_iadd hx hb hd (k ls hL hl)
    · cases hs
  · split at hs
    · cases hs; exact lv_isub hx hb hd (k ls hL hl)
    · cases hs
  · split at hs
    · cases hs; exact lv_imul hx hb hd (k ls hL hl)
    · cases hs
  · split at hs
    · cases hs; exact lv_iand hx hb hd (k ls hL hl)
    · cases hs
  · split at hs
    · cases hs; exact lv_ishl hx hb hd (k ls hL hl)
    · cases hs
  · split at hs
    · cases hs; exact lv_ishr hx hb hd (k ls hL hl)
    · cases hs
  · split at hs
    · cases hs; exact lv_dup hx hb hd rfl (k ls hL hl)
    · cases hs; exact lv_dup hx hb hd rfl (k ls hL hl)
    · cases hs
  · split at hs
    · cases hs; exact lv_dup2_11 hx hb hd rfl rfl (k ls hL hl)
    · cases hs
  · cases hs; exact lv_goto hx hb hd (hg _ rfl) (k ls hL hl)
  · cases hs
/-- branches -/
theorem ax_s2 {cc : ByteArray} {q : ClassFile.Cond} {off : Int} {pc t : Nat} {x : Int32} {ls : Array Slot} {rest : List Value} (hx : p.tables.exec = Jvm.exec) (hb : c.code = cc) (hd : decode cc pc = .ok (.ifCond q off, 3)) (ht : (pc : Int) + off = (t : Int))
    (k1 : ax_cn q x 0 → W p l e R s m args below meth c H locs cells slots Qt (F0 m t ls rest)) (k2 : ¬ ax_cn q x 0 → W p l e R s m args below meth c H locs cells slots Qt (F0 m (pc + 3) ls rest)) : W p l e R s m args below meth c H locs cells slots Qt (F0 m pc ls (.int x :: rest)) := by
  cases q
  · exact lv_if_eq hx hb hd ht k1 k2
  · exact lv_if_ne hx hb hd ht k1 (fun h => k2 (fun g => g h))
  · exact lv_if_lt hx hb hd ht k1 k2
  · exact lv_if_ge hx hb hd ht k1 k2
  · exact lv_if_gt hx hb hd ht k1 k2
  · exact lv_if_le hx hb hd ht k1 k2
theorem ax_s3 {cc : ByteArray} {q : ClassFile.Cond} {off : Int} {pc t : Nat} {x y : Int32} {ls : Array Slot} {rest : List Value} (hx : p.tables.exec = Jvm.exec) (hb : c.code = cc) (hd : decode cc pc = .ok (.if_icmp q off, 3)) (ht : (pc : Int) + off = (t : Int))
    (k1 : ax_cn q x y → W p l e R s m args below meth c H locs cells slots Qt (F0 m t ls rest)) (k2 : ¬ ax_cn q x y → W p l e R s m args below meth c H locs cells slots Qt (F0 m (pc + 3) ls rest)) : W p l e R s m args below meth c H locs cells slots Qt (F0 m pc ls (.int y :: .int x :: rest)) := by
  cases q
  · exact lv_icmp_eq hx hb hd ht k1 k2
  · exact lv_icmp_ne hx hb hd ht k1 (fun h => k2 (fun g => g h))
  · exact lv_icmp_lt hx hb hd ht k1 k2
  · exact lv_icmp_ge hx hb hd ht k1 k2
  · exact lv_icmp_gt hx hb hd ht k1 k2
  · exact lv_icmp_le hx hb hd ht k1 k2
end AXS
end
section
/-! SOUNDNESS, the instructions on the world. -/
theorem ax_rd_at {a : Nat} (h : a < 9) : vwCl[a]? = some (ax_rd a) := by
  unfold ax_rd
  rw [List.getD_eq_getElem?_getD, List.getElem?_eq_getElem (show a < vwCl.length from h)]
  rfl
theorem ax_rd_in {a : Nat} (h : a < 9) : ax_rd a ∈ vwCl := List.mem_of_getElem? (ax_rd_at h)
theorem ax_lay_TW {a : Nat} (h : a < 9) : ∀ w ∈ u_ws (ax_rd a).1 (ax_rd a).2.1 (ax_rd a).2.2, w ∈ ax_TW := by
  intro w hw
  refine List.mem_filter.mpr ⟨ax_lay _ (ax_rd_in h) w hw, ?_⟩
  obtain ⟨k, -, rfl⟩ := List.mem_map.mp hw
  unfold u_lay
  split <;> rfl
theorem ax_ty_ok : ∀ a, a < 9 → (∀ k, k < (ax_rd a).2.2 → parseFieldDescriptor ((ax_rd a).2.1 k).2.2.1 = some (ax_ty a k)) ∧ ∀ x, x < (ax_rd a).2.2 → ∀ y, y < (ax_rd a).2.2 → x ≠ y → ((ax_rd a).2.1 x).2.1 ≠ ((ax_rd a).2.1 y).2.1
  | 0, _ => ⟨tyX0_ok, nmX0⟩
  | 1, _ => ⟨tyX1_ok, nmX1⟩
  | 2, _ => ⟨tyX2_ok, nmX2⟩
  | 3, _ => ⟨tyX3_ok, nmX3⟩
  | 4, _ => ⟨tyX4_ok, nmX4⟩
  | 5, _ => ⟨tyX5_ok, nmX5⟩
  | 6, _ => ⟨tyX6_ok, nmX6⟩
  | 7, _ => ⟨tyX7_ok, nmX7⟩
  | 8, _ => ⟨tyX8_ok, nmX8⟩
  | n + 9, h => absurd h (by omega)
/-- what the checks say of a method -/
theorem ax_mfacts {q : ax_M} (h : ax_ok q) : plainName (ax_y q).cls = true ∧ (ax_y q).cls ≠ "java/lang/invoke/MethodHandle" ∧ (ax_y q).cls ≠ "java/lang/invoke/VarHandle" ∧ (ax_rd (ax_o q)).1 = (ax_y q).cls ∧ ax_o q < 9 ∧ ax_n q ≤ 9 ∧ ax_g q ≤ ax_n q ∧ 0 < ax_v q ∧ (parseMethodDescriptor (ax_y q).desc).map (fun d => d.parameters.length + 1) = some (ax_g q + ax_z q) := by
  have h1 := h.1
  unfold ax_mck at h1
  simp only [Bool.and_eq_true, decide_eq_true_eq] at h1
  obtain ⟨⟨⟨⟨⟨⟨⟨⟨⟨a1, a2⟩, a3⟩, a4⟩, a5⟩, a6⟩, a7⟩, a8⟩, a9⟩, -⟩ := h1
  exact ⟨a1, a2, a3, a4, a5, a6, a7, a8, a9⟩
theorem ax_dfacts {mi pc : Nat} {i : Instr} {len a b : Nat} (h : ax_in mi pc = some (i, len, a, b)) : decode (ax_c (ax_me mi)) pc = .ok (i, len) := by
  have h1 := (ax_in_ok h).2
  unfold ax_ick at h1
  rw [Bool.and_eq_true] at h1
  exact of_decide_eq_true h1.1
theorem ax_Fz {q : ax_M} (hq : ax_ok q) {idx a b : Nat} (h : ax_F.any (fun z => decide (z.1 = ax_o q ∧ z.2.1 = idx ∧ z.2.2.1 = a ∧ z.2.2.2.1 = b)) = true) : a < 9 ∧ b < (ax_rd a).2.2 ∧ Cond.fieldLink (ax_y q).cls idx ((ax_rd a).2.1 b).1 ((ax_rd a).2.1 b).2.1 ((ax_rd a).2.1 b).2.2.1 ∈ ax_TW := by
  obtain ⟨z, hz, he⟩ := List.any_eq_true.mp h
  obtain ⟨e1, e2, e3, e4⟩ := of_decide_eq_true he
  have h1 := ax_Fok z hz
  unfold ax_fok at h1
  simp only [Bool.and_eq_true, decide_eq_true_eq] at h1
  obtain ⟨⟨f1, f2⟩, f3⟩ := h1
  rw [e1, e2, e3, e4, (ax_mfacts hq).2.2.2.1] at f3
  rw [e3] at f1 f2
  rw [e4] at f2
  exact ⟨f1, f2, List.mem_filter.mpr ⟨List.mem_of_getElem? f3, rfl⟩⟩
section AXT
variable {p : Program} {l : Launch} {e : Env} {R : Room} {s : State} {m : MethodId} {args : Array Value} {below : List Frame} {meth : Method} {c : Code} {H : Heap} {locs : List Loc} {cells slots : Nat} {Qt : State → Prop} {D : va_G} {ad : Nat → Nat} {ca : Nat → ClassId} {q : ax_M} {d : ax_D} {A : Nat → Prop} {H0 : Heap} {pc : Nat} {ls : Array Slot} {rest : List Value}
theorem ax_cl_obj {id t n : Nat} {f : Nat → ax_X} (h : ax_sh id = some (t + 4, n, f)) : ax_cl ad ca d id = .inr (t, (List.range n).map (fun k => ax_cv ad (ax_av d id f k))) := by unfold ax_cl; rw [h]
theorem ax_cl_int {id n : Nat} {f : Nat → ax_X} (h : ax_sh id = some (0, n, f)) : ax_cl ad ca d id = .inl (ca 0, n, .inl (d id)) := by unfold ax_cl; rw [h]
theorem ax_cl_boo {id n : Nat} {f : Nat → ax_X} (h : ax_sh id = some (1, n, f)) : ax_cl ad ca d id = .inl (ca 1, n, .inl (d id)) := by unfold ax_cl; rw [h]
theorem ax_cl_lon {id n : Nat} {f : Nat → ax_X} (h : ax_sh id = some (2, n, f)) : ax_cl ad ca d id = .inl (ca 2, n, .inr (.inl (fun i => (d id i).toInt64))) := by unfold ax_cl; rw [h]
theorem ax_cl_arr {id n : Nat} {f : Nat → ax_X} (h : ax_sh id = some (3, n, f)) : ax_cl ad ca d id = .inl (ca 3, n, .inr (.inr (.inr (.inr (fun i => ax_rf ad (f i)))))) := by unfold ax_cl; rw [h]
theorem ax_get {id a b n idx : Nat} {f : Nat → ax_X} (hC : ax_C p s m args meth c D ca q) (ha : a < 9) (hbN : b < (ax_rd a).2.2) (hw : Cond.fieldLink (ax_y q).cls idx ((ax_rd a).2.1 b).1 ((ax_rd a).2.1 b).2.1 ((ax_rd a).2.1 b).2.2.1 ∈ ax_TW) (hP : va_P D vwCl (ax_w ad ca d) H) (hsh : ax_sh id = some (a + 4, n, f)) (hn : b < n) (hd : decode (ax_c q) pc = .ok (.getfield idx, 3))
    (kk : W p l e R s m args below meth c H locs cells slots Qt (F0 m (pc + 3) ls (ax_cv ad (ax_av d id f b) :: rest))) : W p l e R s m args below meth c H locs cells slots Qt (F0 m pc ls (.ref (ad id) :: rest)) := by
  obtain ⟨hx, hb, hr, hml, hown, hts, hlocks, hK, hN⟩ := hC
  obtain ⟨k0, hk0, hwk⟩ := ax_w_get ad ca d hsh
  rw [ax_cl_obj hsh] at hwk
  exact va_get (D := D) (ci := a) (C := (ax_rd a).1) (T := (ax_rd a).2.1) (N := (ax_rd a).2.2) hx hb hts (ax_lay_TW ha) hown hK hP k0 hwk (ax_rd_at ha) b hbN (hts _ hw) (fun _ h => h) (by rw [List.getElem?_map, List.getElem?_range hn]; rfl) hd kk
theorem ax_put {id a b n idx : Nat} {f : Nat → ax_X} {x : Int32} (hC : ax_C p s m args meth c D ca q) (ha : a < 9) (hbN : b < (ax_rd a).2.2) (hw : Cond.fieldLink (ax_y q).cls idx ((ax_rd a).2.1 b).1 ((ax_rd a).2.1 b).2.1 ((ax_rd a).2.1 b).2.2.1 ∈ ax_TW) (hfin : ((ax_rd a).2.1 b).2.2.2 = false) (hP : va_P D vwCl (ax_w ad ca d) H) (hD : va_D A (ax_w ad ca d)) (hS : va_S A H0 H locs) (hsh : ax_sh id = some (a + 4, n, f)) (hn : b < n) (hfb : f b = .inr none) (hnar : narrow (ax_ty a b) (.int x) = .int x) (hfit : fits (ax_ty a b) (.int x) = true) (hd : decode (ax_c q) pc = .ok (.putfield idx, 3))
    (kk : ∀ (H1 : Heap) (locs1 : List Loc), va_P D vwCl (ax_w ad ca (ax_up d id b x)) H1 → va_S A H0 H1 locs1 → W p l e R s m args below meth c H1 locs1 cells slots Qt (F0 m (pc + 3) ls rest)) : W p l e R s m args below meth c H locs cells slots Qt (F0 m pc ls (.int x :: .ref (ad id) :: rest)) := by
  obtain ⟨hx, hb, hr, hml, hown, hts, hlocks, hK, hN⟩ := hC
  obtain ⟨k0, hk0, hwk⟩ := ax_w_get ad ca d hsh
  rw [ax_cl_obj hsh] at hwk
  have hset : ((List.range n).map (fun k => ax_cv ad (ax_av d id f k))).set b (.int x) = (List.range n).map (fun k => ax_cv ad (ax_av (ax_up d id b x) id f k)) := by
    apply List.ext_getElem?
    intro j
    by_cases hj : j = b
    · subst hj
      rw [List.getElem?_set_self (by rw [List.length_map, List.length_range]; exact hn), List.getElem?_map, List.getElem?_range hn]
      simp [ax_av, hfb, ax_up_at, upd, ax_cv]
    · rw [List.getElem?_set_ne (Ne.symm hj), List.getElem?_map, List.getElem?_map]
      have e1 : ax_av (ax_up d id b x) id f j = ax_av d id f j := by
        unfold ax_av
        rw [ax_up_at]
        simp [upd, hj]
      by_cases hjn : j < n
      · rw [List.getElem?_range hjn]
        simp [e1]
      · rw [List.getElem?_eq_none (by rw [List.length_range]; omega)]
        rfl
  refine va_put (D := D) (ci := a) (v := .int x) (ty := ax_ty a b) (C := (ax_rd a).1) (T := (ax_rd a).2.1) (N := (ax_rd a).2.2) hx hb hts (ax_lay_TW ha) (ax_ty a) (ax_ty_ok a ha).1 (ax_ty_ok a ha).2 hown hK hP hD hS k0 hwk (ax_rd_at ha) b hbN (hts _ hw) (fun _ h => h) hfin ((ax_ty_ok a ha).1 b hbN) hnar hfit (by rw [List.length_map, List.length_range]; exact hn) hd (fun H1 locs1 hP1 hD1 hS1 => kk H1 locs1 ?_ hS1)
  rw [hset, ← ax_cl_obj (ad := ad) (ca := ca) hsh, ax_w_set hD hk0 (fun j hj => ax_up_ne hj)] at hP1
  exact hP1
theorem ax_iald {id n : Nat} {f : Nat → ax_X} {i : Int32} (hC : ax_C p s m args meth c D ca q) (hP : va_P D vwCl (ax_w ad ca d) H) (hsh : ax_sh id = some (0, n, f)) (hin : vp_in i n) (hd : decode (ax_c q) pc = .ok (.iaload, 1))
    (kk : W p l e R s m args below meth c H locs cells slots Qt (F0 m (pc + 1) ls (.int (d id i.toNatClampNeg) :: rest))) : W p l e R s m args below meth c H locs cells slots Qt (F0 m pc ls (.int i :: .ref (ad id) :: rest)) := by
  obtain ⟨hx, hb, hr, hml, hown, hts, hlocks, hK, hN⟩ := hC
  obtain ⟨k0, hk0, hwk⟩ := ax_w_get ad ca d hsh
  rw [ax_cl_int hsh] at hwk
  exact va_iald hx hb hK hP k0 0 hwk rfl hin hd kk
theorem ax_zald {id n : Nat} {f : Nat → ax_X} {i : Int32} (hC : ax_C p s m args meth c D ca q) (hP : va_P D vwCl (ax_w ad ca d) H) (hsh : ax_sh id = some (1, n, f)) (hin : vp_in i n) (hd : decode (ax_c q) pc = .ok (.baload, 1))
    (kk : W p l e R s m args below meth c H locs cells slots Qt (F0 m (pc + 1) ls (.int (d id i.toNatClampNeg) :: rest))) : W p l e R s m args below meth c H locs cells slots Qt (F0 m pc ls (.int i :: .ref (ad id) :: rest)) := by
  obtain ⟨hx, hb, hr, hml, hown, hts, hlocks, hK, hN⟩ := hC
  obtain ⟨k0, hk0, hwk⟩ := ax_w_get ad ca d hsh
  rw [ax_cl_boo hsh] at hwk
  exact va_zald hx hb hK hP k0 1 hwk rfl hin hd kk
theorem ax_iast {id n : Nat} {f : Nat → ax_X} {i x : Int32} (hC : ax_C p s m args meth c D ca q) (hP : va_P D vwCl (ax_w ad ca d) H) (hD : va_D A (ax_w ad ca d)) (hS : va_S A H0 H locs) (hsh : ax_sh id = some (0, n, f)) (hin : vp_in i n) (hd : decode (ax_c q) pc = .ok (.iastore, 1))
    (kk : ∀ (H1 : Heap) (locs1 : List Loc), va_P D vwCl (ax_w ad ca (ax_up d id i.toNatClampNeg x)) H1 → va_S A H0 H1 locs1 → W p l e R s m args below meth c H1 locs1 cells slots Qt (F0 m (pc + 1) ls rest)) : W p l e R s m args below meth c H locs cells slots Qt (F0 m pc ls (.int x :: .int i :: .ref (ad id) :: rest)) := by
  obtain ⟨hx, hb, hr, hml, hown, hts, hlocks, hK, hN⟩ := hC
  obtain ⟨k0, hk0, hwk⟩ := ax_w_get ad ca d hsh
  rw [ax_cl_int hsh] at hwk
  refine va_iast hx hb hK hP hD hS k0 0 hwk rfl hin hd (fun H1 locs1 hP1 hD1 hS1 => kk H1 locs1 ?_ hS1)
  rw [← ax_up_at, ← ax_cl_int (ad := ad) (ca := ca) hsh, ax_w_set hD hk0 (fun j hj => ax_up_ne hj)] at hP1
  exact hP1
theorem ax_zast {id n : Nat} {f : Nat → ax_X} {i x : Int32} (hC : ax_C p s m args meth c D ca q) (hP : va_P D vwCl (ax_w ad ca d) H) (hD : va_D A (ax_w ad ca d)) (hS : va_S A H0 H locs) (hsh : ax_sh id = some (1, n, f)) (hin : vp_in i n) (hd : decode (ax_c q) pc = .ok (.bastore, 1))
    (kk : ∀ (H1 : Heap) (locs1 : List Loc), va_P D vwCl (ax_w ad ca (ax_up d id i.toNatClampNeg (x &&& 1))) H1 → va_S A H0 H1 locs1 → W p l e R s m args below meth c H1 locs1 cells slots Qt (F0 m (pc + 1) ls rest)) : W p l e R s m args below meth c H locs cells slots Qt (F0 m pc ls (.int x :: .int i :: .ref (ad id) :: rest)) := by
  obtain ⟨hx, hb, hr, hml, hown, hts, hlocks, hK, hN⟩ := hC
  obtain ⟨k0, hk0, hwk⟩ := ax_w_get ad ca d hsh
  rw [ax_cl_boo hsh] at hwk
  refine va_zast hx hb hK hP hD hS k0 1 hwk rfl hin hd (fun H1 locs1 hP1 hD1 hS1 => kk H1 locs1 ?_ hS1)
  rw [show vp_nar .boolean x = x &&& 1 from rfl, ← ax_up_at, ← ax_cl_boo (ad := ad) (ca := ca) hsh, ax_w_set hD hk0 (fun j hj => ax_up_ne hj)] at hP1
  exact hP1
theorem ax_aald {id n j : Nat} {f : Nat → ax_X} {i : Int32} (hC : ax_C p s m args meth c D ca q) (hP : va_P D vwCl (ax_w ad ca d) H) (hsh : ax_sh id = some (3, n, f)) (hin : vp_in i n) (hf : f i.toNatClampNeg = .inl j) (hd : decode (ax_c q) pc = .ok (.aaload, 1))
    (kk : W p l e R s m args below meth c H locs cells slots Qt (F0 m (pc + 1) ls (.ref (ad j) :: rest))) : W p l e R s m args below meth c H locs cells slots Qt (F0 m pc ls (.int i :: .ref (ad id) :: rest)) := by
  obtain ⟨hx, hb, hr, hml, hown, hts, hlocks, hK, hN⟩ := hC
  obtain ⟨k0, hk0, hwk⟩ := ax_w_get ad ca d hsh
  rw [ax_cl_arr hsh] at hwk
  have hlt : i.toNatClampNeg < n := Nat.not_le.mp fun q => hin (Or.inr q)
  have hcell := hP k0 _ hwk
  exact W.aald (v := .ref (ad j)) (ty := .array .int) hx hb hcell ((hK.2 3 _ rfl).1 n (fun i => va_rf (ax_rf ad (f i)))) rfl (fun q => by cases q) (by show ¬ (i < 0 ∨ (arrV _ _ _).slots.size ≤ _); rw [arrV_size]; exact hin) (by show (arrV _ _ _).slots[_]? = _; rw [arrV_read _ _ hlt]; simp [hf, ax_rf, va_rf]) rfl rfl hd kk
theorem ax_alen {id n t : Nat} {f : Nat → ax_X} (hC : ax_C p s m args meth c D ca q) (hP : va_P D vwCl (ax_w ad ca d) H) (hsh : ax_sh id = some (t, n, f)) (ht : t < 4) (hd : decode (ax_c q) pc = .ok (.arraylength, 1))
    (kk : W p l e R s m args below meth c H locs cells slots Qt (F0 m (pc + 1) ls (.int (nI n) :: rest))) : W p l e R s m args below meth c H locs cells slots Qt (F0 m pc ls (.ref (ad id) :: rest)) := by
  obtain ⟨hx, hb, hr, hml, hown, hts, hlocks, hK, hN⟩ := hC
  obtain ⟨k0, hk0, hwk⟩ := ax_w_get ad ca d hsh
  match t, ht with
  | 0, _ => rw [ax_cl_int hsh] at hwk; exact va_alen hx hb hK hP k0 0 hwk (ty := .int) rfl rfl hd kk
  | 1, _ => rw [ax_cl_boo hsh] at hwk; exact va_alen hx hb hK hP k0 1 hwk (ty := .boolean) rfl rfl hd kk
  | 2, _ => rw [ax_cl_lon hsh] at hwk; exact va_alen hx hb hK hP k0 2 hwk (ty := .long) rfl rfl hd kk
  | 3, _ => rw [ax_cl_arr hsh] at hwk; exact va_alen hx hb hK hP k0 3 hwk (ty := .array .int) rfl rfl hd kk
  | t + 4, h => exact absurd h (by omega)
end AXT
end
section
/-! SOUNDNESS, calls and the whole. -/
theorem ax_args_mem : ∀ (vs : List Value) (k i : Nat) (v : Value), (∀ w ∈ vs, w.category = 1) → vs[i]? = some v → (k + i, v) ∈ lv_args k vs
  | [], _, _, _, _, h => by simp at h
  | w :: vs, k, 0, v, hc, h => by
    simp at h
    subst h
    exact List.mem_cons_self
  | w :: vs, k, i + 1, v, hc, h => by
    have h1 : ¬ w.category = 2 := by rw [hc w List.mem_cons_self]; decide
    have h2 := ax_args_mem vs (k + 1) i v (fun z hz => hc z (List.mem_cons_of_mem _ hz)) (by simpa using h)
    unfold lv_args
    rw [if_neg h1, show k + (i + 1) = k + 1 + i by omega]
    exact List.mem_cons_of_mem _ h2
theorem ax_sl_len : ∀ (vs : List Value), (∀ w ∈ vs, w.category = 1) → (lg_sl vs).length = vs.length
  | [], _ => rfl
  | w :: vs, hc => by
    have h1 : ¬ w.category = 2 := by rw [hc w List.mem_cons_self]; decide
    have h2 := ax_sl_len vs (fun z hz => hc z (List.mem_cons_of_mem _ hz))
    unfold lg_sl at h2 ⊢
    rw [List.flatMap_cons, if_neg h1, List.length_append, h2]
    simp; omega
/-- the locals at a method's entry -/
theorem ax_entry {ad : Nat → Nat} {as : List Value} {n : Nat} (hc : ∀ v ∈ as, v.category = 1) (hn : as.length ≤ n) : lv_has ((lg_sl (as.map (ax_cv ad)) ++ List.replicate (n - (lg_sl (as.map (ax_cv ad))).length) Slot.unset).toArray) n (ax_lv ad (as.map some ++ List.replicate (n - as.length) none)) := by
  have hc2 : ∀ v ∈ as.map (ax_cv ad), v.category = 1 := by
    intro v hv
    obtain ⟨w, hw, rfl⟩ := List.mem_map.mp hv
    rw [ax_cv_cat]
    exact hc w hw
  have h := lv_entry (as.map (ax_cv ad)) (n := n) (by rw [ax_sl_len _ hc2, List.length_map]; exact hn)
  refine ⟨h.1, h.2.1, fun q hq => ?_⟩
  obtain ⟨w, h1, h2, h3⟩ := ax_lv_mem hq
  have h4 : as[q.1]? = some w := by
    by_cases hi : q.1 < as.length
    · rw [List.getElem?_append_left (by rw [List.length_map]; exact hi), List.getElem?_map] at h1
      rw [List.getElem?_eq_getElem hi] at h1 ⊢
      simpa using h1
    · rw [List.getElem?_append_right (by rw [List.length_map]; omega), List.getElem?_replicate] at h1
      split at h1 <;> simp at h1
  refine h.2.2 q ?_
  have h5 := ax_args_mem (as.map (ax_cv ad)) 0 q.1 (ax_cv ad w) hc2 (by rw [List.getElem?_map, h4]; rfl)
  rw [Nat.zero_add, ← h3] at h5
  exact h5
set_option maxHeartbeats 1000000 in
/-- a method's contract out of its entry frame -/
theorem ax_met {l : Launch} {D : va_G} {ad : Nat → Nat} {ca : Nat → ClassId} {a : Nat} {as : List Value} {d : ax_D} {Q : ax_Po} (hok : ax_ok (ax_me a)) (hlen : as.length = ax_g (ax_me a)) (hc : ∀ v ∈ as, v.category = 1) (hJ : ax_J l D ad ca a 0 (as.map some ++ List.replicate (ax_n (ax_me a) - as.length) none) [] d Q) (sz : Nat) :
    Met l (ax_y (ax_me a)) (ax_ws (ax_me a)) (ax_R (ax_v (ax_me a))) (ax_Pc D ad ca as d sz) (ax_Qc D ad ca Q sz) 0 0 (ax_A ad sz) := by
  have hn : as.length ≤ ax_n (ax_me a) := by rw [hlen]; exact (ax_mfacts hok).2.2.2.2.2.2.1
  refine Met.ofW (cc := ax_c (ax_me a)) (maxL := ax_n (ax_me a)) (ret := ax_r (ax_me a)) (ax_mfacts hok).1 rfl ?_
  intro p e s m args below meth c s₁ B hml hv
  obtain ⟨rfl, rfl, hP, hK, hD, hN⟩ := hv
  have hts := atoms_spec (ws := ax_ws (ax_me a)) B.pre
  have hown : s.vm.findClass (ax_y (ax_me a)).cls = some m.cls := findClass_of_methodNamed B.named
  rw [lg_entry_eq]
  exact hJ p e s m _ below meth c s.heap [] _ ⟨B.exec, B.bytes, B.returns, hml, hown, fun w h => hts w (List.mem_cons_of_mem _ h), B.notSynchronized, hK, hN⟩ hP (ax_A_D hD) va_S.rf (by rw [List.length_append, List.length_map, List.length_replicate]; omega) (ax_entry hc hn)
section AXC
variable {p : Program} {l : Launch} {e : Env} {R : Room} {s : State} {m : MethodId} {args : Array Value} {below : List Frame} {meth : Method} {c : Code} {H : Heap} {locs : List Loc} {Qt : State → Prop} {D : va_G} {ad : Nat → Nat} {ca : Nat → ClassId} {d : ax_D} {H0 : Heap} {pc : Nat} {ls : Array Slot} {st0 rest : List Value}
/-- behind a call -/
theorem ax_back {P : ax_Po} {sz : Nat} {a : Array Value} (hr : va_Run p l e R s m args below meth c H locs 0 0 0 0 (F0 m pc ls st0) (rest.map (ax_cv ad)) (ax_Qc D ad ca P H.size a) (ax_A ad H.size)) (hS : va_S (ax_A ad sz) H0 H locs) (hz : sz ≤ H.size)
    (kk : ∀ (r : Option Value) (d1 : ax_D) (H1 : Heap) (locs1 : List Loc), P r d1 → va_P D vwCl (ax_w ad ca d1) H1 → va_S (ax_A ad sz) H0 H1 locs1 → W p l e R s m args below meth c H1 locs1 0 0 Qt (F0 m (pc + 3) ls ((r.toList ++ rest).map (ax_cv ad)))) : W p l e R s m args below meth c H locs 0 0 Qt (F0 m pc ls st0) := by
  intro T hT X
  obtain ⟨v, st₀, t, T', L, h0, X', hL, e1, e2, ⟨⟨r, d1, hv, hp, hP⟩, hz1, hk⟩, st⟩ := hr T hT X
  cases hv
  rw [h0] at hz1 hk
  have hA := ax_A_le (ad := ad) hz
  obtain ⟨t2, a1, b1⟩ := kk r d1 T'.heap (locs ++ L) hp (by rw [e1]; exact hP)
    ⟨Nat.le_trans hS.1 (by rw [e1]; exact hz1), fun q h1 h2 => by rw [e1, hk q (Nat.lt_of_lt_of_le h1 hS.1) (fun z => h2 (hA q z))]; exact hS.2.1 q h1 h2, fun q hq => by
      rcases List.mem_append.mp hq with h | h
      · exact hS.2.2 q h
      · exact hA _ (hL q h)⟩ T' rfl X'
  have e3 : (r.toList ++ rest).map (ax_cv ad) = (r.map (ax_cv ad)).toList ++ rest.map (ax_cv ad) := by cases r <;> rfl
  rw [e3] at a1
  exact ⟨t2, st t2 a1, b1⟩
end AXC
theorem ax_blind {D : va_G} {ad : Nat → Nat} {ca : Nat → ClassId} {as : List Value} {d : ax_D} {sz : Nat} : FrameBlind (ax_Pc D ad ca as d sz) := fun a U g mk q => by
  obtain ⟨q0, q1, qP, qK, qD, qN⟩ := q
  exact ⟨q0, q1, qP, va_K.moved (u := U) (U := U.calling g mk a) (Vm.Alike.refl U.vm) qK, qD, ax_NW_same (u := U) rfl qN⟩
theorem ax_ini_TW {q : ax_M} (h : ax_ok q) : Cond.initialized (ax_y q).cls ∈ ax_TW := by
  have h1 := ax_mfacts h
  refine List.mem_filter.mpr ⟨?_, rfl⟩
  rw [← h1.2.2.2.1]
  exact ax_ini _ (ax_rd_in h1.2.2.2.2.1)
theorem ax_ws_TW {q : ax_M} (h : ax_ok q) : ∀ w ∈ ax_ws q, w ∈ ax_TW := fun w hw => (List.mem_cons.mp hw).elim (fun e => by rw [e]; exact List.mem_filter.mpr ⟨h.2.1, rfl⟩) id
/-- what the checks say of a call -/
theorem ax_Lz {q : ax_M} (hq : ax_ok q) {idx a b : Nat} (h : ax_L.any (fun z => decide (z.1 = ax_o q ∧ z.2.1 = idx ∧ z.2.2.1 = a ∧ z.2.2.2.1 = b)) = true) : ax_ok (ax_me a) ∧ match b with
    | 0 => Cond.methodLink (ax_y q).cls idx (ax_y (ax_me a)) ∈ ax_TW ∧ Cond.instanceMethod (ax_y (ax_me a)) ∈ ax_TW ∧ Cond.selects (ax_y (ax_me a)).cls (ax_y (ax_me a)) (ax_y (ax_me a)) ∈ ax_TW ∧ ax_z (ax_me a) = 0
    | 1 => Cond.methodLink (ax_y q).cls idx (ax_y (ax_me a)) ∈ ax_TW ∧ Cond.static (ax_y (ax_me a)) ∈ ax_TW ∧ ax_z (ax_me a) = 1 ∧ (ax_y (ax_me a)).cls = (ax_y q).cls
    | _ => Cond.methodLinkNest (ax_y q).cls idx (ax_y (ax_me a)) "LearnedCodes" ∈ ax_NW ∧ Cond.static (ax_y (ax_me a)) ∈ ax_TW ∧ ax_z (ax_me a) = 1 := by
  obtain ⟨z, hz, he⟩ := List.any_eq_true.mp h
  obtain ⟨e1, e2, e3, e4⟩ := of_decide_eq_true he
  have h1 := ax_Lok z hz
  unfold ax_lok at h1
  rw [Bool.and_eq_true] at h1
  obtain ⟨h1, h2⟩ := h1
  have hlt : a < ax_Ms.length := by rw [← e3]; exact of_decide_eq_true h2
  have hm : ax_me a ∈ ax_Ms := by
    unfold ax_me
    rw [List.getD_eq_getElem?_getD, List.getElem?_eq_getElem hlt]
    exact List.getElem_mem hlt
  have hok := ax_all _ hm
  have hcq := (ax_mfacts hq).2.2.2.1
  have hca := (ax_mfacts hok).2.2.2.1
  refine ⟨hok, ?_⟩
  have hw := hok.2.2
  unfold ax_wck at hw
  rw [e1, e2, e3, e4, hcq] at h1
  match b, h1 with
  | 0, h1 =>
    simp only [Bool.and_eq_true, decide_eq_true_eq] at h1
    rw [if_pos h1.2] at hw
    exact ⟨List.mem_filter.mpr ⟨List.mem_of_getElem? h1.1, rfl⟩, List.mem_filter.mpr ⟨hw.1, rfl⟩, List.mem_filter.mpr ⟨hw.2, rfl⟩, h1.2⟩
  | 1, h1 =>
    simp only [Bool.and_eq_true, decide_eq_true_eq] at h1
    rw [if_neg (by rw [h1.1.2]; decide)] at hw
    exact ⟨List.mem_filter.mpr ⟨List.mem_of_getElem? h1.1.1, rfl⟩, List.mem_filter.mpr ⟨hw, rfl⟩, h1.1.2, by rw [← hcq, ← hca, h1.2]⟩
  | b + 2, h1 =>
    simp only [Bool.and_eq_true, decide_eq_true_eq] at h1
    rw [if_neg (by rw [h1.2]; decide)] at hw
    exact ⟨List.mem_filter.mpr ⟨List.mem_of_getElem? h1.1, rfl⟩, List.mem_filter.mpr ⟨hw, rfl⟩, h1.2⟩
theorem ax_room {v v' n : Nat} (h : v' < v) (h0 : 0 < v') (hn : n ≤ 9) : (ax_R v').frames + 1 ≤ (ax_R v).frames ∧ 8 + (n + 11) + (ax_R v').locals ≤ (ax_R v).locals := by
  show v' - 1 + 1 ≤ v - 1 ∧ 8 + (n + 11) + 28 * (v' - 1) ≤ 28 * (v - 1)
  omega
end
section
/-! SOUNDNESS: a step, and the whole. -/
theorem ax_sum (ad : Nat → Nat) : ∀ rest : List Value, ((rest.map (ax_cv ad)).map fun v => v.category).sum = (rest.map fun v => v.category).sum
  | [] => rfl
  | v :: r => by
    have h := ax_sum ad r
    simp only [List.map_cons, List.sum_cons, ax_cv_cat] at h ⊢
    rw [h]
section AXV
variable {p : Program} {l : Launch} {e : Env} {s : State} {m : MethodId} {args : Array Value} {below : List Frame} {meth : Method} {c : Code} {H : Heap} {locs : List Loc} {Qt : State → Prop} {D : va_G} {ad : Nat → Nat} {ca : Nat → ClassId} {d : ax_D} {H0 : Heap} {pc : Nat} {ls : Array Slot}
set_option maxHeartbeats 1000000 in
theorem ax_cv0 {q : ax_M} {a idx id n : Nat} {f : Nat → ax_X} {tl rest : List Value} {P : ax_Po} {sz : Nat} (hC : ax_C p s m args meth c D ca q) (hq : ax_ok q) (hoka : ax_ok (ax_me a)) (w1 : Cond.methodLink (ax_y q).cls idx (ax_y (ax_me a)) ∈ ax_TW) (w2 : Cond.instanceMethod (ax_y (ax_me a)) ∈ ax_TW) (w3 : Cond.selects (ax_y (ax_me a)).cls (ax_y (ax_me a)) (ax_y (ax_me a)) ∈ ax_TW) (w4 : ax_z (ax_me a) = 0) (hv : ax_v (ax_me a) < ax_v q)
    (hP : va_P D vwCl (ax_w ad ca d) H) (hD : va_D (ax_A ad sz) (ax_w ad ca d)) (hS : va_S (ax_A ad sz) H0 H locs) (hz : sz ≤ H.size) (hsz : ls.size = ax_n q) (hlen : (Value.ref id :: tl).length = ax_g (ax_me a)) (hcat : ∀ v ∈ (Value.ref id :: tl), v.category = 1) (hsum : (rest.map fun v => v.category).sum ≤ 8) (hsh : ax_sh id = some (ax_o (ax_me a) + 4, n, f)) (hd : decode (ax_c q) pc = .ok (.invokevirtual idx, 3))
    (hX : ax_J l D ad ca a 0 ((Value.ref id :: tl).map some ++ List.replicate (ax_n (ax_me a) - (Value.ref id :: tl).length) none) [] d P)
    (kk : ∀ (r : Option Value) (d1 : ax_D) (H1 : Heap) (locs1 : List Loc), P r d1 → va_P D vwCl (ax_w ad ca d1) H1 → va_S (ax_A ad sz) H0 H1 locs1 → W p l e (ax_R (ax_v q)) s m args below meth c H1 locs1 0 0 Qt (F0 m (pc + 3) ls ((r.toList ++ rest).map (ax_cv ad)))) : W p l e (ax_R (ax_v q)) s m args below meth c H locs 0 0 Qt (F0 m pc ls (((Value.ref id :: tl).reverse ++ rest).map (ax_cv ad))) := by
  obtain ⟨hx, hb, hr, hml, hown, hts, hlocks, hK, hN⟩ := hC
  have fa := ax_mfacts hoka
  have hM := ax_met hoka hlen hcat hX H.size
  have e1 : ((Value.ref id :: tl).reverse ++ rest).map (ax_cv ad) = (tl.map (ax_cv ad)).reverse ++ .ref (ad id) :: rest.map (ax_cv ad) := by simp [ax_cv]
  rw [e1]
  obtain ⟨k0, hk0, hwk⟩ := ax_w_get ad ca d hsh
  rw [ax_cl_obj hsh] at hwk
  have hrec := va_recv hK hP (ax_rd_at fa.2.2.2.2.1) hwk
  rw [fa.2.2.2.1] at hrec
  have hgood : GoodIn ax_TW (wsV (ax_y q).cls idx (ax_y (ax_me a)).cls (ax_y (ax_me a)) (ax_ws (ax_me a))) := ax_TW_good (fun w hw => by
    unfold wsV at hw
    rcases List.mem_append.mp hw with h | h
    · simp only [List.mem_cons, List.not_mem_nil, or_false] at h
      rcases h with h | h | h | h <;> rw [h]
      · exact w1
      · exact w2
      · exact w3
      · exact ax_ini_TW hoka
    · exact ax_ws_TW hoka w h)
  have hpar : (parseMethodDescriptor (ax_y (ax_me a)).desc).map (fun d => d.parameters.length) = some tl.length := by
    have h9 := fa.2.2.2.2.2.2.2.2
    rw [w4, ← hlen] at h9
    cases hp : parseMethodDescriptor (ax_y (ax_me a)).desc with
    | none => rw [hp] at h9; cases h9
    | some sg =>
      rw [hp] at h9
      simp only [Option.map_some, Option.some.injEq, List.length_cons, Nat.add_zero] at h9 ⊢
      omega
  have hrm := ax_room hv fa.2.2.2.2.2.2.2.1 fa.2.2.2.2.2.1
  refine ax_back (P := P) (va_runV (As := tl.map (ax_cv ad)) (rest := rest.map (ax_cv ad)) (b := ad id) (C := (ax_y (ax_me a)).cls) ⟨hx, hb, hml, hown, hts⟩ hM (cwV tl.length hts hgood rfl rfl rfl ⟨rfl, fa.2.1, fa.2.2.1, hpar⟩ hrm) ⟨ax_blind, hrec, fun U hU hW => ⟨rfl, by rw [hU], by rw [hU]; exact hP, va_K.moved hW.alike hK, hD.weaken (fun _ _ _ _ => trivial), ax_NW_warm hW hN⟩⟩ rfl (by rw [List.length_map]) hsz rfl (lv_room (by rw [ax_sum]; exact hsum)) hd ⟨Nat.le_refl _, Nat.le_refl _⟩) hS hz kk
set_option maxHeartbeats 1000000 in
theorem ax_cv1 {q : ax_M} {a idx b : Nat} {as rest : List Value} {P : ax_Po} {sz : Nat} (hC : ax_C p s m args meth c D ca q) (hq : ax_ok q) (hb0 : 0 < b) (hL : ax_L.any (fun z => decide (z.1 = ax_o q ∧ z.2.1 = idx ∧ z.2.2.1 = a ∧ z.2.2.2.1 = b)) = true) (hv : ax_v (ax_me a) < ax_v q)
    (hP : va_P D vwCl (ax_w ad ca d) H) (hD : va_D (ax_A ad sz) (ax_w ad ca d)) (hS : va_S (ax_A ad sz) H0 H locs) (hz : sz ≤ H.size) (hsz : ls.size = ax_n q) (hlen : as.length = ax_g (ax_me a)) (hcat : ∀ v ∈ as, v.category = 1) (hsum : (rest.map fun v => v.category).sum ≤ 8) (hd : decode (ax_c q) pc = .ok (.invokestatic idx, 3))
    (hX : ax_J l D ad ca a 0 (as.map some ++ List.replicate (ax_n (ax_me a) - as.length) none) [] d P)
    (kk : ∀ (r : Option Value) (d1 : ax_D) (H1 : Heap) (locs1 : List Loc), P r d1 → va_P D vwCl (ax_w ad ca d1) H1 → va_S (ax_A ad sz) H0 H1 locs1 → W p l e (ax_R (ax_v q)) s m args below meth c H1 locs1 0 0 Qt (F0 m (pc + 3) ls ((r.toList ++ rest).map (ax_cv ad)))) : W p l e (ax_R (ax_v q)) s m args below meth c H locs 0 0 Qt (F0 m pc ls ((as.reverse ++ rest).map (ax_cv ad))) := by
  obtain ⟨hx, hb, hr, hml, hown, hts, hlocks, hK, hN⟩ := hC
  obtain ⟨hoka, hz9⟩ := ax_Lz hq hL
  have fa := ax_mfacts hoka
  have hM := ax_met hoka hlen hcat hX H.size
  have e1 : (as.reverse ++ rest).map (ax_cv ad) = (as.map (ax_cv ad)).reverse ++ rest.map (ax_cv ad) := by simp
  rw [e1]
  have hpar : ax_z (ax_me a) = 1 → (parseMethodDescriptor (ax_y (ax_me a)).desc).map (fun d => d.parameters.length) = some as.length := by
    intro w4
    have h9 := fa.2.2.2.2.2.2.2.2
    rw [w4, ← hlen] at h9
    cases hp : parseMethodDescriptor (ax_y (ax_me a)).desc with
    | none => rw [hp] at h9; cases h9
    | some sg =>
      rw [hp] at h9
      simp only [Option.map_some, Option.some.injEq] at h9 ⊢
      omega
  have hrm := ax_room hv fa.2.2.2.2.2.2.2.1 fa.2.2.2.2.2.1
  have hpre : PreS s H (ax_Pc D ad ca as d H.size) (as.map (ax_cv ad)) := ⟨ax_blind, fun U hU hW => ⟨rfl, by rw [hU], by rw [hU]; exact hP, va_K.moved hW.alike hK, hD.weaken (fun _ _ _ _ => trivial), ax_NW_warm hW hN⟩⟩
  have hbb : b = 1 ∨ ∃ b', b = b' + 2 := by
    match b, hb0 with
    | 1, _ => exact Or.inl rfl
    | b + 2, _ => exact Or.inr ⟨b, rfl⟩
  rcases hbb with rfl | ⟨b', rfl⟩
  · obtain ⟨w1, w2, w3, w4⟩ := hz9
    have hgood : GoodIn ax_TW (wsS (ax_y q).cls idx (ax_y (ax_me a)) (ax_ws (ax_me a))) := ax_TW_good (fun w hw => by
      unfold wsS at hw
      rcases List.mem_append.mp hw with h | h
      · simp only [List.mem_cons, List.not_mem_nil, or_false] at h
        rcases h with h | h | h <;> rw [h]
        · exact w1
        · exact w2
        · exact ax_ini_TW hq
      · exact ax_ws_TW hoka w h)
    exact ax_back (P := P) (va_runS (As := as.map (ax_cv ad)) (rest := rest.map (ax_cv ad)) ⟨hx, hb, hml, hown, hts⟩ hM (cwS as.length hts hgood rfl rfl rfl ⟨w4, fa.2.1, fa.2.2.1, hpar w3⟩ hrm) hpre rfl (by rw [List.length_map]) hsz rfl (lv_room (by rw [ax_sum]; exact hsum)) hd ⟨Nat.le_refl _, Nat.le_refl _⟩) hS hz kk
  · obtain ⟨w1, w2, w3⟩ := hz9
    exact ax_back (P := P) (va_runSN (host := "LearnedCodes") (As := as.map (ax_cv ad)) (rest := rest.map (ax_cv ad)) ⟨hx, hb, hml, hown, hts⟩ hM ⟨va_cnB as.length hts (ax_TW_good (ax_ws_TW hoka)) rfl rfl rfl (hN _ w1) (hts _ (ax_ini_TW hoka)) ⟨fa.2.1, fa.2.2.1, hpar w3⟩ hrm, hts _ w2, trivial⟩ hpre rfl (by rw [List.length_map]) hsz rfl (lv_room (by rw [ax_sum]; exact hsum)) hd ⟨Nat.le_refl _, Nat.le_refl _⟩) hS hz kk
end AXV
set_option maxHeartbeats 4000000 in
theorem ax_snd {l : Launch} {D : va_G} {ad : Nat → Nat} {ca : Nat → ClassId} (mi pc : Nat) (L : ax_L1) (st : List Value) (d : ax_D) (Q : ax_Po) (k : ax_st (ax_J l D ad ca) mi pc L st d Q) : ax_J l D ad ca mi pc L st d Q := by
  unfold ax_st at k
  cases hin : ax_in mi pc with
  | none => rw [hin] at k; exact k.elim
  | some z =>
    obtain ⟨i, len, a, b⟩ := z
    rw [hin] at k
    dsimp only at k
    have hok := (ax_in_ok hin).1
    have hck := (ax_in_ok hin).2
    have hd := ax_dfacts hin
    unfold ax_ick at hck
    rw [Bool.and_eq_true] at hck
    replace hck := hck.2
    dsimp only at hck
    intro p e s m args below meth c H locs ls hC hP hD hS hL hl
    have hx := hC.1
    have hb := hC.2.1
    cases i <;> first
      | (obtain ⟨pc', L', st', h1, h2, h3⟩ := k
         exact ax_s1 hx hb hd h1 h2 hL hl (fun ls' hL' hl' => h3 p e s m args below meth c H locs ls' hC hP hD hS hL' hl'))
      | (obtain ⟨rfl, v, ty, rfl, hr, hn, hQ⟩ := k
         exact W.zret hx hb (hC.2.2.1.trans hr) hn (fun t ht hW => ⟨⟨some (.int v), d, rfl, hQ, by rw [ht]; exact hP⟩, hS.F ht⟩) hS.2.2 hd hC.2.2.2.2.2.2.1)
      | (obtain ⟨rfl, rfl, hr, hQ⟩ := k
         exact W.vret hx hb (hC.2.2.1.trans hr) (fun t ht hW => ⟨⟨none, d, rfl, hQ, by rw [ht]; exact hP⟩, hS.F ht⟩) hS.2.2 hd hC.2.2.2.2.2.2.1)
      | (obtain ⟨rfl, x, r, t, rfl, ht, k1, k2⟩ := k
         exact ax_s2 hx hb hd ht (fun h => k1 h p e s m args below meth c H locs ls hC hP hD hS hL hl) (fun h => k2 h p e s m args below meth c H locs ls hC hP hD hS hL hl))
      | (obtain ⟨rfl, x, y, r, t, rfl, ht, k1, k2⟩ := k
         exact ax_s3 hx hb hd ht (fun h => k1 h p e s m args below meth c H locs ls hC hP hD hS hL hl) (fun h => k2 h p e s m args below meth c H locs ls hC hP hD hS hL hl))
      | (obtain ⟨rfl, x, y, r, rfl, h0, k1⟩ := k
         exact lv_idiv hx hb hd h0 (k1 p e s m args below meth c H locs ls hC hP hD hS hL hl))
      | (obtain ⟨rfl, x, y, r, rfl, h0, k1⟩ := k
         exact lv_irem hx hb hd h0 (k1 p e s m args below meth c H locs ls hC hP hD hS hL hl))
      | (obtain ⟨x, r, rfl, k1, k2⟩ := k
         rename_i dflt lo hi offs
         by_cases h : x.toInt < lo ∨ hi < x.toInt
         · obtain ⟨t, h1, h2⟩ := k1 h
           exact lv_tableOut hx hb hd h h1 (h2 p e s m args below meth c H locs ls hC hP hD hS hL hl)
         · obtain ⟨off, t, h1, h2, h3⟩ := k2 h
           exact lv_tableIn hx hb hd (fun q => h (Or.inl q)) (fun q => h (Or.inr q)) h1 h2 (h3 p e s m args below meth c H locs ls hC hP hD hS hL hl))
      | (obtain ⟨x, r, t, rfl, h1, h2, h3⟩ := k
         exact lv_lookup hx hb hd h1 rfl h2 (h3 p e s m args below meth c H locs ls hC hP hD hS hL hl))
      | (obtain ⟨rfl, id, r, n, f, rfl, h1, h2, h3⟩ := k
         obtain ⟨f1, f2, f3⟩ := ax_Fz hok hck
         exact ax_get hC f1 f2 f3 hP h1 h2 hd (h3 p e s m args below meth c H locs ls hC hP hD hS hL hl))
      | (obtain ⟨rfl, id, x, r, n, f, rfl, h1, h2, h3, h4, h5, h6⟩ := k
         rw [Bool.and_eq_true, Bool.not_eq_true'] at hck
         obtain ⟨f1, f2, f3⟩ := ax_Fz hok hck.1
         exact ax_put hC f1 f2 f3 hck.2 hP hD hS h1 h2 h3 h4 h5 hd (fun H1 locs1 hP1 hS1 => h6 p e s m args below meth c H1 locs1 ls hC hP1 (ax_w_D hD) hS1 hL hl))
      | (obtain ⟨rfl, id, i, r, n, f, rfl, h1, h2, h3⟩ := k
         exact ax_iald hC hP h1 h2 hd (h3 p e s m args below meth c H locs ls hC hP hD hS hL hl))
      | (obtain ⟨rfl, id, i, r, n, f, rfl, h1, h2, h3⟩ := k
         exact ax_zald hC hP h1 h2 hd (h3 p e s m args below meth c H locs ls hC hP hD hS hL hl))
      | (obtain ⟨rfl, id, x, i, r, n, f, rfl, h1, h2, h3⟩ := k
         exact ax_iast hC hP hD hS h1 h2 hd (fun H1 locs1 hP1 hS1 => h3 p e s m args below meth c H1 locs1 ls hC hP1 (ax_w_D hD) hS1 hL hl))
      | (obtain ⟨rfl, id, x, i, r, n, f, rfl, h1, h2, h3⟩ := k
         exact ax_zast hC hP hD hS h1 h2 hd (fun H1 locs1 hP1 hS1 => h3 p e s m args below meth c H1 locs1 ls hC hP1 (ax_w_D hD) hS1 hL hl))
      | (obtain ⟨rfl, id, i, r, n, f, j, rfl, h1, h2, h3, h4⟩ := k
         exact ax_aald hC hP h1 h2 h3 hd (h4 p e s m args below meth c H locs ls hC hP hD hS hL hl))
      | (obtain ⟨rfl, id, r, t, n, f, rfl, h1, h2, h3⟩ := k
         exact ax_alen hC hP h1 h2 hd (h3 p e s m args below meth c H locs ls hC hP hD hS hL hl))
      | (obtain ⟨rfl, as, rest, P, rfl, hlen, hcat, hsum, hrec, hX, hk⟩ := k
         obtain ⟨id, tl, n, f, rfl, hsh⟩ := hrec rfl
         rw [Bool.and_eq_true] at hck
         obtain ⟨hoka, w1, w2, w3, w4⟩ := ax_Lz hok hck.1
         exact ax_cv0 hC hok hoka w1 w2 w3 w4 (of_decide_eq_true hck.2) hP hD hS hS.1 hl.1 hlen hcat hsum hsh hd hX (fun r d1 H1 locs1 hp hP1 hS1 => hk r d1 hp p e s m args below meth c H1 locs1 ls hC hP1 (ax_w_D hD) hS1 hL hl))
      | (obtain ⟨rfl, as, rest, P, rfl, hlen, hcat, hsum, hrec, hX, hk⟩ := k
         rw [Bool.and_eq_true, Bool.and_eq_true] at hck
         exact ax_cv1 hC hok (of_decide_eq_true hck.1.2) hck.1.1 (of_decide_eq_true hck.2) hP hD hS hS.1 hl.1 hlen hcat hsum hd hX (fun r d1 H1 locs1 hp hP1 hS1 => hk r d1 hp p e s m args below meth c H1 locs1 ls hC hP1 (ax_w_D hD) hS1 hL hl))
theorem ax_sound {l : Launch} {D : va_G} {ad : Nat → Nat} {ca : Nat → ClassId} {mi pc : Nat} {L : ax_L1} {st : List Value} {d : ax_D} {Q : ax_Po} (h : ax_W mi pc L st d Q) : ax_J l D ad ca mi pc L st d Q := h (ax_J l D ad ca) (fun mi pc L st d Q k => ax_snd mi pc L st d Q k)
/-- a call of method a with these arguments, in this world: it comes back with Q (what the abstract machine says of its entry) -/
def ax_E (a : Nat) (as : List Value) (d : ax_D) (Q : ax_Po) : Prop := ax_W a 0 (as.map some ++ List.replicate (ax_n (ax_me a) - as.length) none) [] d Q
/-- THE CONTRACT over the machine, out of the abstract machine -/
theorem ax_contract {l : Launch} {D : va_G} {ad : Nat → Nat} {ca : Nat → ClassId} {a : Nat} {as : List Value} {d : ax_D} {Q : ax_Po} (ha : a < ax_Ms.length) (hlen : as.length = ax_g (ax_me a)) (hc : ∀ v ∈ as, v.category = 1) (h : ax_E a as d Q) (sz : Nat) :
    Met l (ax_y (ax_me a)) (ax_ws (ax_me a)) (ax_R (ax_v (ax_me a))) (ax_Pc D ad ca as d sz) (ax_Qc D ad ca Q sz) 0 0 (ax_A ad sz) := by
  refine ax_met (ax_all _ ?_) hlen hc (ax_sound h) sz
  unfold ax_me
  rw [List.getD_eq_getElem?_getD, List.getElem?_eq_getElem ha]
  exact List.getElem_mem ha
end
section
/-! ROWS OF THE ABSTRACT MACHINE: an instruction, a row. -/
section WX
variable {mi pc len a b : Nat} {L : ax_L1} {st r : List Value} {d : ax_D} {Q : ax_Po}
theorem wx_s0 {i : Instr} {pc' : Nat} {L' : ax_L1} {st' : List Value} (h : ax_in mi pc = some (i, len, a, b)) (hs : ax_sx i pc L st = some (len, pc', L', st')) (hg : ∀ off, i = .goto off → (pc : Int) + off = (pc' : Int)) (k : ax_W mi pc' L' st' d Q) : ax_W mi pc L st d Q := by
  apply ax_W_in
  unfold ax_st
  rw [h]
  cases i <;> first
    | exact ⟨_, _, _, hs, hg, k⟩
    | (simp [ax_sx] at hs)
theorem wx_icst {n : Int} {v : Int32} (h : ax_in mi pc = some (.iconst n, 1, a, b)) (hv : Int32.ofInt n = v) (k : ax_W mi (pc + 1) L (.int v :: st) d Q) : ax_W mi pc L st d Q := by
  subst hv; exact wx_s0 h rfl (by intro _ h; cases h) k
theorem wx_bpsh {n : Int} {v : Int32} (h : ax_in mi pc = some (.bipush n, 2, a, b)) (hv : (Int8.ofInt n).toInt32 = v) (k : ax_W mi (pc + 2) L (.int v :: st) d Q) : ax_W mi pc L st d Q := by
  subst hv; exact wx_s0 h rfl (by intro _ h; cases h) k
theorem wx_spsh {n : Int} {v : Int32} (h : ax_in mi pc = some (.sipush n, 3, a, b)) (hv : (Int16.ofInt n).toInt32 = v) (k : ax_W mi (pc + 3) L (.int v :: st) d Q) : ax_W mi pc L st d Q := by
  subst hv; exact wx_s0 h rfl (by intro _ h; cases h) k
theorem wx_ildn {n : Fin 4} {x : Int32} (h : ax_in mi pc = some (.iload_n n, 1, a, b)) (hl : L[n.val]? = some (some (.int x))) (k : ax_W mi (pc + 1) L (.int x :: st) d Q) : ax_W mi pc L st d Q :=
  wx_s0 h (by simp only [ax_sx, hl]) (by intro _ h; cases h) k
theorem wx_ild {n : Nat} {x : Int32} (h : ax_in mi pc = some (.iload n, 2, a, b)) (hl : L[n]? = some (some (.int x))) (k : ax_W mi (pc + 2) L (.int x :: st) d Q) : ax_W mi pc L st d Q :=
  wx_s0 h (by simp only [ax_sx, hl]) (by intro _ h; cases h) k
theorem wx_aldn {n : Fin 4} {x : Nat} (h : ax_in mi pc = some (.aload_n n, 1, a, b)) (hl : L[n.val]? = some (some (.ref x))) (k : ax_W mi (pc + 1) L (.ref x :: st) d Q) : ax_W mi pc L st d Q :=
  wx_s0 h (by simp only [ax_sx, hl]) (by intro _ h; cases h) k
theorem wx_istn {n : Fin 4} {x : Int32} {L' : ax_L1} (h : ax_in mi pc = some (.istore_n n, 1, a, b)) (hn : n.val < L.length) (hl : L.set n.val (some (.int x)) = L') (k : ax_W mi (pc + 1) L' r d Q) : ax_W mi pc L (.int x :: r) d Q :=
  wx_s0 h (by simp only [ax_sx, hn, if_true, hl]) (by intro _ h; cases h) k
theorem wx_ist {n : Nat} {x : Int32} {L' : ax_L1} (h : ax_in mi pc = some (.istore n, 2, a, b)) (hn : n < L.length) (hl : L.set n (some (.int x)) = L') (k : ax_W mi (pc + 2) L' r d Q) : ax_W mi pc L (.int x :: r) d Q :=
  wx_s0 h (by simp only [ax_sx, hn, if_true, hl]) (by intro _ h; cases h) k
theorem wx_astn {n : Fin 4} {x : Nat} {L' : ax_L1} (h : ax_in mi pc = some (.astore_n n, 1, a, b)) (hn : n.val < L.length) (hl : L.set n.val (some (.ref x)) = L') (k : ax_W mi (pc + 1) L' r d Q) : ax_W mi pc L (.ref x :: r) d Q :=
  wx_s0 h (by simp only [ax_sx, hn, if_true, hl]) (by intro _ h; cases h) k
theorem wx_iinc {n : Nat} {z : Int} {x v : Int32} {L' : ax_L1} (h : ax_in mi pc = some (.iinc n z, 3, a, b)) (hl : L[n]? = some (some (.int x))) (hv : x + Int32.ofInt z = v) (hs : L.set n (some (.int v)) = L') (k : ax_W mi (pc + 3) L' st d Q) : ax_W mi pc L st d Q := by
  subst hv
  have hn : n < L.length := (List.getElem?_eq_some_iff.mp hl).1
  exact wx_s0 h (by simp only [ax_sx, hl, hn, if_true, hs]) (by intro _ h; cases h) k
theorem wx_iadd {x y : Int32} (h : ax_in mi pc = some (.iadd, 1, a, b)) (k : ax_W mi (pc + 1) L (.int (x + y) :: r) d Q) : ax_W mi pc L (.int y :: .int x :: r) d Q := wx_s0 h rfl (by intro _ h; cases h) k
theorem wx_isub {x y : Int32} (h : ax_in mi pc = some (.isub, 1, a, b)) (k : ax_W mi (pc + 1) L (.int (x - y) :: r) d Q) : ax_W mi pc L (.int y :: .int x :: r) d Q := wx_s0 h rfl (by intro _ h; cases h) k
theorem wx_imul {x y : Int32} (h : ax_in mi pc = some (.imul, 1, a, b)) (k : ax_W mi (pc + 1) L (.int (x * y) :: r) d Q) : ax_W mi pc L (.int y :: .int x :: r) d Q := wx_s0 h rfl (by intro _ h; cases h) k
theorem wx_iand {x y : Int32} (h : ax_in mi pc = some (.iand, 1, a, b)) (k : ax_W mi (pc + 1) L (.int (x &&& y) :: r) d Q) : ax_W mi pc L (.int y :: .int x :: r) d Q := wx_s0 h rfl (by intro _ h; cases h) k
theorem wx_ishl {x y : Int32} (h : ax_in mi pc = some (.ishl, 1, a, b)) (k : ax_W mi (pc + 1) L (.int (x <<< (y &&& 31)) :: r) d Q) : ax_W mi pc L (.int y :: .int x :: r) d Q := wx_s0 h rfl (by intro _ h; cases h) k
theorem wx_ishr {x y : Int32} (h : ax_in mi pc = some (.ishr, 1, a, b)) (k : ax_W mi (pc + 1) L (.int (x >>> (y &&& 31)) :: r) d Q) : ax_W mi pc L (.int y :: .int x :: r) d Q := wx_s0 h rfl (by intro _ h; cases h) k
theorem wx_dupr {x : Nat} (h : ax_in mi pc = some (.dup, 1, a, b)) (k : ax_W mi (pc + 1) L (.ref x :: .ref x :: r) d Q) : ax_W mi pc L (.ref x :: r) d Q := wx_s0 h rfl (by intro _ h; cases h) k
theorem wx_dup2 {x : Nat} {y : Int32} (h : ax_in mi pc = some (.dup2, 1, a, b)) (k : ax_W mi (pc + 1) L (.int y :: .ref x :: .int y :: .ref x :: r) d Q) : ax_W mi pc L (.int y :: .ref x :: r) d Q := wx_s0 h rfl (by intro _ h; cases h) k
theorem wx_goto {off : Int} (t : Nat) (h : ax_in mi pc = some (.goto off, 3, a, b)) (ht : (pc : Int) + off = (t : Int)) (k : ax_W mi t L st d Q) : ax_W mi pc L st d Q := by
  refine wx_s0 (pc' := t) h ?_ ?_ k
  · simp only [ax_sx, ht, Int.toNat_natCast]
  · intro o ho
    cases ho
    exact ht
theorem wx_idiv {x y : Int32} (h : ax_in mi pc = some (.idiv, 1, a, b)) (h0 : ¬ y = 0) (k : ax_W mi (pc + 1) L (.int (x / y) :: r) d Q) : ax_W mi pc L (.int y :: .int x :: r) d Q := by
  apply ax_W_in; unfold ax_st; rw [h]; exact ⟨rfl, x, y, r, rfl, h0, k⟩
theorem wx_irem {x y : Int32} (h : ax_in mi pc = some (.irem, 1, a, b)) (h0 : ¬ y = 0) (k : ax_W mi (pc + 1) L (.int (x - x / y * y) :: r) d Q) : ax_W mi pc L (.int y :: .int x :: r) d Q := by
  apply ax_W_in; unfold ax_st; rw [h]; exact ⟨rfl, x, y, r, rfl, h0, k⟩
theorem wx_if {c : ClassFile.Cond} {off : Int} {x : Int32} (t : Nat) (h : ax_in mi pc = some (.ifCond c off, 3, a, b)) (ht : (pc : Int) + off = (t : Int)) (k1 : ax_cn c x 0 → ax_W mi t L r d Q) (k2 : ¬ ax_cn c x 0 → ax_W mi (pc + 3) L r d Q) : ax_W mi pc L (.int x :: r) d Q := by
  apply ax_W_in; unfold ax_st; rw [h]; exact ⟨rfl, x, r, t, rfl, ht, k1, k2⟩
theorem wx_cmp {c : ClassFile.Cond} {off : Int} {x y : Int32} (t : Nat) (h : ax_in mi pc = some (.if_icmp c off, 3, a, b)) (ht : (pc : Int) + off = (t : Int)) (k1 : ax_cn c x y → ax_W mi t L r d Q) (k2 : ¬ ax_cn c x y → ax_W mi (pc + 3) L r d Q) : ax_W mi pc L (.int y :: .int x :: r) d Q := by
  apply ax_W_in; unfold ax_st; rw [h]; exact ⟨rfl, x, y, r, t, rfl, ht, k1, k2⟩
theorem wx_tsw {dflt lo hi : Int} {offs : Array Int} {x : Int32} (h : ax_in mi pc = some (.tableswitch dflt lo hi offs, len, a, b)) (k1 : (x.toInt < lo ∨ hi < x.toInt) → ∃ t : Nat, (pc : Int) + dflt = (t : Int) ∧ ax_W mi t L r d Q) (k2 : ¬ (x.toInt < lo ∨ hi < x.toInt) → ∃ (off : Int) (t : Nat), offs[(x.toInt - lo).toNat]? = some off ∧ (pc : Int) + off = (t : Int) ∧ ax_W mi t L r d Q) : ax_W mi pc L (.int x :: r) d Q := by
  apply ax_W_in; unfold ax_st; rw [h]; exact ⟨x, r, rfl, k1, k2⟩
theorem wx_lsw {dflt : Int} {ps : Array (Int × Int)} {x : Int32} (t : Nat) (h : ax_in mi pc = some (.lookupswitch dflt ps, len, a, b)) (hp : (ps.toList.zip (ps.toList.drop 1)).all (fun (a, next) => a.1 < next.1) = true) (ht : (pc : Int) + Op.lookupswitch.offset ps.toList dflt x.toInt = (t : Int)) (k : ax_W mi t L r d Q) : ax_W mi pc L (.int x :: r) d Q := by
  apply ax_W_in; unfold ax_st; rw [h]; exact ⟨x, r, t, rfl, hp, ht, k⟩
theorem wx_get {id n idx : Nat} {f : Nat → ax_X} {v : Value} (h : ax_in mi pc = some (.getfield idx, 3, a, b)) (hs : ax_sh id = some (a + 4, n, f)) (hn : b < n) (hv : ax_av d id f b = v) (k : ax_W mi (pc + 3) L (v :: r) d Q) : ax_W mi pc L (.ref id :: r) d Q := by
  subst hv; apply ax_W_in; unfold ax_st; rw [h]; exact ⟨rfl, id, r, n, f, rfl, hs, hn, k⟩
theorem wx_put {id n idx : Nat} {f : Nat → ax_X} {x : Int32} (h : ax_in mi pc = some (.putfield idx, 3, a, b)) (hs : ax_sh id = some (a + 4, n, f)) (hn : b < n) (hf : f b = .inr none) (h1 : narrow (ax_ty a b) (.int x) = .int x) (h2 : fits (ax_ty a b) (.int x) = true) (k : ax_W mi (pc + 3) L r (ax_up d id b x) Q) : ax_W mi pc L (.int x :: .ref id :: r) d Q := by
  apply ax_W_in; unfold ax_st; rw [h]; exact ⟨rfl, id, x, r, n, f, rfl, hs, hn, hf, h1, h2, k⟩
theorem wx_iald {id n : Nat} {f : Nat → ax_X} {i : Int32} (h : ax_in mi pc = some (.iaload, 1, a, b)) (hs : ax_sh id = some (0, n, f)) (hi : vp_in i n) (k : ax_W mi (pc + 1) L (.int (d id i.toNatClampNeg) :: r) d Q) : ax_W mi pc L (.int i :: .ref id :: r) d Q := by
  apply ax_W_in; unfold ax_st; rw [h]; exact ⟨rfl, id, i, r, n, f, rfl, hs, hi, k⟩
theorem wx_bald {id n : Nat} {f : Nat → ax_X} {i : Int32} (h : ax_in mi pc = some (.baload, 1, a, b)) (hs : ax_sh id = some (1, n, f)) (hi : vp_in i n) (k : ax_W mi (pc + 1) L (.int (d id i.toNatClampNeg) :: r) d Q) : ax_W mi pc L (.int i :: .ref id :: r) d Q := by
  apply ax_W_in; unfold ax_st; rw [h]; exact ⟨rfl, id, i, r, n, f, rfl, hs, hi, k⟩
theorem wx_iast {id n : Nat} {f : Nat → ax_X} {i x : Int32} (h : ax_in mi pc = some (.iastore, 1, a, b)) (hs : ax_sh id = some (0, n, f)) (hi : vp_in i n) (k : ax_W mi (pc + 1) L r (ax_up d id i.toNatClampNeg x) Q) : ax_W mi pc L (.int x :: .int i :: .ref id :: r) d Q := by
  apply ax_W_in; unfold ax_st; rw [h]; exact ⟨rfl, id, x, i, r, n, f, rfl, hs, hi, k⟩
theorem wx_bast {id n : Nat} {f : Nat → ax_X} {i x : Int32} (h : ax_in mi pc = some (.bastore, 1, a, b)) (hs : ax_sh id = some (1, n, f)) (hi : vp_in i n) (k : ax_W mi (pc + 1) L r (ax_up d id i.toNatClampNeg (x &&& 1)) Q) : ax_W mi pc L (.int x :: .int i :: .ref id :: r) d Q := by
  apply ax_W_in; unfold ax_st; rw [h]; exact ⟨rfl, id, x, i, r, n, f, rfl, hs, hi, k⟩
theorem wx_aald {id n j : Nat} {f : Nat → ax_X} {i : Int32} (h : ax_in mi pc = some (.aaload, 1, a, b)) (hs : ax_sh id = some (3, n, f)) (hi : vp_in i n) (hf : f i.toNatClampNeg = .inl j) (k : ax_W mi (pc + 1) L (.ref j :: r) d Q) : ax_W mi pc L (.int i :: .ref id :: r) d Q := by
  apply ax_W_in; unfold ax_st; rw [h]; exact ⟨rfl, id, i, r, n, f, j, rfl, hs, hi, hf, k⟩
theorem wx_alen {id n t : Nat} {f : Nat → ax_X} (h : ax_in mi pc = some (.arraylength, 1, a, b)) (hs : ax_sh id = some (t, n, f)) (ht : t < 4) (k : ax_W mi (pc + 1) L (.int (nI n) :: r) d Q) : ax_W mi pc L (.ref id :: r) d Q := by
  apply ax_W_in; unfold ax_st; rw [h]; exact ⟨rfl, id, r, t, n, f, rfl, hs, ht, k⟩
theorem wx_iret {v : Int32} {ty : FieldType} (h : ax_in mi pc = some (.ireturn, 1, a, b)) (hr : ax_r (ax_me mi) = some ty) (hn : narrow ty (.int v) = .int v) (hq : Q (some (.int v)) d) : ax_W mi pc L [.int v] d Q := by
  apply ax_W_in; unfold ax_st; rw [h]; exact ⟨rfl, v, ty, rfl, hr, hn, hq⟩
theorem wx_vret (h : ax_in mi pc = some (.return_, 1, a, b)) (hr : ax_r (ax_me mi) = none) (hq : Q none d) : ax_W mi pc L [] d Q := by
  apply ax_W_in; unfold ax_st; rw [h]; exact ⟨rfl, rfl, hr, hq⟩
/-- a call by the receiver: the arguments in their order, the callee's world and condition -/
theorem wx_cv {id n idx : Nat} {f : Nat → ax_X} {P : ax_Po} (tl rest : List Value) (h : ax_in mi pc = some (.invokevirtual idx, 3, a, b)) (hst : st = (Value.ref id :: tl).reverse ++ rest) (hlen : (Value.ref id :: tl).length = ax_g (ax_me a)) (hc : (tl.all fun v => v.category == 1) = true) (hs : (rest.map fun v => v.category).sum ≤ 8) (hsh : ax_sh id = some (ax_o (ax_me a) + 4, n, f)) (hE : ax_E a (.ref id :: tl) d P) (k : ∀ (o : Option Value) (d1 : ax_D), P o d1 → ax_W mi (pc + 3) L (o.toList ++ rest) d1 Q) : ax_W mi pc L st d Q := by
  apply ax_W_in; unfold ax_st; rw [h]
  refine ⟨rfl, .ref id :: tl, rest, P, hst, hlen, ?_, hs, fun _ => ⟨id, tl, n, f, rfl, hsh⟩, hE, k⟩
  intro v hv
  rcases List.mem_cons.mp hv with rfl | hv
  · rfl
  · exact eq_of_beq (List.all_eq_true.mp hc v hv)
theorem wx_cs {idx : Nat} {P : ax_Po} (as rest : List Value) (h : ax_in mi pc = some (.invokestatic idx, 3, a, b)) (hst : st = as.reverse ++ rest) (hlen : as.length = ax_g (ax_me a)) (hc : (as.all fun v => v.category == 1) = true) (hs : (rest.map fun v => v.category).sum ≤ 8) (hE : ax_E a as d P) (k : ∀ (o : Option Value) (d1 : ax_D), P o d1 → ax_W mi (pc + 3) L (o.toList ++ rest) d1 Q) : ax_W mi pc L st d Q := by
  apply ax_W_in; unfold ax_st; rw [h]
  exact ⟨rfl, as, rest, P, hst, hlen, fun v hv => eq_of_beq (List.all_eq_true.mp hc v hv), hs, (fun h => by cases h), hE, k⟩
end WX
end
section
theorem j0_0 : ax_in 0 0 = some (.aload_n 0, 1, 0, 0) := by decide +kernel
theorem j0_1 : ax_in 0 1 = some (.getfield 15, 3, 0, 1) := by decide +kernel
theorem j0_4 : ax_in 0 4 = some (.aload_n 0, 1, 0, 0) := by decide +kernel
theorem j0_5 : ax_in 0 5 = some (.getfield 9, 3, 0, 0) := by decide +kernel
theorem j0_8 : ax_in 0 8 = some (.arraylength, 1, 0, 0) := by decide +kernel
theorem j0_9 : ax_in 0 9 = some (.if_icmp .lt 7, 3, 0, 0) := by decide +kernel
theorem j0_12 : ax_in 0 12 = some (.iconst 1, 1, 0, 0) := by decide +kernel
theorem j0_13 : ax_in 0 13 = some (.goto 4, 3, 0, 0) := by decide +kernel
theorem j0_16 : ax_in 0 16 = some (.iconst 0, 1, 0, 0) := by decide +kernel
theorem j0_17 : ax_in 0 17 = some (.ireturn, 1, 0, 0) := by decide +kernel
theorem j1_0 : ax_in 1 0 = some (.iload_n 1, 1, 0, 0) := by decide +kernel
theorem j1_1 : ax_in 1 1 = some (.ifCond .lt 24, 3, 0, 0) := by decide +kernel
theorem j1_4 : ax_in 1 4 = some (.iload_n 1, 1, 0, 0) := by decide +kernel
theorem j1_5 : ax_in 1 5 = some (.aload_n 0, 1, 0, 0) := by decide +kernel
theorem j1_6 : ax_in 1 6 = some (.getfield 15, 3, 0, 1) := by decide +kernel
theorem j1_9 : ax_in 1 9 = some (.if_icmp .ge 16, 3, 0, 0) := by decide +kernel
theorem j1_12 : ax_in 1 12 = some (.iload_n 1, 1, 0, 0) := by decide +kernel
theorem j1_13 : ax_in 1 13 = some (.aload_n 0, 1, 0, 0) := by decide +kernel
theorem j1_14 : ax_in 1 14 = some (.getfield 9, 3, 0, 0) := by decide +kernel
theorem j1_17 : ax_in 1 17 = some (.arraylength, 1, 0, 0) := by decide +kernel
theorem j1_18 : ax_in 1 18 = some (.if_icmp .ge 7, 3, 0, 0) := by decide +kernel
theorem j1_21 : ax_in 1 21 = some (.iconst 1, 1, 0, 0) := by decide +kernel
theorem j1_22 : ax_in 1 22 = some (.goto 4, 3, 0, 0) := by decide +kernel
theorem j1_25 : ax_in 1 25 = some (.iconst 0, 1, 0, 0) := by decide +kernel
theorem j1_26 : ax_in 1 26 = some (.ireturn, 1, 0, 0) := by decide +kernel
theorem j2_0 : ax_in 2 0 = some (.iload_n 2, 1, 0, 0) := by decide +kernel
theorem j2_1 : ax_in 2 1 = some (.iconst 1, 1, 0, 0) := by decide +kernel
theorem j2_2 : ax_in 2 2 = some (.isub, 1, 0, 0) := by decide +kernel
theorem j2_3 : ax_in 2 3 = some (.istore_n 3, 1, 0, 0) := by decide +kernel
theorem j2_4 : ax_in 2 4 = some (.iload_n 3, 1, 0, 0) := by decide +kernel
theorem j2_5 : ax_in 2 5 = some (.ifCond .lt 45, 3, 0, 0) := by decide +kernel
theorem j2_8 : ax_in 2 8 = some (.aload_n 0, 1, 0, 0) := by decide +kernel
theorem j2_9 : ax_in 2 9 = some (.getfield 15, 3, 0, 1) := by decide +kernel
theorem j2_12 : ax_in 2 12 = some (.aload_n 0, 1, 0, 0) := by decide +kernel
theorem j2_13 : ax_in 2 13 = some (.getfield 9, 3, 0, 0) := by decide +kernel
theorem j2_16 : ax_in 2 16 = some (.arraylength, 1, 0, 0) := by decide +kernel
theorem j2_17 : ax_in 2 17 = some (.if_icmp .ge 33, 3, 0, 0) := by decide +kernel
theorem j2_20 : ax_in 2 20 = some (.aload_n 0, 1, 0, 0) := by decide +kernel
theorem j2_21 : ax_in 2 21 = some (.getfield 9, 3, 0, 0) := by decide +kernel
theorem j2_24 : ax_in 2 24 = some (.aload_n 0, 1, 0, 0) := by decide +kernel
theorem j2_25 : ax_in 2 25 = some (.getfield 15, 3, 0, 1) := by decide +kernel
theorem j2_28 : ax_in 2 28 = some (.iload_n 1, 1, 0, 0) := by decide +kernel
theorem j2_29 : ax_in 2 29 = some (.iload_n 3, 1, 0, 0) := by decide +kernel
theorem j2_30 : ax_in 2 30 = some (.ishr, 1, 0, 0) := by decide +kernel
theorem j2_31 : ax_in 2 31 = some (.iconst 1, 1, 0, 0) := by decide +kernel
theorem j2_32 : ax_in 2 32 = some (.iand, 1, 0, 0) := by decide +kernel
theorem j2_33 : ax_in 2 33 = some (.iastore, 1, 0, 0) := by decide +kernel
theorem j2_34 : ax_in 2 34 = some (.aload_n 0, 1, 0, 0) := by decide +kernel
theorem j2_35 : ax_in 2 35 = some (.dup, 1, 0, 0) := by decide +kernel
theorem j2_36 : ax_in 2 36 = some (.getfield 15, 3, 0, 1) := by decide +kernel
theorem j2_39 : ax_in 2 39 = some (.iconst 1, 1, 0, 0) := by decide +kernel
theorem j2_40 : ax_in 2 40 = some (.iadd, 1, 0, 0) := by decide +kernel
theorem j2_41 : ax_in 2 41 = some (.putfield 15, 3, 0, 1) := by decide +kernel
theorem j2_44 : ax_in 2 44 = some (.iinc 3 (-1), 3, 0, 0) := by decide +kernel
theorem j2_47 : ax_in 2 47 = some (.goto (-43), 3, 0, 0) := by decide +kernel
theorem j2_50 : ax_in 2 50 = some (.return_, 1, 0, 0) := by decide +kernel
theorem j3_0 : ax_in 3 0 = some (.aload_n 0, 1, 0, 0) := by decide +kernel
theorem j3_1 : ax_in 3 1 = some (.iconst 0, 1, 0, 0) := by decide +kernel
theorem j3_2 : ax_in 3 2 = some (.putfield 15, 3, 0, 1) := by decide +kernel
theorem j3_5 : ax_in 3 5 = some (.iconst 0, 1, 0, 0) := by decide +kernel
theorem j3_6 : ax_in 3 6 = some (.istore_n 2, 1, 0, 0) := by decide +kernel
theorem j3_7 : ax_in 3 7 = some (.iload_n 2, 1, 0, 0) := by decide +kernel
theorem j3_8 : ax_in 3 8 = some (.aload_n 1, 1, 0, 0) := by decide +kernel
theorem j3_9 : ax_in 3 9 = some (.getfield 15, 3, 0, 1) := by decide +kernel
theorem j3_12 : ax_in 3 12 = some (.if_icmp .ge 40, 3, 0, 0) := by decide +kernel
theorem j3_15 : ax_in 3 15 = some (.iload_n 2, 1, 0, 0) := by decide +kernel
theorem j3_16 : ax_in 3 16 = some (.aload_n 0, 1, 0, 0) := by decide +kernel
theorem j3_17 : ax_in 3 17 = some (.getfield 9, 3, 0, 0) := by decide +kernel
theorem j3_20 : ax_in 3 20 = some (.arraylength, 1, 0, 0) := by decide +kernel
theorem j3_21 : ax_in 3 21 = some (.if_icmp .ge 31, 3, 0, 0) := by decide +kernel
theorem j3_24 : ax_in 3 24 = some (.aload_n 0, 1, 0, 0) := by decide +kernel
theorem j3_25 : ax_in 3 25 = some (.getfield 9, 3, 0, 0) := by decide +kernel
theorem j3_28 : ax_in 3 28 = some (.iload_n 2, 1, 0, 0) := by decide +kernel
theorem j3_29 : ax_in 3 29 = some (.aload_n 1, 1, 0, 0) := by decide +kernel
theorem j3_30 : ax_in 3 30 = some (.getfield 9, 3, 0, 0) := by decide +kernel
theorem j3_33 : ax_in 3 33 = some (.iload_n 2, 1, 0, 0) := by decide +kernel
theorem j3_34 : ax_in 3 34 = some (.iaload, 1, 0, 0) := by decide +kernel
theorem j3_35 : ax_in 3 35 = some (.iastore, 1, 0, 0) := by decide +kernel
theorem j3_36 : ax_in 3 36 = some (.aload_n 0, 1, 0, 0) := by decide +kernel
theorem j3_37 : ax_in 3 37 = some (.dup, 1, 0, 0) := by decide +kernel
theorem j3_38 : ax_in 3 38 = some (.getfield 15, 3, 0, 1) := by decide +kernel
theorem j3_41 : ax_in 3 41 = some (.iconst 1, 1, 0, 0) := by decide +kernel
theorem j3_42 : ax_in 3 42 = some (.iadd, 1, 0, 0) := by decide +kernel
theorem j3_43 : ax_in 3 43 = some (.putfield 15, 3, 0, 1) := by decide +kernel
theorem j3_46 : ax_in 3 46 = some (.iinc 2 1, 3, 0, 0) := by decide +kernel
theorem j3_49 : ax_in 3 49 = some (.goto (-42), 3, 0, 0) := by decide +kernel
theorem j3_52 : ax_in 3 52 = some (.return_, 1, 0, 0) := by decide +kernel
theorem j4_0 : ax_in 4 0 = some (.aload_n 0, 1, 0, 0) := by decide +kernel
theorem j4_1 : ax_in 4 1 = some (.iconst 0, 1, 0, 0) := by decide +kernel
theorem j4_2 : ax_in 4 2 = some (.putfield 16, 3, 1, 1) := by decide +kernel
theorem j4_5 : ax_in 4 5 = some (.return_, 1, 0, 0) := by decide +kernel
theorem j5_0 : ax_in 5 0 = some (.aload_n 0, 1, 0, 0) := by decide +kernel
theorem j5_1 : ax_in 5 1 = some (.getfield 16, 3, 1, 1) := by decide +kernel
theorem j5_4 : ax_in 5 4 = some (.sipush 200, 3, 0, 0) := by decide +kernel
theorem j5_7 : ax_in 5 7 = some (.if_icmp .ge 62, 3, 0, 0) := by decide +kernel
theorem j5_10 : ax_in 5 10 = some (.aload_n 0, 1, 0, 0) := by decide +kernel
theorem j5_11 : ax_in 5 11 = some (.getfield 11, 3, 1, 0) := by decide +kernel
theorem j5_14 : ax_in 5 14 = some (.iconst 0, 1, 0, 0) := by decide +kernel
theorem j5_15 : ax_in 5 15 = some (.aaload, 1, 0, 0) := by decide +kernel
theorem j5_16 : ax_in 5 16 = some (.aload_n 0, 1, 0, 0) := by decide +kernel
theorem j5_17 : ax_in 5 17 = some (.getfield 16, 3, 1, 1) := by decide +kernel
theorem j5_20 : ax_in 5 20 = some (.iload_n 1, 1, 0, 0) := by decide +kernel
theorem j5_21 : ax_in 5 21 = some (.iastore, 1, 0, 0) := by decide +kernel
theorem j5_22 : ax_in 5 22 = some (.aload_n 0, 1, 0, 0) := by decide +kernel
theorem j5_23 : ax_in 5 23 = some (.getfield 11, 3, 1, 0) := by decide +kernel
theorem j5_26 : ax_in 5 26 = some (.iconst 1, 1, 0, 0) := by decide +kernel
theorem j5_27 : ax_in 5 27 = some (.aaload, 1, 0, 0) := by decide +kernel
theorem j5_28 : ax_in 5 28 = some (.aload_n 0, 1, 0, 0) := by decide +kernel
theorem j5_29 : ax_in 5 29 = some (.getfield 16, 3, 1, 1) := by decide +kernel
theorem j5_32 : ax_in 5 32 = some (.iload_n 2, 1, 0, 0) := by decide +kernel
theorem j5_33 : ax_in 5 33 = some (.iastore, 1, 0, 0) := by decide +kernel
theorem j5_34 : ax_in 5 34 = some (.aload_n 0, 1, 0, 0) := by decide +kernel
theorem j5_35 : ax_in 5 35 = some (.getfield 11, 3, 1, 0) := by decide +kernel
theorem j5_38 : ax_in 5 38 = some (.iconst 2, 1, 0, 0) := by decide +kernel
theorem j5_39 : ax_in 5 39 = some (.aaload, 1, 0, 0) := by decide +kernel
theorem j5_40 : ax_in 5 40 = some (.aload_n 0, 1, 0, 0) := by decide +kernel
theorem j5_41 : ax_in 5 41 = some (.getfield 16, 3, 1, 1) := by decide +kernel
theorem j5_44 : ax_in 5 44 = some (.iload_n 3, 1, 0, 0) := by decide +kernel
theorem j5_45 : ax_in 5 45 = some (.iastore, 1, 0, 0) := by decide +kernel
theorem j5_46 : ax_in 5 46 = some (.aload_n 0, 1, 0, 0) := by decide +kernel
theorem j5_47 : ax_in 5 47 = some (.getfield 11, 3, 1, 0) := by decide +kernel
theorem j5_50 : ax_in 5 50 = some (.iconst 3, 1, 0, 0) := by decide +kernel
theorem j5_51 : ax_in 5 51 = some (.aaload, 1, 0, 0) := by decide +kernel
theorem j5_52 : ax_in 5 52 = some (.aload_n 0, 1, 0, 0) := by decide +kernel
theorem j5_53 : ax_in 5 53 = some (.getfield 16, 3, 1, 1) := by decide +kernel
theorem j5_56 : ax_in 5 56 = some (.iload 4, 2, 0, 0) := by decide +kernel
theorem j5_58 : ax_in 5 58 = some (.iastore, 1, 0, 0) := by decide +kernel
theorem j5_59 : ax_in 5 59 = some (.aload_n 0, 1, 0, 0) := by decide +kernel
theorem j5_60 : ax_in 5 60 = some (.dup, 1, 0, 0) := by decide +kernel
theorem j5_61 : ax_in 5 61 = some (.getfield 16, 3, 1, 1) := by decide +kernel
theorem j5_64 : ax_in 5 64 = some (.iconst 1, 1, 0, 0) := by decide +kernel
theorem j5_65 : ax_in 5 65 = some (.iadd, 1, 0, 0) := by decide +kernel
theorem j5_66 : ax_in 5 66 = some (.putfield 16, 3, 1, 1) := by decide +kernel
theorem j5_69 : ax_in 5 69 = some (.return_, 1, 0, 0) := by decide +kernel
theorem j6_0 : ax_in 6 0 = some (.iload_n 1, 1, 0, 0) := by decide +kernel
theorem j6_1 : ax_in 6 1 = some (.ifCond .lt 24, 3, 0, 0) := by decide +kernel
theorem j6_4 : ax_in 6 4 = some (.iload_n 1, 1, 0, 0) := by decide +kernel
theorem j6_5 : ax_in 6 5 = some (.aload_n 0, 1, 0, 0) := by decide +kernel
theorem j6_6 : ax_in 6 6 = some (.getfield 16, 3, 1, 1) := by decide +kernel
theorem j6_9 : ax_in 6 9 = some (.if_icmp .ge 16, 3, 0, 0) := by decide +kernel
theorem j6_12 : ax_in 6 12 = some (.iload_n 2, 1, 0, 0) := by decide +kernel
theorem j6_13 : ax_in 6 13 = some (.ifCond .lt 12, 3, 0, 0) := by decide +kernel
theorem j6_16 : ax_in 6 16 = some (.iload_n 2, 1, 0, 0) := by decide +kernel
theorem j6_17 : ax_in 6 17 = some (.iconst 4, 1, 0, 0) := by decide +kernel
theorem j6_18 : ax_in 6 18 = some (.if_icmp .ge 7, 3, 0, 0) := by decide +kernel
theorem j6_21 : ax_in 6 21 = some (.iconst 1, 1, 0, 0) := by decide +kernel
theorem j6_22 : ax_in 6 22 = some (.goto 4, 3, 0, 0) := by decide +kernel
theorem j6_25 : ax_in 6 25 = some (.iconst 0, 1, 0, 0) := by decide +kernel
theorem j6_26 : ax_in 6 26 = some (.istore_n 3, 1, 0, 0) := by decide +kernel
theorem j6_27 : ax_in 6 27 = some (.iload_n 3, 1, 0, 0) := by decide +kernel
theorem j6_28 : ax_in 6 28 = some (.ifCond .eq 14, 3, 0, 0) := by decide +kernel
theorem j6_31 : ax_in 6 31 = some (.aload_n 0, 1, 0, 0) := by decide +kernel
theorem j6_32 : ax_in 6 32 = some (.getfield 11, 3, 1, 0) := by decide +kernel
theorem j6_35 : ax_in 6 35 = some (.iload_n 2, 1, 0, 0) := by decide +kernel
theorem j6_36 : ax_in 6 36 = some (.aaload, 1, 0, 0) := by decide +kernel
theorem j6_37 : ax_in 6 37 = some (.iload_n 1, 1, 0, 0) := by decide +kernel
theorem j6_38 : ax_in 6 38 = some (.iaload, 1, 0, 0) := by decide +kernel
theorem j6_39 : ax_in 6 39 = some (.goto 4, 3, 0, 0) := by decide +kernel
theorem j6_42 : ax_in 6 42 = some (.iconst (-1), 1, 0, 0) := by decide +kernel
theorem j6_43 : ax_in 6 43 = some (.ireturn, 1, 0, 0) := by decide +kernel
theorem j7_0 : ax_in 7 0 = some (.aload_n 0, 1, 0, 0) := by decide +kernel
theorem j7_1 : ax_in 7 1 = some (.getfield 14, 3, 2, 0) := by decide +kernel
theorem j7_4 : ax_in 7 4 = some (.invokevirtual 31, 3, 41, 0) := by decide +kernel
theorem j7_7 : ax_in 7 7 = some (.aload_n 0, 1, 0, 0) := by decide +kernel
theorem j7_8 : ax_in 7 8 = some (.getfield 20, 3, 2, 1) := by decide +kernel
theorem j7_11 : ax_in 7 11 = some (.invokevirtual 31, 3, 41, 0) := by decide +kernel
theorem j7_14 : ax_in 7 14 = some (.aload_n 0, 1, 0, 0) := by decide +kernel
theorem j7_15 : ax_in 7 15 = some (.iconst 0, 1, 0, 0) := by decide +kernel
theorem j7_16 : ax_in 7 16 = some (.putfield 34, 3, 2, 4) := by decide +kernel
theorem j7_19 : ax_in 7 19 = some (.aload_n 0, 1, 0, 0) := by decide +kernel
theorem j7_20 : ax_in 7 20 = some (.iconst 0, 1, 0, 0) := by decide +kernel
theorem j7_21 : ax_in 7 21 = some (.putfield 38, 3, 2, 5) := by decide +kernel
theorem j7_24 : ax_in 7 24 = some (.return_, 1, 0, 0) := by decide +kernel
theorem j8_0 : ax_in 8 0 = some (.aload_n 0, 1, 0, 0) := by decide +kernel
theorem j8_1 : ax_in 8 1 = some (.getfield 34, 3, 2, 4) := by decide +kernel
theorem j8_4 : ax_in 8 4 = some (.ireturn, 1, 0, 0) := by decide +kernel
theorem j9_0 : ax_in 9 0 = some (.aload_n 0, 1, 0, 0) := by decide +kernel
theorem j9_1 : ax_in 9 1 = some (.getfield 38, 3, 2, 5) := by decide +kernel
theorem j9_4 : ax_in 9 4 = some (.ireturn, 1, 0, 0) := by decide +kernel
theorem j10_0 : ax_in 10 0 = some (.aload_n 0, 1, 0, 0) := by decide +kernel
theorem j10_1 : ax_in 10 1 = some (.getfield 38, 3, 2, 5) := by decide +kernel
theorem j10_4 : ax_in 10 4 = some (.ifCond .eq 14, 3, 0, 0) := by decide +kernel
theorem j10_7 : ax_in 10 7 = some (.aload_n 0, 1, 0, 0) := by decide +kernel
theorem j10_8 : ax_in 10 8 = some (.getfield 34, 3, 2, 4) := by decide +kernel
theorem j10_11 : ax_in 10 11 = some (.ifCond .ne 7, 3, 0, 0) := by decide +kernel
theorem j10_14 : ax_in 10 14 = some (.iconst 1, 1, 0, 0) := by decide +kernel
theorem j10_15 : ax_in 10 15 = some (.goto 4, 3, 0, 0) := by decide +kernel
theorem j10_18 : ax_in 10 18 = some (.iconst 0, 1, 0, 0) := by decide +kernel
theorem j10_19 : ax_in 10 19 = some (.ireturn, 1, 0, 0) := by decide +kernel
theorem j11_0 : ax_in 11 0 = some (.aload_n 0, 1, 0, 0) := by decide +kernel
theorem j11_1 : ax_in 11 1 = some (.getfield 34, 3, 2, 4) := by decide +kernel
theorem j11_4 : ax_in 11 4 = some (.bipush 8, 2, 0, 0) := by decide +kernel
theorem j11_6 : ax_in 11 6 = some (.if_icmp .lt 7, 3, 0, 0) := by decide +kernel
theorem j11_9 : ax_in 11 9 = some (.iconst 1, 1, 0, 0) := by decide +kernel
theorem j11_10 : ax_in 11 10 = some (.goto 4, 3, 0, 0) := by decide +kernel
theorem j11_13 : ax_in 11 13 = some (.iconst 0, 1, 0, 0) := by decide +kernel
theorem j11_14 : ax_in 11 14 = some (.ireturn, 1, 0, 0) := by decide +kernel
theorem j12_0 : ax_in 12 0 = some (.aload_n 0, 1, 0, 0) := by decide +kernel
theorem j12_1 : ax_in 12 1 = some (.getfield 34, 3, 2, 4) := by decide +kernel
theorem j12_4 : ax_in 12 4 = some (.ifCond .le 29, 3, 0, 0) := by decide +kernel
theorem j12_7 : ax_in 12 7 = some (.aload_n 0, 1, 0, 0) := by decide +kernel
theorem j12_8 : ax_in 12 8 = some (.getfield 34, 3, 2, 4) := by decide +kernel
theorem j12_11 : ax_in 12 11 = some (.aload_n 0, 1, 0, 0) := by decide +kernel
theorem j12_12 : ax_in 12 12 = some (.getfield 23, 3, 2, 2) := by decide +kernel
theorem j12_15 : ax_in 12 15 = some (.arraylength, 1, 0, 0) := by decide +kernel
theorem j12_16 : ax_in 12 16 = some (.if_icmp .gt 17, 3, 0, 0) := by decide +kernel
theorem j12_19 : ax_in 12 19 = some (.aload_n 0, 1, 0, 0) := by decide +kernel
theorem j12_20 : ax_in 12 20 = some (.getfield 23, 3, 2, 2) := by decide +kernel
theorem j12_23 : ax_in 12 23 = some (.aload_n 0, 1, 0, 0) := by decide +kernel
theorem j12_24 : ax_in 12 24 = some (.getfield 34, 3, 2, 4) := by decide +kernel
theorem j12_27 : ax_in 12 27 = some (.iconst 1, 1, 0, 0) := by decide +kernel
theorem j12_28 : ax_in 12 28 = some (.isub, 1, 0, 0) := by decide +kernel
theorem j12_29 : ax_in 12 29 = some (.iaload, 1, 0, 0) := by decide +kernel
theorem j12_30 : ax_in 12 30 = some (.goto 4, 3, 0, 0) := by decide +kernel
theorem j12_33 : ax_in 12 33 = some (.iconst (-1), 1, 0, 0) := by decide +kernel
theorem j12_34 : ax_in 12 34 = some (.ireturn, 1, 0, 0) := by decide +kernel
theorem j13_0 : ax_in 13 0 = some (.aload_n 0, 1, 0, 0) := by decide +kernel
theorem j13_1 : ax_in 13 1 = some (.getfield 34, 3, 2, 4) := by decide +kernel
theorem j13_4 : ax_in 13 4 = some (.ifCond .le 33, 3, 0, 0) := by decide +kernel
theorem j13_7 : ax_in 13 7 = some (.aload_n 0, 1, 0, 0) := by decide +kernel
theorem j13_8 : ax_in 13 8 = some (.getfield 34, 3, 2, 4) := by decide +kernel
theorem j13_11 : ax_in 13 11 = some (.aload_n 0, 1, 0, 0) := by decide +kernel
theorem j13_12 : ax_in 13 12 = some (.getfield 27, 3, 2, 3) := by decide +kernel
theorem j13_15 : ax_in 13 15 = some (.arraylength, 1, 0, 0) := by decide +kernel
theorem j13_16 : ax_in 13 16 = some (.if_icmp .gt 21, 3, 0, 0) := by decide +kernel
theorem j13_19 : ax_in 13 19 = some (.aload_n 0, 1, 0, 0) := by decide +kernel
theorem j13_20 : ax_in 13 20 = some (.getfield 27, 3, 2, 3) := by decide +kernel
theorem j13_23 : ax_in 13 23 = some (.aload_n 0, 1, 0, 0) := by decide +kernel
theorem j13_24 : ax_in 13 24 = some (.getfield 34, 3, 2, 4) := by decide +kernel
theorem j13_27 : ax_in 13 27 = some (.iconst 1, 1, 0, 0) := by decide +kernel
theorem j13_28 : ax_in 13 28 = some (.isub, 1, 0, 0) := by decide +kernel
theorem j13_29 : ax_in 13 29 = some (.baload, 1, 0, 0) := by decide +kernel
theorem j13_30 : ax_in 13 30 = some (.ifCond .ne 7, 3, 0, 0) := by decide +kernel
theorem j13_33 : ax_in 13 33 = some (.iconst 1, 1, 0, 0) := by decide +kernel
theorem j13_34 : ax_in 13 34 = some (.goto 4, 3, 0, 0) := by decide +kernel
theorem j13_37 : ax_in 13 37 = some (.iconst 0, 1, 0, 0) := by decide +kernel
theorem j13_38 : ax_in 13 38 = some (.ireturn, 1, 0, 0) := by decide +kernel
theorem j14_0 : ax_in 14 0 = some (.aload_n 0, 1, 0, 0) := by decide +kernel
theorem j14_1 : ax_in 14 1 = some (.getfield 34, 3, 2, 4) := by decide +kernel
theorem j14_4 : ax_in 14 4 = some (.ifCond .le 27, 3, 0, 0) := by decide +kernel
theorem j14_7 : ax_in 14 7 = some (.aload_n 0, 1, 0, 0) := by decide +kernel
theorem j14_8 : ax_in 14 8 = some (.getfield 34, 3, 2, 4) := by decide +kernel
theorem j14_11 : ax_in 14 11 = some (.aload_n 0, 1, 0, 0) := by decide +kernel
theorem j14_12 : ax_in 14 12 = some (.getfield 27, 3, 2, 3) := by decide +kernel
theorem j14_15 : ax_in 14 15 = some (.arraylength, 1, 0, 0) := by decide +kernel
theorem j14_16 : ax_in 14 16 = some (.if_icmp .gt 15, 3, 0, 0) := by decide +kernel
theorem j14_19 : ax_in 14 19 = some (.aload_n 0, 1, 0, 0) := by decide +kernel
theorem j14_20 : ax_in 14 20 = some (.getfield 27, 3, 2, 3) := by decide +kernel
theorem j14_23 : ax_in 14 23 = some (.aload_n 0, 1, 0, 0) := by decide +kernel
theorem j14_24 : ax_in 14 24 = some (.getfield 34, 3, 2, 4) := by decide +kernel
theorem j14_27 : ax_in 14 27 = some (.iconst 1, 1, 0, 0) := by decide +kernel
theorem j14_28 : ax_in 14 28 = some (.isub, 1, 0, 0) := by decide +kernel
theorem j14_29 : ax_in 14 29 = some (.iconst 1, 1, 0, 0) := by decide +kernel
theorem j14_30 : ax_in 14 30 = some (.bastore, 1, 0, 0) := by decide +kernel
theorem j14_31 : ax_in 14 31 = some (.return_, 1, 0, 0) := by decide +kernel
theorem j15_0 : ax_in 15 0 = some (.aload_n 0, 1, 0, 0) := by decide +kernel
theorem j15_1 : ax_in 15 1 = some (.invokevirtual 42, 3, 14, 0) := by decide +kernel
theorem j15_4 : ax_in 15 4 = some (.aload_n 0, 1, 0, 0) := by decide +kernel
theorem j15_5 : ax_in 15 5 = some (.iconst 1, 1, 0, 0) := by decide +kernel
theorem j15_6 : ax_in 15 6 = some (.putfield 38, 3, 2, 5) := by decide +kernel
theorem j15_9 : ax_in 15 9 = some (.aload_n 0, 1, 0, 0) := by decide +kernel
theorem j15_10 : ax_in 15 10 = some (.getfield 34, 3, 2, 4) := by decide +kernel
theorem j15_13 : ax_in 15 13 = some (.aload_n 0, 1, 0, 0) := by decide +kernel
theorem j15_14 : ax_in 15 14 = some (.getfield 23, 3, 2, 2) := by decide +kernel
theorem j15_17 : ax_in 15 17 = some (.arraylength, 1, 0, 0) := by decide +kernel
theorem j15_18 : ax_in 15 18 = some (.if_icmp .ge 45, 3, 0, 0) := by decide +kernel
theorem j15_21 : ax_in 15 21 = some (.aload_n 0, 1, 0, 0) := by decide +kernel
theorem j15_22 : ax_in 15 22 = some (.getfield 34, 3, 2, 4) := by decide +kernel
theorem j15_25 : ax_in 15 25 = some (.aload_n 0, 1, 0, 0) := by decide +kernel
theorem j15_26 : ax_in 15 26 = some (.getfield 27, 3, 2, 3) := by decide +kernel
theorem j15_29 : ax_in 15 29 = some (.arraylength, 1, 0, 0) := by decide +kernel
theorem j15_30 : ax_in 15 30 = some (.if_icmp .ge 33, 3, 0, 0) := by decide +kernel
theorem j15_33 : ax_in 15 33 = some (.aload_n 0, 1, 0, 0) := by decide +kernel
theorem j15_34 : ax_in 15 34 = some (.getfield 23, 3, 2, 2) := by decide +kernel
theorem j15_37 : ax_in 15 37 = some (.aload_n 0, 1, 0, 0) := by decide +kernel
theorem j15_38 : ax_in 15 38 = some (.getfield 34, 3, 2, 4) := by decide +kernel
theorem j15_41 : ax_in 15 41 = some (.iload_n 1, 1, 0, 0) := by decide +kernel
theorem j15_42 : ax_in 15 42 = some (.iastore, 1, 0, 0) := by decide +kernel
theorem j15_43 : ax_in 15 43 = some (.aload_n 0, 1, 0, 0) := by decide +kernel
theorem j15_44 : ax_in 15 44 = some (.getfield 27, 3, 2, 3) := by decide +kernel
theorem j15_47 : ax_in 15 47 = some (.aload_n 0, 1, 0, 0) := by decide +kernel
theorem j15_48 : ax_in 15 48 = some (.getfield 34, 3, 2, 4) := by decide +kernel
theorem j15_51 : ax_in 15 51 = some (.iconst 0, 1, 0, 0) := by decide +kernel
theorem j15_52 : ax_in 15 52 = some (.bastore, 1, 0, 0) := by decide +kernel
theorem j15_53 : ax_in 15 53 = some (.aload_n 0, 1, 0, 0) := by decide +kernel
theorem j15_54 : ax_in 15 54 = some (.dup, 1, 0, 0) := by decide +kernel
theorem j15_55 : ax_in 15 55 = some (.getfield 34, 3, 2, 4) := by decide +kernel
theorem j15_58 : ax_in 15 58 = some (.iconst 1, 1, 0, 0) := by decide +kernel
theorem j15_59 : ax_in 15 59 = some (.iadd, 1, 0, 0) := by decide +kernel
theorem j15_60 : ax_in 15 60 = some (.putfield 34, 3, 2, 4) := by decide +kernel
theorem j15_63 : ax_in 15 63 = some (.return_, 1, 0, 0) := by decide +kernel
theorem j16_0 : ax_in 16 0 = some (.aload_n 0, 1, 0, 0) := by decide +kernel
theorem j16_1 : ax_in 16 1 = some (.getfield 34, 3, 2, 4) := by decide +kernel
theorem j16_4 : ax_in 16 4 = some (.ifCond .le 13, 3, 0, 0) := by decide +kernel
theorem j16_7 : ax_in 16 7 = some (.aload_n 0, 1, 0, 0) := by decide +kernel
theorem j16_8 : ax_in 16 8 = some (.dup, 1, 0, 0) := by decide +kernel
theorem j16_9 : ax_in 16 9 = some (.getfield 34, 3, 2, 4) := by decide +kernel
theorem j16_12 : ax_in 16 12 = some (.iconst 1, 1, 0, 0) := by decide +kernel
theorem j16_13 : ax_in 16 13 = some (.isub, 1, 0, 0) := by decide +kernel
theorem j16_14 : ax_in 16 14 = some (.putfield 34, 3, 2, 4) := by decide +kernel
theorem j16_17 : ax_in 16 17 = some (.return_, 1, 0, 0) := by decide +kernel
theorem j17_0 : ax_in 17 0 = some (.aload_n 0, 1, 0, 0) := by decide +kernel
theorem j17_1 : ax_in 17 1 = some (.invokevirtual 45, 3, 13, 0) := by decide +kernel
theorem j17_4 : ax_in 17 4 = some (.ifCond .eq 17, 3, 0, 0) := by decide +kernel
theorem j17_7 : ax_in 17 7 = some (.aload_n 0, 1, 0, 0) := by decide +kernel
theorem j17_8 : ax_in 17 8 = some (.getfield 14, 3, 2, 0) := by decide +kernel
theorem j17_11 : ax_in 17 11 = some (.aload_n 0, 1, 0, 0) := by decide +kernel
theorem j17_12 : ax_in 17 12 = some (.invokevirtual 49, 3, 12, 0) := by decide +kernel
theorem j17_15 : ax_in 17 15 = some (.invokevirtual 53, 3, 42, 0) := by decide +kernel
theorem j17_18 : ax_in 17 18 = some (.goto 14, 3, 0, 0) := by decide +kernel
theorem j17_21 : ax_in 17 21 = some (.aload_n 0, 1, 0, 0) := by decide +kernel
theorem j17_22 : ax_in 17 22 = some (.getfield 20, 3, 2, 1) := by decide +kernel
theorem j17_25 : ax_in 17 25 = some (.aload_n 0, 1, 0, 0) := by decide +kernel
theorem j17_26 : ax_in 17 26 = some (.invokevirtual 49, 3, 12, 0) := by decide +kernel
theorem j17_29 : ax_in 17 29 = some (.invokevirtual 53, 3, 42, 0) := by decide +kernel
theorem j17_32 : ax_in 17 32 = some (.ireturn, 1, 0, 0) := by decide +kernel
theorem j18_0 : ax_in 18 0 = some (.aload_n 0, 1, 0, 0) := by decide +kernel
theorem j18_1 : ax_in 18 1 = some (.invokevirtual 45, 3, 13, 0) := by decide +kernel
theorem j18_4 : ax_in 18 4 = some (.ifCond .eq 12, 3, 0, 0) := by decide +kernel
theorem j18_7 : ax_in 18 7 = some (.aload_n 0, 1, 0, 0) := by decide +kernel
theorem j18_8 : ax_in 18 8 = some (.invokevirtual 57, 3, 17, 0) := by decide +kernel
theorem j18_11 : ax_in 18 11 = some (.iconst 1, 1, 0, 0) := by decide +kernel
theorem j18_12 : ax_in 18 12 = some (.iadd, 1, 0, 0) := by decide +kernel
theorem j18_13 : ax_in 18 13 = some (.goto 9, 3, 0, 0) := by decide +kernel
theorem j18_16 : ax_in 18 16 = some (.aload_n 0, 1, 0, 0) := by decide +kernel
theorem j18_17 : ax_in 18 17 = some (.invokevirtual 57, 3, 17, 0) := by decide +kernel
theorem j18_20 : ax_in 18 20 = some (.iconst 2, 1, 0, 0) := by decide +kernel
theorem j18_21 : ax_in 18 21 = some (.iadd, 1, 0, 0) := by decide +kernel
theorem j18_22 : ax_in 18 22 = some (.ireturn, 1, 0, 0) := by decide +kernel
theorem j19_0 : ax_in 19 0 = some (.aload_n 0, 1, 0, 0) := by decide +kernel
theorem j19_1 : ax_in 19 1 = some (.invokevirtual 45, 3, 13, 0) := by decide +kernel
theorem j19_4 : ax_in 19 4 = some (.ifCond .eq 18, 3, 0, 0) := by decide +kernel
theorem j19_7 : ax_in 19 7 = some (.aload_n 0, 1, 0, 0) := by decide +kernel
theorem j19_8 : ax_in 19 8 = some (.getfield 14, 3, 2, 0) := by decide +kernel
theorem j19_11 : ax_in 19 11 = some (.aload_n 0, 1, 0, 0) := by decide +kernel
theorem j19_12 : ax_in 19 12 = some (.invokevirtual 49, 3, 12, 0) := by decide +kernel
theorem j19_15 : ax_in 19 15 = some (.iload_n 1, 1, 0, 0) := by decide +kernel
theorem j19_16 : ax_in 19 16 = some (.invokevirtual 60, 3, 44, 0) := by decide +kernel
theorem j19_19 : ax_in 19 19 = some (.goto 15, 3, 0, 0) := by decide +kernel
theorem j19_22 : ax_in 19 22 = some (.aload_n 0, 1, 0, 0) := by decide +kernel
theorem j19_23 : ax_in 19 23 = some (.getfield 20, 3, 2, 1) := by decide +kernel
theorem j19_26 : ax_in 19 26 = some (.aload_n 0, 1, 0, 0) := by decide +kernel
theorem j19_27 : ax_in 19 27 = some (.invokevirtual 49, 3, 12, 0) := by decide +kernel
theorem j19_30 : ax_in 19 30 = some (.iload_n 1, 1, 0, 0) := by decide +kernel
theorem j19_31 : ax_in 19 31 = some (.invokevirtual 60, 3, 44, 0) := by decide +kernel
theorem j19_34 : ax_in 19 34 = some (.ireturn, 1, 0, 0) := by decide +kernel
theorem j20_0 : ax_in 20 0 = some (.aload_n 0, 1, 0, 0) := by decide +kernel
theorem j20_1 : ax_in 20 1 = some (.invokevirtual 45, 3, 13, 0) := by decide +kernel
theorem j20_4 : ax_in 20 4 = some (.ifCond .eq 18, 3, 0, 0) := by decide +kernel
theorem j20_7 : ax_in 20 7 = some (.aload_n 0, 1, 0, 0) := by decide +kernel
theorem j20_8 : ax_in 20 8 = some (.getfield 14, 3, 2, 0) := by decide +kernel
theorem j20_11 : ax_in 20 11 = some (.aload_n 0, 1, 0, 0) := by decide +kernel
theorem j20_12 : ax_in 20 12 = some (.invokevirtual 49, 3, 12, 0) := by decide +kernel
theorem j20_15 : ax_in 20 15 = some (.iload_n 1, 1, 0, 0) := by decide +kernel
theorem j20_16 : ax_in 20 16 = some (.invokevirtual 64, 3, 45, 0) := by decide +kernel
theorem j20_19 : ax_in 20 19 = some (.goto 15, 3, 0, 0) := by decide +kernel
theorem j20_22 : ax_in 20 22 = some (.aload_n 0, 1, 0, 0) := by decide +kernel
theorem j20_23 : ax_in 20 23 = some (.getfield 20, 3, 2, 1) := by decide +kernel
theorem j20_26 : ax_in 20 26 = some (.aload_n 0, 1, 0, 0) := by decide +kernel
theorem j20_27 : ax_in 20 27 = some (.invokevirtual 49, 3, 12, 0) := by decide +kernel
theorem j20_30 : ax_in 20 30 = some (.iload_n 1, 1, 0, 0) := by decide +kernel
theorem j20_31 : ax_in 20 31 = some (.invokevirtual 64, 3, 45, 0) := by decide +kernel
theorem j20_34 : ax_in 20 34 = some (.ireturn, 1, 0, 0) := by decide +kernel
theorem j21_0 : ax_in 21 0 = some (.aload_n 0, 1, 0, 0) := by decide +kernel
theorem j21_1 : ax_in 21 1 = some (.iload_n 1, 1, 0, 0) := by decide +kernel
theorem j21_2 : ax_in 21 2 = some (.invokevirtual 67, 3, 20, 0) := by decide +kernel
theorem j21_5 : ax_in 21 5 = some (.iconst (-1), 1, 0, 0) := by decide +kernel
theorem j21_6 : ax_in 21 6 = some (.if_icmp .eq 4, 3, 0, 0) := by decide +kernel
theorem j21_9 : ax_in 21 9 = some (.return_, 1, 0, 0) := by decide +kernel
theorem j21_10 : ax_in 21 10 = some (.aload_n 0, 1, 0, 0) := by decide +kernel
theorem j21_11 : ax_in 21 11 = some (.invokevirtual 45, 3, 13, 0) := by decide +kernel
theorem j21_14 : ax_in 21 14 = some (.ifCond .eq 18, 3, 0, 0) := by decide +kernel
theorem j21_17 : ax_in 21 17 = some (.aload_n 0, 1, 0, 0) := by decide +kernel
theorem j21_18 : ax_in 21 18 = some (.getfield 14, 3, 2, 0) := by decide +kernel
theorem j21_21 : ax_in 21 21 = some (.aload_n 0, 1, 0, 0) := by decide +kernel
theorem j21_22 : ax_in 21 22 = some (.invokevirtual 49, 3, 12, 0) := by decide +kernel
theorem j21_25 : ax_in 21 25 = some (.iload_n 1, 1, 0, 0) := by decide +kernel
theorem j21_26 : ax_in 21 26 = some (.invokevirtual 70, 3, 47, 0) := by decide +kernel
theorem j21_29 : ax_in 21 29 = some (.goto 15, 3, 0, 0) := by decide +kernel
theorem j21_32 : ax_in 21 32 = some (.aload_n 0, 1, 0, 0) := by decide +kernel
theorem j21_33 : ax_in 21 33 = some (.getfield 20, 3, 2, 1) := by decide +kernel
theorem j21_36 : ax_in 21 36 = some (.aload_n 0, 1, 0, 0) := by decide +kernel
theorem j21_37 : ax_in 21 37 = some (.invokevirtual 49, 3, 12, 0) := by decide +kernel
theorem j21_40 : ax_in 21 40 = some (.iload_n 1, 1, 0, 0) := by decide +kernel
theorem j21_41 : ax_in 21 41 = some (.invokevirtual 70, 3, 47, 0) := by decide +kernel
theorem j21_44 : ax_in 21 44 = some (.return_, 1, 0, 0) := by decide +kernel
theorem j22_0 : ax_in 22 0 = some (.aload_n 0, 1, 0, 0) := by decide +kernel
theorem j22_1 : ax_in 22 1 = some (.iconst 0, 1, 0, 0) := by decide +kernel
theorem j22_2 : ax_in 22 2 = some (.putfield 39, 3, 3, 4) := by decide +kernel
theorem j22_5 : ax_in 22 5 = some (.aload_n 0, 1, 0, 0) := by decide +kernel
theorem j22_6 : ax_in 22 6 = some (.getfield 21, 3, 3, 1) := by decide +kernel
theorem j22_9 : ax_in 22 9 = some (.invokevirtual 43, 3, 4, 0) := by decide +kernel
theorem j22_12 : ax_in 22 12 = some (.aload_n 0, 1, 0, 0) := by decide +kernel
theorem j22_13 : ax_in 22 13 = some (.getfield 28, 3, 3, 2) := by decide +kernel
theorem j22_16 : ax_in 22 16 = some (.invokevirtual 46, 3, 48, 0) := by decide +kernel
theorem j22_19 : ax_in 22 19 = some (.aload_n 0, 1, 0, 0) := by decide +kernel
theorem j22_20 : ax_in 22 20 = some (.getfield 35, 3, 3, 3) := by decide +kernel
theorem j22_23 : ax_in 22 23 = some (.invokevirtual 49, 3, 7, 0) := by decide +kernel
theorem j22_26 : ax_in 22 26 = some (.return_, 1, 0, 0) := by decide +kernel
theorem j23_0 : ax_in 23 0 = some (.aload_n 0, 1, 0, 0) := by decide +kernel
theorem j23_1 : ax_in 23 1 = some (.getfield 35, 3, 3, 3) := by decide +kernel
theorem j23_4 : ax_in 23 4 = some (.invokevirtual 50, 3, 10, 0) := by decide +kernel
theorem j23_7 : ax_in 23 7 = some (.ireturn, 1, 0, 0) := by decide +kernel
theorem j24_0 : ax_in 24 0 = some (.aload_n 0, 1, 0, 0) := by decide +kernel
theorem j24_1 : ax_in 24 1 = some (.getfield 35, 3, 3, 3) := by decide +kernel
theorem j24_4 : ax_in 24 4 = some (.invokevirtual 54, 3, 9, 0) := by decide +kernel
theorem j24_7 : ax_in 24 7 = some (.ifCond .eq 10, 3, 0, 0) := by decide +kernel
theorem j24_10 : ax_in 24 10 = some (.aload_n 0, 1, 0, 0) := by decide +kernel
theorem j24_11 : ax_in 24 11 = some (.invokevirtual 57, 3, 29, 0) := by decide +kernel
theorem j24_14 : ax_in 24 14 = some (.goto 7, 3, 0, 0) := by decide +kernel
theorem j24_17 : ax_in 24 17 = some (.aload_n 0, 1, 0, 0) := by decide +kernel
theorem j24_18 : ax_in 24 18 = some (.invokevirtual 61, 3, 28, 0) := by decide +kernel
theorem j24_21 : ax_in 24 21 = some (.istore_n 1, 1, 0, 0) := by decide +kernel
theorem j24_22 : ax_in 24 22 = some (.iload_n 1, 1, 0, 0) := by decide +kernel
theorem j24_23 : ax_in 24 23 = some (.iconst (-1), 1, 0, 0) := by decide +kernel
theorem j24_24 : ax_in 24 24 = some (.if_icmp .ne 5, 3, 0, 0) := by decide +kernel
theorem j24_27 : ax_in 24 27 = some (.iconst 0, 1, 0, 0) := by decide +kernel
theorem j24_28 : ax_in 24 28 = some (.ireturn, 1, 0, 0) := by decide +kernel
theorem j24_29 : ax_in 24 29 = some (.iload_n 1, 1, 0, 0) := by decide +kernel
theorem j24_30 : ax_in 24 30 = some (.invokestatic 64, 3, 83, 2) := by decide +kernel
theorem j24_33 : ax_in 24 33 = some (.tableswitch 50 1 3 #[27, 36, 45], 27, 0, 0) := by decide +kernel
theorem j24_60 : ax_in 24 60 = some (.aload_n 0, 1, 0, 0) := by decide +kernel
theorem j24_61 : ax_in 24 61 = some (.iload_n 1, 1, 0, 0) := by decide +kernel
theorem j24_62 : ax_in 24 62 = some (.invokestatic 68, 3, 84, 2) := by decide +kernel
theorem j24_65 : ax_in 24 65 = some (.invokevirtual 71, 3, 25, 0) := by decide +kernel
theorem j24_68 : ax_in 24 68 = some (.ireturn, 1, 0, 0) := by decide +kernel
theorem j24_69 : ax_in 24 69 = some (.aload_n 0, 1, 0, 0) := by decide +kernel
theorem j24_70 : ax_in 24 70 = some (.iload_n 1, 1, 0, 0) := by decide +kernel
theorem j24_71 : ax_in 24 71 = some (.invokestatic 68, 3, 84, 2) := by decide +kernel
theorem j24_74 : ax_in 24 74 = some (.invokevirtual 75, 3, 26, 0) := by decide +kernel
theorem j24_77 : ax_in 24 77 = some (.ireturn, 1, 0, 0) := by decide +kernel
theorem j24_78 : ax_in 24 78 = some (.aload_n 0, 1, 0, 0) := by decide +kernel
theorem j24_79 : ax_in 24 79 = some (.invokevirtual 78, 3, 27, 0) := by decide +kernel
theorem j24_82 : ax_in 24 82 = some (.ireturn, 1, 0, 0) := by decide +kernel
theorem j24_83 : ax_in 24 83 = some (.aload_n 0, 1, 0, 0) := by decide +kernel
theorem j24_84 : ax_in 24 84 = some (.getfield 35, 3, 3, 3) := by decide +kernel
theorem j24_87 : ax_in 24 87 = some (.invokevirtual 81, 3, 16, 0) := by decide +kernel
theorem j24_90 : ax_in 24 90 = some (.aload_n 0, 1, 0, 0) := by decide +kernel
theorem j24_91 : ax_in 24 91 = some (.getfield 21, 3, 3, 1) := by decide +kernel
theorem j24_94 : ax_in 24 94 = some (.iconst 4, 1, 0, 0) := by decide +kernel
theorem j24_95 : ax_in 24 95 = some (.iconst 0, 1, 0, 0) := by decide +kernel
theorem j24_96 : ax_in 24 96 = some (.iconst 0, 1, 0, 0) := by decide +kernel
theorem j24_97 : ax_in 24 97 = some (.iconst 0, 1, 0, 0) := by decide +kernel
theorem j24_98 : ax_in 24 98 = some (.invokevirtual 84, 3, 5, 0) := by decide +kernel
theorem j24_101 : ax_in 24 101 = some (.iconst 1, 1, 0, 0) := by decide +kernel
theorem j24_102 : ax_in 24 102 = some (.ireturn, 1, 0, 0) := by decide +kernel
theorem j25_0 : ax_in 25 0 = some (.aload_n 0, 1, 0, 0) := by decide +kernel
theorem j25_1 : ax_in 25 1 = some (.getfield 35, 3, 3, 3) := by decide +kernel
theorem j25_4 : ax_in 25 4 = some (.invokevirtual 88, 3, 11, 0) := by decide +kernel
theorem j25_7 : ax_in 25 7 = some (.ifCond .eq 5, 3, 0, 0) := by decide +kernel
theorem j25_10 : ax_in 25 10 = some (.iconst 0, 1, 0, 0) := by decide +kernel
theorem j25_11 : ax_in 25 11 = some (.ireturn, 1, 0, 0) := by decide +kernel
theorem j25_12 : ax_in 25 12 = some (.aload_n 0, 1, 0, 0) := by decide +kernel
theorem j25_13 : ax_in 25 13 = some (.getfield 35, 3, 3, 3) := by decide +kernel
theorem j25_16 : ax_in 25 16 = some (.iload_n 1, 1, 0, 0) := by decide +kernel
theorem j25_17 : ax_in 25 17 = some (.invokevirtual 91, 3, 15, 0) := by decide +kernel
theorem j25_20 : ax_in 25 20 = some (.aload_n 0, 1, 0, 0) := by decide +kernel
theorem j25_21 : ax_in 25 21 = some (.getfield 21, 3, 3, 1) := by decide +kernel
theorem j25_24 : ax_in 25 24 = some (.iconst 1, 1, 0, 0) := by decide +kernel
theorem j25_25 : ax_in 25 25 = some (.aload_n 0, 1, 0, 0) := by decide +kernel
theorem j25_26 : ax_in 25 26 = some (.getfield 28, 3, 3, 2) := by decide +kernel
theorem j25_29 : ax_in 25 29 = some (.iload_n 1, 1, 0, 0) := by decide +kernel
theorem j25_30 : ax_in 25 30 = some (.invokevirtual 95, 3, 49, 0) := by decide +kernel
theorem j25_33 : ax_in 25 33 = some (.aload_n 0, 1, 0, 0) := by decide +kernel
theorem j25_34 : ax_in 25 34 = some (.getfield 28, 3, 3, 2) := by decide +kernel
theorem j25_37 : ax_in 25 37 = some (.iload_n 1, 1, 0, 0) := by decide +kernel
theorem j25_38 : ax_in 25 38 = some (.invokevirtual 98, 3, 50, 0) := by decide +kernel
theorem j25_41 : ax_in 25 41 = some (.iconst 0, 1, 0, 0) := by decide +kernel
theorem j25_42 : ax_in 25 42 = some (.invokevirtual 84, 3, 5, 0) := by decide +kernel
theorem j25_45 : ax_in 25 45 = some (.iconst 1, 1, 0, 0) := by decide +kernel
theorem j25_46 : ax_in 25 46 = some (.ireturn, 1, 0, 0) := by decide +kernel
theorem j26_0 : ax_in 26 0 = some (.aload_n 0, 1, 0, 0) := by decide +kernel
theorem j26_1 : ax_in 26 1 = some (.iload_n 1, 1, 0, 0) := by decide +kernel
theorem j26_2 : ax_in 26 2 = some (.invokevirtual 101, 3, 35, 0) := by decide +kernel
theorem j26_5 : ax_in 26 5 = some (.istore_n 2, 1, 0, 0) := by decide +kernel
theorem j26_6 : ax_in 26 6 = some (.iload_n 2, 1, 0, 0) := by decide +kernel
theorem j26_7 : ax_in 26 7 = some (.iconst (-1), 1, 0, 0) := by decide +kernel
theorem j26_8 : ax_in 26 8 = some (.if_icmp .ne 5, 3, 0, 0) := by decide +kernel
theorem j26_11 : ax_in 26 11 = some (.iconst 0, 1, 0, 0) := by decide +kernel
theorem j26_12 : ax_in 26 12 = some (.ireturn, 1, 0, 0) := by decide +kernel
theorem j26_13 : ax_in 26 13 = some (.aload_n 0, 1, 0, 0) := by decide +kernel
theorem j26_14 : ax_in 26 14 = some (.getfield 21, 3, 3, 1) := by decide +kernel
theorem j26_17 : ax_in 26 17 = some (.iconst 2, 1, 0, 0) := by decide +kernel
theorem j26_18 : ax_in 26 18 = some (.aload_n 0, 1, 0, 0) := by decide +kernel
theorem j26_19 : ax_in 26 19 = some (.getfield 28, 3, 3, 2) := by decide +kernel
theorem j26_22 : ax_in 26 22 = some (.iload_n 1, 1, 0, 0) := by decide +kernel
theorem j26_23 : ax_in 26 23 = some (.invokevirtual 95, 3, 49, 0) := by decide +kernel
theorem j26_26 : ax_in 26 26 = some (.aload_n 0, 1, 0, 0) := by decide +kernel
theorem j26_27 : ax_in 26 27 = some (.getfield 28, 3, 3, 2) := by decide +kernel
theorem j26_30 : ax_in 26 30 = some (.iload_n 1, 1, 0, 0) := by decide +kernel
theorem j26_31 : ax_in 26 31 = some (.invokevirtual 98, 3, 50, 0) := by decide +kernel
theorem j26_34 : ax_in 26 34 = some (.iload_n 2, 1, 0, 0) := by decide +kernel
theorem j26_35 : ax_in 26 35 = some (.invokevirtual 84, 3, 5, 0) := by decide +kernel
theorem j26_38 : ax_in 26 38 = some (.iconst 1, 1, 0, 0) := by decide +kernel
theorem j26_39 : ax_in 26 39 = some (.ireturn, 1, 0, 0) := by decide +kernel
theorem j27_0 : ax_in 27 0 = some (.aload_n 0, 1, 0, 0) := by decide +kernel
theorem j27_1 : ax_in 27 1 = some (.getfield 35, 3, 3, 3) := by decide +kernel
theorem j27_4 : ax_in 27 4 = some (.invokevirtual 104, 3, 14, 0) := by decide +kernel
theorem j27_7 : ax_in 27 7 = some (.aload_n 0, 1, 0, 0) := by decide +kernel
theorem j27_8 : ax_in 27 8 = some (.aload_n 0, 1, 0, 0) := by decide +kernel
theorem j27_9 : ax_in 27 9 = some (.getfield 35, 3, 3, 3) := by decide +kernel
theorem j27_12 : ax_in 27 12 = some (.invokevirtual 107, 3, 12, 0) := by decide +kernel
theorem j27_15 : ax_in 27 15 = some (.invokevirtual 101, 3, 35, 0) := by decide +kernel
theorem j27_18 : ax_in 27 18 = some (.istore_n 1, 1, 0, 0) := by decide +kernel
theorem j27_19 : ax_in 27 19 = some (.iload_n 1, 1, 0, 0) := by decide +kernel
theorem j27_20 : ax_in 27 20 = some (.iconst (-1), 1, 0, 0) := by decide +kernel
theorem j27_21 : ax_in 27 21 = some (.if_icmp .ne 5, 3, 0, 0) := by decide +kernel
theorem j27_24 : ax_in 27 24 = some (.iconst 0, 1, 0, 0) := by decide +kernel
theorem j27_25 : ax_in 27 25 = some (.ireturn, 1, 0, 0) := by decide +kernel
theorem j27_26 : ax_in 27 26 = some (.aload_n 0, 1, 0, 0) := by decide +kernel
theorem j27_27 : ax_in 27 27 = some (.getfield 21, 3, 3, 1) := by decide +kernel
theorem j27_30 : ax_in 27 30 = some (.iconst 3, 1, 0, 0) := by decide +kernel
theorem j27_31 : ax_in 27 31 = some (.iconst 0, 1, 0, 0) := by decide +kernel
theorem j27_32 : ax_in 27 32 = some (.iconst 0, 1, 0, 0) := by decide +kernel
theorem j27_33 : ax_in 27 33 = some (.iload_n 1, 1, 0, 0) := by decide +kernel
theorem j27_34 : ax_in 27 34 = some (.invokevirtual 84, 3, 5, 0) := by decide +kernel
theorem j27_37 : ax_in 27 37 = some (.iconst 1, 1, 0, 0) := by decide +kernel
theorem j27_38 : ax_in 27 38 = some (.ireturn, 1, 0, 0) := by decide +kernel
theorem j28_0 : ax_in 28 0 = some (.aload_n 0, 1, 0, 0) := by decide +kernel
theorem j28_1 : ax_in 28 1 = some (.invokevirtual 110, 3, 32, 0) := by decide +kernel
theorem j28_4 : ax_in 28 4 = some (.istore_n 1, 1, 0, 0) := by decide +kernel
theorem j28_5 : ax_in 28 5 = some (.iload_n 1, 1, 0, 0) := by decide +kernel
theorem j28_6 : ax_in 28 6 = some (.iconst (-1), 1, 0, 0) := by decide +kernel
theorem j28_7 : ax_in 28 7 = some (.if_icmp .ne 7, 3, 0, 0) := by decide +kernel
theorem j28_10 : ax_in 28 10 = some (.iconst (-1), 1, 0, 0) := by decide +kernel
theorem j28_11 : ax_in 28 11 = some (.goto 8, 3, 0, 0) := by decide +kernel
theorem j28_14 : ax_in 28 14 = some (.iconst 1, 1, 0, 0) := by decide +kernel
theorem j28_15 : ax_in 28 15 = some (.iload_n 1, 1, 0, 0) := by decide +kernel
theorem j28_16 : ax_in 28 16 = some (.invokestatic 113, 3, 82, 2) := by decide +kernel
theorem j28_19 : ax_in 28 19 = some (.ireturn, 1, 0, 0) := by decide +kernel
theorem j29_0 : ax_in 29 0 = some (.aload_n 0, 1, 0, 0) := by decide +kernel
theorem j29_1 : ax_in 29 1 = some (.aload_n 0, 1, 0, 0) := by decide +kernel
theorem j29_2 : ax_in 29 2 = some (.getfield 35, 3, 3, 3) := by decide +kernel
theorem j29_5 : ax_in 29 5 = some (.invokevirtual 117, 3, 18, 0) := by decide +kernel
theorem j29_8 : ax_in 29 8 = some (.invokevirtual 120, 3, 39, 0) := by decide +kernel
theorem j29_11 : ax_in 29 11 = some (.istore_n 1, 1, 0, 0) := by decide +kernel
theorem j29_12 : ax_in 29 12 = some (.iload_n 1, 1, 0, 0) := by decide +kernel
theorem j29_13 : ax_in 29 13 = some (.iconst (-1), 1, 0, 0) := by decide +kernel
theorem j29_14 : ax_in 29 14 = some (.if_icmp .eq 14, 3, 0, 0) := by decide +kernel
theorem j29_17 : ax_in 29 17 = some (.iload_n 1, 1, 0, 0) := by decide +kernel
theorem j29_18 : ax_in 29 18 = some (.aload_n 0, 1, 0, 0) := by decide +kernel
theorem j29_19 : ax_in 29 19 = some (.getfield 35, 3, 3, 3) := by decide +kernel
theorem j29_22 : ax_in 29 22 = some (.invokevirtual 123, 3, 17, 0) := by decide +kernel
theorem j29_25 : ax_in 29 25 = some (.if_icmp .ge 12, 3, 0, 0) := by decide +kernel
theorem j29_28 : ax_in 29 28 = some (.aload_n 0, 1, 0, 0) := by decide +kernel
theorem j29_29 : ax_in 29 29 = some (.getfield 35, 3, 3, 3) := by decide +kernel
theorem j29_32 : ax_in 29 32 = some (.iload_n 1, 1, 0, 0) := by decide +kernel
theorem j29_33 : ax_in 29 33 = some (.invokevirtual 126, 3, 19, 0) := by decide +kernel
theorem j29_36 : ax_in 29 36 = some (.ireturn, 1, 0, 0) := by decide +kernel
theorem j29_37 : ax_in 29 37 = some (.aload_n 0, 1, 0, 0) := by decide +kernel
theorem j29_38 : ax_in 29 38 = some (.getfield 35, 3, 3, 3) := by decide +kernel
theorem j29_41 : ax_in 29 41 = some (.invokevirtual 129, 3, 13, 0) := by decide +kernel
theorem j29_44 : ax_in 29 44 = some (.ifCond .ne 20, 3, 0, 0) := by decide +kernel
theorem j29_47 : ax_in 29 47 = some (.iload_n 1, 1, 0, 0) := by decide +kernel
theorem j29_48 : ax_in 29 48 = some (.aload_n 0, 1, 0, 0) := by decide +kernel
theorem j29_49 : ax_in 29 49 = some (.getfield 35, 3, 3, 3) := by decide +kernel
theorem j29_52 : ax_in 29 52 = some (.invokevirtual 123, 3, 17, 0) := by decide +kernel
theorem j29_55 : ax_in 29 55 = some (.if_icmp .ne 9, 3, 0, 0) := by decide +kernel
theorem j29_58 : ax_in 29 58 = some (.iconst 4, 1, 0, 0) := by decide +kernel
theorem j29_59 : ax_in 29 59 = some (.iconst 0, 1, 0, 0) := by decide +kernel
theorem j29_60 : ax_in 29 60 = some (.invokestatic 113, 3, 82, 2) := by decide +kernel
theorem j29_63 : ax_in 29 63 = some (.ireturn, 1, 0, 0) := by decide +kernel
theorem j29_64 : ax_in 29 64 = some (.aload_n 0, 1, 0, 0) := by decide +kernel
theorem j29_65 : ax_in 29 65 = some (.getfield 35, 3, 3, 3) := by decide +kernel
theorem j29_68 : ax_in 29 68 = some (.invokevirtual 129, 3, 13, 0) := by decide +kernel
theorem j29_71 : ax_in 29 71 = some (.ifCond .eq 10, 3, 0, 0) := by decide +kernel
theorem j29_74 : ax_in 29 74 = some (.aload_n 0, 1, 0, 0) := by decide +kernel
theorem j29_75 : ax_in 29 75 = some (.invokevirtual 132, 3, 30, 0) := by decide +kernel
theorem j29_78 : ax_in 29 78 = some (.goto 7, 3, 0, 0) := by decide +kernel
theorem j29_81 : ax_in 29 81 = some (.aload_n 0, 1, 0, 0) := by decide +kernel
theorem j29_82 : ax_in 29 82 = some (.invokevirtual 135, 3, 31, 0) := by decide +kernel
theorem j29_85 : ax_in 29 85 = some (.istore_n 2, 1, 0, 0) := by decide +kernel
theorem j29_86 : ax_in 29 86 = some (.iload_n 2, 1, 0, 0) := by decide +kernel
theorem j29_87 : ax_in 29 87 = some (.invokestatic 138, 3, 81, 2) := by decide +kernel
theorem j29_90 : ax_in 29 90 = some (.ifCond .eq 10, 3, 0, 0) := by decide +kernel
theorem j29_93 : ax_in 29 93 = some (.aload_n 0, 1, 0, 0) := by decide +kernel
theorem j29_94 : ax_in 29 94 = some (.invokevirtual 110, 3, 32, 0) := by decide +kernel
theorem j29_97 : ax_in 29 97 = some (.goto 4, 3, 0, 0) := by decide +kernel
theorem j29_100 : ax_in 29 100 = some (.iconst 0, 1, 0, 0) := by decide +kernel
theorem j29_101 : ax_in 29 101 = some (.istore_n 3, 1, 0, 0) := by decide +kernel
theorem j29_102 : ax_in 29 102 = some (.iload_n 2, 1, 0, 0) := by decide +kernel
theorem j29_103 : ax_in 29 103 = some (.iconst (-1), 1, 0, 0) := by decide +kernel
theorem j29_104 : ax_in 29 104 = some (.if_icmp .eq 8, 3, 0, 0) := by decide +kernel
theorem j29_107 : ax_in 29 107 = some (.iload_n 3, 1, 0, 0) := by decide +kernel
theorem j29_108 : ax_in 29 108 = some (.iconst (-1), 1, 0, 0) := by decide +kernel
theorem j29_109 : ax_in 29 109 = some (.if_icmp .ne 5, 3, 0, 0) := by decide +kernel
theorem j29_112 : ax_in 29 112 = some (.iconst (-1), 1, 0, 0) := by decide +kernel
theorem j29_113 : ax_in 29 113 = some (.ireturn, 1, 0, 0) := by decide +kernel
theorem j29_114 : ax_in 29 114 = some (.aload_n 0, 1, 0, 0) := by decide +kernel
theorem j29_115 : ax_in 29 115 = some (.getfield 35, 3, 3, 3) := by decide +kernel
theorem j29_118 : ax_in 29 118 = some (.iload_n 2, 1, 0, 0) := by decide +kernel
theorem j29_119 : ax_in 29 119 = some (.iload_n 3, 1, 0, 0) := by decide +kernel
theorem j29_120 : ax_in 29 120 = some (.invokestatic 113, 3, 82, 2) := by decide +kernel
theorem j29_123 : ax_in 29 123 = some (.invokevirtual 141, 3, 21, 0) := by decide +kernel
theorem j29_126 : ax_in 29 126 = some (.iload_n 2, 1, 0, 0) := by decide +kernel
theorem j29_127 : ax_in 29 127 = some (.iload_n 3, 1, 0, 0) := by decide +kernel
theorem j29_128 : ax_in 29 128 = some (.invokestatic 113, 3, 82, 2) := by decide +kernel
theorem j29_131 : ax_in 29 131 = some (.ireturn, 1, 0, 0) := by decide +kernel
theorem j30_0 : ax_in 30 0 = some (.aload_n 0, 1, 0, 0) := by decide +kernel
theorem j30_1 : ax_in 30 1 = some (.iconst 4, 1, 0, 0) := by decide +kernel
theorem j30_2 : ax_in 30 2 = some (.invokevirtual 120, 3, 39, 0) := by decide +kernel
theorem j30_5 : ax_in 30 5 = some (.tableswitch 39 0 3 #[31, 33, 35, 37], 31, 0, 0) := by decide +kernel
theorem j30_36 : ax_in 30 36 = some (.iconst 4, 1, 0, 0) := by decide +kernel
theorem j30_37 : ax_in 30 37 = some (.ireturn, 1, 0, 0) := by decide +kernel
theorem j30_38 : ax_in 30 38 = some (.iconst 2, 1, 0, 0) := by decide +kernel
theorem j30_39 : ax_in 30 39 = some (.ireturn, 1, 0, 0) := by decide +kernel
theorem j30_40 : ax_in 30 40 = some (.iconst 1, 1, 0, 0) := by decide +kernel
theorem j30_41 : ax_in 30 41 = some (.ireturn, 1, 0, 0) := by decide +kernel
theorem j30_42 : ax_in 30 42 = some (.iconst 3, 1, 0, 0) := by decide +kernel
theorem j30_43 : ax_in 30 43 = some (.ireturn, 1, 0, 0) := by decide +kernel
theorem j30_44 : ax_in 30 44 = some (.iconst (-1), 1, 0, 0) := by decide +kernel
theorem j30_45 : ax_in 30 45 = some (.ireturn, 1, 0, 0) := by decide +kernel
theorem j31_0 : ax_in 31 0 = some (.aload_n 0, 1, 0, 0) := by decide +kernel
theorem j31_1 : ax_in 31 1 = some (.iconst 2, 1, 0, 0) := by decide +kernel
theorem j31_2 : ax_in 31 2 = some (.invokevirtual 120, 3, 39, 0) := by decide +kernel
theorem j31_5 : ax_in 31 5 = some (.lookupswitch 31 #[(0, 27), (1, 29)], 27, 0, 0) := by decide +kernel
theorem j31_32 : ax_in 31 32 = some (.iconst 1, 1, 0, 0) := by decide +kernel
theorem j31_33 : ax_in 31 33 = some (.ireturn, 1, 0, 0) := by decide +kernel
theorem j31_34 : ax_in 31 34 = some (.iconst 3, 1, 0, 0) := by decide +kernel
theorem j31_35 : ax_in 31 35 = some (.ireturn, 1, 0, 0) := by decide +kernel
theorem j31_36 : ax_in 31 36 = some (.iconst (-1), 1, 0, 0) := by decide +kernel
theorem j31_37 : ax_in 31 37 = some (.ireturn, 1, 0, 0) := by decide +kernel
theorem j32_0 : ax_in 32 0 = some (.aload_n 0, 1, 0, 0) := by decide +kernel
theorem j32_1 : ax_in 32 1 = some (.invokevirtual 144, 3, 33, 0) := by decide +kernel
theorem j32_4 : ax_in 32 4 = some (.istore_n 1, 1, 0, 0) := by decide +kernel
theorem j32_5 : ax_in 32 5 = some (.iload_n 1, 1, 0, 0) := by decide +kernel
theorem j32_6 : ax_in 32 6 = some (.iconst (-1), 1, 0, 0) := by decide +kernel
theorem j32_7 : ax_in 32 7 = some (.if_icmp .ne 5, 3, 0, 0) := by decide +kernel
theorem j32_10 : ax_in 32 10 = some (.iconst (-1), 1, 0, 0) := by decide +kernel
theorem j32_11 : ax_in 32 11 = some (.ireturn, 1, 0, 0) := by decide +kernel
theorem j32_12 : ax_in 32 12 = some (.aload_n 0, 1, 0, 0) := by decide +kernel
theorem j32_13 : ax_in 32 13 = some (.iload_n 1, 1, 0, 0) := by decide +kernel
theorem j32_14 : ax_in 32 14 = some (.invokevirtual 147, 3, 34, 0) := by decide +kernel
theorem j32_17 : ax_in 32 17 = some (.istore_n 2, 1, 0, 0) := by decide +kernel
theorem j32_18 : ax_in 32 18 = some (.iload_n 2, 1, 0, 0) := by decide +kernel
theorem j32_19 : ax_in 32 19 = some (.iconst (-1), 1, 0, 0) := by decide +kernel
theorem j32_20 : ax_in 32 20 = some (.if_icmp .ne 5, 3, 0, 0) := by decide +kernel
theorem j32_23 : ax_in 32 23 = some (.iconst (-1), 1, 0, 0) := by decide +kernel
theorem j32_24 : ax_in 32 24 = some (.ireturn, 1, 0, 0) := by decide +kernel
theorem j32_25 : ax_in 32 25 = some (.aload_n 0, 1, 0, 0) := by decide +kernel
theorem j32_26 : ax_in 32 26 = some (.getfield 28, 3, 3, 2) := by decide +kernel
theorem j32_29 : ax_in 32 29 = some (.aload_n 0, 1, 0, 0) := by decide +kernel
theorem j32_30 : ax_in 32 30 = some (.getfield 28, 3, 3, 2) := by decide +kernel
theorem j32_33 : ax_in 32 33 = some (.getfield 150, 3, 5, 0) := by decide +kernel
theorem j32_36 : ax_in 32 36 = some (.iconst 0, 1, 0, 0) := by decide +kernel
theorem j32_37 : ax_in 32 37 = some (.iload_n 1, 1, 0, 0) := by decide +kernel
theorem j32_38 : ax_in 32 38 = some (.invokevirtual 154, 3, 44, 0) := by decide +kernel
theorem j32_41 : ax_in 32 41 = some (.iload_n 2, 1, 0, 0) := by decide +kernel
theorem j32_42 : ax_in 32 42 = some (.invokevirtual 159, 3, 53, 0) := by decide +kernel
theorem j32_45 : ax_in 32 45 = some (.ireturn, 1, 0, 0) := by decide +kernel
theorem j33_0 : ax_in 33 0 = some (.aload_n 0, 1, 0, 0) := by decide +kernel
theorem j33_1 : ax_in 33 1 = some (.aload_n 0, 1, 0, 0) := by decide +kernel
theorem j33_2 : ax_in 33 2 = some (.getfield 28, 3, 3, 2) := by decide +kernel
theorem j33_5 : ax_in 33 5 = some (.getfield 150, 3, 5, 0) := by decide +kernel
theorem j33_8 : ax_in 33 8 = some (.iconst 0, 1, 0, 0) := by decide +kernel
theorem j33_9 : ax_in 33 9 = some (.invokevirtual 162, 3, 42, 0) := by decide +kernel
theorem j33_12 : ax_in 33 12 = some (.iconst 1, 1, 0, 0) := by decide +kernel
theorem j33_13 : ax_in 33 13 = some (.iadd, 1, 0, 0) := by decide +kernel
theorem j33_14 : ax_in 33 14 = some (.invokevirtual 120, 3, 39, 0) := by decide +kernel
theorem j33_17 : ax_in 33 17 = some (.istore_n 1, 1, 0, 0) := by decide +kernel
theorem j33_18 : ax_in 33 18 = some (.iload_n 1, 1, 0, 0) := by decide +kernel
theorem j33_19 : ax_in 33 19 = some (.ifCond .eq 16, 3, 0, 0) := by decide +kernel
theorem j33_22 : ax_in 33 22 = some (.iload_n 1, 1, 0, 0) := by decide +kernel
theorem j33_23 : ax_in 33 23 = some (.iconst (-1), 1, 0, 0) := by decide +kernel
theorem j33_24 : ax_in 33 24 = some (.if_icmp .ne 7, 3, 0, 0) := by decide +kernel
theorem j33_27 : ax_in 33 27 = some (.iconst (-1), 1, 0, 0) := by decide +kernel
theorem j33_28 : ax_in 33 28 = some (.goto 6, 3, 0, 0) := by decide +kernel
theorem j33_31 : ax_in 33 31 = some (.iload_n 1, 1, 0, 0) := by decide +kernel
theorem j33_32 : ax_in 33 32 = some (.iconst 1, 1, 0, 0) := by decide +kernel
theorem j33_33 : ax_in 33 33 = some (.isub, 1, 0, 0) := by decide +kernel
theorem j33_34 : ax_in 33 34 = some (.ireturn, 1, 0, 0) := by decide +kernel
theorem j33_35 : ax_in 33 35 = some (.aload_n 0, 1, 0, 0) := by decide +kernel
theorem j33_36 : ax_in 33 36 = some (.aload_n 0, 1, 0, 0) := by decide +kernel
theorem j33_37 : ax_in 33 37 = some (.invokevirtual 165, 3, 38, 0) := by decide +kernel
theorem j33_40 : ax_in 33 40 = some (.invokevirtual 168, 3, 37, 0) := by decide +kernel
theorem j33_43 : ax_in 33 43 = some (.istore_n 2, 1, 0, 0) := by decide +kernel
theorem j33_44 : ax_in 33 44 = some (.iload_n 2, 1, 0, 0) := by decide +kernel
theorem j33_45 : ax_in 33 45 = some (.iconst (-1), 1, 0, 0) := by decide +kernel
theorem j33_46 : ax_in 33 46 = some (.if_icmp .ne 7, 3, 0, 0) := by decide +kernel
theorem j33_49 : ax_in 33 49 = some (.iconst (-1), 1, 0, 0) := by decide +kernel
theorem j33_50 : ax_in 33 50 = some (.goto 11, 3, 0, 0) := by decide +kernel
theorem j33_53 : ax_in 33 53 = some (.aload_n 0, 1, 0, 0) := by decide +kernel
theorem j33_54 : ax_in 33 54 = some (.getfield 28, 3, 3, 2) := by decide +kernel
theorem j33_57 : ax_in 33 57 = some (.iload_n 2, 1, 0, 0) := by decide +kernel
theorem j33_58 : ax_in 33 58 = some (.invokevirtual 171, 3, 52, 0) := by decide +kernel
theorem j33_61 : ax_in 33 61 = some (.ireturn, 1, 0, 0) := by decide +kernel
theorem j34_0 : ax_in 34 0 = some (.aload_n 0, 1, 0, 0) := by decide +kernel
theorem j34_1 : ax_in 34 1 = some (.invokevirtual 165, 3, 38, 0) := by decide +kernel
theorem j34_4 : ax_in 34 4 = some (.istore_n 2, 1, 0, 0) := by decide +kernel
theorem j34_5 : ax_in 34 5 = some (.iload_n 2, 1, 0, 0) := by decide +kernel
theorem j34_6 : ax_in 34 6 = some (.ifCond .ne 16, 3, 0, 0) := by decide +kernel
theorem j34_9 : ax_in 34 9 = some (.aload_n 0, 1, 0, 0) := by decide +kernel
theorem j34_10 : ax_in 34 10 = some (.aload_n 0, 1, 0, 0) := by decide +kernel
theorem j34_11 : ax_in 34 11 = some (.getfield 28, 3, 3, 2) := by decide +kernel
theorem j34_14 : ax_in 34 14 = some (.getfield 174, 3, 5, 1) := by decide +kernel
theorem j34_17 : ax_in 34 17 = some (.iload_n 1, 1, 0, 0) := by decide +kernel
theorem j34_18 : ax_in 34 18 = some (.invokevirtual 177, 3, 36, 0) := by decide +kernel
theorem j34_21 : ax_in 34 21 = some (.ireturn, 1, 0, 0) := by decide +kernel
theorem j34_22 : ax_in 34 22 = some (.aload_n 0, 1, 0, 0) := by decide +kernel
theorem j34_23 : ax_in 34 23 = some (.iload_n 2, 1, 0, 0) := by decide +kernel
theorem j34_24 : ax_in 34 24 = some (.invokevirtual 168, 3, 37, 0) := by decide +kernel
theorem j34_27 : ax_in 34 27 = some (.istore_n 3, 1, 0, 0) := by decide +kernel
theorem j34_28 : ax_in 34 28 = some (.iload_n 3, 1, 0, 0) := by decide +kernel
theorem j34_29 : ax_in 34 29 = some (.iconst (-1), 1, 0, 0) := by decide +kernel
theorem j34_30 : ax_in 34 30 = some (.if_icmp .eq 17, 3, 0, 0) := by decide +kernel
theorem j34_33 : ax_in 34 33 = some (.aload_n 0, 1, 0, 0) := by decide +kernel
theorem j34_34 : ax_in 34 34 = some (.getfield 28, 3, 3, 2) := by decide +kernel
theorem j34_37 : ax_in 34 37 = some (.getfield 174, 3, 5, 1) := by decide +kernel
theorem j34_40 : ax_in 34 40 = some (.iload_n 1, 1, 0, 0) := by decide +kernel
theorem j34_41 : ax_in 34 41 = some (.invokevirtual 181, 3, 43, 0) := by decide +kernel
theorem j34_44 : ax_in 34 44 = some (.ifCond .eq 5, 3, 0, 0) := by decide +kernel
theorem j34_47 : ax_in 34 47 = some (.iconst (-1), 1, 0, 0) := by decide +kernel
theorem j34_48 : ax_in 34 48 = some (.ireturn, 1, 0, 0) := by decide +kernel
theorem j34_49 : ax_in 34 49 = some (.aload_n 0, 1, 0, 0) := by decide +kernel
theorem j34_50 : ax_in 34 50 = some (.getfield 28, 3, 3, 2) := by decide +kernel
theorem j34_53 : ax_in 34 53 = some (.getfield 174, 3, 5, 1) := by decide +kernel
theorem j34_56 : ax_in 34 56 = some (.iload_n 1, 1, 0, 0) := by decide +kernel
theorem j34_57 : ax_in 34 57 = some (.iload_n 3, 1, 0, 0) := by decide +kernel
theorem j34_58 : ax_in 34 58 = some (.invokevirtual 184, 3, 46, 0) := by decide +kernel
theorem j34_61 : ax_in 34 61 = some (.iload_n 3, 1, 0, 0) := by decide +kernel
theorem j34_62 : ax_in 34 62 = some (.ireturn, 1, 0, 0) := by decide +kernel
theorem j35_0 : ax_in 35 0 = some (.aload_n 0, 1, 0, 0) := by decide +kernel
theorem j35_1 : ax_in 35 1 = some (.invokevirtual 165, 3, 38, 0) := by decide +kernel
theorem j35_4 : ax_in 35 4 = some (.istore_n 2, 1, 0, 0) := by decide +kernel
theorem j35_5 : ax_in 35 5 = some (.iload_n 2, 1, 0, 0) := by decide +kernel
theorem j35_6 : ax_in 35 6 = some (.iconst (-1), 1, 0, 0) := by decide +kernel
theorem j35_7 : ax_in 35 7 = some (.if_icmp .ne 5, 3, 0, 0) := by decide +kernel
theorem j35_10 : ax_in 35 10 = some (.iconst (-1), 1, 0, 0) := by decide +kernel
theorem j35_11 : ax_in 35 11 = some (.ireturn, 1, 0, 0) := by decide +kernel
theorem j35_12 : ax_in 35 12 = some (.iload_n 2, 1, 0, 0) := by decide +kernel
theorem j35_13 : ax_in 35 13 = some (.ifCond .ne 16, 3, 0, 0) := by decide +kernel
theorem j35_16 : ax_in 35 16 = some (.aload_n 0, 1, 0, 0) := by decide +kernel
theorem j35_17 : ax_in 35 17 = some (.aload_n 0, 1, 0, 0) := by decide +kernel
theorem j35_18 : ax_in 35 18 = some (.getfield 28, 3, 3, 2) := by decide +kernel
theorem j35_21 : ax_in 35 21 = some (.getfield 188, 3, 5, 2) := by decide +kernel
theorem j35_24 : ax_in 35 24 = some (.iload_n 1, 1, 0, 0) := by decide +kernel
theorem j35_25 : ax_in 35 25 = some (.invokevirtual 177, 3, 36, 0) := by decide +kernel
theorem j35_28 : ax_in 35 28 = some (.ireturn, 1, 0, 0) := by decide +kernel
theorem j35_29 : ax_in 35 29 = some (.iload_n 2, 1, 0, 0) := by decide +kernel
theorem j35_30 : ax_in 35 30 = some (.iconst 1, 1, 0, 0) := by decide +kernel
theorem j35_31 : ax_in 35 31 = some (.if_icmp .ne 16, 3, 0, 0) := by decide +kernel
theorem j35_34 : ax_in 35 34 = some (.aload_n 0, 1, 0, 0) := by decide +kernel
theorem j35_35 : ax_in 35 35 = some (.aload_n 0, 1, 0, 0) := by decide +kernel
theorem j35_36 : ax_in 35 36 = some (.getfield 28, 3, 3, 2) := by decide +kernel
theorem j35_39 : ax_in 35 39 = some (.getfield 191, 3, 5, 3) := by decide +kernel
theorem j35_42 : ax_in 35 42 = some (.iconst 0, 1, 0, 0) := by decide +kernel
theorem j35_43 : ax_in 35 43 = some (.invokevirtual 177, 3, 36, 0) := by decide +kernel
theorem j35_46 : ax_in 35 46 = some (.ireturn, 1, 0, 0) := by decide +kernel
theorem j35_47 : ax_in 35 47 = some (.aload_n 0, 1, 0, 0) := by decide +kernel
theorem j35_48 : ax_in 35 48 = some (.iload_n 2, 1, 0, 0) := by decide +kernel
theorem j35_49 : ax_in 35 49 = some (.iconst 2, 1, 0, 0) := by decide +kernel
theorem j35_50 : ax_in 35 50 = some (.isub, 1, 0, 0) := by decide +kernel
theorem j35_51 : ax_in 35 51 = some (.invokevirtual 168, 3, 37, 0) := by decide +kernel
theorem j35_54 : ax_in 35 54 = some (.istore_n 3, 1, 0, 0) := by decide +kernel
theorem j35_55 : ax_in 35 55 = some (.iload_n 3, 1, 0, 0) := by decide +kernel
theorem j35_56 : ax_in 35 56 = some (.iconst (-1), 1, 0, 0) := by decide +kernel
theorem j35_57 : ax_in 35 57 = some (.if_icmp .eq 12, 3, 0, 0) := by decide +kernel
theorem j35_60 : ax_in 35 60 = some (.aload_n 0, 1, 0, 0) := by decide +kernel
theorem j35_61 : ax_in 35 61 = some (.getfield 28, 3, 3, 2) := by decide +kernel
theorem j35_64 : ax_in 35 64 = some (.iload_n 1, 1, 0, 0) := by decide +kernel
theorem j35_65 : ax_in 35 65 = some (.iload_n 3, 1, 0, 0) := by decide +kernel
theorem j35_66 : ax_in 35 66 = some (.invokevirtual 194, 3, 55, 0) := by decide +kernel
theorem j35_69 : ax_in 35 69 = some (.iload_n 3, 1, 0, 0) := by decide +kernel
theorem j35_70 : ax_in 35 70 = some (.ireturn, 1, 0, 0) := by decide +kernel
theorem j36_0 : ax_in 36 0 = some (.aload_n 1, 1, 0, 0) := by decide +kernel
theorem j36_1 : ax_in 36 1 = some (.iload_n 2, 1, 0, 0) := by decide +kernel
theorem j36_2 : ax_in 36 2 = some (.aload_n 0, 1, 0, 0) := by decide +kernel
theorem j36_3 : ax_in 36 3 = some (.aload_n 1, 1, 0, 0) := by decide +kernel
theorem j36_4 : ax_in 36 4 = some (.iload_n 2, 1, 0, 0) := by decide +kernel
theorem j36_5 : ax_in 36 5 = some (.invokevirtual 162, 3, 42, 0) := by decide +kernel
theorem j36_8 : ax_in 36 8 = some (.invokevirtual 120, 3, 39, 0) := by decide +kernel
theorem j36_11 : ax_in 36 11 = some (.invokevirtual 154, 3, 44, 0) := by decide +kernel
theorem j36_14 : ax_in 36 14 = some (.ireturn, 1, 0, 0) := by decide +kernel
theorem j37_0 : ax_in 37 0 = some (.iload_n 1, 1, 0, 0) := by decide +kernel
theorem j37_1 : ax_in 37 1 = some (.ifCond .lt 8, 3, 0, 0) := by decide +kernel
theorem j37_4 : ax_in 37 4 = some (.iload_n 1, 1, 0, 0) := by decide +kernel
theorem j37_5 : ax_in 37 5 = some (.iconst 5, 1, 0, 0) := by decide +kernel
theorem j37_6 : ax_in 37 6 = some (.if_icmp .le 5, 3, 0, 0) := by decide +kernel
theorem j37_9 : ax_in 37 9 = some (.iconst (-1), 1, 0, 0) := by decide +kernel
theorem j37_10 : ax_in 37 10 = some (.ireturn, 1, 0, 0) := by decide +kernel
theorem j37_11 : ax_in 37 11 = some (.iconst 0, 1, 0, 0) := by decide +kernel
theorem j37_12 : ax_in 37 12 = some (.istore_n 2, 1, 0, 0) := by decide +kernel
theorem j37_13 : ax_in 37 13 = some (.iconst 1, 1, 0, 0) := by decide +kernel
theorem j37_14 : ax_in 37 14 = some (.istore_n 3, 1, 0, 0) := by decide +kernel
theorem j37_15 : ax_in 37 15 = some (.iconst 0, 1, 0, 0) := by decide +kernel
theorem j37_16 : ax_in 37 16 = some (.istore 4, 2, 0, 0) := by decide +kernel
theorem j37_18 : ax_in 37 18 = some (.iload 4, 2, 0, 0) := by decide +kernel
theorem j37_20 : ax_in 37 20 = some (.iload_n 1, 1, 0, 0) := by decide +kernel
theorem j37_21 : ax_in 37 21 = some (.if_icmp .ge 42, 3, 0, 0) := by decide +kernel
theorem j37_24 : ax_in 37 24 = some (.aload_n 0, 1, 0, 0) := by decide +kernel
theorem j37_25 : ax_in 37 25 = some (.invokevirtual 165, 3, 38, 0) := by decide +kernel
theorem j37_28 : ax_in 37 28 = some (.istore 5, 2, 0, 0) := by decide +kernel
theorem j37_30 : ax_in 37 30 = some (.iload 5, 2, 0, 0) := by decide +kernel
theorem j37_32 : ax_in 37 32 = some (.iconst 1, 1, 0, 0) := by decide +kernel
theorem j37_33 : ax_in 37 33 = some (.if_icmp .lt 10, 3, 0, 0) := by decide +kernel
theorem j37_36 : ax_in 37 36 = some (.iload 5, 2, 0, 0) := by decide +kernel
theorem j37_38 : ax_in 37 38 = some (.bipush 27, 2, 0, 0) := by decide +kernel
theorem j37_40 : ax_in 37 40 = some (.if_icmp .lt 5, 3, 0, 0) := by decide +kernel
theorem j37_43 : ax_in 37 43 = some (.iconst (-1), 1, 0, 0) := by decide +kernel
theorem j37_44 : ax_in 37 44 = some (.ireturn, 1, 0, 0) := by decide +kernel
theorem j37_45 : ax_in 37 45 = some (.iload_n 2, 1, 0, 0) := by decide +kernel
theorem j37_46 : ax_in 37 46 = some (.iload 5, 2, 0, 0) := by decide +kernel
theorem j37_48 : ax_in 37 48 = some (.iload_n 3, 1, 0, 0) := by decide +kernel
theorem j37_49 : ax_in 37 49 = some (.imul, 1, 0, 0) := by decide +kernel
theorem j37_50 : ax_in 37 50 = some (.iadd, 1, 0, 0) := by decide +kernel
theorem j37_51 : ax_in 37 51 = some (.istore_n 2, 1, 0, 0) := by decide +kernel
theorem j37_52 : ax_in 37 52 = some (.iload_n 3, 1, 0, 0) := by decide +kernel
theorem j37_53 : ax_in 37 53 = some (.bipush 27, 2, 0, 0) := by decide +kernel
theorem j37_55 : ax_in 37 55 = some (.imul, 1, 0, 0) := by decide +kernel
theorem j37_56 : ax_in 37 56 = some (.istore_n 3, 1, 0, 0) := by decide +kernel
theorem j37_57 : ax_in 37 57 = some (.iinc 4 1, 3, 0, 0) := by decide +kernel
theorem j37_60 : ax_in 37 60 = some (.goto (-42), 3, 0, 0) := by decide +kernel
theorem j37_63 : ax_in 37 63 = some (.iload_n 2, 1, 0, 0) := by decide +kernel
theorem j37_64 : ax_in 37 64 = some (.ireturn, 1, 0, 0) := by decide +kernel
theorem j38_0 : ax_in 38 0 = some (.iconst 0, 1, 0, 0) := by decide +kernel
theorem j38_1 : ax_in 38 1 = some (.istore_n 1, 1, 0, 0) := by decide +kernel
theorem j38_2 : ax_in 38 2 = some (.iconst 1, 1, 0, 0) := by decide +kernel
theorem j38_3 : ax_in 38 3 = some (.istore_n 2, 1, 0, 0) := by decide +kernel
theorem j38_4 : ax_in 38 4 = some (.iconst 0, 1, 0, 0) := by decide +kernel
theorem j38_5 : ax_in 38 5 = some (.istore_n 3, 1, 0, 0) := by decide +kernel
theorem j38_6 : ax_in 38 6 = some (.iload_n 3, 1, 0, 0) := by decide +kernel
theorem j38_7 : ax_in 38 7 = some (.iconst 4, 1, 0, 0) := by decide +kernel
theorem j38_8 : ax_in 38 8 = some (.if_icmp .ge 48, 3, 0, 0) := by decide +kernel
theorem j38_11 : ax_in 38 11 = some (.aload_n 0, 1, 0, 0) := by decide +kernel
theorem j38_12 : ax_in 38 12 = some (.iconst 4, 1, 0, 0) := by decide +kernel
theorem j38_13 : ax_in 38 13 = some (.invokevirtual 197, 3, 40, 0) := by decide +kernel
theorem j38_16 : ax_in 38 16 = some (.istore 4, 2, 0, 0) := by decide +kernel
theorem j38_18 : ax_in 38 18 = some (.iload 4, 2, 0, 0) := by decide +kernel
theorem j38_20 : ax_in 38 20 = some (.iconst (-1), 1, 0, 0) := by decide +kernel
theorem j38_21 : ax_in 38 21 = some (.if_icmp .ne 5, 3, 0, 0) := by decide +kernel
theorem j38_24 : ax_in 38 24 = some (.iconst (-1), 1, 0, 0) := by decide +kernel
theorem j38_25 : ax_in 38 25 = some (.ireturn, 1, 0, 0) := by decide +kernel
theorem j38_26 : ax_in 38 26 = some (.iload_n 1, 1, 0, 0) := by decide +kernel
theorem j38_27 : ax_in 38 27 = some (.iload_n 2, 1, 0, 0) := by decide +kernel
theorem j38_28 : ax_in 38 28 = some (.iload 4, 2, 0, 0) := by decide +kernel
theorem j38_30 : ax_in 38 30 = some (.bipush 8, 2, 0, 0) := by decide +kernel
theorem j38_32 : ax_in 38 32 = some (.irem, 1, 0, 0) := by decide +kernel
theorem j38_33 : ax_in 38 33 = some (.imul, 1, 0, 0) := by decide +kernel
theorem j38_34 : ax_in 38 34 = some (.iadd, 1, 0, 0) := by decide +kernel
theorem j38_35 : ax_in 38 35 = some (.istore_n 1, 1, 0, 0) := by decide +kernel
theorem j38_36 : ax_in 38 36 = some (.iload_n 2, 1, 0, 0) := by decide +kernel
theorem j38_37 : ax_in 38 37 = some (.bipush 8, 2, 0, 0) := by decide +kernel
theorem j38_39 : ax_in 38 39 = some (.imul, 1, 0, 0) := by decide +kernel
theorem j38_40 : ax_in 38 40 = some (.istore_n 2, 1, 0, 0) := by decide +kernel
theorem j38_41 : ax_in 38 41 = some (.iload 4, 2, 0, 0) := by decide +kernel
theorem j38_43 : ax_in 38 43 = some (.bipush 8, 2, 0, 0) := by decide +kernel
theorem j38_45 : ax_in 38 45 = some (.if_icmp .ge 5, 3, 0, 0) := by decide +kernel
theorem j38_48 : ax_in 38 48 = some (.iload_n 1, 1, 0, 0) := by decide +kernel
theorem j38_49 : ax_in 38 49 = some (.ireturn, 1, 0, 0) := by decide +kernel
theorem j38_50 : ax_in 38 50 = some (.iinc 3 1, 3, 0, 0) := by decide +kernel
theorem j38_53 : ax_in 38 53 = some (.goto (-47), 3, 0, 0) := by decide +kernel
theorem j38_56 : ax_in 38 56 = some (.iconst (-1), 1, 0, 0) := by decide +kernel
theorem j38_57 : ax_in 38 57 = some (.ireturn, 1, 0, 0) := by decide +kernel
theorem j39_0 : ax_in 39 0 = some (.aload_n 0, 1, 0, 0) := by decide +kernel
theorem j39_1 : ax_in 39 1 = some (.iload_n 1, 1, 0, 0) := by decide +kernel
theorem j39_2 : ax_in 39 2 = some (.invokestatic 200, 3, 80, 2) := by decide +kernel
theorem j39_5 : ax_in 39 5 = some (.invokevirtual 197, 3, 40, 0) := by decide +kernel
theorem j39_8 : ax_in 39 8 = some (.istore_n 2, 1, 0, 0) := by decide +kernel
theorem j39_9 : ax_in 39 9 = some (.iload_n 2, 1, 0, 0) := by decide +kernel
theorem j39_10 : ax_in 39 10 = some (.iload_n 1, 1, 0, 0) := by decide +kernel
theorem j39_11 : ax_in 39 11 = some (.if_icmp .ge 7, 3, 0, 0) := by decide +kernel
theorem j39_14 : ax_in 39 14 = some (.iload_n 2, 1, 0, 0) := by decide +kernel
theorem j39_15 : ax_in 39 15 = some (.goto 4, 3, 0, 0) := by decide +kernel
theorem j39_18 : ax_in 39 18 = some (.iconst (-1), 1, 0, 0) := by decide +kernel
theorem j39_19 : ax_in 39 19 = some (.ireturn, 1, 0, 0) := by decide +kernel
theorem j40_0 : ax_in 40 0 = some (.iconst 0, 1, 0, 0) := by decide +kernel
theorem j40_1 : ax_in 40 1 = some (.istore_n 2, 1, 0, 0) := by decide +kernel
theorem j40_2 : ax_in 40 2 = some (.iconst 0, 1, 0, 0) := by decide +kernel
theorem j40_3 : ax_in 40 3 = some (.istore_n 3, 1, 0, 0) := by decide +kernel
theorem j40_4 : ax_in 40 4 = some (.iload_n 3, 1, 0, 0) := by decide +kernel
theorem j40_5 : ax_in 40 5 = some (.iload_n 1, 1, 0, 0) := by decide +kernel
theorem j40_6 : ax_in 40 6 = some (.if_icmp .ge 67, 3, 0, 0) := by decide +kernel
theorem j40_9 : ax_in 40 9 = some (.aload_n 0, 1, 0, 0) := by decide +kernel
theorem j40_10 : ax_in 40 10 = some (.getfield 39, 3, 3, 4) := by decide +kernel
theorem j40_13 : ax_in 40 13 = some (.aload_n 0, 1, 0, 0) := by decide +kernel
theorem j40_14 : ax_in 40 14 = some (.getfield 12, 3, 3, 0) := by decide +kernel
theorem j40_17 : ax_in 40 17 = some (.getfield 203, 3, 0, 1) := by decide +kernel
theorem j40_20 : ax_in 40 20 = some (.if_icmp .ge 18, 3, 0, 0) := by decide +kernel
theorem j40_23 : ax_in 40 23 = some (.aload_n 0, 1, 0, 0) := by decide +kernel
theorem j40_24 : ax_in 40 24 = some (.getfield 39, 3, 3, 4) := by decide +kernel
theorem j40_27 : ax_in 40 27 = some (.aload_n 0, 1, 0, 0) := by decide +kernel
theorem j40_28 : ax_in 40 28 = some (.getfield 12, 3, 3, 0) := by decide +kernel
theorem j40_31 : ax_in 40 31 = some (.getfield 206, 3, 0, 0) := by decide +kernel
theorem j40_34 : ax_in 40 34 = some (.arraylength, 1, 0, 0) := by decide +kernel
theorem j40_35 : ax_in 40 35 = some (.if_icmp .lt 5, 3, 0, 0) := by decide +kernel
theorem j40_38 : ax_in 40 38 = some (.iconst (-1), 1, 0, 0) := by decide +kernel
theorem j40_39 : ax_in 40 39 = some (.ireturn, 1, 0, 0) := by decide +kernel
theorem j40_40 : ax_in 40 40 = some (.iload_n 2, 1, 0, 0) := by decide +kernel
theorem j40_41 : ax_in 40 41 = some (.iconst 2, 1, 0, 0) := by decide +kernel
theorem j40_42 : ax_in 40 42 = some (.imul, 1, 0, 0) := by decide +kernel
theorem j40_43 : ax_in 40 43 = some (.aload_n 0, 1, 0, 0) := by decide +kernel
theorem j40_44 : ax_in 40 44 = some (.getfield 12, 3, 3, 0) := by decide +kernel
theorem j40_47 : ax_in 40 47 = some (.getfield 206, 3, 0, 0) := by decide +kernel
theorem j40_50 : ax_in 40 50 = some (.aload_n 0, 1, 0, 0) := by decide +kernel
theorem j40_51 : ax_in 40 51 = some (.getfield 39, 3, 3, 4) := by decide +kernel
theorem j40_54 : ax_in 40 54 = some (.iaload, 1, 0, 0) := by decide +kernel
theorem j40_55 : ax_in 40 55 = some (.iadd, 1, 0, 0) := by decide +kernel
theorem j40_56 : ax_in 40 56 = some (.istore_n 2, 1, 0, 0) := by decide +kernel
theorem j40_57 : ax_in 40 57 = some (.aload_n 0, 1, 0, 0) := by decide +kernel
theorem j40_58 : ax_in 40 58 = some (.dup, 1, 0, 0) := by decide +kernel
theorem j40_59 : ax_in 40 59 = some (.getfield 39, 3, 3, 4) := by decide +kernel
theorem j40_62 : ax_in 40 62 = some (.iconst 1, 1, 0, 0) := by decide +kernel
theorem j40_63 : ax_in 40 63 = some (.iadd, 1, 0, 0) := by decide +kernel
theorem j40_64 : ax_in 40 64 = some (.putfield 39, 3, 3, 4) := by decide +kernel
theorem j40_67 : ax_in 40 67 = some (.iinc 3 1, 3, 0, 0) := by decide +kernel
theorem j40_70 : ax_in 40 70 = some (.goto (-66), 3, 0, 0) := by decide +kernel
theorem j40_73 : ax_in 40 73 = some (.iload_n 2, 1, 0, 0) := by decide +kernel
theorem j40_74 : ax_in 40 74 = some (.ireturn, 1, 0, 0) := by decide +kernel
theorem j41_0 : ax_in 41 0 = some (.iconst 0, 1, 0, 0) := by decide +kernel
theorem j41_1 : ax_in 41 1 = some (.istore_n 1, 1, 0, 0) := by decide +kernel
theorem j41_2 : ax_in 41 2 = some (.iload_n 1, 1, 0, 0) := by decide +kernel
theorem j41_3 : ax_in 41 3 = some (.aload_n 0, 1, 0, 0) := by decide +kernel
theorem j41_4 : ax_in 41 4 = some (.getfield 16, 3, 4, 1) := by decide +kernel
theorem j41_7 : ax_in 41 7 = some (.arraylength, 1, 0, 0) := by decide +kernel
theorem j41_8 : ax_in 41 8 = some (.if_icmp .ge 16, 3, 0, 0) := by decide +kernel
theorem j41_11 : ax_in 41 11 = some (.aload_n 0, 1, 0, 0) := by decide +kernel
theorem j41_12 : ax_in 41 12 = some (.getfield 16, 3, 4, 1) := by decide +kernel
theorem j41_15 : ax_in 41 15 = some (.iload_n 1, 1, 0, 0) := by decide +kernel
theorem j41_16 : ax_in 41 16 = some (.iconst 0, 1, 0, 0) := by decide +kernel
theorem j41_17 : ax_in 41 17 = some (.iastore, 1, 0, 0) := by decide +kernel
theorem j41_18 : ax_in 41 18 = some (.iinc 1 1, 3, 0, 0) := by decide +kernel
theorem j41_21 : ax_in 41 21 = some (.goto (-19), 3, 0, 0) := by decide +kernel
theorem j41_24 : ax_in 41 24 = some (.return_, 1, 0, 0) := by decide +kernel
theorem j42_0 : ax_in 42 0 = some (.iload_n 1, 1, 0, 0) := by decide +kernel
theorem j42_1 : ax_in 42 1 = some (.ifCond .lt 21, 3, 0, 0) := by decide +kernel
theorem j42_4 : ax_in 42 4 = some (.iload_n 1, 1, 0, 0) := by decide +kernel
theorem j42_5 : ax_in 42 5 = some (.aload_n 0, 1, 0, 0) := by decide +kernel
theorem j42_6 : ax_in 42 6 = some (.getfield 16, 3, 4, 1) := by decide +kernel
theorem j42_9 : ax_in 42 9 = some (.arraylength, 1, 0, 0) := by decide +kernel
theorem j42_10 : ax_in 42 10 = some (.if_icmp .ge 12, 3, 0, 0) := by decide +kernel
theorem j42_13 : ax_in 42 13 = some (.aload_n 0, 1, 0, 0) := by decide +kernel
theorem j42_14 : ax_in 42 14 = some (.getfield 16, 3, 4, 1) := by decide +kernel
theorem j42_17 : ax_in 42 17 = some (.iload_n 1, 1, 0, 0) := by decide +kernel
theorem j42_18 : ax_in 42 18 = some (.iaload, 1, 0, 0) := by decide +kernel
theorem j42_19 : ax_in 42 19 = some (.goto 4, 3, 0, 0) := by decide +kernel
theorem j42_22 : ax_in 42 22 = some (.iconst 0, 1, 0, 0) := by decide +kernel
theorem j42_23 : ax_in 42 23 = some (.ireturn, 1, 0, 0) := by decide +kernel
theorem j43_0 : ax_in 43 0 = some (.aload_n 0, 1, 0, 0) := by decide +kernel
theorem j43_1 : ax_in 43 1 = some (.iload_n 1, 1, 0, 0) := by decide +kernel
theorem j43_2 : ax_in 43 2 = some (.invokevirtual 24, 3, 42, 0) := by decide +kernel
theorem j43_5 : ax_in 43 5 = some (.aload_n 0, 1, 0, 0) := by decide +kernel
theorem j43_6 : ax_in 43 6 = some (.getfield 20, 3, 4, 2) := by decide +kernel
theorem j43_9 : ax_in 43 9 = some (.if_icmp .lt 7, 3, 0, 0) := by decide +kernel
theorem j43_12 : ax_in 43 12 = some (.iconst 1, 1, 0, 0) := by decide +kernel
theorem j43_13 : ax_in 43 13 = some (.goto 4, 3, 0, 0) := by decide +kernel
theorem j43_16 : ax_in 43 16 = some (.iconst 0, 1, 0, 0) := by decide +kernel
theorem j43_17 : ax_in 43 17 = some (.ireturn, 1, 0, 0) := by decide +kernel
theorem j44_0 : ax_in 44 0 = some (.iload_n 2, 1, 0, 0) := by decide +kernel
theorem j44_1 : ax_in 44 1 = some (.ifCond .lt 23, 3, 0, 0) := by decide +kernel
theorem j44_4 : ax_in 44 4 = some (.iload_n 2, 1, 0, 0) := by decide +kernel
theorem j44_5 : ax_in 44 5 = some (.aload_n 0, 1, 0, 0) := by decide +kernel
theorem j44_6 : ax_in 44 6 = some (.iload_n 1, 1, 0, 0) := by decide +kernel
theorem j44_7 : ax_in 44 7 = some (.invokevirtual 24, 3, 42, 0) := by decide +kernel
theorem j44_10 : ax_in 44 10 = some (.if_icmp .ge 14, 3, 0, 0) := by decide +kernel
theorem j44_13 : ax_in 44 13 = some (.aload_n 0, 1, 0, 0) := by decide +kernel
theorem j44_14 : ax_in 44 14 = some (.getfield 11, 3, 4, 0) := by decide +kernel
theorem j44_17 : ax_in 44 17 = some (.iload_n 1, 1, 0, 0) := by decide +kernel
theorem j44_18 : ax_in 44 18 = some (.aaload, 1, 0, 0) := by decide +kernel
theorem j44_19 : ax_in 44 19 = some (.iload_n 2, 1, 0, 0) := by decide +kernel
theorem j44_20 : ax_in 44 20 = some (.iaload, 1, 0, 0) := by decide +kernel
theorem j44_21 : ax_in 44 21 = some (.goto 4, 3, 0, 0) := by decide +kernel
theorem j44_24 : ax_in 44 24 = some (.iconst (-1), 1, 0, 0) := by decide +kernel
theorem j44_25 : ax_in 44 25 = some (.ireturn, 1, 0, 0) := by decide +kernel
theorem j45_0 : ax_in 45 0 = some (.aload_n 0, 1, 0, 0) := by decide +kernel
theorem j45_1 : ax_in 45 1 = some (.iload_n 1, 1, 0, 0) := by decide +kernel
theorem j45_2 : ax_in 45 2 = some (.invokevirtual 24, 3, 42, 0) := by decide +kernel
theorem j45_5 : ax_in 45 5 = some (.istore_n 3, 1, 0, 0) := by decide +kernel
theorem j45_6 : ax_in 45 6 = some (.iconst 0, 1, 0, 0) := by decide +kernel
theorem j45_7 : ax_in 45 7 = some (.istore 4, 2, 0, 0) := by decide +kernel
theorem j45_9 : ax_in 45 9 = some (.iload 4, 2, 0, 0) := by decide +kernel
theorem j45_11 : ax_in 45 11 = some (.iload_n 3, 1, 0, 0) := by decide +kernel
theorem j45_12 : ax_in 45 12 = some (.if_icmp .ge 25, 3, 0, 0) := by decide +kernel
theorem j45_15 : ax_in 45 15 = some (.aload_n 0, 1, 0, 0) := by decide +kernel
theorem j45_16 : ax_in 45 16 = some (.getfield 11, 3, 4, 0) := by decide +kernel
theorem j45_19 : ax_in 45 19 = some (.iload_n 1, 1, 0, 0) := by decide +kernel
theorem j45_20 : ax_in 45 20 = some (.aaload, 1, 0, 0) := by decide +kernel
theorem j45_21 : ax_in 45 21 = some (.iload 4, 2, 0, 0) := by decide +kernel
theorem j45_23 : ax_in 45 23 = some (.iaload, 1, 0, 0) := by decide +kernel
theorem j45_24 : ax_in 45 24 = some (.iload_n 2, 1, 0, 0) := by decide +kernel
theorem j45_25 : ax_in 45 25 = some (.if_icmp .ne 6, 3, 0, 0) := by decide +kernel
theorem j45_28 : ax_in 45 28 = some (.iload 4, 2, 0, 0) := by decide +kernel
theorem j45_30 : ax_in 45 30 = some (.ireturn, 1, 0, 0) := by decide +kernel
theorem j45_31 : ax_in 45 31 = some (.iinc 4 1, 3, 0, 0) := by decide +kernel
theorem j45_34 : ax_in 45 34 = some (.goto (-25), 3, 0, 0) := by decide +kernel
theorem j45_37 : ax_in 45 37 = some (.iconst (-1), 1, 0, 0) := by decide +kernel
theorem j45_38 : ax_in 45 38 = some (.ireturn, 1, 0, 0) := by decide +kernel
theorem j46_0 : ax_in 46 0 = some (.iload_n 1, 1, 0, 0) := by decide +kernel
theorem j46_1 : ax_in 46 1 = some (.ifCond .lt 49, 3, 0, 0) := by decide +kernel
theorem j46_4 : ax_in 46 4 = some (.iload_n 1, 1, 0, 0) := by decide +kernel
theorem j46_5 : ax_in 46 5 = some (.aload_n 0, 1, 0, 0) := by decide +kernel
theorem j46_6 : ax_in 46 6 = some (.getfield 16, 3, 4, 1) := by decide +kernel
theorem j46_9 : ax_in 46 9 = some (.arraylength, 1, 0, 0) := by decide +kernel
theorem j46_10 : ax_in 46 10 = some (.if_icmp .ge 40, 3, 0, 0) := by decide +kernel
theorem j46_13 : ax_in 46 13 = some (.aload_n 0, 1, 0, 0) := by decide +kernel
theorem j46_14 : ax_in 46 14 = some (.getfield 16, 3, 4, 1) := by decide +kernel
theorem j46_17 : ax_in 46 17 = some (.iload_n 1, 1, 0, 0) := by decide +kernel
theorem j46_18 : ax_in 46 18 = some (.iaload, 1, 0, 0) := by decide +kernel
theorem j46_19 : ax_in 46 19 = some (.aload_n 0, 1, 0, 0) := by decide +kernel
theorem j46_20 : ax_in 46 20 = some (.getfield 20, 3, 4, 2) := by decide +kernel
theorem j46_23 : ax_in 46 23 = some (.if_icmp .ge 27, 3, 0, 0) := by decide +kernel
theorem j46_26 : ax_in 46 26 = some (.aload_n 0, 1, 0, 0) := by decide +kernel
theorem j46_27 : ax_in 46 27 = some (.getfield 11, 3, 4, 0) := by decide +kernel
theorem j46_30 : ax_in 46 30 = some (.iload_n 1, 1, 0, 0) := by decide +kernel
theorem j46_31 : ax_in 46 31 = some (.aaload, 1, 0, 0) := by decide +kernel
theorem j46_32 : ax_in 46 32 = some (.aload_n 0, 1, 0, 0) := by decide +kernel
theorem j46_33 : ax_in 46 33 = some (.getfield 16, 3, 4, 1) := by decide +kernel
theorem j46_36 : ax_in 46 36 = some (.iload_n 1, 1, 0, 0) := by decide +kernel
theorem j46_37 : ax_in 46 37 = some (.iaload, 1, 0, 0) := by decide +kernel
theorem j46_38 : ax_in 46 38 = some (.iload_n 2, 1, 0, 0) := by decide +kernel
theorem j46_39 : ax_in 46 39 = some (.iastore, 1, 0, 0) := by decide +kernel
theorem j46_40 : ax_in 46 40 = some (.aload_n 0, 1, 0, 0) := by decide +kernel
theorem j46_41 : ax_in 46 41 = some (.getfield 16, 3, 4, 1) := by decide +kernel
theorem j46_44 : ax_in 46 44 = some (.iload_n 1, 1, 0, 0) := by decide +kernel
theorem j46_45 : ax_in 46 45 = some (.dup2, 1, 0, 0) := by decide +kernel
theorem j46_46 : ax_in 46 46 = some (.iaload, 1, 0, 0) := by decide +kernel
theorem j46_47 : ax_in 46 47 = some (.iconst 1, 1, 0, 0) := by decide +kernel
theorem j46_48 : ax_in 46 48 = some (.iadd, 1, 0, 0) := by decide +kernel
theorem j46_49 : ax_in 46 49 = some (.iastore, 1, 0, 0) := by decide +kernel
theorem j46_50 : ax_in 46 50 = some (.return_, 1, 0, 0) := by decide +kernel
theorem j47_0 : ax_in 47 0 = some (.iload_n 1, 1, 0, 0) := by decide +kernel
theorem j47_1 : ax_in 47 1 = some (.ifCond .lt 79, 3, 0, 0) := by decide +kernel
theorem j47_4 : ax_in 47 4 = some (.iload_n 1, 1, 0, 0) := by decide +kernel
theorem j47_5 : ax_in 47 5 = some (.aload_n 0, 1, 0, 0) := by decide +kernel
theorem j47_6 : ax_in 47 6 = some (.getfield 16, 3, 4, 1) := by decide +kernel
theorem j47_9 : ax_in 47 9 = some (.arraylength, 1, 0, 0) := by decide +kernel
theorem j47_10 : ax_in 47 10 = some (.if_icmp .ge 70, 3, 0, 0) := by decide +kernel
theorem j47_13 : ax_in 47 13 = some (.aload_n 0, 1, 0, 0) := by decide +kernel
theorem j47_14 : ax_in 47 14 = some (.getfield 16, 3, 4, 1) := by decide +kernel
theorem j47_17 : ax_in 47 17 = some (.iload_n 1, 1, 0, 0) := by decide +kernel
theorem j47_18 : ax_in 47 18 = some (.iaload, 1, 0, 0) := by decide +kernel
theorem j47_19 : ax_in 47 19 = some (.aload_n 0, 1, 0, 0) := by decide +kernel
theorem j47_20 : ax_in 47 20 = some (.getfield 20, 3, 4, 2) := by decide +kernel
theorem j47_23 : ax_in 47 23 = some (.if_icmp .ge 57, 3, 0, 0) := by decide +kernel
theorem j47_26 : ax_in 47 26 = some (.aload_n 0, 1, 0, 0) := by decide +kernel
theorem j47_27 : ax_in 47 27 = some (.getfield 16, 3, 4, 1) := by decide +kernel
theorem j47_30 : ax_in 47 30 = some (.iload_n 1, 1, 0, 0) := by decide +kernel
theorem j47_31 : ax_in 47 31 = some (.iaload, 1, 0, 0) := by decide +kernel
theorem j47_32 : ax_in 47 32 = some (.istore_n 3, 1, 0, 0) := by decide +kernel
theorem j47_33 : ax_in 47 33 = some (.iload_n 3, 1, 0, 0) := by decide +kernel
theorem j47_34 : ax_in 47 34 = some (.ifCond .le 27, 3, 0, 0) := by decide +kernel
theorem j47_37 : ax_in 47 37 = some (.aload_n 0, 1, 0, 0) := by decide +kernel
theorem j47_38 : ax_in 47 38 = some (.getfield 11, 3, 4, 0) := by decide +kernel
theorem j47_41 : ax_in 47 41 = some (.iload_n 1, 1, 0, 0) := by decide +kernel
theorem j47_42 : ax_in 47 42 = some (.aaload, 1, 0, 0) := by decide +kernel
theorem j47_43 : ax_in 47 43 = some (.iload_n 3, 1, 0, 0) := by decide +kernel
theorem j47_44 : ax_in 47 44 = some (.aload_n 0, 1, 0, 0) := by decide +kernel
theorem j47_45 : ax_in 47 45 = some (.getfield 11, 3, 4, 0) := by decide +kernel
theorem j47_48 : ax_in 47 48 = some (.iload_n 1, 1, 0, 0) := by decide +kernel
theorem j47_49 : ax_in 47 49 = some (.aaload, 1, 0, 0) := by decide +kernel
theorem j47_50 : ax_in 47 50 = some (.iload_n 3, 1, 0, 0) := by decide +kernel
theorem j47_51 : ax_in 47 51 = some (.iconst 1, 1, 0, 0) := by decide +kernel
theorem j47_52 : ax_in 47 52 = some (.isub, 1, 0, 0) := by decide +kernel
theorem j47_53 : ax_in 47 53 = some (.iaload, 1, 0, 0) := by decide +kernel
theorem j47_54 : ax_in 47 54 = some (.iastore, 1, 0, 0) := by decide +kernel
theorem j47_55 : ax_in 47 55 = some (.iinc 3 (-1), 3, 0, 0) := by decide +kernel
theorem j47_58 : ax_in 47 58 = some (.goto (-25), 3, 0, 0) := by decide +kernel
theorem j47_61 : ax_in 47 61 = some (.aload_n 0, 1, 0, 0) := by decide +kernel
theorem j47_62 : ax_in 47 62 = some (.getfield 11, 3, 4, 0) := by decide +kernel
theorem j47_65 : ax_in 47 65 = some (.iload_n 1, 1, 0, 0) := by decide +kernel
theorem j47_66 : ax_in 47 66 = some (.aaload, 1, 0, 0) := by decide +kernel
theorem j47_67 : ax_in 47 67 = some (.iconst 0, 1, 0, 0) := by decide +kernel
theorem j47_68 : ax_in 47 68 = some (.iload_n 2, 1, 0, 0) := by decide +kernel
theorem j47_69 : ax_in 47 69 = some (.iastore, 1, 0, 0) := by decide +kernel
theorem j47_70 : ax_in 47 70 = some (.aload_n 0, 1, 0, 0) := by decide +kernel
theorem j47_71 : ax_in 47 71 = some (.getfield 16, 3, 4, 1) := by decide +kernel
theorem j47_74 : ax_in 47 74 = some (.iload_n 1, 1, 0, 0) := by decide +kernel
theorem j47_75 : ax_in 47 75 = some (.dup2, 1, 0, 0) := by decide +kernel
theorem j47_76 : ax_in 47 76 = some (.iaload, 1, 0, 0) := by decide +kernel
theorem j47_77 : ax_in 47 77 = some (.iconst 1, 1, 0, 0) := by decide +kernel
theorem j47_78 : ax_in 47 78 = some (.iadd, 1, 0, 0) := by decide +kernel
theorem j47_79 : ax_in 47 79 = some (.iastore, 1, 0, 0) := by decide +kernel
theorem j47_80 : ax_in 47 80 = some (.return_, 1, 0, 0) := by decide +kernel
theorem j48_0 : ax_in 48 0 = some (.aload_n 0, 1, 0, 0) := by decide +kernel
theorem j48_1 : ax_in 48 1 = some (.getfield 14, 3, 5, 0) := by decide +kernel
theorem j48_4 : ax_in 48 4 = some (.invokevirtual 35, 3, 41, 0) := by decide +kernel
theorem j48_7 : ax_in 48 7 = some (.aload_n 0, 1, 0, 0) := by decide +kernel
theorem j48_8 : ax_in 48 8 = some (.getfield 14, 3, 5, 0) := by decide +kernel
theorem j48_11 : ax_in 48 11 = some (.iconst 0, 1, 0, 0) := by decide +kernel
theorem j48_12 : ax_in 48 12 = some (.iconst 0, 1, 0, 0) := by decide +kernel
theorem j48_13 : ax_in 48 13 = some (.invokevirtual 38, 3, 46, 0) := by decide +kernel
theorem j48_16 : ax_in 48 16 = some (.aload_n 0, 1, 0, 0) := by decide +kernel
theorem j48_17 : ax_in 48 17 = some (.getfield 20, 3, 5, 1) := by decide +kernel
theorem j48_20 : ax_in 48 20 = some (.invokevirtual 35, 3, 41, 0) := by decide +kernel
theorem j48_23 : ax_in 48 23 = some (.aload_n 0, 1, 0, 0) := by decide +kernel
theorem j48_24 : ax_in 48 24 = some (.getfield 23, 3, 5, 2) := by decide +kernel
theorem j48_27 : ax_in 48 27 = some (.invokevirtual 35, 3, 41, 0) := by decide +kernel
theorem j48_30 : ax_in 48 30 = some (.aload_n 0, 1, 0, 0) := by decide +kernel
theorem j48_31 : ax_in 48 31 = some (.getfield 26, 3, 5, 3) := by decide +kernel
theorem j48_34 : ax_in 48 34 = some (.invokevirtual 35, 3, 41, 0) := by decide +kernel
theorem j48_37 : ax_in 48 37 = some (.aload_n 0, 1, 0, 0) := by decide +kernel
theorem j48_38 : ax_in 48 38 = some (.getfield 29, 3, 5, 4) := by decide +kernel
theorem j48_41 : ax_in 48 41 = some (.invokevirtual 35, 3, 41, 0) := by decide +kernel
theorem j48_44 : ax_in 48 44 = some (.aload_n 0, 1, 0, 0) := by decide +kernel
theorem j48_45 : ax_in 48 45 = some (.getfield 32, 3, 5, 5) := by decide +kernel
theorem j48_48 : ax_in 48 48 = some (.invokevirtual 35, 3, 41, 0) := by decide +kernel
theorem j48_51 : ax_in 48 51 = some (.return_, 1, 0, 0) := by decide +kernel
theorem j49_0 : ax_in 49 0 = some (.aload_n 0, 1, 0, 0) := by decide +kernel
theorem j49_1 : ax_in 49 1 = some (.getfield 29, 3, 5, 4) := by decide +kernel
theorem j49_4 : ax_in 49 4 = some (.iconst 0, 1, 0, 0) := by decide +kernel
theorem j49_5 : ax_in 49 5 = some (.iload_n 1, 1, 0, 0) := by decide +kernel
theorem j49_6 : ax_in 49 6 = some (.invokevirtual 41, 3, 44, 0) := by decide +kernel
theorem j49_9 : ax_in 49 9 = some (.ireturn, 1, 0, 0) := by decide +kernel
theorem j50_0 : ax_in 50 0 = some (.aload_n 0, 1, 0, 0) := by decide +kernel
theorem j50_1 : ax_in 50 1 = some (.getfield 32, 3, 5, 5) := by decide +kernel
theorem j50_4 : ax_in 50 4 = some (.iconst 0, 1, 0, 0) := by decide +kernel
theorem j50_5 : ax_in 50 5 = some (.iload_n 1, 1, 0, 0) := by decide +kernel
theorem j50_6 : ax_in 50 6 = some (.invokevirtual 41, 3, 44, 0) := by decide +kernel
theorem j50_9 : ax_in 50 9 = some (.ireturn, 1, 0, 0) := by decide +kernel
theorem j51_0 : ax_in 51 0 = some (.aload_n 0, 1, 0, 0) := by decide +kernel
theorem j51_1 : ax_in 51 1 = some (.getfield 29, 3, 5, 4) := by decide +kernel
theorem j51_4 : ax_in 51 4 = some (.iconst 0, 1, 0, 0) := by decide +kernel
theorem j51_5 : ax_in 51 5 = some (.invokevirtual 45, 3, 42, 0) := by decide +kernel
theorem j51_8 : ax_in 51 8 = some (.istore_n 3, 1, 0, 0) := by decide +kernel
theorem j51_9 : ax_in 51 9 = some (.iconst 0, 1, 0, 0) := by decide +kernel
theorem j51_10 : ax_in 51 10 = some (.istore 4, 2, 0, 0) := by decide +kernel
theorem j51_12 : ax_in 51 12 = some (.iload 4, 2, 0, 0) := by decide +kernel
theorem j51_14 : ax_in 51 14 = some (.iload_n 3, 1, 0, 0) := by decide +kernel
theorem j51_15 : ax_in 51 15 = some (.if_icmp .ge 40, 3, 0, 0) := by decide +kernel
theorem j51_18 : ax_in 51 18 = some (.aload_n 0, 1, 0, 0) := by decide +kernel
theorem j51_19 : ax_in 51 19 = some (.getfield 29, 3, 5, 4) := by decide +kernel
theorem j51_22 : ax_in 51 22 = some (.iconst 0, 1, 0, 0) := by decide +kernel
theorem j51_23 : ax_in 51 23 = some (.iload 4, 2, 0, 0) := by decide +kernel
theorem j51_25 : ax_in 51 25 = some (.invokevirtual 41, 3, 44, 0) := by decide +kernel
theorem j51_28 : ax_in 51 28 = some (.iload_n 1, 1, 0, 0) := by decide +kernel
theorem j51_29 : ax_in 51 29 = some (.if_icmp .ne 20, 3, 0, 0) := by decide +kernel
theorem j51_32 : ax_in 51 32 = some (.aload_n 0, 1, 0, 0) := by decide +kernel
theorem j51_33 : ax_in 51 33 = some (.getfield 32, 3, 5, 5) := by decide +kernel
theorem j51_36 : ax_in 51 36 = some (.iconst 0, 1, 0, 0) := by decide +kernel
theorem j51_37 : ax_in 51 37 = some (.iload 4, 2, 0, 0) := by decide +kernel
theorem j51_39 : ax_in 51 39 = some (.invokevirtual 41, 3, 44, 0) := by decide +kernel
theorem j51_42 : ax_in 51 42 = some (.iload_n 2, 1, 0, 0) := by decide +kernel
theorem j51_43 : ax_in 51 43 = some (.if_icmp .ne 6, 3, 0, 0) := by decide +kernel
theorem j51_46 : ax_in 51 46 = some (.iload 4, 2, 0, 0) := by decide +kernel
theorem j51_48 : ax_in 51 48 = some (.ireturn, 1, 0, 0) := by decide +kernel
theorem j51_49 : ax_in 51 49 = some (.iinc 4 1, 3, 0, 0) := by decide +kernel
theorem j51_52 : ax_in 51 52 = some (.goto (-40), 3, 0, 0) := by decide +kernel
theorem j51_55 : ax_in 51 55 = some (.iconst (-1), 1, 0, 0) := by decide +kernel
theorem j51_56 : ax_in 51 56 = some (.ireturn, 1, 0, 0) := by decide +kernel
theorem j52_0 : ax_in 52 0 = some (.aload_n 0, 1, 0, 0) := by decide +kernel
theorem j52_1 : ax_in 52 1 = some (.getfield 14, 3, 5, 0) := by decide +kernel
theorem j52_4 : ax_in 52 4 = some (.iconst 0, 1, 0, 0) := by decide +kernel
theorem j52_5 : ax_in 52 5 = some (.invokevirtual 49, 3, 43, 0) := by decide +kernel
theorem j52_8 : ax_in 52 8 = some (.ifCond .eq 5, 3, 0, 0) := by decide +kernel
theorem j52_11 : ax_in 52 11 = some (.iconst (-1), 1, 0, 0) := by decide +kernel
theorem j52_12 : ax_in 52 12 = some (.ireturn, 1, 0, 0) := by decide +kernel
theorem j52_13 : ax_in 52 13 = some (.aload_n 0, 1, 0, 0) := by decide +kernel
theorem j52_14 : ax_in 52 14 = some (.getfield 14, 3, 5, 0) := by decide +kernel
theorem j52_17 : ax_in 52 17 = some (.iconst 0, 1, 0, 0) := by decide +kernel
theorem j52_18 : ax_in 52 18 = some (.iload_n 1, 1, 0, 0) := by decide +kernel
theorem j52_19 : ax_in 52 19 = some (.invokevirtual 38, 3, 46, 0) := by decide +kernel
theorem j52_22 : ax_in 52 22 = some (.aload_n 0, 1, 0, 0) := by decide +kernel
theorem j52_23 : ax_in 52 23 = some (.getfield 14, 3, 5, 0) := by decide +kernel
theorem j52_26 : ax_in 52 26 = some (.iconst 0, 1, 0, 0) := by decide +kernel
theorem j52_27 : ax_in 52 27 = some (.invokevirtual 45, 3, 42, 0) := by decide +kernel
theorem j52_30 : ax_in 52 30 = some (.iconst 1, 1, 0, 0) := by decide +kernel
theorem j52_31 : ax_in 52 31 = some (.isub, 1, 0, 0) := by decide +kernel
theorem j52_32 : ax_in 52 32 = some (.ireturn, 1, 0, 0) := by decide +kernel
theorem j53_0 : ax_in 53 0 = some (.aload_n 0, 1, 0, 0) := by decide +kernel
theorem j53_1 : ax_in 53 1 = some (.iload_n 1, 1, 0, 0) := by decide +kernel
theorem j53_2 : ax_in 53 2 = some (.iload_n 2, 1, 0, 0) := by decide +kernel
theorem j53_3 : ax_in 53 3 = some (.invokevirtual 53, 3, 51, 0) := by decide +kernel
theorem j53_6 : ax_in 53 6 = some (.istore_n 3, 1, 0, 0) := by decide +kernel
theorem j53_7 : ax_in 53 7 = some (.iload_n 3, 1, 0, 0) := by decide +kernel
theorem j53_8 : ax_in 53 8 = some (.iconst (-1), 1, 0, 0) := by decide +kernel
theorem j53_9 : ax_in 53 9 = some (.if_icmp .ne 14, 3, 0, 0) := by decide +kernel
theorem j53_12 : ax_in 53 12 = some (.aload_n 0, 1, 0, 0) := by decide +kernel
theorem j53_13 : ax_in 53 13 = some (.getfield 29, 3, 5, 4) := by decide +kernel
theorem j53_16 : ax_in 53 16 = some (.iconst 0, 1, 0, 0) := by decide +kernel
theorem j53_17 : ax_in 53 17 = some (.invokevirtual 49, 3, 43, 0) := by decide +kernel
theorem j53_20 : ax_in 53 20 = some (.ifCond .eq 5, 3, 0, 0) := by decide +kernel
theorem j53_23 : ax_in 53 23 = some (.iload_n 3, 1, 0, 0) := by decide +kernel
theorem j53_24 : ax_in 53 24 = some (.ireturn, 1, 0, 0) := by decide +kernel
theorem j53_25 : ax_in 53 25 = some (.aload_n 0, 1, 0, 0) := by decide +kernel
theorem j53_26 : ax_in 53 26 = some (.getfield 29, 3, 5, 4) := by decide +kernel
theorem j53_29 : ax_in 53 29 = some (.iconst 0, 1, 0, 0) := by decide +kernel
theorem j53_30 : ax_in 53 30 = some (.iload_n 1, 1, 0, 0) := by decide +kernel
theorem j53_31 : ax_in 53 31 = some (.invokevirtual 38, 3, 46, 0) := by decide +kernel
theorem j53_34 : ax_in 53 34 = some (.aload_n 0, 1, 0, 0) := by decide +kernel
theorem j53_35 : ax_in 53 35 = some (.getfield 32, 3, 5, 5) := by decide +kernel
theorem j53_38 : ax_in 53 38 = some (.iconst 0, 1, 0, 0) := by decide +kernel
theorem j53_39 : ax_in 53 39 = some (.iload_n 2, 1, 0, 0) := by decide +kernel
theorem j53_40 : ax_in 53 40 = some (.invokevirtual 38, 3, 46, 0) := by decide +kernel
theorem j53_43 : ax_in 53 43 = some (.aload_n 0, 1, 0, 0) := by decide +kernel
theorem j53_44 : ax_in 53 44 = some (.getfield 29, 3, 5, 4) := by decide +kernel
theorem j53_47 : ax_in 53 47 = some (.iconst 0, 1, 0, 0) := by decide +kernel
theorem j53_48 : ax_in 53 48 = some (.invokevirtual 45, 3, 42, 0) := by decide +kernel
theorem j53_51 : ax_in 53 51 = some (.iconst 1, 1, 0, 0) := by decide +kernel
theorem j53_52 : ax_in 53 52 = some (.isub, 1, 0, 0) := by decide +kernel
theorem j53_53 : ax_in 53 53 = some (.ireturn, 1, 0, 0) := by decide +kernel
theorem j54_0 : ax_in 54 0 = some (.aload_n 0, 1, 0, 0) := by decide +kernel
theorem j54_1 : ax_in 54 1 = some (.iload_n 1, 1, 0, 0) := by decide +kernel
theorem j54_2 : ax_in 54 2 = some (.iload_n 2, 1, 0, 0) := by decide +kernel
theorem j54_3 : ax_in 54 3 = some (.invokevirtual 53, 3, 51, 0) := by decide +kernel
theorem j54_6 : ax_in 54 6 = some (.iconst (-1), 1, 0, 0) := by decide +kernel
theorem j54_7 : ax_in 54 7 = some (.if_icmp .eq 5, 3, 0, 0) := by decide +kernel
theorem j54_10 : ax_in 54 10 = some (.iconst 1, 1, 0, 0) := by decide +kernel
theorem j54_11 : ax_in 54 11 = some (.ireturn, 1, 0, 0) := by decide +kernel
theorem j54_12 : ax_in 54 12 = some (.aload_n 0, 1, 0, 0) := by decide +kernel
theorem j54_13 : ax_in 54 13 = some (.getfield 29, 3, 5, 4) := by decide +kernel
theorem j54_16 : ax_in 54 16 = some (.iconst 0, 1, 0, 0) := by decide +kernel
theorem j54_17 : ax_in 54 17 = some (.invokevirtual 49, 3, 43, 0) := by decide +kernel
theorem j54_20 : ax_in 54 20 = some (.ifCond .eq 5, 3, 0, 0) := by decide +kernel
theorem j54_23 : ax_in 54 23 = some (.iconst 0, 1, 0, 0) := by decide +kernel
theorem j54_24 : ax_in 54 24 = some (.ireturn, 1, 0, 0) := by decide +kernel
theorem j54_25 : ax_in 54 25 = some (.aload_n 0, 1, 0, 0) := by decide +kernel
theorem j54_26 : ax_in 54 26 = some (.getfield 14, 3, 5, 0) := by decide +kernel
theorem j54_29 : ax_in 54 29 = some (.iconst 0, 1, 0, 0) := by decide +kernel
theorem j54_30 : ax_in 54 30 = some (.iload_n 1, 1, 0, 0) := by decide +kernel
theorem j54_31 : ax_in 54 31 = some (.invokevirtual 56, 3, 45, 0) := by decide +kernel
theorem j54_34 : ax_in 54 34 = some (.istore_n 3, 1, 0, 0) := by decide +kernel
theorem j54_35 : ax_in 54 35 = some (.iload_n 3, 1, 0, 0) := by decide +kernel
theorem j54_36 : ax_in 54 36 = some (.iconst (-1), 1, 0, 0) := by decide +kernel
theorem j54_37 : ax_in 54 37 = some (.if_icmp .ne 22, 3, 0, 0) := by decide +kernel
theorem j54_40 : ax_in 54 40 = some (.aload_n 0, 1, 0, 0) := by decide +kernel
theorem j54_41 : ax_in 54 41 = some (.getfield 14, 3, 5, 0) := by decide +kernel
theorem j54_44 : ax_in 54 44 = some (.iconst 0, 1, 0, 0) := by decide +kernel
theorem j54_45 : ax_in 54 45 = some (.invokevirtual 49, 3, 43, 0) := by decide +kernel
theorem j54_48 : ax_in 54 48 = some (.ifCond .ne 7, 3, 0, 0) := by decide +kernel
theorem j54_51 : ax_in 54 51 = some (.iconst 1, 1, 0, 0) := by decide +kernel
theorem j54_52 : ax_in 54 52 = some (.goto 23, 3, 0, 0) := by decide +kernel
theorem j54_55 : ax_in 54 55 = some (.iconst 0, 1, 0, 0) := by decide +kernel
theorem j54_56 : ax_in 54 56 = some (.goto 19, 3, 0, 0) := by decide +kernel
theorem j54_59 : ax_in 54 59 = some (.aload_n 0, 1, 0, 0) := by decide +kernel
theorem j54_60 : ax_in 54 60 = some (.getfield 20, 3, 5, 1) := by decide +kernel
theorem j54_63 : ax_in 54 63 = some (.iload_n 3, 1, 0, 0) := by decide +kernel
theorem j54_64 : ax_in 54 64 = some (.invokevirtual 49, 3, 43, 0) := by decide +kernel
theorem j54_67 : ax_in 54 67 = some (.ifCond .ne 7, 3, 0, 0) := by decide +kernel
theorem j54_70 : ax_in 54 70 = some (.iconst 1, 1, 0, 0) := by decide +kernel
theorem j54_71 : ax_in 54 71 = some (.goto 4, 3, 0, 0) := by decide +kernel
theorem j54_74 : ax_in 54 74 = some (.iconst 0, 1, 0, 0) := by decide +kernel
theorem j54_75 : ax_in 54 75 = some (.ireturn, 1, 0, 0) := by decide +kernel
theorem j55_0 : ax_in 55 0 = some (.iload_n 2, 1, 0, 0) := by decide +kernel
theorem j55_1 : ax_in 55 1 = some (.ifCond .eq 21, 3, 0, 0) := by decide +kernel
theorem j55_4 : ax_in 55 4 = some (.aload_n 0, 1, 0, 0) := by decide +kernel
theorem j55_5 : ax_in 55 5 = some (.getfield 23, 3, 5, 2) := by decide +kernel
theorem j55_8 : ax_in 55 8 = some (.iload_n 1, 1, 0, 0) := by decide +kernel
theorem j55_9 : ax_in 55 9 = some (.iload_n 2, 1, 0, 0) := by decide +kernel
theorem j55_10 : ax_in 55 10 = some (.invokevirtual 38, 3, 46, 0) := by decide +kernel
theorem j55_13 : ax_in 55 13 = some (.aload_n 0, 1, 0, 0) := by decide +kernel
theorem j55_14 : ax_in 55 14 = some (.getfield 26, 3, 5, 3) := by decide +kernel
theorem j55_17 : ax_in 55 17 = some (.iconst 0, 1, 0, 0) := by decide +kernel
theorem j55_18 : ax_in 55 18 = some (.iload_n 2, 1, 0, 0) := by decide +kernel
theorem j55_19 : ax_in 55 19 = some (.invokevirtual 38, 3, 46, 0) := by decide +kernel
theorem j55_22 : ax_in 55 22 = some (.return_, 1, 0, 0) := by decide +kernel
theorem j56_0 : ax_in 56 0 = some (.aload_n 0, 1, 0, 0) := by decide +kernel
theorem j56_1 : ax_in 56 1 = some (.getfield 12, 3, 6, 0) := by decide +kernel
theorem j56_4 : ax_in 56 4 = some (.iconst 0, 1, 0, 0) := by decide +kernel
theorem j56_5 : ax_in 56 5 = some (.putfield 32, 3, 0, 1) := by decide +kernel
theorem j56_8 : ax_in 56 8 = some (.aload_n 0, 1, 0, 0) := by decide +kernel
theorem j56_9 : ax_in 56 9 = some (.getfield 21, 3, 6, 1) := by decide +kernel
theorem j56_12 : ax_in 56 12 = some (.invokevirtual 36, 3, 48, 0) := by decide +kernel
theorem j56_15 : ax_in 56 15 = some (.aload_n 0, 1, 0, 0) := by decide +kernel
theorem j56_16 : ax_in 56 16 = some (.getfield 28, 3, 6, 2) := by decide +kernel
theorem j56_19 : ax_in 56 19 = some (.invokevirtual 39, 3, 7, 0) := by decide +kernel
theorem j56_22 : ax_in 56 22 = some (.return_, 1, 0, 0) := by decide +kernel
theorem j57_0 : ax_in 57 0 = some (.aload_n 0, 1, 0, 0) := by decide +kernel
theorem j57_1 : ax_in 57 1 = some (.getfield 28, 3, 6, 2) := by decide +kernel
theorem j57_4 : ax_in 57 4 = some (.invokevirtual 40, 3, 10, 0) := by decide +kernel
theorem j57_7 : ax_in 57 7 = some (.ireturn, 1, 0, 0) := by decide +kernel
theorem j58_0 : ax_in 58 0 = some (.aload_n 0, 1, 0, 0) := by decide +kernel
theorem j58_1 : ax_in 58 1 = some (.getfield 28, 3, 6, 2) := by decide +kernel
theorem j58_4 : ax_in 58 4 = some (.invokevirtual 44, 3, 13, 0) := by decide +kernel
theorem j58_7 : ax_in 58 7 = some (.ireturn, 1, 0, 0) := by decide +kernel
theorem j59_0 : ax_in 59 0 = some (.aload_n 0, 1, 0, 0) := by decide +kernel
theorem j59_1 : ax_in 59 1 = some (.getfield 28, 3, 6, 2) := by decide +kernel
theorem j59_4 : ax_in 59 4 = some (.invokevirtual 47, 3, 8, 0) := by decide +kernel
theorem j59_7 : ax_in 59 7 = some (.ireturn, 1, 0, 0) := by decide +kernel
theorem j60_0 : ax_in 60 0 = some (.aload_n 0, 1, 0, 0) := by decide +kernel
theorem j60_1 : ax_in 60 1 = some (.iload_n 1, 1, 0, 0) := by decide +kernel
theorem j60_2 : ax_in 60 2 = some (.iload_n 2, 1, 0, 0) := by decide +kernel
theorem j60_3 : ax_in 60 3 = some (.iload_n 3, 1, 0, 0) := by decide +kernel
theorem j60_4 : ax_in 60 4 = some (.invokevirtual 51, 3, 61, 0) := by decide +kernel
theorem j60_7 : ax_in 60 7 = some (.ifCond .ne 5, 3, 0, 0) := by decide +kernel
theorem j60_10 : ax_in 60 10 = some (.iconst 0, 1, 0, 0) := by decide +kernel
theorem j60_11 : ax_in 60 11 = some (.ireturn, 1, 0, 0) := by decide +kernel
theorem j60_12 : ax_in 60 12 = some (.iload_n 1, 1, 0, 0) := by decide +kernel
theorem j60_13 : ax_in 60 13 = some (.tableswitch 107 1 3 #[27, 63, 79], 27, 0, 0) := by decide +kernel
theorem j60_40 : ax_in 60 40 = some (.aload_n 0, 1, 0, 0) := by decide +kernel
theorem j60_41 : ax_in 60 41 = some (.getfield 28, 3, 6, 2) := by decide +kernel
theorem j60_44 : ax_in 60 44 = some (.aload_n 0, 1, 0, 0) := by decide +kernel
theorem j60_45 : ax_in 60 45 = some (.getfield 28, 3, 6, 2) := by decide +kernel
theorem j60_48 : ax_in 60 48 = some (.invokevirtual 55, 3, 9, 0) := by decide +kernel
theorem j60_51 : ax_in 60 51 = some (.ifCond .eq 13, 3, 0, 0) := by decide +kernel
theorem j60_54 : ax_in 60 54 = some (.aload_n 0, 1, 0, 0) := by decide +kernel
theorem j60_55 : ax_in 60 55 = some (.iconst 1, 1, 0, 0) := by decide +kernel
theorem j60_56 : ax_in 60 56 = some (.iload_n 2, 1, 0, 0) := by decide +kernel
theorem j60_57 : ax_in 60 57 = some (.iload_n 3, 1, 0, 0) := by decide +kernel
theorem j60_58 : ax_in 60 58 = some (.invokevirtual 58, 3, 63, 0) := by decide +kernel
theorem j60_61 : ax_in 60 61 = some (.goto 9, 3, 0, 0) := by decide +kernel
theorem j60_64 : ax_in 60 64 = some (.aload_n 0, 1, 0, 0) := by decide +kernel
theorem j60_65 : ax_in 60 65 = some (.iload_n 2, 1, 0, 0) := by decide +kernel
theorem j60_66 : ax_in 60 66 = some (.iload_n 3, 1, 0, 0) := by decide +kernel
theorem j60_67 : ax_in 60 67 = some (.invokevirtual 62, 3, 66, 0) := by decide +kernel
theorem j60_70 : ax_in 60 70 = some (.invokevirtual 66, 3, 15, 0) := by decide +kernel
theorem j60_73 : ax_in 60 73 = some (.goto 58, 3, 0, 0) := by decide +kernel
theorem j60_76 : ax_in 60 76 = some (.aload_n 0, 1, 0, 0) := by decide +kernel
theorem j60_77 : ax_in 60 77 = some (.aload_n 0, 1, 0, 0) := by decide +kernel
theorem j60_78 : ax_in 60 78 = some (.iconst 2, 1, 0, 0) := by decide +kernel
theorem j60_79 : ax_in 60 79 = some (.iload_n 2, 1, 0, 0) := by decide +kernel
theorem j60_80 : ax_in 60 80 = some (.iload_n 3, 1, 0, 0) := by decide +kernel
theorem j60_81 : ax_in 60 81 = some (.invokevirtual 58, 3, 63, 0) := by decide +kernel
theorem j60_84 : ax_in 60 84 = some (.iload 4, 2, 0, 0) := by decide +kernel
theorem j60_86 : ax_in 60 86 = some (.invokevirtual 70, 3, 69, 0) := by decide +kernel
theorem j60_89 : ax_in 60 89 = some (.goto 42, 3, 0, 0) := by decide +kernel
theorem j60_92 : ax_in 60 92 = some (.aload_n 0, 1, 0, 0) := by decide +kernel
theorem j60_93 : ax_in 60 93 = some (.iconst 3, 1, 0, 0) := by decide +kernel
theorem j60_94 : ax_in 60 94 = some (.invokevirtual 74, 3, 64, 0) := by decide +kernel
theorem j60_97 : ax_in 60 97 = some (.aload_n 0, 1, 0, 0) := by decide +kernel
theorem j60_98 : ax_in 60 98 = some (.getfield 28, 3, 6, 2) := by decide +kernel
theorem j60_101 : ax_in 60 101 = some (.invokevirtual 77, 3, 14, 0) := by decide +kernel
theorem j60_104 : ax_in 60 104 = some (.aload_n 0, 1, 0, 0) := by decide +kernel
theorem j60_105 : ax_in 60 105 = some (.aload_n 0, 1, 0, 0) := by decide +kernel
theorem j60_106 : ax_in 60 106 = some (.getfield 28, 3, 6, 2) := by decide +kernel
theorem j60_109 : ax_in 60 109 = some (.invokevirtual 80, 3, 12, 0) := by decide +kernel
theorem j60_112 : ax_in 60 112 = some (.iload 4, 2, 0, 0) := by decide +kernel
theorem j60_114 : ax_in 60 114 = some (.invokevirtual 70, 3, 69, 0) := by decide +kernel
theorem j60_117 : ax_in 60 117 = some (.goto 14, 3, 0, 0) := by decide +kernel
theorem j60_120 : ax_in 60 120 = some (.aload_n 0, 1, 0, 0) := by decide +kernel
theorem j60_121 : ax_in 60 121 = some (.invokevirtual 83, 3, 62, 0) := by decide +kernel
theorem j60_124 : ax_in 60 124 = some (.aload_n 0, 1, 0, 0) := by decide +kernel
theorem j60_125 : ax_in 60 125 = some (.getfield 28, 3, 6, 2) := by decide +kernel
theorem j60_128 : ax_in 60 128 = some (.invokevirtual 86, 3, 16, 0) := by decide +kernel
theorem j60_131 : ax_in 60 131 = some (.iconst 1, 1, 0, 0) := by decide +kernel
theorem j60_132 : ax_in 60 132 = some (.ireturn, 1, 0, 0) := by decide +kernel
theorem j61_0 : ax_in 61 0 = some (.aload_n 0, 1, 0, 0) := by decide +kernel
theorem j61_1 : ax_in 61 1 = some (.getfield 12, 3, 6, 0) := by decide +kernel
theorem j61_4 : ax_in 61 4 = some (.getfield 32, 3, 0, 1) := by decide +kernel
theorem j61_7 : ax_in 61 7 = some (.sipush 3800, 3, 0, 0) := by decide +kernel
theorem j61_10 : ax_in 61 10 = some (.if_icmp .gt 18, 3, 0, 0) := by decide +kernel
theorem j61_13 : ax_in 61 13 = some (.iload_n 1, 1, 0, 0) := by decide +kernel
theorem j61_14 : ax_in 61 14 = some (.iconst 1, 1, 0, 0) := by decide +kernel
theorem j61_15 : ax_in 61 15 = some (.if_icmp .ne 15, 3, 0, 0) := by decide +kernel
theorem j61_18 : ax_in 61 18 = some (.aload_n 0, 1, 0, 0) := by decide +kernel
theorem j61_19 : ax_in 61 19 = some (.getfield 28, 3, 6, 2) := by decide +kernel
theorem j61_22 : ax_in 61 22 = some (.invokevirtual 89, 3, 11, 0) := by decide +kernel
theorem j61_25 : ax_in 61 25 = some (.ifCond .eq 5, 3, 0, 0) := by decide +kernel
theorem j61_28 : ax_in 61 28 = some (.iconst 0, 1, 0, 0) := by decide +kernel
theorem j61_29 : ax_in 61 29 = some (.ireturn, 1, 0, 0) := by decide +kernel
theorem j61_30 : ax_in 61 30 = some (.iload_n 1, 1, 0, 0) := by decide +kernel
theorem j61_31 : ax_in 61 31 = some (.invokestatic 92, 3, 81, 2) := by decide +kernel
theorem j61_34 : ax_in 61 34 = some (.ifCond .eq 15, 3, 0, 0) := by decide +kernel
theorem j61_37 : ax_in 61 37 = some (.aload_n 0, 1, 0, 0) := by decide +kernel
theorem j61_38 : ax_in 61 38 = some (.getfield 21, 3, 6, 1) := by decide +kernel
theorem j61_41 : ax_in 61 41 = some (.iload_n 2, 1, 0, 0) := by decide +kernel
theorem j61_42 : ax_in 61 42 = some (.iload_n 3, 1, 0, 0) := by decide +kernel
theorem j61_43 : ax_in 61 43 = some (.invokevirtual 96, 3, 54, 0) := by decide +kernel
theorem j61_46 : ax_in 61 46 = some (.ifCond .eq 7, 3, 0, 0) := by decide +kernel
theorem j61_49 : ax_in 61 49 = some (.iconst 1, 1, 0, 0) := by decide +kernel
theorem j61_50 : ax_in 61 50 = some (.goto 4, 3, 0, 0) := by decide +kernel
theorem j61_53 : ax_in 61 53 = some (.iconst 0, 1, 0, 0) := by decide +kernel
theorem j61_54 : ax_in 61 54 = some (.ireturn, 1, 0, 0) := by decide +kernel
theorem j62_0 : ax_in 62 0 = some (.aload_n 0, 1, 0, 0) := by decide +kernel
theorem j62_1 : ax_in 62 1 = some (.getfield 28, 3, 6, 2) := by decide +kernel
theorem j62_4 : ax_in 62 4 = some (.invokevirtual 44, 3, 13, 0) := by decide +kernel
theorem j62_7 : ax_in 62 7 = some (.ifCond .eq 11, 3, 0, 0) := by decide +kernel
theorem j62_10 : ax_in 62 10 = some (.aload_n 0, 1, 0, 0) := by decide +kernel
theorem j62_11 : ax_in 62 11 = some (.iconst 4, 1, 0, 0) := by decide +kernel
theorem j62_12 : ax_in 62 12 = some (.invokevirtual 74, 3, 64, 0) := by decide +kernel
theorem j62_15 : ax_in 62 15 = some (.goto 21, 3, 0, 0) := by decide +kernel
theorem j62_18 : ax_in 62 18 = some (.aload_n 0, 1, 0, 0) := by decide +kernel
theorem j62_19 : ax_in 62 19 = some (.aload_n 0, 1, 0, 0) := by decide +kernel
theorem j62_20 : ax_in 62 20 = some (.getfield 28, 3, 6, 2) := by decide +kernel
theorem j62_23 : ax_in 62 23 = some (.invokevirtual 100, 3, 17, 0) := by decide +kernel
theorem j62_26 : ax_in 62 26 = some (.aload_n 0, 1, 0, 0) := by decide +kernel
theorem j62_27 : ax_in 62 27 = some (.getfield 28, 3, 6, 2) := by decide +kernel
theorem j62_30 : ax_in 62 30 = some (.invokevirtual 103, 3, 18, 0) := by decide +kernel
theorem j62_33 : ax_in 62 33 = some (.invokevirtual 106, 3, 72, 0) := by decide +kernel
theorem j62_36 : ax_in 62 36 = some (.return_, 1, 0, 0) := by decide +kernel
theorem j63_0 : ax_in 63 0 = some (.aload_n 0, 1, 0, 0) := by decide +kernel
theorem j63_1 : ax_in 63 1 = some (.getfield 21, 3, 6, 1) := by decide +kernel
theorem j63_4 : ax_in 63 4 = some (.iload_n 2, 1, 0, 0) := by decide +kernel
theorem j63_5 : ax_in 63 5 = some (.iload_n 3, 1, 0, 0) := by decide +kernel
theorem j63_6 : ax_in 63 6 = some (.invokevirtual 109, 3, 51, 0) := by decide +kernel
theorem j63_9 : ax_in 63 9 = some (.istore 4, 2, 0, 0) := by decide +kernel
theorem j63_11 : ax_in 63 11 = some (.iload 4, 2, 0, 0) := by decide +kernel
theorem j63_13 : ax_in 63 13 = some (.iconst (-1), 1, 0, 0) := by decide +kernel
theorem j63_14 : ax_in 63 14 = some (.if_icmp .ne 7, 3, 0, 0) := by decide +kernel
theorem j63_17 : ax_in 63 17 = some (.iconst (-1), 1, 0, 0) := by decide +kernel
theorem j63_18 : ax_in 63 18 = some (.goto 16, 3, 0, 0) := by decide +kernel
theorem j63_21 : ax_in 63 21 = some (.aload_n 0, 1, 0, 0) := by decide +kernel
theorem j63_22 : ax_in 63 22 = some (.getfield 28, 3, 6, 2) := by decide +kernel
theorem j63_25 : ax_in 63 25 = some (.iload_n 1, 1, 0, 0) := by decide +kernel
theorem j63_26 : ax_in 63 26 = some (.iload 4, 2, 0, 0) := by decide +kernel
theorem j63_28 : ax_in 63 28 = some (.invokestatic 112, 3, 82, 2) := by decide +kernel
theorem j63_31 : ax_in 63 31 = some (.invokevirtual 115, 3, 20, 0) := by decide +kernel
theorem j63_34 : ax_in 63 34 = some (.istore 5, 2, 0, 0) := by decide +kernel
theorem j63_36 : ax_in 63 36 = some (.iload 5, 2, 0, 0) := by decide +kernel
theorem j63_38 : ax_in 63 38 = some (.iconst (-1), 1, 0, 0) := by decide +kernel
theorem j63_39 : ax_in 63 39 = some (.if_icmp .eq 19, 3, 0, 0) := by decide +kernel
theorem j63_42 : ax_in 63 42 = some (.aload_n 0, 1, 0, 0) := by decide +kernel
theorem j63_43 : ax_in 63 43 = some (.iload 5, 2, 0, 0) := by decide +kernel
theorem j63_45 : ax_in 63 45 = some (.aload_n 0, 1, 0, 0) := by decide +kernel
theorem j63_46 : ax_in 63 46 = some (.getfield 28, 3, 6, 2) := by decide +kernel
theorem j63_49 : ax_in 63 49 = some (.invokevirtual 103, 3, 18, 0) := by decide +kernel
theorem j63_52 : ax_in 63 52 = some (.invokevirtual 106, 3, 72, 0) := by decide +kernel
theorem j63_55 : ax_in 63 55 = some (.iload 4, 2, 0, 0) := by decide +kernel
theorem j63_57 : ax_in 63 57 = some (.ireturn, 1, 0, 0) := by decide +kernel
theorem j63_58 : ax_in 63 58 = some (.aload_n 0, 1, 0, 0) := by decide +kernel
theorem j63_59 : ax_in 63 59 = some (.iload_n 1, 1, 0, 0) := by decide +kernel
theorem j63_60 : ax_in 63 60 = some (.invokevirtual 119, 3, 65, 0) := by decide +kernel
theorem j63_63 : ax_in 63 63 = some (.aload_n 0, 1, 0, 0) := by decide +kernel
theorem j63_64 : ax_in 63 64 = some (.iload_n 2, 1, 0, 0) := by decide +kernel
theorem j63_65 : ax_in 63 65 = some (.iload_n 3, 1, 0, 0) := by decide +kernel
theorem j63_66 : ax_in 63 66 = some (.invokevirtual 62, 3, 66, 0) := by decide +kernel
theorem j63_69 : ax_in 63 69 = some (.istore 6, 2, 0, 0) := by decide +kernel
theorem j63_71 : ax_in 63 71 = some (.aload_n 0, 1, 0, 0) := by decide +kernel
theorem j63_72 : ax_in 63 72 = some (.getfield 28, 3, 6, 2) := by decide +kernel
theorem j63_75 : ax_in 63 75 = some (.iload_n 1, 1, 0, 0) := by decide +kernel
theorem j63_76 : ax_in 63 76 = some (.iload 6, 2, 0, 0) := by decide +kernel
theorem j63_78 : ax_in 63 78 = some (.invokestatic 112, 3, 82, 2) := by decide +kernel
theorem j63_81 : ax_in 63 81 = some (.invokevirtual 122, 3, 21, 0) := by decide +kernel
theorem j63_84 : ax_in 63 84 = some (.iload 6, 2, 0, 0) := by decide +kernel
theorem j63_86 : ax_in 63 86 = some (.ireturn, 1, 0, 0) := by decide +kernel
theorem j64_0 : ax_in 64 0 = some (.iload_n 1, 1, 0, 0) := by decide +kernel
theorem j64_1 : ax_in 64 1 = some (.iconst 0, 1, 0, 0) := by decide +kernel
theorem j64_2 : ax_in 64 2 = some (.invokestatic 112, 3, 82, 2) := by decide +kernel
theorem j64_5 : ax_in 64 5 = some (.istore_n 2, 1, 0, 0) := by decide +kernel
theorem j64_6 : ax_in 64 6 = some (.aload_n 0, 1, 0, 0) := by decide +kernel
theorem j64_7 : ax_in 64 7 = some (.getfield 28, 3, 6, 2) := by decide +kernel
theorem j64_10 : ax_in 64 10 = some (.iload_n 2, 1, 0, 0) := by decide +kernel
theorem j64_11 : ax_in 64 11 = some (.invokevirtual 115, 3, 20, 0) := by decide +kernel
theorem j64_14 : ax_in 64 14 = some (.istore_n 3, 1, 0, 0) := by decide +kernel
theorem j64_15 : ax_in 64 15 = some (.iload_n 3, 1, 0, 0) := by decide +kernel
theorem j64_16 : ax_in 64 16 = some (.iconst (-1), 1, 0, 0) := by decide +kernel
theorem j64_17 : ax_in 64 17 = some (.if_icmp .eq 16, 3, 0, 0) := by decide +kernel
theorem j64_20 : ax_in 64 20 = some (.aload_n 0, 1, 0, 0) := by decide +kernel
theorem j64_21 : ax_in 64 21 = some (.iload_n 3, 1, 0, 0) := by decide +kernel
theorem j64_22 : ax_in 64 22 = some (.aload_n 0, 1, 0, 0) := by decide +kernel
theorem j64_23 : ax_in 64 23 = some (.getfield 28, 3, 6, 2) := by decide +kernel
theorem j64_26 : ax_in 64 26 = some (.invokevirtual 103, 3, 18, 0) := by decide +kernel
theorem j64_29 : ax_in 64 29 = some (.invokevirtual 106, 3, 72, 0) := by decide +kernel
theorem j64_32 : ax_in 64 32 = some (.return_, 1, 0, 0) := by decide +kernel
theorem j64_33 : ax_in 64 33 = some (.aload_n 0, 1, 0, 0) := by decide +kernel
theorem j64_34 : ax_in 64 34 = some (.iload_n 1, 1, 0, 0) := by decide +kernel
theorem j64_35 : ax_in 64 35 = some (.invokevirtual 119, 3, 65, 0) := by decide +kernel
theorem j64_38 : ax_in 64 38 = some (.aload_n 0, 1, 0, 0) := by decide +kernel
theorem j64_39 : ax_in 64 39 = some (.getfield 28, 3, 6, 2) := by decide +kernel
theorem j64_42 : ax_in 64 42 = some (.iload_n 2, 1, 0, 0) := by decide +kernel
theorem j64_43 : ax_in 64 43 = some (.invokevirtual 122, 3, 21, 0) := by decide +kernel
theorem j64_46 : ax_in 64 46 = some (.return_, 1, 0, 0) := by decide +kernel
theorem j65_0 : ax_in 65 0 = some (.aload_n 0, 1, 0, 0) := by decide +kernel
theorem j65_1 : ax_in 65 1 = some (.aload_n 0, 1, 0, 0) := by decide +kernel
theorem j65_2 : ax_in 65 2 = some (.getfield 28, 3, 6, 2) := by decide +kernel
theorem j65_5 : ax_in 65 5 = some (.invokevirtual 103, 3, 18, 0) := by decide +kernel
theorem j65_8 : ax_in 65 8 = some (.iconst 1, 1, 0, 0) := by decide +kernel
theorem j65_9 : ax_in 65 9 = some (.isub, 1, 0, 0) := by decide +kernel
theorem j65_10 : ax_in 65 10 = some (.aload_n 0, 1, 0, 0) := by decide +kernel
theorem j65_11 : ax_in 65 11 = some (.getfield 28, 3, 6, 2) := by decide +kernel
theorem j65_14 : ax_in 65 14 = some (.invokevirtual 103, 3, 18, 0) := by decide +kernel
theorem j65_17 : ax_in 65 17 = some (.invokevirtual 106, 3, 72, 0) := by decide +kernel
theorem j65_20 : ax_in 65 20 = some (.aload_n 0, 1, 0, 0) := by decide +kernel
theorem j65_21 : ax_in 65 21 = some (.getfield 28, 3, 6, 2) := by decide +kernel
theorem j65_24 : ax_in 65 24 = some (.invokevirtual 44, 3, 13, 0) := by decide +kernel
theorem j65_27 : ax_in 65 27 = some (.ifCond .ne 19, 3, 0, 0) := by decide +kernel
theorem j65_30 : ax_in 65 30 = some (.aload_n 0, 1, 0, 0) := by decide +kernel
theorem j65_31 : ax_in 65 31 = some (.iload_n 1, 1, 0, 0) := by decide +kernel
theorem j65_32 : ax_in 65 32 = some (.iconst 1, 1, 0, 0) := by decide +kernel
theorem j65_33 : ax_in 65 33 = some (.if_icmp .ne 7, 3, 0, 0) := by decide +kernel
theorem j65_36 : ax_in 65 36 = some (.iconst 0, 1, 0, 0) := by decide +kernel
theorem j65_37 : ax_in 65 37 = some (.goto 4, 3, 0, 0) := by decide +kernel
theorem j65_40 : ax_in 65 40 = some (.iconst 1, 1, 0, 0) := by decide +kernel
theorem j65_41 : ax_in 65 41 = some (.iconst 2, 1, 0, 0) := by decide +kernel
theorem j65_42 : ax_in 65 42 = some (.invokevirtual 106, 3, 72, 0) := by decide +kernel
theorem j65_45 : ax_in 65 45 = some (.return_, 1, 0, 0) := by decide +kernel
theorem j65_46 : ax_in 65 46 = some (.iload_n 1, 1, 0, 0) := by decide +kernel
theorem j65_47 : ax_in 65 47 = some (.tableswitch 52 1 3 #[34, 25, 43], 25, 0, 0) := by decide +kernel
theorem j65_72 : ax_in 65 72 = some (.aload_n 0, 1, 0, 0) := by decide +kernel
theorem j65_73 : ax_in 65 73 = some (.iconst 1, 1, 0, 0) := by decide +kernel
theorem j65_74 : ax_in 65 74 = some (.iconst 4, 1, 0, 0) := by decide +kernel
theorem j65_75 : ax_in 65 75 = some (.invokevirtual 106, 3, 72, 0) := by decide +kernel
theorem j65_78 : ax_in 65 78 = some (.goto 27, 3, 0, 0) := by decide +kernel
theorem j65_81 : ax_in 65 81 = some (.aload_n 0, 1, 0, 0) := by decide +kernel
theorem j65_82 : ax_in 65 82 = some (.iconst 2, 1, 0, 0) := by decide +kernel
theorem j65_83 : ax_in 65 83 = some (.iconst 4, 1, 0, 0) := by decide +kernel
theorem j65_84 : ax_in 65 84 = some (.invokevirtual 106, 3, 72, 0) := by decide +kernel
theorem j65_87 : ax_in 65 87 = some (.goto 18, 3, 0, 0) := by decide +kernel
theorem j65_90 : ax_in 65 90 = some (.aload_n 0, 1, 0, 0) := by decide +kernel
theorem j65_91 : ax_in 65 91 = some (.iconst 3, 1, 0, 0) := by decide +kernel
theorem j65_92 : ax_in 65 92 = some (.iconst 4, 1, 0, 0) := by decide +kernel
theorem j65_93 : ax_in 65 93 = some (.invokevirtual 106, 3, 72, 0) := by decide +kernel
theorem j65_96 : ax_in 65 96 = some (.goto 9, 3, 0, 0) := by decide +kernel
theorem j65_99 : ax_in 65 99 = some (.aload_n 0, 1, 0, 0) := by decide +kernel
theorem j65_100 : ax_in 65 100 = some (.iconst 0, 1, 0, 0) := by decide +kernel
theorem j65_101 : ax_in 65 101 = some (.iconst 4, 1, 0, 0) := by decide +kernel
theorem j65_102 : ax_in 65 102 = some (.invokevirtual 106, 3, 72, 0) := by decide +kernel
theorem j65_105 : ax_in 65 105 = some (.return_, 1, 0, 0) := by decide +kernel
theorem j66_0 : ax_in 66 0 = some (.aload_n 0, 1, 0, 0) := by decide +kernel
theorem j66_1 : ax_in 66 1 = some (.aload_n 0, 1, 0, 0) := by decide +kernel
theorem j66_2 : ax_in 66 2 = some (.iload_n 1, 1, 0, 0) := by decide +kernel
theorem j66_3 : ax_in 66 3 = some (.invokevirtual 125, 3, 67, 0) := by decide +kernel
theorem j66_6 : ax_in 66 6 = some (.iload_n 2, 1, 0, 0) := by decide +kernel
theorem j66_7 : ax_in 66 7 = some (.invokevirtual 128, 3, 68, 0) := by decide +kernel
theorem j66_10 : ax_in 66 10 = some (.aload_n 0, 1, 0, 0) := by decide +kernel
theorem j66_11 : ax_in 66 11 = some (.getfield 21, 3, 6, 1) := by decide +kernel
theorem j66_14 : ax_in 66 14 = some (.iload_n 1, 1, 0, 0) := by decide +kernel
theorem j66_15 : ax_in 66 15 = some (.iload_n 2, 1, 0, 0) := by decide +kernel
theorem j66_16 : ax_in 66 16 = some (.invokevirtual 131, 3, 53, 0) := by decide +kernel
theorem j66_19 : ax_in 66 19 = some (.ireturn, 1, 0, 0) := by decide +kernel
theorem j67_0 : ax_in 67 0 = some (.aload_n 0, 1, 0, 0) := by decide +kernel
theorem j67_1 : ax_in 67 1 = some (.getfield 21, 3, 6, 1) := by decide +kernel
theorem j67_4 : ax_in 67 4 = some (.getfield 134, 3, 5, 0) := by decide +kernel
theorem j67_7 : ax_in 67 7 = some (.iconst 0, 1, 0, 0) := by decide +kernel
theorem j67_8 : ax_in 67 8 = some (.invokevirtual 138, 3, 42, 0) := by decide +kernel
theorem j67_11 : ax_in 67 11 = some (.istore_n 2, 1, 0, 0) := by decide +kernel
theorem j67_12 : ax_in 67 12 = some (.aload_n 0, 1, 0, 0) := by decide +kernel
theorem j67_13 : ax_in 67 13 = some (.getfield 21, 3, 6, 1) := by decide +kernel
theorem j67_16 : ax_in 67 16 = some (.getfield 134, 3, 5, 0) := by decide +kernel
theorem j67_19 : ax_in 67 19 = some (.iconst 0, 1, 0, 0) := by decide +kernel
theorem j67_20 : ax_in 67 20 = some (.iload_n 1, 1, 0, 0) := by decide +kernel
theorem j67_21 : ax_in 67 21 = some (.invokevirtual 143, 3, 45, 0) := by decide +kernel
theorem j67_24 : ax_in 67 24 = some (.istore_n 3, 1, 0, 0) := by decide +kernel
theorem j67_25 : ax_in 67 25 = some (.iload_n 3, 1, 0, 0) := by decide +kernel
theorem j67_26 : ax_in 67 26 = some (.iconst (-1), 1, 0, 0) := by decide +kernel
theorem j67_27 : ax_in 67 27 = some (.if_icmp .eq 15, 3, 0, 0) := by decide +kernel
theorem j67_30 : ax_in 67 30 = some (.aload_n 0, 1, 0, 0) := by decide +kernel
theorem j67_31 : ax_in 67 31 = some (.iload_n 3, 1, 0, 0) := by decide +kernel
theorem j67_32 : ax_in 67 32 = some (.iconst 1, 1, 0, 0) := by decide +kernel
theorem j67_33 : ax_in 67 33 = some (.iadd, 1, 0, 0) := by decide +kernel
theorem j67_34 : ax_in 67 34 = some (.iload_n 2, 1, 0, 0) := by decide +kernel
theorem j67_35 : ax_in 67 35 = some (.iconst 1, 1, 0, 0) := by decide +kernel
theorem j67_36 : ax_in 67 36 = some (.iadd, 1, 0, 0) := by decide +kernel
theorem j67_37 : ax_in 67 37 = some (.invokevirtual 106, 3, 72, 0) := by decide +kernel
theorem j67_40 : ax_in 67 40 = some (.iload_n 3, 1, 0, 0) := by decide +kernel
theorem j67_41 : ax_in 67 41 = some (.ireturn, 1, 0, 0) := by decide +kernel
theorem j67_42 : ax_in 67 42 = some (.aload_n 0, 1, 0, 0) := by decide +kernel
theorem j67_43 : ax_in 67 43 = some (.iconst 0, 1, 0, 0) := by decide +kernel
theorem j67_44 : ax_in 67 44 = some (.iload_n 2, 1, 0, 0) := by decide +kernel
theorem j67_45 : ax_in 67 45 = some (.iconst 1, 1, 0, 0) := by decide +kernel
theorem j67_46 : ax_in 67 46 = some (.iadd, 1, 0, 0) := by decide +kernel
theorem j67_47 : ax_in 67 47 = some (.invokevirtual 106, 3, 72, 0) := by decide +kernel
theorem j67_50 : ax_in 67 50 = some (.aload_n 0, 1, 0, 0) := by decide +kernel
theorem j67_51 : ax_in 67 51 = some (.iload_n 1, 1, 0, 0) := by decide +kernel
theorem j67_52 : ax_in 67 52 = some (.invokestatic 146, 3, 79, 2) := by decide +kernel
theorem j67_55 : ax_in 67 55 = some (.invokevirtual 149, 3, 71, 0) := by decide +kernel
theorem j67_58 : ax_in 67 58 = some (.aload_n 0, 1, 0, 0) := by decide +kernel
theorem j67_59 : ax_in 67 59 = some (.iload_n 1, 1, 0, 0) := by decide +kernel
theorem j67_60 : ax_in 67 60 = some (.invokevirtual 152, 3, 70, 0) := by decide +kernel
theorem j67_63 : ax_in 67 63 = some (.aload_n 0, 1, 0, 0) := by decide +kernel
theorem j67_64 : ax_in 67 64 = some (.getfield 21, 3, 6, 1) := by decide +kernel
theorem j67_67 : ax_in 67 67 = some (.iload_n 1, 1, 0, 0) := by decide +kernel
theorem j67_68 : ax_in 67 68 = some (.invokevirtual 155, 3, 52, 0) := by decide +kernel
theorem j67_71 : ax_in 67 71 = some (.ireturn, 1, 0, 0) := by decide +kernel
theorem j68_0 : ax_in 68 0 = some (.aload_n 0, 1, 0, 0) := by decide +kernel
theorem j68_1 : ax_in 68 1 = some (.getfield 21, 3, 6, 1) := by decide +kernel
theorem j68_4 : ax_in 68 4 = some (.getfield 158, 3, 5, 1) := by decide +kernel
theorem j68_7 : ax_in 68 7 = some (.iload_n 1, 1, 0, 0) := by decide +kernel
theorem j68_8 : ax_in 68 8 = some (.iload_n 2, 1, 0, 0) := by decide +kernel
theorem j68_9 : ax_in 68 9 = some (.invokevirtual 143, 3, 45, 0) := by decide +kernel
theorem j68_12 : ax_in 68 12 = some (.istore_n 3, 1, 0, 0) := by decide +kernel
theorem j68_13 : ax_in 68 13 = some (.iload_n 3, 1, 0, 0) := by decide +kernel
theorem j68_14 : ax_in 68 14 = some (.iconst (-1), 1, 0, 0) := by decide +kernel
theorem j68_15 : ax_in 68 15 = some (.if_icmp .eq 25, 3, 0, 0) := by decide +kernel
theorem j68_18 : ax_in 68 18 = some (.aload_n 0, 1, 0, 0) := by decide +kernel
theorem j68_19 : ax_in 68 19 = some (.iconst 0, 1, 0, 0) := by decide +kernel
theorem j68_20 : ax_in 68 20 = some (.invokevirtual 149, 3, 71, 0) := by decide +kernel
theorem j68_23 : ax_in 68 23 = some (.aload_n 0, 1, 0, 0) := by decide +kernel
theorem j68_24 : ax_in 68 24 = some (.iload_n 3, 1, 0, 0) := by decide +kernel
theorem j68_25 : ax_in 68 25 = some (.aload_n 0, 1, 0, 0) := by decide +kernel
theorem j68_26 : ax_in 68 26 = some (.getfield 21, 3, 6, 1) := by decide +kernel
theorem j68_29 : ax_in 68 29 = some (.getfield 158, 3, 5, 1) := by decide +kernel
theorem j68_32 : ax_in 68 32 = some (.iload_n 1, 1, 0, 0) := by decide +kernel
theorem j68_33 : ax_in 68 33 = some (.invokevirtual 138, 3, 42, 0) := by decide +kernel
theorem j68_36 : ax_in 68 36 = some (.invokevirtual 106, 3, 72, 0) := by decide +kernel
theorem j68_39 : ax_in 68 39 = some (.return_, 1, 0, 0) := by decide +kernel
theorem j68_40 : ax_in 68 40 = some (.aload_n 0, 1, 0, 0) := by decide +kernel
theorem j68_41 : ax_in 68 41 = some (.iload_n 2, 1, 0, 0) := by decide +kernel
theorem j68_42 : ax_in 68 42 = some (.invokestatic 146, 3, 79, 2) := by decide +kernel
theorem j68_45 : ax_in 68 45 = some (.invokevirtual 149, 3, 71, 0) := by decide +kernel
theorem j68_48 : ax_in 68 48 = some (.aload_n 0, 1, 0, 0) := by decide +kernel
theorem j68_49 : ax_in 68 49 = some (.iload_n 2, 1, 0, 0) := by decide +kernel
theorem j68_50 : ax_in 68 50 = some (.invokevirtual 152, 3, 70, 0) := by decide +kernel
theorem j68_53 : ax_in 68 53 = some (.aload_n 0, 1, 0, 0) := by decide +kernel
theorem j68_54 : ax_in 68 54 = some (.getfield 21, 3, 6, 1) := by decide +kernel
theorem j68_57 : ax_in 68 57 = some (.getfield 158, 3, 5, 1) := by decide +kernel
theorem j68_60 : ax_in 68 60 = some (.iload_n 1, 1, 0, 0) := by decide +kernel
theorem j68_61 : ax_in 68 61 = some (.iload_n 2, 1, 0, 0) := by decide +kernel
theorem j68_62 : ax_in 68 62 = some (.invokevirtual 161, 3, 46, 0) := by decide +kernel
theorem j68_65 : ax_in 68 65 = some (.return_, 1, 0, 0) := by decide +kernel
theorem j69_0 : ax_in 69 0 = some (.aload_n 0, 1, 0, 0) := by decide +kernel
theorem j69_1 : ax_in 69 1 = some (.getfield 21, 3, 6, 1) := by decide +kernel
theorem j69_4 : ax_in 69 4 = some (.getfield 164, 3, 5, 2) := by decide +kernel
theorem j69_7 : ax_in 69 7 = some (.iload_n 1, 1, 0, 0) := by decide +kernel
theorem j69_8 : ax_in 69 8 = some (.iload_n 2, 1, 0, 0) := by decide +kernel
theorem j69_9 : ax_in 69 9 = some (.invokevirtual 143, 3, 45, 0) := by decide +kernel
theorem j69_12 : ax_in 69 12 = some (.istore_n 3, 1, 0, 0) := by decide +kernel
theorem j69_13 : ax_in 69 13 = some (.iload_n 3, 1, 0, 0) := by decide +kernel
theorem j69_14 : ax_in 69 14 = some (.iconst (-1), 1, 0, 0) := by decide +kernel
theorem j69_15 : ax_in 69 15 = some (.if_icmp .eq 25, 3, 0, 0) := by decide +kernel
theorem j69_18 : ax_in 69 18 = some (.aload_n 0, 1, 0, 0) := by decide +kernel
theorem j69_19 : ax_in 69 19 = some (.iconst 0, 1, 0, 0) := by decide +kernel
theorem j69_20 : ax_in 69 20 = some (.invokevirtual 149, 3, 71, 0) := by decide +kernel
theorem j69_23 : ax_in 69 23 = some (.aload_n 0, 1, 0, 0) := by decide +kernel
theorem j69_24 : ax_in 69 24 = some (.iload_n 3, 1, 0, 0) := by decide +kernel
theorem j69_25 : ax_in 69 25 = some (.aload_n 0, 1, 0, 0) := by decide +kernel
theorem j69_26 : ax_in 69 26 = some (.getfield 21, 3, 6, 1) := by decide +kernel
theorem j69_29 : ax_in 69 29 = some (.getfield 164, 3, 5, 2) := by decide +kernel
theorem j69_32 : ax_in 69 32 = some (.iload_n 1, 1, 0, 0) := by decide +kernel
theorem j69_33 : ax_in 69 33 = some (.invokevirtual 138, 3, 42, 0) := by decide +kernel
theorem j69_36 : ax_in 69 36 = some (.invokevirtual 106, 3, 72, 0) := by decide +kernel
theorem j69_39 : ax_in 69 39 = some (.return_, 1, 0, 0) := by decide +kernel
theorem j69_40 : ax_in 69 40 = some (.aload_n 0, 1, 0, 0) := by decide +kernel
theorem j69_41 : ax_in 69 41 = some (.getfield 21, 3, 6, 1) := by decide +kernel
theorem j69_44 : ax_in 69 44 = some (.getfield 167, 3, 5, 3) := by decide +kernel
theorem j69_47 : ax_in 69 47 = some (.iconst 0, 1, 0, 0) := by decide +kernel
theorem j69_48 : ax_in 69 48 = some (.iload_n 2, 1, 0, 0) := by decide +kernel
theorem j69_49 : ax_in 69 49 = some (.invokevirtual 143, 3, 45, 0) := by decide +kernel
theorem j69_52 : ax_in 69 52 = some (.istore_n 3, 1, 0, 0) := by decide +kernel
theorem j69_53 : ax_in 69 53 = some (.iload_n 3, 1, 0, 0) := by decide +kernel
theorem j69_54 : ax_in 69 54 = some (.iconst (-1), 1, 0, 0) := by decide +kernel
theorem j69_55 : ax_in 69 55 = some (.if_icmp .eq 25, 3, 0, 0) := by decide +kernel
theorem j69_58 : ax_in 69 58 = some (.aload_n 0, 1, 0, 0) := by decide +kernel
theorem j69_59 : ax_in 69 59 = some (.iconst 1, 1, 0, 0) := by decide +kernel
theorem j69_60 : ax_in 69 60 = some (.invokevirtual 149, 3, 71, 0) := by decide +kernel
theorem j69_63 : ax_in 69 63 = some (.aload_n 0, 1, 0, 0) := by decide +kernel
theorem j69_64 : ax_in 69 64 = some (.iload_n 3, 1, 0, 0) := by decide +kernel
theorem j69_65 : ax_in 69 65 = some (.aload_n 0, 1, 0, 0) := by decide +kernel
theorem j69_66 : ax_in 69 66 = some (.getfield 21, 3, 6, 1) := by decide +kernel
theorem j69_69 : ax_in 69 69 = some (.getfield 167, 3, 5, 3) := by decide +kernel
theorem j69_72 : ax_in 69 72 = some (.iconst 0, 1, 0, 0) := by decide +kernel
theorem j69_73 : ax_in 69 73 = some (.invokevirtual 138, 3, 42, 0) := by decide +kernel
theorem j69_76 : ax_in 69 76 = some (.invokevirtual 106, 3, 72, 0) := by decide +kernel
theorem j69_79 : ax_in 69 79 = some (.return_, 1, 0, 0) := by decide +kernel
theorem j69_80 : ax_in 69 80 = some (.aload_n 0, 1, 0, 0) := by decide +kernel
theorem j69_81 : ax_in 69 81 = some (.iload_n 2, 1, 0, 0) := by decide +kernel
theorem j69_82 : ax_in 69 82 = some (.invokestatic 146, 3, 79, 2) := by decide +kernel
theorem j69_85 : ax_in 69 85 = some (.iconst 2, 1, 0, 0) := by decide +kernel
theorem j69_86 : ax_in 69 86 = some (.iadd, 1, 0, 0) := by decide +kernel
theorem j69_87 : ax_in 69 87 = some (.invokevirtual 149, 3, 71, 0) := by decide +kernel
theorem j69_90 : ax_in 69 90 = some (.aload_n 0, 1, 0, 0) := by decide +kernel
theorem j69_91 : ax_in 69 91 = some (.iload_n 2, 1, 0, 0) := by decide +kernel
theorem j69_92 : ax_in 69 92 = some (.invokevirtual 152, 3, 70, 0) := by decide +kernel
theorem j69_95 : ax_in 69 95 = some (.aload_n 0, 1, 0, 0) := by decide +kernel
theorem j69_96 : ax_in 69 96 = some (.getfield 21, 3, 6, 1) := by decide +kernel
theorem j69_99 : ax_in 69 99 = some (.iload_n 1, 1, 0, 0) := by decide +kernel
theorem j69_100 : ax_in 69 100 = some (.iload_n 2, 1, 0, 0) := by decide +kernel
theorem j69_101 : ax_in 69 101 = some (.invokevirtual 170, 3, 55, 0) := by decide +kernel
theorem j69_104 : ax_in 69 104 = some (.return_, 1, 0, 0) := by decide +kernel
theorem j70_0 : ax_in 70 0 = some (.iload_n 1, 1, 0, 0) := by decide +kernel
theorem j70_1 : ax_in 70 1 = some (.istore_n 2, 1, 0, 0) := by decide +kernel
theorem j70_2 : ax_in 70 2 = some (.iconst 0, 1, 0, 0) := by decide +kernel
theorem j70_3 : ax_in 70 3 = some (.istore_n 3, 1, 0, 0) := by decide +kernel
theorem j70_4 : ax_in 70 4 = some (.iload_n 3, 1, 0, 0) := by decide +kernel
theorem j70_5 : ax_in 70 5 = some (.iconst 5, 1, 0, 0) := by decide +kernel
theorem j70_6 : ax_in 70 6 = some (.if_icmp .ge 26, 3, 0, 0) := by decide +kernel
theorem j70_9 : ax_in 70 9 = some (.iload_n 2, 1, 0, 0) := by decide +kernel
theorem j70_10 : ax_in 70 10 = some (.ifCond .le 22, 3, 0, 0) := by decide +kernel
theorem j70_13 : ax_in 70 13 = some (.aload_n 0, 1, 0, 0) := by decide +kernel
theorem j70_14 : ax_in 70 14 = some (.iload_n 2, 1, 0, 0) := by decide +kernel
theorem j70_15 : ax_in 70 15 = some (.bipush 27, 2, 0, 0) := by decide +kernel
theorem j70_17 : ax_in 70 17 = some (.irem, 1, 0, 0) := by decide +kernel
theorem j70_18 : ax_in 70 18 = some (.invokevirtual 149, 3, 71, 0) := by decide +kernel
theorem j70_21 : ax_in 70 21 = some (.iload_n 2, 1, 0, 0) := by decide +kernel
theorem j70_22 : ax_in 70 22 = some (.bipush 27, 2, 0, 0) := by decide +kernel
theorem j70_24 : ax_in 70 24 = some (.idiv, 1, 0, 0) := by decide +kernel
theorem j70_25 : ax_in 70 25 = some (.istore_n 2, 1, 0, 0) := by decide +kernel
theorem j70_26 : ax_in 70 26 = some (.iinc 3 1, 3, 0, 0) := by decide +kernel
theorem j70_29 : ax_in 70 29 = some (.goto (-25), 3, 0, 0) := by decide +kernel
theorem j70_32 : ax_in 70 32 = some (.return_, 1, 0, 0) := by decide +kernel
theorem j71_0 : ax_in 71 0 = some (.iload_n 1, 1, 0, 0) := by decide +kernel
theorem j71_1 : ax_in 71 1 = some (.istore_n 2, 1, 0, 0) := by decide +kernel
theorem j71_2 : ax_in 71 2 = some (.iconst 1, 1, 0, 0) := by decide +kernel
theorem j71_3 : ax_in 71 3 = some (.istore_n 3, 1, 0, 0) := by decide +kernel
theorem j71_4 : ax_in 71 4 = some (.iload_n 3, 1, 0, 0) := by decide +kernel
theorem j71_5 : ax_in 71 5 = some (.iconst 4, 1, 0, 0) := by decide +kernel
theorem j71_6 : ax_in 71 6 = some (.if_icmp .ge 35, 3, 0, 0) := by decide +kernel
theorem j71_9 : ax_in 71 9 = some (.iload_n 2, 1, 0, 0) := by decide +kernel
theorem j71_10 : ax_in 71 10 = some (.bipush 8, 2, 0, 0) := by decide +kernel
theorem j71_12 : ax_in 71 12 = some (.if_icmp .lt 29, 3, 0, 0) := by decide +kernel
theorem j71_15 : ax_in 71 15 = some (.aload_n 0, 1, 0, 0) := by decide +kernel
theorem j71_16 : ax_in 71 16 = some (.getfield 12, 3, 6, 0) := by decide +kernel
theorem j71_19 : ax_in 71 19 = some (.bipush 8, 2, 0, 0) := by decide +kernel
theorem j71_21 : ax_in 71 21 = some (.iload_n 2, 1, 0, 0) := by decide +kernel
theorem j71_22 : ax_in 71 22 = some (.bipush 8, 2, 0, 0) := by decide +kernel
theorem j71_24 : ax_in 71 24 = some (.irem, 1, 0, 0) := by decide +kernel
theorem j71_25 : ax_in 71 25 = some (.iadd, 1, 0, 0) := by decide +kernel
theorem j71_26 : ax_in 71 26 = some (.iconst 4, 1, 0, 0) := by decide +kernel
theorem j71_27 : ax_in 71 27 = some (.invokevirtual 173, 3, 2, 0) := by decide +kernel
theorem j71_30 : ax_in 71 30 = some (.iload_n 2, 1, 0, 0) := by decide +kernel
theorem j71_31 : ax_in 71 31 = some (.bipush 8, 2, 0, 0) := by decide +kernel
theorem j71_33 : ax_in 71 33 = some (.idiv, 1, 0, 0) := by decide +kernel
theorem j71_34 : ax_in 71 34 = some (.istore_n 2, 1, 0, 0) := by decide +kernel
theorem j71_35 : ax_in 71 35 = some (.iinc 3 1, 3, 0, 0) := by decide +kernel
theorem j71_38 : ax_in 71 38 = some (.goto (-34), 3, 0, 0) := by decide +kernel
theorem j71_41 : ax_in 71 41 = some (.aload_n 0, 1, 0, 0) := by decide +kernel
theorem j71_42 : ax_in 71 42 = some (.getfield 12, 3, 6, 0) := by decide +kernel
theorem j71_45 : ax_in 71 45 = some (.iload_n 2, 1, 0, 0) := by decide +kernel
theorem j71_46 : ax_in 71 46 = some (.iconst 4, 1, 0, 0) := by decide +kernel
theorem j71_47 : ax_in 71 47 = some (.invokevirtual 173, 3, 2, 0) := by decide +kernel
theorem j71_50 : ax_in 71 50 = some (.return_, 1, 0, 0) := by decide +kernel
theorem j72_0 : ax_in 72 0 = some (.aload_n 0, 1, 0, 0) := by decide +kernel
theorem j72_1 : ax_in 72 1 = some (.getfield 12, 3, 6, 0) := by decide +kernel
theorem j72_4 : ax_in 72 4 = some (.iload_n 1, 1, 0, 0) := by decide +kernel
theorem j72_5 : ax_in 72 5 = some (.iload_n 2, 1, 0, 0) := by decide +kernel
theorem j72_6 : ax_in 72 6 = some (.invokestatic 176, 3, 80, 2) := by decide +kernel
theorem j72_9 : ax_in 72 9 = some (.invokevirtual 173, 3, 2, 0) := by decide +kernel
theorem j72_12 : ax_in 72 12 = some (.return_, 1, 0, 0) := by decide +kernel
theorem j73_0 : ax_in 73 0 = some (.aload_n 0, 1, 0, 0) := by decide +kernel
theorem j73_1 : ax_in 73 1 = some (.getfield 10, 3, 7, 0) := by decide +kernel
theorem j73_4 : ax_in 73 4 = some (.invokevirtual 23, 3, 56, 0) := by decide +kernel
theorem j73_7 : ax_in 73 7 = some (.return_, 1, 0, 0) := by decide +kernel
theorem j74_0 : ax_in 74 0 = some (.aload_n 0, 1, 0, 0) := by decide +kernel
theorem j74_1 : ax_in 74 1 = some (.getfield 10, 3, 7, 0) := by decide +kernel
theorem j74_4 : ax_in 74 4 = some (.getfield 78, 3, 6, 0) := by decide +kernel
theorem j74_7 : ax_in 74 7 = some (.getfield 82, 3, 0, 1) := by decide +kernel
theorem j74_10 : ax_in 74 10 = some (.ireturn, 1, 0, 0) := by decide +kernel
theorem j75_0 : ax_in 75 0 = some (.aload_n 0, 1, 0, 0) := by decide +kernel
theorem j75_1 : ax_in 75 1 = some (.getfield 19, 3, 7, 1) := by decide +kernel
theorem j75_4 : ax_in 75 4 = some (.getfield 88, 3, 3, 0) := by decide +kernel
theorem j75_7 : ax_in 75 7 = some (.aload_n 0, 1, 0, 0) := by decide +kernel
theorem j75_8 : ax_in 75 8 = some (.getfield 10, 3, 7, 0) := by decide +kernel
theorem j75_11 : ax_in 75 11 = some (.getfield 78, 3, 6, 0) := by decide +kernel
theorem j75_14 : ax_in 75 14 = some (.invokevirtual 91, 3, 3, 0) := by decide +kernel
theorem j75_17 : ax_in 75 17 = some (.aload_n 0, 1, 0, 0) := by decide +kernel
theorem j75_18 : ax_in 75 18 = some (.getfield 19, 3, 7, 1) := by decide +kernel
theorem j75_21 : ax_in 75 21 = some (.getfield 88, 3, 3, 0) := by decide +kernel
theorem j75_24 : ax_in 75 24 = some (.getfield 82, 3, 0, 1) := by decide +kernel
theorem j75_27 : ax_in 75 27 = some (.ireturn, 1, 0, 0) := by decide +kernel
theorem j76_0 : ax_in 76 0 = some (.aload_n 0, 1, 0, 0) := by decide +kernel
theorem j76_1 : ax_in 76 1 = some (.getfield 19, 3, 7, 1) := by decide +kernel
theorem j76_4 : ax_in 76 4 = some (.getfield 136, 3, 3, 4) := by decide +kernel
theorem j76_7 : ax_in 76 7 = some (.ireturn, 1, 0, 0) := by decide +kernel
theorem j77_0 : ax_in 77 0 = some (.iload_n 0, 1, 0, 0) := by decide +kernel
theorem j77_1 : ax_in 77 1 = some (.istore_n 1, 1, 0, 0) := by decide +kernel
theorem j77_2 : ax_in 77 2 = some (.iconst 0, 1, 0, 0) := by decide +kernel
theorem j77_3 : ax_in 77 3 = some (.istore_n 2, 1, 0, 0) := by decide +kernel
theorem j77_4 : ax_in 77 4 = some (.iload_n 2, 1, 0, 0) := by decide +kernel
theorem j77_5 : ax_in 77 5 = some (.iconst 5, 1, 0, 0) := by decide +kernel
theorem j77_6 : ax_in 77 6 = some (.if_icmp .ge 27, 3, 0, 0) := by decide +kernel
theorem j77_9 : ax_in 77 9 = some (.iload_n 1, 1, 0, 0) := by decide +kernel
theorem j77_10 : ax_in 77 10 = some (.ifCond .le 23, 3, 0, 0) := by decide +kernel
theorem j77_13 : ax_in 77 13 = some (.iload_n 1, 1, 0, 0) := by decide +kernel
theorem j77_14 : ax_in 77 14 = some (.bipush 27, 2, 0, 0) := by decide +kernel
theorem j77_16 : ax_in 77 16 = some (.irem, 1, 0, 0) := by decide +kernel
theorem j77_17 : ax_in 77 17 = some (.ifCond .ne 5, 3, 0, 0) := by decide +kernel
theorem j77_20 : ax_in 77 20 = some (.iconst 0, 1, 0, 0) := by decide +kernel
theorem j77_21 : ax_in 77 21 = some (.ireturn, 1, 0, 0) := by decide +kernel
theorem j77_22 : ax_in 77 22 = some (.iload_n 1, 1, 0, 0) := by decide +kernel
theorem j77_23 : ax_in 77 23 = some (.bipush 27, 2, 0, 0) := by decide +kernel
theorem j77_25 : ax_in 77 25 = some (.idiv, 1, 0, 0) := by decide +kernel
theorem j77_26 : ax_in 77 26 = some (.istore_n 1, 1, 0, 0) := by decide +kernel
theorem j77_27 : ax_in 77 27 = some (.iinc 2 1, 3, 0, 0) := by decide +kernel
theorem j77_30 : ax_in 77 30 = some (.goto (-26), 3, 0, 0) := by decide +kernel
theorem j77_33 : ax_in 77 33 = some (.iload_n 1, 1, 0, 0) := by decide +kernel
theorem j77_34 : ax_in 77 34 = some (.ifCond .ne 7, 3, 0, 0) := by decide +kernel
theorem j77_37 : ax_in 77 37 = some (.iconst 1, 1, 0, 0) := by decide +kernel
theorem j77_38 : ax_in 77 38 = some (.goto 4, 3, 0, 0) := by decide +kernel
theorem j77_41 : ax_in 77 41 = some (.iconst 0, 1, 0, 0) := by decide +kernel
theorem j77_42 : ax_in 77 42 = some (.ireturn, 1, 0, 0) := by decide +kernel
theorem j78_0 : ax_in 78 0 = some (.iload_n 0, 1, 0, 0) := by decide +kernel
theorem j78_1 : ax_in 78 1 = some (.invokestatic 55, 3, 77, 1) := by decide +kernel
theorem j78_4 : ax_in 78 4 = some (.ifCond .eq 18, 3, 0, 0) := by decide +kernel
theorem j78_7 : ax_in 78 7 = some (.iload_n 1, 1, 0, 0) := by decide +kernel
theorem j78_8 : ax_in 78 8 = some (.invokestatic 55, 3, 77, 1) := by decide +kernel
theorem j78_11 : ax_in 78 11 = some (.ifCond .eq 11, 3, 0, 0) := by decide +kernel
theorem j78_14 : ax_in 78 14 = some (.iload_n 1, 1, 0, 0) := by decide +kernel
theorem j78_15 : ax_in 78 15 = some (.ifCond .eq 7, 3, 0, 0) := by decide +kernel
theorem j78_18 : ax_in 78 18 = some (.iconst 1, 1, 0, 0) := by decide +kernel
theorem j78_19 : ax_in 78 19 = some (.goto 4, 3, 0, 0) := by decide +kernel
theorem j78_22 : ax_in 78 22 = some (.iconst 0, 1, 0, 0) := by decide +kernel
theorem j78_23 : ax_in 78 23 = some (.ireturn, 1, 0, 0) := by decide +kernel
theorem j79_0 : ax_in 79 0 = some (.iconst 0, 1, 0, 0) := by decide +kernel
theorem j79_1 : ax_in 79 1 = some (.istore_n 1, 1, 0, 0) := by decide +kernel
theorem j79_2 : ax_in 79 2 = some (.iload_n 0, 1, 0, 0) := by decide +kernel
theorem j79_3 : ax_in 79 3 = some (.istore_n 2, 1, 0, 0) := by decide +kernel
theorem j79_4 : ax_in 79 4 = some (.iload_n 1, 1, 0, 0) := by decide +kernel
theorem j79_5 : ax_in 79 5 = some (.iconst 5, 1, 0, 0) := by decide +kernel
theorem j79_6 : ax_in 79 6 = some (.if_icmp .ge 18, 3, 0, 0) := by decide +kernel
theorem j79_9 : ax_in 79 9 = some (.iload_n 2, 1, 0, 0) := by decide +kernel
theorem j79_10 : ax_in 79 10 = some (.ifCond .le 14, 3, 0, 0) := by decide +kernel
theorem j79_13 : ax_in 79 13 = some (.iload_n 2, 1, 0, 0) := by decide +kernel
theorem j79_14 : ax_in 79 14 = some (.bipush 27, 2, 0, 0) := by decide +kernel
theorem j79_16 : ax_in 79 16 = some (.idiv, 1, 0, 0) := by decide +kernel
theorem j79_17 : ax_in 79 17 = some (.istore_n 2, 1, 0, 0) := by decide +kernel
theorem j79_18 : ax_in 79 18 = some (.iinc 1 1, 3, 0, 0) := by decide +kernel
theorem j79_21 : ax_in 79 21 = some (.goto (-17), 3, 0, 0) := by decide +kernel
theorem j79_24 : ax_in 79 24 = some (.iload_n 1, 1, 0, 0) := by decide +kernel
theorem j79_25 : ax_in 79 25 = some (.ireturn, 1, 0, 0) := by decide +kernel
theorem j80_0 : ax_in 80 0 = some (.iconst 0, 1, 0, 0) := by decide +kernel
theorem j80_1 : ax_in 80 1 = some (.istore_n 1, 1, 0, 0) := by decide +kernel
theorem j80_2 : ax_in 80 2 = some (.iload_n 1, 1, 0, 0) := by decide +kernel
theorem j80_3 : ax_in 80 3 = some (.bipush 30, 2, 0, 0) := by decide +kernel
theorem j80_5 : ax_in 80 5 = some (.if_icmp .ge 16, 3, 0, 0) := by decide +kernel
theorem j80_8 : ax_in 80 8 = some (.iconst 1, 1, 0, 0) := by decide +kernel
theorem j80_9 : ax_in 80 9 = some (.iload_n 1, 1, 0, 0) := by decide +kernel
theorem j80_10 : ax_in 80 10 = some (.ishl, 1, 0, 0) := by decide +kernel
theorem j80_11 : ax_in 80 11 = some (.iload_n 0, 1, 0, 0) := by decide +kernel
theorem j80_12 : ax_in 80 12 = some (.if_icmp .ge 9, 3, 0, 0) := by decide +kernel
theorem j80_15 : ax_in 80 15 = some (.iinc 1 1, 3, 0, 0) := by decide +kernel
theorem j80_18 : ax_in 80 18 = some (.goto (-16), 3, 0, 0) := by decide +kernel
theorem j80_21 : ax_in 80 21 = some (.iload_n 1, 1, 0, 0) := by decide +kernel
theorem j80_22 : ax_in 80 22 = some (.ireturn, 1, 0, 0) := by decide +kernel
theorem j81_0 : ax_in 81 0 = some (.iload_n 0, 1, 0, 0) := by decide +kernel
theorem j81_1 : ax_in 81 1 = some (.iconst 1, 1, 0, 0) := by decide +kernel
theorem j81_2 : ax_in 81 2 = some (.if_icmp .eq 8, 3, 0, 0) := by decide +kernel
theorem j81_5 : ax_in 81 5 = some (.iload_n 0, 1, 0, 0) := by decide +kernel
theorem j81_6 : ax_in 81 6 = some (.iconst 2, 1, 0, 0) := by decide +kernel
theorem j81_7 : ax_in 81 7 = some (.if_icmp .ne 7, 3, 0, 0) := by decide +kernel
theorem j81_10 : ax_in 81 10 = some (.iconst 1, 1, 0, 0) := by decide +kernel
theorem j81_11 : ax_in 81 11 = some (.goto 4, 3, 0, 0) := by decide +kernel
theorem j81_14 : ax_in 81 14 = some (.iconst 0, 1, 0, 0) := by decide +kernel
theorem j81_15 : ax_in 81 15 = some (.ireturn, 1, 0, 0) := by decide +kernel
theorem j82_0 : ax_in 82 0 = some (.iload_n 1, 1, 0, 0) := by decide +kernel
theorem j82_1 : ax_in 82 1 = some (.bipush 8, 2, 0, 0) := by decide +kernel
theorem j82_3 : ax_in 82 3 = some (.imul, 1, 0, 0) := by decide +kernel
theorem j82_4 : ax_in 82 4 = some (.iload_n 0, 1, 0, 0) := by decide +kernel
theorem j82_5 : ax_in 82 5 = some (.iadd, 1, 0, 0) := by decide +kernel
theorem j82_6 : ax_in 82 6 = some (.ireturn, 1, 0, 0) := by decide +kernel
theorem j83_0 : ax_in 83 0 = some (.iload_n 0, 1, 0, 0) := by decide +kernel
theorem j83_1 : ax_in 83 1 = some (.bipush 8, 2, 0, 0) := by decide +kernel
theorem j83_3 : ax_in 83 3 = some (.irem, 1, 0, 0) := by decide +kernel
theorem j83_4 : ax_in 83 4 = some (.ireturn, 1, 0, 0) := by decide +kernel
theorem j84_0 : ax_in 84 0 = some (.iload_n 0, 1, 0, 0) := by decide +kernel
theorem j84_1 : ax_in 84 1 = some (.bipush 8, 2, 0, 0) := by decide +kernel
theorem j84_3 : ax_in 84 3 = some (.idiv, 1, 0, 0) := by decide +kernel
theorem j84_4 : ax_in 84 4 = some (.ireturn, 1, 0, 0) := by decide +kernel
end
section
theorem j85_0 : ax_in 85 0 = some (.aload_n 0, 1, 0, 0) := by decide +kernel
theorem j85_1 : ax_in 85 1 = some (.getfield 80, 3, 8, 0) := by decide +kernel
theorem j85_4 : ax_in 85 4 = some (.ireturn, 1, 0, 0) := by decide +kernel
theorem j86_0 : ax_in 86 0 = some (.aload_n 0, 1, 0, 0) := by decide +kernel
theorem j86_1 : ax_in 86 1 = some (.getfield 7, 3, 8, 1) := by decide +kernel
theorem j86_4 : ax_in 86 4 = some (.iload_n 1, 1, 0, 0) := by decide +kernel
theorem j86_5 : ax_in 86 5 = some (.iconst 1, 1, 0, 0) := by decide +kernel
theorem j86_6 : ax_in 86 6 = some (.iastore, 1, 0, 0) := by decide +kernel
theorem j86_7 : ax_in 86 7 = some (.aload_n 0, 1, 0, 0) := by decide +kernel
theorem j86_8 : ax_in 86 8 = some (.getfield 13, 3, 8, 2) := by decide +kernel
theorem j86_11 : ax_in 86 11 = some (.bipush 6, 2, 0, 0) := by decide +kernel
theorem j86_13 : ax_in 86 13 = some (.iload_n 1, 1, 0, 0) := by decide +kernel
theorem j86_14 : ax_in 86 14 = some (.imul, 1, 0, 0) := by decide +kernel
theorem j86_15 : ax_in 86 15 = some (.iconst 0, 1, 0, 0) := by decide +kernel
theorem j86_16 : ax_in 86 16 = some (.iastore, 1, 0, 0) := by decide +kernel
theorem j86_17 : ax_in 86 17 = some (.iconst 0, 1, 0, 0) := by decide +kernel
theorem j86_18 : ax_in 86 18 = some (.istore_n 2, 1, 0, 0) := by decide +kernel
theorem j86_19 : ax_in 86 19 = some (.iload_n 2, 1, 0, 0) := by decide +kernel
theorem j86_20 : ax_in 86 20 = some (.bipush 6, 2, 0, 0) := by decide +kernel
theorem j86_22 : ax_in 86 22 = some (.if_icmp .ge 21, 3, 0, 0) := by decide +kernel
theorem j86_25 : ax_in 86 25 = some (.aload_n 0, 1, 0, 0) := by decide +kernel
theorem j86_26 : ax_in 86 26 = some (.getfield 16, 3, 8, 3) := by decide +kernel
theorem j86_29 : ax_in 86 29 = some (.bipush 6, 2, 0, 0) := by decide +kernel
theorem j86_31 : ax_in 86 31 = some (.iload_n 1, 1, 0, 0) := by decide +kernel
theorem j86_32 : ax_in 86 32 = some (.imul, 1, 0, 0) := by decide +kernel
theorem j86_33 : ax_in 86 33 = some (.iload_n 2, 1, 0, 0) := by decide +kernel
theorem j86_34 : ax_in 86 34 = some (.iadd, 1, 0, 0) := by decide +kernel
theorem j86_35 : ax_in 86 35 = some (.iconst 0, 1, 0, 0) := by decide +kernel
theorem j86_36 : ax_in 86 36 = some (.iastore, 1, 0, 0) := by decide +kernel
theorem j86_37 : ax_in 86 37 = some (.iinc 2 1, 3, 0, 0) := by decide +kernel
theorem j86_40 : ax_in 86 40 = some (.goto (-21), 3, 0, 0) := by decide +kernel
theorem j86_43 : ax_in 86 43 = some (.aload_n 0, 1, 0, 0) := by decide +kernel
theorem j86_44 : ax_in 86 44 = some (.getfield 22, 3, 8, 5) := by decide +kernel
theorem j86_47 : ax_in 86 47 = some (.iload_n 1, 1, 0, 0) := by decide +kernel
theorem j86_48 : ax_in 86 48 = some (.iconst 0, 1, 0, 0) := by decide +kernel
theorem j86_49 : ax_in 86 49 = some (.iastore, 1, 0, 0) := by decide +kernel
theorem j86_50 : ax_in 86 50 = some (.aload_n 0, 1, 0, 0) := by decide +kernel
theorem j86_51 : ax_in 86 51 = some (.getfield 37, 3, 8, 10) := by decide +kernel
theorem j86_54 : ax_in 86 54 = some (.iload_n 1, 1, 0, 0) := by decide +kernel
theorem j86_55 : ax_in 86 55 = some (.iconst 0, 1, 0, 0) := by decide +kernel
theorem j86_56 : ax_in 86 56 = some (.iastore, 1, 0, 0) := by decide +kernel
theorem j86_57 : ax_in 86 57 = some (.aload_n 0, 1, 0, 0) := by decide +kernel
theorem j86_58 : ax_in 86 58 = some (.getfield 49, 3, 8, 14) := by decide +kernel
theorem j86_61 : ax_in 86 61 = some (.iload_n 1, 1, 0, 0) := by decide +kernel
theorem j86_62 : ax_in 86 62 = some (.iconst 0, 1, 0, 0) := by decide +kernel
theorem j86_63 : ax_in 86 63 = some (.iastore, 1, 0, 0) := by decide +kernel
theorem j86_64 : ax_in 86 64 = some (.aload_n 0, 1, 0, 0) := by decide +kernel
theorem j86_65 : ax_in 86 65 = some (.getfield 59, 3, 8, 17) := by decide +kernel
theorem j86_68 : ax_in 86 68 = some (.iload_n 1, 1, 0, 0) := by decide +kernel
theorem j86_69 : ax_in 86 69 = some (.iconst 0, 1, 0, 0) := by decide +kernel
theorem j86_70 : ax_in 86 70 = some (.bastore, 1, 0, 0) := by decide +kernel
theorem j86_71 : ax_in 86 71 = some (.return_, 1, 0, 0) := by decide +kernel
theorem j87_0 : ax_in 87 0 = some (.iconst 0, 1, 0, 0) := by decide +kernel
theorem j87_1 : ax_in 87 1 = some (.istore_n 1, 1, 0, 0) := by decide +kernel
theorem j87_2 : ax_in 87 2 = some (.iload_n 0, 1, 0, 0) := by decide +kernel
theorem j87_3 : ax_in 87 3 = some (.istore_n 2, 1, 0, 0) := by decide +kernel
theorem j87_4 : ax_in 87 4 = some (.iload_n 2, 1, 0, 0) := by decide +kernel
theorem j87_5 : ax_in 87 5 = some (.ifCond .le 14, 3, 0, 0) := by decide +kernel
theorem j87_8 : ax_in 87 8 = some (.iinc 1 1, 3, 0, 0) := by decide +kernel
theorem j87_11 : ax_in 87 11 = some (.iload_n 2, 1, 0, 0) := by decide +kernel
theorem j87_12 : ax_in 87 12 = some (.bipush 27, 2, 0, 0) := by decide +kernel
theorem j87_14 : ax_in 87 14 = some (.idiv, 1, 0, 0) := by decide +kernel
theorem j87_15 : ax_in 87 15 = some (.istore_n 2, 1, 0, 0) := by decide +kernel
theorem j87_16 : ax_in 87 16 = some (.goto (-12), 3, 0, 0) := by decide +kernel
theorem j87_19 : ax_in 87 19 = some (.iload_n 1, 1, 0, 0) := by decide +kernel
theorem j87_20 : ax_in 87 20 = some (.ireturn, 1, 0, 0) := by decide +kernel
theorem j88_0 : ax_in 88 0 = some (.iload_n 0, 1, 0, 0) := by decide +kernel
theorem j88_1 : ax_in 88 1 = some (.ifCond .lt 11, 3, 0, 0) := by decide +kernel
theorem j88_4 : ax_in 88 4 = some (.iload_n 0, 1, 0, 0) := by decide +kernel
theorem j88_5 : ax_in 88 5 = some (.invokestatic 84, 3, 87, 1) := by decide +kernel
theorem j88_8 : ax_in 88 8 = some (.iconst 5, 1, 0, 0) := by decide +kernel
theorem j88_9 : ax_in 88 9 = some (.if_icmp .le 5, 3, 0, 0) := by decide +kernel
theorem j88_12 : ax_in 88 12 = some (.iconst 0, 1, 0, 0) := by decide +kernel
theorem j88_13 : ax_in 88 13 = some (.ireturn, 1, 0, 0) := by decide +kernel
theorem j88_14 : ax_in 88 14 = some (.iload_n 0, 1, 0, 0) := by decide +kernel
theorem j88_15 : ax_in 88 15 = some (.istore_n 1, 1, 0, 0) := by decide +kernel
theorem j88_16 : ax_in 88 16 = some (.iload_n 1, 1, 0, 0) := by decide +kernel
theorem j88_17 : ax_in 88 17 = some (.ifCond .le 20, 3, 0, 0) := by decide +kernel
theorem j88_20 : ax_in 88 20 = some (.iload_n 1, 1, 0, 0) := by decide +kernel
theorem j88_21 : ax_in 88 21 = some (.bipush 27, 2, 0, 0) := by decide +kernel
theorem j88_23 : ax_in 88 23 = some (.irem, 1, 0, 0) := by decide +kernel
theorem j88_24 : ax_in 88 24 = some (.ifCond .ne 5, 3, 0, 0) := by decide +kernel
theorem j88_27 : ax_in 88 27 = some (.iconst 0, 1, 0, 0) := by decide +kernel
theorem j88_28 : ax_in 88 28 = some (.ireturn, 1, 0, 0) := by decide +kernel
theorem j88_29 : ax_in 88 29 = some (.iload_n 1, 1, 0, 0) := by decide +kernel
theorem j88_30 : ax_in 88 30 = some (.bipush 27, 2, 0, 0) := by decide +kernel
theorem j88_32 : ax_in 88 32 = some (.idiv, 1, 0, 0) := by decide +kernel
theorem j88_33 : ax_in 88 33 = some (.istore_n 1, 1, 0, 0) := by decide +kernel
theorem j88_34 : ax_in 88 34 = some (.goto (-18), 3, 0, 0) := by decide +kernel
theorem j88_37 : ax_in 88 37 = some (.iconst 1, 1, 0, 0) := by decide +kernel
theorem j88_38 : ax_in 88 38 = some (.ireturn, 1, 0, 0) := by decide +kernel
theorem j89_0 : ax_in 89 0 = some (.iconst 0, 1, 0, 0) := by decide +kernel
theorem j89_1 : ax_in 89 1 = some (.istore_n 3, 1, 0, 0) := by decide +kernel
theorem j89_2 : ax_in 89 2 = some (.iload_n 3, 1, 0, 0) := by decide +kernel
theorem j89_3 : ax_in 89 3 = some (.aload_n 0, 1, 0, 0) := by decide +kernel
theorem j89_4 : ax_in 89 4 = some (.getfield 7, 3, 8, 1) := by decide +kernel
theorem j89_7 : ax_in 89 7 = some (.iload_n 1, 1, 0, 0) := by decide +kernel
theorem j89_8 : ax_in 89 8 = some (.iaload, 1, 0, 0) := by decide +kernel
theorem j89_9 : ax_in 89 9 = some (.if_icmp .ge 24, 3, 0, 0) := by decide +kernel
theorem j89_12 : ax_in 89 12 = some (.aload_n 0, 1, 0, 0) := by decide +kernel
theorem j89_13 : ax_in 89 13 = some (.getfield 13, 3, 8, 2) := by decide +kernel
theorem j89_16 : ax_in 89 16 = some (.bipush 6, 2, 0, 0) := by decide +kernel
theorem j89_18 : ax_in 89 18 = some (.iload_n 1, 1, 0, 0) := by decide +kernel
theorem j89_19 : ax_in 89 19 = some (.imul, 1, 0, 0) := by decide +kernel
theorem j89_20 : ax_in 89 20 = some (.iload_n 3, 1, 0, 0) := by decide +kernel
theorem j89_21 : ax_in 89 21 = some (.iadd, 1, 0, 0) := by decide +kernel
theorem j89_22 : ax_in 89 22 = some (.iaload, 1, 0, 0) := by decide +kernel
theorem j89_23 : ax_in 89 23 = some (.iload_n 2, 1, 0, 0) := by decide +kernel
theorem j89_24 : ax_in 89 24 = some (.if_icmp .eq 9, 3, 0, 0) := by decide +kernel
theorem j89_27 : ax_in 89 27 = some (.iinc 3 1, 3, 0, 0) := by decide +kernel
theorem j89_30 : ax_in 89 30 = some (.goto (-28), 3, 0, 0) := by decide +kernel
theorem j89_33 : ax_in 89 33 = some (.iload_n 3, 1, 0, 0) := by decide +kernel
theorem j89_34 : ax_in 89 34 = some (.aload_n 0, 1, 0, 0) := by decide +kernel
theorem j89_35 : ax_in 89 35 = some (.getfield 7, 3, 8, 1) := by decide +kernel
theorem j89_38 : ax_in 89 38 = some (.iload_n 1, 1, 0, 0) := by decide +kernel
theorem j89_39 : ax_in 89 39 = some (.iaload, 1, 0, 0) := by decide +kernel
theorem j89_40 : ax_in 89 40 = some (.if_icmp .ge 7, 3, 0, 0) := by decide +kernel
theorem j89_43 : ax_in 89 43 = some (.iload_n 3, 1, 0, 0) := by decide +kernel
theorem j89_44 : ax_in 89 44 = some (.goto 4, 3, 0, 0) := by decide +kernel
theorem j89_47 : ax_in 89 47 = some (.iconst (-1), 1, 0, 0) := by decide +kernel
theorem j89_48 : ax_in 89 48 = some (.ireturn, 1, 0, 0) := by decide +kernel
theorem j90_0 : ax_in 90 0 = some (.bipush 6, 2, 0, 0) := by decide +kernel
theorem j90_2 : ax_in 90 2 = some (.iload_n 1, 1, 0, 0) := by decide +kernel
theorem j90_3 : ax_in 90 3 = some (.imul, 1, 0, 0) := by decide +kernel
theorem j90_4 : ax_in 90 4 = some (.iload_n 2, 1, 0, 0) := by decide +kernel
theorem j90_5 : ax_in 90 5 = some (.iadd, 1, 0, 0) := by decide +kernel
theorem j90_6 : ax_in 90 6 = some (.istore 4, 2, 0, 0) := by decide +kernel
theorem j90_8 : ax_in 90 8 = some (.iconst 0, 1, 0, 0) := by decide +kernel
theorem j90_9 : ax_in 90 9 = some (.istore 5, 2, 0, 0) := by decide +kernel
theorem j90_11 : ax_in 90 11 = some (.iload 5, 2, 0, 0) := by decide +kernel
theorem j90_13 : ax_in 90 13 = some (.aload_n 0, 1, 0, 0) := by decide +kernel
theorem j90_14 : ax_in 90 14 = some (.getfield 16, 3, 8, 3) := by decide +kernel
theorem j90_17 : ax_in 90 17 = some (.iload 4, 2, 0, 0) := by decide +kernel
theorem j90_19 : ax_in 90 19 = some (.iaload, 1, 0, 0) := by decide +kernel
theorem j90_20 : ax_in 90 20 = some (.if_icmp .ge 26, 3, 0, 0) := by decide +kernel
theorem j90_23 : ax_in 90 23 = some (.aload_n 0, 1, 0, 0) := by decide +kernel
theorem j90_24 : ax_in 90 24 = some (.getfield 19, 3, 8, 4) := by decide +kernel
theorem j90_27 : ax_in 90 27 = some (.bipush 10, 2, 0, 0) := by decide +kernel
theorem j90_29 : ax_in 90 29 = some (.iload 4, 2, 0, 0) := by decide +kernel
theorem j90_31 : ax_in 90 31 = some (.imul, 1, 0, 0) := by decide +kernel
theorem j90_32 : ax_in 90 32 = some (.iload 5, 2, 0, 0) := by decide +kernel
theorem j90_34 : ax_in 90 34 = some (.iadd, 1, 0, 0) := by decide +kernel
theorem j90_35 : ax_in 90 35 = some (.iaload, 1, 0, 0) := by decide +kernel
theorem j90_36 : ax_in 90 36 = some (.iload_n 3, 1, 0, 0) := by decide +kernel
theorem j90_37 : ax_in 90 37 = some (.if_icmp .eq 9, 3, 0, 0) := by decide +kernel
theorem j90_40 : ax_in 90 40 = some (.iinc 5 1, 3, 0, 0) := by decide +kernel
theorem j90_43 : ax_in 90 43 = some (.goto (-32), 3, 0, 0) := by decide +kernel
theorem j90_46 : ax_in 90 46 = some (.iload 5, 2, 0, 0) := by decide +kernel
theorem j90_48 : ax_in 90 48 = some (.aload_n 0, 1, 0, 0) := by decide +kernel
theorem j90_49 : ax_in 90 49 = some (.getfield 16, 3, 8, 3) := by decide +kernel
theorem j90_52 : ax_in 90 52 = some (.iload 4, 2, 0, 0) := by decide +kernel
theorem j90_54 : ax_in 90 54 = some (.iaload, 1, 0, 0) := by decide +kernel
theorem j90_55 : ax_in 90 55 = some (.if_icmp .ge 8, 3, 0, 0) := by decide +kernel
theorem j90_58 : ax_in 90 58 = some (.iload 5, 2, 0, 0) := by decide +kernel
theorem j90_60 : ax_in 90 60 = some (.goto 4, 3, 0, 0) := by decide +kernel
theorem j90_63 : ax_in 90 63 = some (.iconst (-1), 1, 0, 0) := by decide +kernel
theorem j90_64 : ax_in 90 64 = some (.ireturn, 1, 0, 0) := by decide +kernel
theorem j91_0 : ax_in 91 0 = some (.iconst 0, 1, 0, 0) := by decide +kernel
theorem j91_1 : ax_in 91 1 = some (.istore 4, 2, 0, 0) := by decide +kernel
theorem j91_3 : ax_in 91 3 = some (.iload 4, 2, 0, 0) := by decide +kernel
theorem j91_5 : ax_in 91 5 = some (.aload_n 0, 1, 0, 0) := by decide +kernel
theorem j91_6 : ax_in 91 6 = some (.getfield 22, 3, 8, 5) := by decide +kernel
theorem j91_9 : ax_in 91 9 = some (.iload_n 1, 1, 0, 0) := by decide +kernel
theorem j91_10 : ax_in 91 10 = some (.iaload, 1, 0, 0) := by decide +kernel
theorem j91_11 : ax_in 91 11 = some (.if_icmp .ge 44, 3, 0, 0) := by decide +kernel
theorem j91_14 : ax_in 91 14 = some (.aload_n 0, 1, 0, 0) := by decide +kernel
theorem j91_15 : ax_in 91 15 = some (.getfield 25, 3, 8, 6) := by decide +kernel
theorem j91_18 : ax_in 91 18 = some (.bipush 20, 2, 0, 0) := by decide +kernel
theorem j91_20 : ax_in 91 20 = some (.iload_n 1, 1, 0, 0) := by decide +kernel
theorem j91_21 : ax_in 91 21 = some (.imul, 1, 0, 0) := by decide +kernel
theorem j91_22 : ax_in 91 22 = some (.iload 4, 2, 0, 0) := by decide +kernel
theorem j91_24 : ax_in 91 24 = some (.iadd, 1, 0, 0) := by decide +kernel
theorem j91_25 : ax_in 91 25 = some (.iaload, 1, 0, 0) := by decide +kernel
theorem j91_26 : ax_in 91 26 = some (.iload_n 2, 1, 0, 0) := by decide +kernel
theorem j91_27 : ax_in 91 27 = some (.if_icmp .ne 22, 3, 0, 0) := by decide +kernel
theorem j91_30 : ax_in 91 30 = some (.aload_n 0, 1, 0, 0) := by decide +kernel
theorem j91_31 : ax_in 91 31 = some (.getfield 28, 3, 8, 7) := by decide +kernel
theorem j91_34 : ax_in 91 34 = some (.bipush 20, 2, 0, 0) := by decide +kernel
theorem j91_36 : ax_in 91 36 = some (.iload_n 1, 1, 0, 0) := by decide +kernel
theorem j91_37 : ax_in 91 37 = some (.imul, 1, 0, 0) := by decide +kernel
theorem j91_38 : ax_in 91 38 = some (.iload 4, 2, 0, 0) := by decide +kernel
theorem j91_40 : ax_in 91 40 = some (.iadd, 1, 0, 0) := by decide +kernel
theorem j91_41 : ax_in 91 41 = some (.iaload, 1, 0, 0) := by decide +kernel
theorem j91_42 : ax_in 91 42 = some (.iload_n 3, 1, 0, 0) := by decide +kernel
theorem j91_43 : ax_in 91 43 = some (.if_icmp .ne 6, 3, 0, 0) := by decide +kernel
theorem j91_46 : ax_in 91 46 = some (.iload 4, 2, 0, 0) := by decide +kernel
theorem j91_48 : ax_in 91 48 = some (.ireturn, 1, 0, 0) := by decide +kernel
theorem j91_49 : ax_in 91 49 = some (.iinc 4 1, 3, 0, 0) := by decide +kernel
theorem j91_52 : ax_in 91 52 = some (.goto (-49), 3, 0, 0) := by decide +kernel
theorem j91_55 : ax_in 91 55 = some (.iconst (-1), 1, 0, 0) := by decide +kernel
theorem j91_56 : ax_in 91 56 = some (.ireturn, 1, 0, 0) := by decide +kernel
theorem j92_0 : ax_in 92 0 = some (.aload_n 0, 1, 0, 0) := by decide +kernel
theorem j92_1 : ax_in 92 1 = some (.getfield 22, 3, 8, 5) := by decide +kernel
theorem j92_4 : ax_in 92 4 = some (.iload_n 1, 1, 0, 0) := by decide +kernel
theorem j92_5 : ax_in 92 5 = some (.iaload, 1, 0, 0) := by decide +kernel
theorem j92_6 : ax_in 92 6 = some (.istore 4, 2, 0, 0) := by decide +kernel
theorem j92_8 : ax_in 92 8 = some (.aload_n 0, 1, 0, 0) := by decide +kernel
theorem j92_9 : ax_in 92 9 = some (.getfield 22, 3, 8, 5) := by decide +kernel
theorem j92_12 : ax_in 92 12 = some (.iload_n 1, 1, 0, 0) := by decide +kernel
theorem j92_13 : ax_in 92 13 = some (.dup2, 1, 0, 0) := by decide +kernel
theorem j92_14 : ax_in 92 14 = some (.iaload, 1, 0, 0) := by decide +kernel
theorem j92_15 : ax_in 92 15 = some (.iconst 1, 1, 0, 0) := by decide +kernel
theorem j92_16 : ax_in 92 16 = some (.iadd, 1, 0, 0) := by decide +kernel
theorem j92_17 : ax_in 92 17 = some (.iastore, 1, 0, 0) := by decide +kernel
theorem j92_18 : ax_in 92 18 = some (.aload_n 0, 1, 0, 0) := by decide +kernel
theorem j92_19 : ax_in 92 19 = some (.getfield 25, 3, 8, 6) := by decide +kernel
theorem j92_22 : ax_in 92 22 = some (.bipush 20, 2, 0, 0) := by decide +kernel
theorem j92_24 : ax_in 92 24 = some (.iload_n 1, 1, 0, 0) := by decide +kernel
theorem j92_25 : ax_in 92 25 = some (.imul, 1, 0, 0) := by decide +kernel
theorem j92_26 : ax_in 92 26 = some (.iload 4, 2, 0, 0) := by decide +kernel
theorem j92_28 : ax_in 92 28 = some (.iadd, 1, 0, 0) := by decide +kernel
theorem j92_29 : ax_in 92 29 = some (.iload_n 2, 1, 0, 0) := by decide +kernel
theorem j92_30 : ax_in 92 30 = some (.iastore, 1, 0, 0) := by decide +kernel
theorem j92_31 : ax_in 92 31 = some (.aload_n 0, 1, 0, 0) := by decide +kernel
theorem j92_32 : ax_in 92 32 = some (.getfield 28, 3, 8, 7) := by decide +kernel
theorem j92_35 : ax_in 92 35 = some (.bipush 20, 2, 0, 0) := by decide +kernel
theorem j92_37 : ax_in 92 37 = some (.iload_n 1, 1, 0, 0) := by decide +kernel
theorem j92_38 : ax_in 92 38 = some (.imul, 1, 0, 0) := by decide +kernel
theorem j92_39 : ax_in 92 39 = some (.iload 4, 2, 0, 0) := by decide +kernel
theorem j92_41 : ax_in 92 41 = some (.iadd, 1, 0, 0) := by decide +kernel
theorem j92_42 : ax_in 92 42 = some (.iload_n 3, 1, 0, 0) := by decide +kernel
theorem j92_43 : ax_in 92 43 = some (.iastore, 1, 0, 0) := by decide +kernel
theorem j92_44 : ax_in 92 44 = some (.aload_n 0, 1, 0, 0) := by decide +kernel
theorem j92_45 : ax_in 92 45 = some (.getfield 31, 3, 8, 8) := by decide +kernel
theorem j92_48 : ax_in 92 48 = some (.bipush 20, 2, 0, 0) := by decide +kernel
theorem j92_50 : ax_in 92 50 = some (.iload_n 1, 1, 0, 0) := by decide +kernel
theorem j92_51 : ax_in 92 51 = some (.imul, 1, 0, 0) := by decide +kernel
theorem j92_52 : ax_in 92 52 = some (.iload 4, 2, 0, 0) := by decide +kernel
theorem j92_54 : ax_in 92 54 = some (.iadd, 1, 0, 0) := by decide +kernel
theorem j92_55 : ax_in 92 55 = some (.iconst 0, 1, 0, 0) := by decide +kernel
theorem j92_56 : ax_in 92 56 = some (.iastore, 1, 0, 0) := by decide +kernel
theorem j92_57 : ax_in 92 57 = some (.aload_n 0, 1, 0, 0) := by decide +kernel
theorem j92_58 : ax_in 92 58 = some (.getfield 43, 3, 8, 12) := by decide +kernel
theorem j92_61 : ax_in 92 61 = some (.bipush 40, 2, 0, 0) := by decide +kernel
theorem j92_63 : ax_in 92 63 = some (.iload_n 1, 1, 0, 0) := by decide +kernel
theorem j92_64 : ax_in 92 64 = some (.imul, 1, 0, 0) := by decide +kernel
theorem j92_65 : ax_in 92 65 = some (.iconst 2, 1, 0, 0) := by decide +kernel
theorem j92_66 : ax_in 92 66 = some (.iload 4, 2, 0, 0) := by decide +kernel
theorem j92_68 : ax_in 92 68 = some (.imul, 1, 0, 0) := by decide +kernel
theorem j92_69 : ax_in 92 69 = some (.iadd, 1, 0, 0) := by decide +kernel
theorem j92_70 : ax_in 92 70 = some (.iconst 0, 1, 0, 0) := by decide +kernel
theorem j92_71 : ax_in 92 71 = some (.iastore, 1, 0, 0) := by decide +kernel
theorem j92_72 : ax_in 92 72 = some (.aload_n 0, 1, 0, 0) := by decide +kernel
theorem j92_73 : ax_in 92 73 = some (.getfield 43, 3, 8, 12) := by decide +kernel
theorem j92_76 : ax_in 92 76 = some (.bipush 40, 2, 0, 0) := by decide +kernel
theorem j92_78 : ax_in 92 78 = some (.iload_n 1, 1, 0, 0) := by decide +kernel
theorem j92_79 : ax_in 92 79 = some (.imul, 1, 0, 0) := by decide +kernel
theorem j92_80 : ax_in 92 80 = some (.iconst 2, 1, 0, 0) := by decide +kernel
theorem j92_81 : ax_in 92 81 = some (.iload 4, 2, 0, 0) := by decide +kernel
theorem j92_83 : ax_in 92 83 = some (.imul, 1, 0, 0) := by decide +kernel
theorem j92_84 : ax_in 92 84 = some (.iadd, 1, 0, 0) := by decide +kernel
theorem j92_85 : ax_in 92 85 = some (.iconst 1, 1, 0, 0) := by decide +kernel
theorem j92_86 : ax_in 92 86 = some (.iadd, 1, 0, 0) := by decide +kernel
theorem j92_87 : ax_in 92 87 = some (.iconst 0, 1, 0, 0) := by decide +kernel
theorem j92_88 : ax_in 92 88 = some (.iastore, 1, 0, 0) := by decide +kernel
theorem j92_89 : ax_in 92 89 = some (.iload 4, 2, 0, 0) := by decide +kernel
theorem j92_91 : ax_in 92 91 = some (.ireturn, 1, 0, 0) := by decide +kernel
theorem j93_0 : ax_in 93 0 = some (.aload_n 0, 1, 0, 0) := by decide +kernel
theorem j93_1 : ax_in 93 1 = some (.getfield 16, 3, 8, 3) := by decide +kernel
theorem j93_4 : ax_in 93 4 = some (.bipush 6, 2, 0, 0) := by decide +kernel
theorem j93_6 : ax_in 93 6 = some (.iload_n 1, 1, 0, 0) := by decide +kernel
theorem j93_7 : ax_in 93 7 = some (.imul, 1, 0, 0) := by decide +kernel
theorem j93_8 : ax_in 93 8 = some (.aload_n 0, 1, 0, 0) := by decide +kernel
theorem j93_9 : ax_in 93 9 = some (.getfield 7, 3, 8, 1) := by decide +kernel
theorem j93_12 : ax_in 93 12 = some (.iload_n 1, 1, 0, 0) := by decide +kernel
theorem j93_13 : ax_in 93 13 = some (.iaload, 1, 0, 0) := by decide +kernel
theorem j93_14 : ax_in 93 14 = some (.iadd, 1, 0, 0) := by decide +kernel
theorem j93_15 : ax_in 93 15 = some (.iconst 0, 1, 0, 0) := by decide +kernel
theorem j93_16 : ax_in 93 16 = some (.iastore, 1, 0, 0) := by decide +kernel
theorem j93_17 : ax_in 93 17 = some (.aload_n 0, 1, 0, 0) := by decide +kernel
theorem j93_18 : ax_in 93 18 = some (.getfield 13, 3, 8, 2) := by decide +kernel
theorem j93_21 : ax_in 93 21 = some (.bipush 6, 2, 0, 0) := by decide +kernel
theorem j93_23 : ax_in 93 23 = some (.iload_n 1, 1, 0, 0) := by decide +kernel
theorem j93_24 : ax_in 93 24 = some (.imul, 1, 0, 0) := by decide +kernel
theorem j93_25 : ax_in 93 25 = some (.aload_n 0, 1, 0, 0) := by decide +kernel
theorem j93_26 : ax_in 93 26 = some (.getfield 7, 3, 8, 1) := by decide +kernel
theorem j93_29 : ax_in 93 29 = some (.iload_n 1, 1, 0, 0) := by decide +kernel
theorem j93_30 : ax_in 93 30 = some (.iaload, 1, 0, 0) := by decide +kernel
theorem j93_31 : ax_in 93 31 = some (.iadd, 1, 0, 0) := by decide +kernel
theorem j93_32 : ax_in 93 32 = some (.iload_n 2, 1, 0, 0) := by decide +kernel
theorem j93_33 : ax_in 93 33 = some (.iastore, 1, 0, 0) := by decide +kernel
theorem j93_34 : ax_in 93 34 = some (.aload_n 0, 1, 0, 0) := by decide +kernel
theorem j93_35 : ax_in 93 35 = some (.getfield 7, 3, 8, 1) := by decide +kernel
theorem j93_38 : ax_in 93 38 = some (.iload_n 1, 1, 0, 0) := by decide +kernel
theorem j93_39 : ax_in 93 39 = some (.dup2, 1, 0, 0) := by decide +kernel
theorem j93_40 : ax_in 93 40 = some (.iaload, 1, 0, 0) := by decide +kernel
theorem j93_41 : ax_in 93 41 = some (.iconst 1, 1, 0, 0) := by decide +kernel
theorem j93_42 : ax_in 93 42 = some (.iadd, 1, 0, 0) := by decide +kernel
theorem j93_43 : ax_in 93 43 = some (.iastore, 1, 0, 0) := by decide +kernel
theorem j93_44 : ax_in 93 44 = some (.return_, 1, 0, 0) := by decide +kernel
theorem j94_0 : ax_in 94 0 = some (.bipush 6, 2, 0, 0) := by decide +kernel
theorem j94_2 : ax_in 94 2 = some (.iload_n 1, 1, 0, 0) := by decide +kernel
theorem j94_3 : ax_in 94 3 = some (.imul, 1, 0, 0) := by decide +kernel
theorem j94_4 : ax_in 94 4 = some (.iload_n 2, 1, 0, 0) := by decide +kernel
theorem j94_5 : ax_in 94 5 = some (.iadd, 1, 0, 0) := by decide +kernel
theorem j94_6 : ax_in 94 6 = some (.istore 4, 2, 0, 0) := by decide +kernel
theorem j94_8 : ax_in 94 8 = some (.aload_n 0, 1, 0, 0) := by decide +kernel
theorem j94_9 : ax_in 94 9 = some (.getfield 19, 3, 8, 4) := by decide +kernel
theorem j94_12 : ax_in 94 12 = some (.bipush 10, 2, 0, 0) := by decide +kernel
theorem j94_14 : ax_in 94 14 = some (.iload 4, 2, 0, 0) := by decide +kernel
theorem j94_16 : ax_in 94 16 = some (.imul, 1, 0, 0) := by decide +kernel
theorem j94_17 : ax_in 94 17 = some (.aload_n 0, 1, 0, 0) := by decide +kernel
theorem j94_18 : ax_in 94 18 = some (.getfield 16, 3, 8, 3) := by decide +kernel
theorem j94_21 : ax_in 94 21 = some (.iload 4, 2, 0, 0) := by decide +kernel
theorem j94_23 : ax_in 94 23 = some (.iaload, 1, 0, 0) := by decide +kernel
theorem j94_24 : ax_in 94 24 = some (.iadd, 1, 0, 0) := by decide +kernel
theorem j94_25 : ax_in 94 25 = some (.iload_n 3, 1, 0, 0) := by decide +kernel
theorem j94_26 : ax_in 94 26 = some (.iastore, 1, 0, 0) := by decide +kernel
theorem j94_27 : ax_in 94 27 = some (.aload_n 0, 1, 0, 0) := by decide +kernel
theorem j94_28 : ax_in 94 28 = some (.getfield 16, 3, 8, 3) := by decide +kernel
theorem j94_31 : ax_in 94 31 = some (.iload 4, 2, 0, 0) := by decide +kernel
theorem j94_33 : ax_in 94 33 = some (.dup2, 1, 0, 0) := by decide +kernel
theorem j94_34 : ax_in 94 34 = some (.iaload, 1, 0, 0) := by decide +kernel
theorem j94_35 : ax_in 94 35 = some (.iconst 1, 1, 0, 0) := by decide +kernel
theorem j94_36 : ax_in 94 36 = some (.iadd, 1, 0, 0) := by decide +kernel
theorem j94_37 : ax_in 94 37 = some (.iastore, 1, 0, 0) := by decide +kernel
theorem j94_38 : ax_in 94 38 = some (.return_, 1, 0, 0) := by decide +kernel
theorem j95_0 : ax_in 95 0 = some (.bipush 20, 2, 0, 0) := by decide +kernel
theorem j95_2 : ax_in 95 2 = some (.iload_n 1, 1, 0, 0) := by decide +kernel
theorem j95_3 : ax_in 95 3 = some (.imul, 1, 0, 0) := by decide +kernel
theorem j95_4 : ax_in 95 4 = some (.iload_n 2, 1, 0, 0) := by decide +kernel
theorem j95_5 : ax_in 95 5 = some (.iadd, 1, 0, 0) := by decide +kernel
theorem j95_6 : ax_in 95 6 = some (.istore 4, 2, 0, 0) := by decide +kernel
theorem j95_8 : ax_in 95 8 = some (.iload_n 3, 1, 0, 0) := by decide +kernel
theorem j95_9 : ax_in 95 9 = some (.ifCond .le 43, 3, 0, 0) := by decide +kernel
theorem j95_12 : ax_in 95 12 = some (.aload_n 0, 1, 0, 0) := by decide +kernel
theorem j95_13 : ax_in 95 13 = some (.getfield 31, 3, 8, 8) := by decide +kernel
theorem j95_16 : ax_in 95 16 = some (.iload 4, 2, 0, 0) := by decide +kernel
theorem j95_18 : ax_in 95 18 = some (.iaload, 1, 0, 0) := by decide +kernel
theorem j95_19 : ax_in 95 19 = some (.iconst 5, 1, 0, 0) := by decide +kernel
theorem j95_20 : ax_in 95 20 = some (.if_icmp .ge 32, 3, 0, 0) := by decide +kernel
theorem j95_23 : ax_in 95 23 = some (.aload_n 0, 1, 0, 0) := by decide +kernel
theorem j95_24 : ax_in 95 24 = some (.getfield 34, 3, 8, 9) := by decide +kernel
theorem j95_27 : ax_in 95 27 = some (.iconst 5, 1, 0, 0) := by decide +kernel
theorem j95_28 : ax_in 95 28 = some (.iload 4, 2, 0, 0) := by decide +kernel
theorem j95_30 : ax_in 95 30 = some (.imul, 1, 0, 0) := by decide +kernel
theorem j95_31 : ax_in 95 31 = some (.aload_n 0, 1, 0, 0) := by decide +kernel
theorem j95_32 : ax_in 95 32 = some (.getfield 31, 3, 8, 8) := by decide +kernel
theorem j95_35 : ax_in 95 35 = some (.iload 4, 2, 0, 0) := by decide +kernel
theorem j95_37 : ax_in 95 37 = some (.iaload, 1, 0, 0) := by decide +kernel
theorem j95_38 : ax_in 95 38 = some (.iadd, 1, 0, 0) := by decide +kernel
theorem j95_39 : ax_in 95 39 = some (.iload_n 3, 1, 0, 0) := by decide +kernel
theorem j95_40 : ax_in 95 40 = some (.iastore, 1, 0, 0) := by decide +kernel
theorem j95_41 : ax_in 95 41 = some (.aload_n 0, 1, 0, 0) := by decide +kernel
theorem j95_42 : ax_in 95 42 = some (.getfield 31, 3, 8, 8) := by decide +kernel
theorem j95_45 : ax_in 95 45 = some (.iload 4, 2, 0, 0) := by decide +kernel
theorem j95_47 : ax_in 95 47 = some (.dup2, 1, 0, 0) := by decide +kernel
theorem j95_48 : ax_in 95 48 = some (.iaload, 1, 0, 0) := by decide +kernel
theorem j95_49 : ax_in 95 49 = some (.iconst 1, 1, 0, 0) := by decide +kernel
theorem j95_50 : ax_in 95 50 = some (.iadd, 1, 0, 0) := by decide +kernel
theorem j95_51 : ax_in 95 51 = some (.iastore, 1, 0, 0) := by decide +kernel
theorem j95_52 : ax_in 95 52 = some (.iload_n 3, 1, 0, 0) := by decide +kernel
theorem j95_53 : ax_in 95 53 = some (.ifCond .le 41, 3, 0, 0) := by decide +kernel
theorem j95_56 : ax_in 95 56 = some (.aload_n 0, 1, 0, 0) := by decide +kernel
theorem j95_57 : ax_in 95 57 = some (.getfield 37, 3, 8, 10) := by decide +kernel
theorem j95_60 : ax_in 95 60 = some (.iload_n 1, 1, 0, 0) := by decide +kernel
theorem j95_61 : ax_in 95 61 = some (.iaload, 1, 0, 0) := by decide +kernel
theorem j95_62 : ax_in 95 62 = some (.bipush 20, 2, 0, 0) := by decide +kernel
theorem j95_64 : ax_in 95 64 = some (.if_icmp .ge 30, 3, 0, 0) := by decide +kernel
theorem j95_67 : ax_in 95 67 = some (.aload_n 0, 1, 0, 0) := by decide +kernel
theorem j95_68 : ax_in 95 68 = some (.getfield 40, 3, 8, 11) := by decide +kernel
theorem j95_71 : ax_in 95 71 = some (.bipush 20, 2, 0, 0) := by decide +kernel
theorem j95_73 : ax_in 95 73 = some (.iload_n 1, 1, 0, 0) := by decide +kernel
theorem j95_74 : ax_in 95 74 = some (.imul, 1, 0, 0) := by decide +kernel
theorem j95_75 : ax_in 95 75 = some (.aload_n 0, 1, 0, 0) := by decide +kernel
theorem j95_76 : ax_in 95 76 = some (.getfield 37, 3, 8, 10) := by decide +kernel
theorem j95_79 : ax_in 95 79 = some (.iload_n 1, 1, 0, 0) := by decide +kernel
theorem j95_80 : ax_in 95 80 = some (.iaload, 1, 0, 0) := by decide +kernel
theorem j95_81 : ax_in 95 81 = some (.iadd, 1, 0, 0) := by decide +kernel
theorem j95_82 : ax_in 95 82 = some (.iload_n 3, 1, 0, 0) := by decide +kernel
theorem j95_83 : ax_in 95 83 = some (.iastore, 1, 0, 0) := by decide +kernel
theorem j95_84 : ax_in 95 84 = some (.aload_n 0, 1, 0, 0) := by decide +kernel
theorem j95_85 : ax_in 95 85 = some (.getfield 37, 3, 8, 10) := by decide +kernel
theorem j95_88 : ax_in 95 88 = some (.iload_n 1, 1, 0, 0) := by decide +kernel
theorem j95_89 : ax_in 95 89 = some (.dup2, 1, 0, 0) := by decide +kernel
theorem j95_90 : ax_in 95 90 = some (.iaload, 1, 0, 0) := by decide +kernel
theorem j95_91 : ax_in 95 91 = some (.iconst 1, 1, 0, 0) := by decide +kernel
theorem j95_92 : ax_in 95 92 = some (.iadd, 1, 0, 0) := by decide +kernel
theorem j95_93 : ax_in 95 93 = some (.iastore, 1, 0, 0) := by decide +kernel
theorem j95_94 : ax_in 95 94 = some (.return_, 1, 0, 0) := by decide +kernel
theorem j96_0 : ax_in 96 0 = some (.bipush 8, 2, 0, 0) := by decide +kernel
theorem j96_2 : ax_in 96 2 = some (.iload_n 1, 1, 0, 0) := by decide +kernel
theorem j96_3 : ax_in 96 3 = some (.imul, 1, 0, 0) := by decide +kernel
theorem j96_4 : ax_in 96 4 = some (.aload_n 0, 1, 0, 0) := by decide +kernel
theorem j96_5 : ax_in 96 5 = some (.getfield 49, 3, 8, 14) := by decide +kernel
theorem j96_8 : ax_in 96 8 = some (.iload_n 1, 1, 0, 0) := by decide +kernel
theorem j96_9 : ax_in 96 9 = some (.iaload, 1, 0, 0) := by decide +kernel
theorem j96_10 : ax_in 96 10 = some (.iadd, 1, 0, 0) := by decide +kernel
theorem j96_11 : ax_in 96 11 = some (.iconst 1, 1, 0, 0) := by decide +kernel
theorem j96_12 : ax_in 96 12 = some (.isub, 1, 0, 0) := by decide +kernel
theorem j96_13 : ax_in 96 13 = some (.istore_n 2, 1, 0, 0) := by decide +kernel
theorem j96_14 : ax_in 96 14 = some (.bipush 40, 2, 0, 0) := by decide +kernel
theorem j96_16 : ax_in 96 16 = some (.iload_n 1, 1, 0, 0) := by decide +kernel
theorem j96_17 : ax_in 96 17 = some (.imul, 1, 0, 0) := by decide +kernel
theorem j96_18 : ax_in 96 18 = some (.iconst 2, 1, 0, 0) := by decide +kernel
theorem j96_19 : ax_in 96 19 = some (.aload_n 0, 1, 0, 0) := by decide +kernel
theorem j96_20 : ax_in 96 20 = some (.getfield 52, 3, 8, 15) := by decide +kernel
theorem j96_23 : ax_in 96 23 = some (.iload_n 2, 1, 0, 0) := by decide +kernel
theorem j96_24 : ax_in 96 24 = some (.iaload, 1, 0, 0) := by decide +kernel
theorem j96_25 : ax_in 96 25 = some (.imul, 1, 0, 0) := by decide +kernel
theorem j96_26 : ax_in 96 26 = some (.iadd, 1, 0, 0) := by decide +kernel
theorem j96_27 : ax_in 96 27 = some (.aload_n 0, 1, 0, 0) := by decide +kernel
theorem j96_28 : ax_in 96 28 = some (.getfield 55, 3, 8, 16) := by decide +kernel
theorem j96_31 : ax_in 96 31 = some (.iload_n 2, 1, 0, 0) := by decide +kernel
theorem j96_32 : ax_in 96 32 = some (.baload, 1, 0, 0) := by decide +kernel
theorem j96_33 : ax_in 96 33 = some (.ifCond .eq 7, 3, 0, 0) := by decide +kernel
theorem j96_36 : ax_in 96 36 = some (.iconst 1, 1, 0, 0) := by decide +kernel
theorem j96_37 : ax_in 96 37 = some (.goto 4, 3, 0, 0) := by decide +kernel
theorem j96_40 : ax_in 96 40 = some (.iconst 0, 1, 0, 0) := by decide +kernel
theorem j96_41 : ax_in 96 41 = some (.iadd, 1, 0, 0) := by decide +kernel
theorem j96_42 : ax_in 96 42 = some (.ireturn, 1, 0, 0) := by decide +kernel
theorem j97_0 : ax_in 97 0 = some (.iconst 2, 1, 0, 0) := by decide +kernel
theorem j97_1 : ax_in 97 1 = some (.iconst 2, 1, 0, 0) := by decide +kernel
theorem j97_2 : ax_in 97 2 = some (.iload_n 0, 1, 0, 0) := by decide +kernel
theorem j97_3 : ax_in 97 3 = some (.imul, 1, 0, 0) := by decide +kernel
theorem j97_4 : ax_in 97 4 = some (.iadd, 1, 0, 0) := by decide +kernel
theorem j97_5 : ax_in 97 5 = some (.ireturn, 1, 0, 0) := by decide +kernel
theorem j98_0 : ax_in 98 0 = some (.iconst 3, 1, 0, 0) := by decide +kernel
theorem j98_1 : ax_in 98 1 = some (.iconst 2, 1, 0, 0) := by decide +kernel
theorem j98_2 : ax_in 98 2 = some (.iload_n 0, 1, 0, 0) := by decide +kernel
theorem j98_3 : ax_in 98 3 = some (.imul, 1, 0, 0) := by decide +kernel
theorem j98_4 : ax_in 98 4 = some (.iadd, 1, 0, 0) := by decide +kernel
theorem j98_5 : ax_in 98 5 = some (.ireturn, 1, 0, 0) := by decide +kernel
theorem j99_0 : ax_in 99 0 = some (.iconst 0, 1, 0, 0) := by decide +kernel
theorem j99_1 : ax_in 99 1 = some (.istore_n 3, 1, 0, 0) := by decide +kernel
theorem j99_2 : ax_in 99 2 = some (.iload_n 3, 1, 0, 0) := by decide +kernel
theorem j99_3 : ax_in 99 3 = some (.aload_n 0, 1, 0, 0) := by decide +kernel
theorem j99_4 : ax_in 99 4 = some (.getfield 43, 3, 8, 12) := by decide +kernel
theorem j99_7 : ax_in 99 7 = some (.iload_n 1, 1, 0, 0) := by decide +kernel
theorem j99_8 : ax_in 99 8 = some (.iaload, 1, 0, 0) := by decide +kernel
theorem j99_9 : ax_in 99 9 = some (.if_icmp .ge 24, 3, 0, 0) := by decide +kernel
theorem j99_12 : ax_in 99 12 = some (.aload_n 0, 1, 0, 0) := by decide +kernel
theorem j99_13 : ax_in 99 13 = some (.getfield 46, 3, 8, 13) := by decide +kernel
theorem j99_16 : ax_in 99 16 = some (.bipush 12, 2, 0, 0) := by decide +kernel
theorem j99_18 : ax_in 99 18 = some (.iload_n 1, 1, 0, 0) := by decide +kernel
theorem j99_19 : ax_in 99 19 = some (.imul, 1, 0, 0) := by decide +kernel
theorem j99_20 : ax_in 99 20 = some (.iload_n 3, 1, 0, 0) := by decide +kernel
theorem j99_21 : ax_in 99 21 = some (.iadd, 1, 0, 0) := by decide +kernel
theorem j99_22 : ax_in 99 22 = some (.iaload, 1, 0, 0) := by decide +kernel
theorem j99_23 : ax_in 99 23 = some (.iload_n 2, 1, 0, 0) := by decide +kernel
theorem j99_24 : ax_in 99 24 = some (.if_icmp .eq 9, 3, 0, 0) := by decide +kernel
theorem j99_27 : ax_in 99 27 = some (.iinc 3 1, 3, 0, 0) := by decide +kernel
theorem j99_30 : ax_in 99 30 = some (.goto (-28), 3, 0, 0) := by decide +kernel
theorem j99_33 : ax_in 99 33 = some (.iload_n 3, 1, 0, 0) := by decide +kernel
theorem j99_34 : ax_in 99 34 = some (.aload_n 0, 1, 0, 0) := by decide +kernel
theorem j99_35 : ax_in 99 35 = some (.getfield 43, 3, 8, 12) := by decide +kernel
theorem j99_38 : ax_in 99 38 = some (.iload_n 1, 1, 0, 0) := by decide +kernel
theorem j99_39 : ax_in 99 39 = some (.iaload, 1, 0, 0) := by decide +kernel
theorem j99_40 : ax_in 99 40 = some (.if_icmp .ge 7, 3, 0, 0) := by decide +kernel
theorem j99_43 : ax_in 99 43 = some (.iload_n 3, 1, 0, 0) := by decide +kernel
theorem j99_44 : ax_in 99 44 = some (.goto 4, 3, 0, 0) := by decide +kernel
theorem j99_47 : ax_in 99 47 = some (.iconst (-1), 1, 0, 0) := by decide +kernel
theorem j99_48 : ax_in 99 48 = some (.ireturn, 1, 0, 0) := by decide +kernel
theorem j100_0 : ax_in 100 0 = some (.aload_n 0, 1, 0, 0) := by decide +kernel
theorem j100_1 : ax_in 100 1 = some (.iload_n 1, 1, 0, 0) := by decide +kernel
theorem j100_2 : ax_in 100 2 = some (.iload_n 2, 1, 0, 0) := by decide +kernel
theorem j100_3 : ax_in 100 3 = some (.invokevirtual 88, 3, 99, 0) := by decide +kernel
theorem j100_6 : ax_in 100 6 = some (.ifCond .ge 14, 3, 0, 0) := by decide +kernel
theorem j100_9 : ax_in 100 9 = some (.aload_n 0, 1, 0, 0) := by decide +kernel
theorem j100_10 : ax_in 100 10 = some (.getfield 43, 3, 8, 12) := by decide +kernel
theorem j100_13 : ax_in 100 13 = some (.iload_n 1, 1, 0, 0) := by decide +kernel
theorem j100_14 : ax_in 100 14 = some (.iaload, 1, 0, 0) := by decide +kernel
theorem j100_15 : ax_in 100 15 = some (.bipush 12, 2, 0, 0) := by decide +kernel
theorem j100_17 : ax_in 100 17 = some (.if_icmp .ne 4, 3, 0, 0) := by decide +kernel
theorem j100_20 : ax_in 100 20 = some (.return_, 1, 0, 0) := by decide +kernel
theorem j100_21 : ax_in 100 21 = some (.aload_n 0, 1, 0, 0) := by decide +kernel
theorem j100_22 : ax_in 100 22 = some (.getfield 43, 3, 8, 12) := by decide +kernel
theorem j100_25 : ax_in 100 25 = some (.iload_n 1, 1, 0, 0) := by decide +kernel
theorem j100_26 : ax_in 100 26 = some (.iaload, 1, 0, 0) := by decide +kernel
theorem j100_27 : ax_in 100 27 = some (.istore_n 3, 1, 0, 0) := by decide +kernel
theorem j100_28 : ax_in 100 28 = some (.iload_n 3, 1, 0, 0) := by decide +kernel
theorem j100_29 : ax_in 100 29 = some (.ifCond .le 33, 3, 0, 0) := by decide +kernel
theorem j100_32 : ax_in 100 32 = some (.aload_n 0, 1, 0, 0) := by decide +kernel
theorem j100_33 : ax_in 100 33 = some (.getfield 46, 3, 8, 13) := by decide +kernel
theorem j100_36 : ax_in 100 36 = some (.bipush 12, 2, 0, 0) := by decide +kernel
theorem j100_38 : ax_in 100 38 = some (.iload_n 1, 1, 0, 0) := by decide +kernel
theorem j100_39 : ax_in 100 39 = some (.imul, 1, 0, 0) := by decide +kernel
theorem j100_40 : ax_in 100 40 = some (.iload_n 3, 1, 0, 0) := by decide +kernel
theorem j100_41 : ax_in 100 41 = some (.iadd, 1, 0, 0) := by decide +kernel
theorem j100_42 : ax_in 100 42 = some (.aload_n 0, 1, 0, 0) := by decide +kernel
theorem j100_43 : ax_in 100 43 = some (.getfield 46, 3, 8, 13) := by decide +kernel
theorem j100_46 : ax_in 100 46 = some (.bipush 12, 2, 0, 0) := by decide +kernel
theorem j100_48 : ax_in 100 48 = some (.iload_n 1, 1, 0, 0) := by decide +kernel
theorem j100_49 : ax_in 100 49 = some (.imul, 1, 0, 0) := by decide +kernel
theorem j100_50 : ax_in 100 50 = some (.iload_n 3, 1, 0, 0) := by decide +kernel
theorem j100_51 : ax_in 100 51 = some (.iadd, 1, 0, 0) := by decide +kernel
theorem j100_52 : ax_in 100 52 = some (.iconst 1, 1, 0, 0) := by decide +kernel
theorem j100_53 : ax_in 100 53 = some (.isub, 1, 0, 0) := by decide +kernel
theorem j100_54 : ax_in 100 54 = some (.iaload, 1, 0, 0) := by decide +kernel
theorem j100_55 : ax_in 100 55 = some (.iastore, 1, 0, 0) := by decide +kernel
theorem j100_56 : ax_in 100 56 = some (.iinc 3 (-1), 3, 0, 0) := by decide +kernel
theorem j100_59 : ax_in 100 59 = some (.goto (-31), 3, 0, 0) := by decide +kernel
theorem j100_62 : ax_in 100 62 = some (.aload_n 0, 1, 0, 0) := by decide +kernel
theorem j100_63 : ax_in 100 63 = some (.getfield 46, 3, 8, 13) := by decide +kernel
theorem j100_66 : ax_in 100 66 = some (.bipush 12, 2, 0, 0) := by decide +kernel
theorem j100_68 : ax_in 100 68 = some (.iload_n 1, 1, 0, 0) := by decide +kernel
theorem j100_69 : ax_in 100 69 = some (.imul, 1, 0, 0) := by decide +kernel
theorem j100_70 : ax_in 100 70 = some (.iload_n 2, 1, 0, 0) := by decide +kernel
theorem j100_71 : ax_in 100 71 = some (.iastore, 1, 0, 0) := by decide +kernel
theorem j100_72 : ax_in 100 72 = some (.aload_n 0, 1, 0, 0) := by decide +kernel
theorem j100_73 : ax_in 100 73 = some (.getfield 43, 3, 8, 12) := by decide +kernel
theorem j100_76 : ax_in 100 76 = some (.iload_n 1, 1, 0, 0) := by decide +kernel
theorem j100_77 : ax_in 100 77 = some (.dup2, 1, 0, 0) := by decide +kernel
theorem j100_78 : ax_in 100 78 = some (.iaload, 1, 0, 0) := by decide +kernel
theorem j100_79 : ax_in 100 79 = some (.iconst 1, 1, 0, 0) := by decide +kernel
theorem j100_80 : ax_in 100 80 = some (.iadd, 1, 0, 0) := by decide +kernel
theorem j100_81 : ax_in 100 81 = some (.iastore, 1, 0, 0) := by decide +kernel
theorem j100_82 : ax_in 100 82 = some (.return_, 1, 0, 0) := by decide +kernel
theorem j101_0 : ax_in 101 0 = some (.aload_n 0, 1, 0, 0) := by decide +kernel
theorem j101_1 : ax_in 101 1 = some (.getfield 49, 3, 8, 14) := by decide +kernel
theorem j101_4 : ax_in 101 4 = some (.iload_n 1, 1, 0, 0) := by decide +kernel
theorem j101_5 : ax_in 101 5 = some (.iaload, 1, 0, 0) := by decide +kernel
theorem j101_6 : ax_in 101 6 = some (.ifCond .le 22, 3, 0, 0) := by decide +kernel
theorem j101_9 : ax_in 101 9 = some (.aload_n 0, 1, 0, 0) := by decide +kernel
theorem j101_10 : ax_in 101 10 = some (.getfield 55, 3, 8, 16) := by decide +kernel
theorem j101_13 : ax_in 101 13 = some (.bipush 8, 2, 0, 0) := by decide +kernel
theorem j101_15 : ax_in 101 15 = some (.iload_n 1, 1, 0, 0) := by decide +kernel
theorem j101_16 : ax_in 101 16 = some (.imul, 1, 0, 0) := by decide +kernel
theorem j101_17 : ax_in 101 17 = some (.aload_n 0, 1, 0, 0) := by decide +kernel
theorem j101_18 : ax_in 101 18 = some (.getfield 49, 3, 8, 14) := by decide +kernel
theorem j101_21 : ax_in 101 21 = some (.iload_n 1, 1, 0, 0) := by decide +kernel
theorem j101_22 : ax_in 101 22 = some (.iaload, 1, 0, 0) := by decide +kernel
theorem j101_23 : ax_in 101 23 = some (.iadd, 1, 0, 0) := by decide +kernel
theorem j101_24 : ax_in 101 24 = some (.iconst 1, 1, 0, 0) := by decide +kernel
theorem j101_25 : ax_in 101 25 = some (.isub, 1, 0, 0) := by decide +kernel
theorem j101_26 : ax_in 101 26 = some (.iconst 1, 1, 0, 0) := by decide +kernel
theorem j101_27 : ax_in 101 27 = some (.bastore, 1, 0, 0) := by decide +kernel
theorem j101_28 : ax_in 101 28 = some (.aload_n 0, 1, 0, 0) := by decide +kernel
theorem j101_29 : ax_in 101 29 = some (.getfield 52, 3, 8, 15) := by decide +kernel
theorem j101_32 : ax_in 101 32 = some (.bipush 8, 2, 0, 0) := by decide +kernel
theorem j101_34 : ax_in 101 34 = some (.iload_n 1, 1, 0, 0) := by decide +kernel
theorem j101_35 : ax_in 101 35 = some (.imul, 1, 0, 0) := by decide +kernel
theorem j101_36 : ax_in 101 36 = some (.aload_n 0, 1, 0, 0) := by decide +kernel
theorem j101_37 : ax_in 101 37 = some (.getfield 49, 3, 8, 14) := by decide +kernel
theorem j101_40 : ax_in 101 40 = some (.iload_n 1, 1, 0, 0) := by decide +kernel
theorem j101_41 : ax_in 101 41 = some (.iaload, 1, 0, 0) := by decide +kernel
theorem j101_42 : ax_in 101 42 = some (.iadd, 1, 0, 0) := by decide +kernel
theorem j101_43 : ax_in 101 43 = some (.iload_n 2, 1, 0, 0) := by decide +kernel
theorem j101_44 : ax_in 101 44 = some (.iastore, 1, 0, 0) := by decide +kernel
theorem j101_45 : ax_in 101 45 = some (.aload_n 0, 1, 0, 0) := by decide +kernel
theorem j101_46 : ax_in 101 46 = some (.getfield 55, 3, 8, 16) := by decide +kernel
theorem j101_49 : ax_in 101 49 = some (.bipush 8, 2, 0, 0) := by decide +kernel
theorem j101_51 : ax_in 101 51 = some (.iload_n 1, 1, 0, 0) := by decide +kernel
theorem j101_52 : ax_in 101 52 = some (.imul, 1, 0, 0) := by decide +kernel
theorem j101_53 : ax_in 101 53 = some (.aload_n 0, 1, 0, 0) := by decide +kernel
theorem j101_54 : ax_in 101 54 = some (.getfield 49, 3, 8, 14) := by decide +kernel
theorem j101_57 : ax_in 101 57 = some (.iload_n 1, 1, 0, 0) := by decide +kernel
theorem j101_58 : ax_in 101 58 = some (.iaload, 1, 0, 0) := by decide +kernel
theorem j101_59 : ax_in 101 59 = some (.iadd, 1, 0, 0) := by decide +kernel
theorem j101_60 : ax_in 101 60 = some (.iconst 0, 1, 0, 0) := by decide +kernel
theorem j101_61 : ax_in 101 61 = some (.bastore, 1, 0, 0) := by decide +kernel
theorem j101_62 : ax_in 101 62 = some (.aload_n 0, 1, 0, 0) := by decide +kernel
theorem j101_63 : ax_in 101 63 = some (.getfield 49, 3, 8, 14) := by decide +kernel
theorem j101_66 : ax_in 101 66 = some (.iload_n 1, 1, 0, 0) := by decide +kernel
theorem j101_67 : ax_in 101 67 = some (.dup2, 1, 0, 0) := by decide +kernel
theorem j101_68 : ax_in 101 68 = some (.iaload, 1, 0, 0) := by decide +kernel
theorem j101_69 : ax_in 101 69 = some (.iconst 1, 1, 0, 0) := by decide +kernel
theorem j101_70 : ax_in 101 70 = some (.iadd, 1, 0, 0) := by decide +kernel
theorem j101_71 : ax_in 101 71 = some (.iastore, 1, 0, 0) := by decide +kernel
theorem j101_72 : ax_in 101 72 = some (.return_, 1, 0, 0) := by decide +kernel
theorem j102_0 : ax_in 102 0 = some (.aload_n 0, 1, 0, 0) := by decide +kernel
theorem j102_1 : ax_in 102 1 = some (.getfield 49, 3, 8, 14) := by decide +kernel
theorem j102_4 : ax_in 102 4 = some (.iload_n 1, 1, 0, 0) := by decide +kernel
theorem j102_5 : ax_in 102 5 = some (.dup2, 1, 0, 0) := by decide +kernel
theorem j102_6 : ax_in 102 6 = some (.iaload, 1, 0, 0) := by decide +kernel
theorem j102_7 : ax_in 102 7 = some (.iconst 1, 1, 0, 0) := by decide +kernel
theorem j102_8 : ax_in 102 8 = some (.isub, 1, 0, 0) := by decide +kernel
theorem j102_9 : ax_in 102 9 = some (.iastore, 1, 0, 0) := by decide +kernel
theorem j102_10 : ax_in 102 10 = some (.aload_n 0, 1, 0, 0) := by decide +kernel
theorem j102_11 : ax_in 102 11 = some (.getfield 59, 3, 8, 17) := by decide +kernel
theorem j102_14 : ax_in 102 14 = some (.iload_n 1, 1, 0, 0) := by decide +kernel
theorem j102_15 : ax_in 102 15 = some (.aload_n 0, 1, 0, 0) := by decide +kernel
theorem j102_16 : ax_in 102 16 = some (.getfield 49, 3, 8, 14) := by decide +kernel
theorem j102_19 : ax_in 102 19 = some (.iload_n 1, 1, 0, 0) := by decide +kernel
theorem j102_20 : ax_in 102 20 = some (.iaload, 1, 0, 0) := by decide +kernel
theorem j102_21 : ax_in 102 21 = some (.ifCond .ne 7, 3, 0, 0) := by decide +kernel
theorem j102_24 : ax_in 102 24 = some (.iconst 1, 1, 0, 0) := by decide +kernel
theorem j102_25 : ax_in 102 25 = some (.goto 4, 3, 0, 0) := by decide +kernel
theorem j102_28 : ax_in 102 28 = some (.iconst 0, 1, 0, 0) := by decide +kernel
theorem j102_29 : ax_in 102 29 = some (.bastore, 1, 0, 0) := by decide +kernel
theorem j102_30 : ax_in 102 30 = some (.return_, 1, 0, 0) := by decide +kernel
theorem j103_0 : ax_in 103 0 = some (.iconst 0, 1, 0, 0) := by decide +kernel
theorem j103_1 : ax_in 103 1 = some (.istore_n 3, 1, 0, 0) := by decide +kernel
theorem j103_2 : ax_in 103 2 = some (.iconst 1, 1, 0, 0) := by decide +kernel
theorem j103_3 : ax_in 103 3 = some (.iload_n 3, 1, 0, 0) := by decide +kernel
theorem j103_4 : ax_in 103 4 = some (.ishl, 1, 0, 0) := by decide +kernel
theorem j103_5 : ax_in 103 5 = some (.iload_n 2, 1, 0, 0) := by decide +kernel
theorem j103_6 : ax_in 103 6 = some (.if_icmp .ge 9, 3, 0, 0) := by decide +kernel
theorem j103_9 : ax_in 103 9 = some (.iinc 3 1, 3, 0, 0) := by decide +kernel
theorem j103_12 : ax_in 103 12 = some (.goto (-10), 3, 0, 0) := by decide +kernel
theorem j103_15 : ax_in 103 15 = some (.iload_n 3, 1, 0, 0) := by decide +kernel
theorem j103_16 : ax_in 103 16 = some (.iconst 1, 1, 0, 0) := by decide +kernel
theorem j103_17 : ax_in 103 17 = some (.isub, 1, 0, 0) := by decide +kernel
theorem j103_18 : ax_in 103 18 = some (.istore 4, 2, 0, 0) := by decide +kernel
theorem j103_20 : ax_in 103 20 = some (.iload 4, 2, 0, 0) := by decide +kernel
theorem j103_22 : ax_in 103 22 = some (.ifCond .lt 43, 3, 0, 0) := by decide +kernel
theorem j103_25 : ax_in 103 25 = some (.aload_n 0, 1, 0, 0) := by decide +kernel
theorem j103_26 : ax_in 103 26 = some (.getfield 62, 3, 8, 18) := by decide +kernel
theorem j103_29 : ax_in 103 29 = some (.aload_n 0, 1, 0, 0) := by decide +kernel
theorem j103_30 : ax_in 103 30 = some (.getfield 92, 3, 8, 19) := by decide +kernel
theorem j103_33 : ax_in 103 33 = some (.iload_n 1, 1, 0, 0) := by decide +kernel
theorem j103_34 : ax_in 103 34 = some (.iload 4, 2, 0, 0) := by decide +kernel
theorem j103_36 : ax_in 103 36 = some (.ishr, 1, 0, 0) := by decide +kernel
theorem j103_37 : ax_in 103 37 = some (.iconst 1, 1, 0, 0) := by decide +kernel
theorem j103_38 : ax_in 103 38 = some (.iand, 1, 0, 0) := by decide +kernel
theorem j103_39 : ax_in 103 39 = some (.iconst 1, 1, 0, 0) := by decide +kernel
theorem j103_40 : ax_in 103 40 = some (.if_icmp .ne 7, 3, 0, 0) := by decide +kernel
theorem j103_43 : ax_in 103 43 = some (.iconst 1, 1, 0, 0) := by decide +kernel
theorem j103_44 : ax_in 103 44 = some (.goto 4, 3, 0, 0) := by decide +kernel
theorem j103_47 : ax_in 103 47 = some (.iconst 0, 1, 0, 0) := by decide +kernel
theorem j103_48 : ax_in 103 48 = some (.bastore, 1, 0, 0) := by decide +kernel
theorem j103_49 : ax_in 103 49 = some (.aload_n 0, 1, 0, 0) := by decide +kernel
theorem j103_50 : ax_in 103 50 = some (.dup, 1, 0, 0) := by decide +kernel
theorem j103_51 : ax_in 103 51 = some (.getfield 92, 3, 8, 19) := by decide +kernel
theorem j103_54 : ax_in 103 54 = some (.iconst 1, 1, 0, 0) := by decide +kernel
theorem j103_55 : ax_in 103 55 = some (.iadd, 1, 0, 0) := by decide +kernel
theorem j103_56 : ax_in 103 56 = some (.putfield 92, 3, 8, 19) := by decide +kernel
theorem j103_59 : ax_in 103 59 = some (.iinc 4 (-1), 3, 0, 0) := by decide +kernel
theorem j103_62 : ax_in 103 62 = some (.goto (-42), 3, 0, 0) := by decide +kernel
theorem j103_65 : ax_in 103 65 = some (.return_, 1, 0, 0) := by decide +kernel
theorem j104_0 : ax_in 104 0 = some (.iload_n 1, 1, 0, 0) := by decide +kernel
theorem j104_1 : ax_in 104 1 = some (.istore_n 2, 1, 0, 0) := by decide +kernel
theorem j104_2 : ax_in 104 2 = some (.iconst 1, 1, 0, 0) := by decide +kernel
theorem j104_3 : ax_in 104 3 = some (.istore_n 3, 1, 0, 0) := by decide +kernel
theorem j104_4 : ax_in 104 4 = some (.iload_n 3, 1, 0, 0) := by decide +kernel
theorem j104_5 : ax_in 104 5 = some (.ifCond .eq 45, 3, 0, 0) := by decide +kernel
theorem j104_8 : ax_in 104 8 = some (.iload_n 2, 1, 0, 0) := by decide +kernel
theorem j104_9 : ax_in 104 9 = some (.bipush 7, 2, 0, 0) := by decide +kernel
theorem j104_11 : ax_in 104 11 = some (.iand, 1, 0, 0) := by decide +kernel
theorem j104_12 : ax_in 104 12 = some (.istore 4, 2, 0, 0) := by decide +kernel
theorem j104_14 : ax_in 104 14 = some (.iload_n 2, 1, 0, 0) := by decide +kernel
theorem j104_15 : ax_in 104 15 = some (.iconst 3, 1, 0, 0) := by decide +kernel
theorem j104_16 : ax_in 104 16 = some (.ishr, 1, 0, 0) := by decide +kernel
theorem j104_17 : ax_in 104 17 = some (.istore_n 2, 1, 0, 0) := by decide +kernel
theorem j104_18 : ax_in 104 18 = some (.iload_n 2, 1, 0, 0) := by decide +kernel
theorem j104_19 : ax_in 104 19 = some (.ifCond .le 7, 3, 0, 0) := by decide +kernel
theorem j104_22 : ax_in 104 22 = some (.iconst 1, 1, 0, 0) := by decide +kernel
theorem j104_23 : ax_in 104 23 = some (.goto 4, 3, 0, 0) := by decide +kernel
theorem j104_26 : ax_in 104 26 = some (.iconst 0, 1, 0, 0) := by decide +kernel
theorem j104_27 : ax_in 104 27 = some (.istore_n 3, 1, 0, 0) := by decide +kernel
theorem j104_28 : ax_in 104 28 = some (.aload_n 0, 1, 0, 0) := by decide +kernel
theorem j104_29 : ax_in 104 29 = some (.iload_n 3, 1, 0, 0) := by decide +kernel
theorem j104_30 : ax_in 104 30 = some (.ifCond .eq 8, 3, 0, 0) := by decide +kernel
theorem j104_33 : ax_in 104 33 = some (.bipush 8, 2, 0, 0) := by decide +kernel
theorem j104_35 : ax_in 104 35 = some (.goto 4, 3, 0, 0) := by decide +kernel
theorem j104_38 : ax_in 104 38 = some (.iconst 0, 1, 0, 0) := by decide +kernel
theorem j104_39 : ax_in 104 39 = some (.iload 4, 2, 0, 0) := by decide +kernel
theorem j104_41 : ax_in 104 41 = some (.iadd, 1, 0, 0) := by decide +kernel
theorem j104_42 : ax_in 104 42 = some (.bipush 16, 2, 0, 0) := by decide +kernel
theorem j104_44 : ax_in 104 44 = some (.invokevirtual 95, 3, 103, 0) := by decide +kernel
theorem j104_47 : ax_in 104 47 = some (.goto (-43), 3, 0, 0) := by decide +kernel
theorem j104_50 : ax_in 104 50 = some (.return_, 1, 0, 0) := by decide +kernel
theorem j105_0 : ax_in 105 0 = some (.iload_n 1, 1, 0, 0) := by decide +kernel
theorem j105_1 : ax_in 105 1 = some (.istore_n 2, 1, 0, 0) := by decide +kernel
theorem j105_2 : ax_in 105 2 = some (.iload_n 2, 1, 0, 0) := by decide +kernel
theorem j105_3 : ax_in 105 3 = some (.ifCond .le 19, 3, 0, 0) := by decide +kernel
theorem j105_6 : ax_in 105 6 = some (.aload_n 0, 1, 0, 0) := by decide +kernel
theorem j105_7 : ax_in 105 7 = some (.iload_n 2, 1, 0, 0) := by decide +kernel
theorem j105_8 : ax_in 105 8 = some (.bipush 27, 2, 0, 0) := by decide +kernel
theorem j105_10 : ax_in 105 10 = some (.irem, 1, 0, 0) := by decide +kernel
theorem j105_11 : ax_in 105 11 = some (.invokevirtual 99, 3, 104, 0) := by decide +kernel
theorem j105_14 : ax_in 105 14 = some (.iload_n 2, 1, 0, 0) := by decide +kernel
theorem j105_15 : ax_in 105 15 = some (.bipush 27, 2, 0, 0) := by decide +kernel
theorem j105_17 : ax_in 105 17 = some (.idiv, 1, 0, 0) := by decide +kernel
theorem j105_18 : ax_in 105 18 = some (.istore_n 2, 1, 0, 0) := by decide +kernel
theorem j105_19 : ax_in 105 19 = some (.goto (-17), 3, 0, 0) := by decide +kernel
theorem j105_22 : ax_in 105 22 = some (.return_, 1, 0, 0) := by decide +kernel
theorem j106_0 : ax_in 106 0 = some (.aload_n 0, 1, 0, 0) := by decide +kernel
theorem j106_1 : ax_in 106 1 = some (.iconst 0, 1, 0, 0) := by decide +kernel
theorem j106_2 : ax_in 106 2 = some (.iload_n 1, 1, 0, 0) := by decide +kernel
theorem j106_3 : ax_in 106 3 = some (.invokevirtual 103, 3, 89, 0) := by decide +kernel
theorem j106_6 : ax_in 106 6 = some (.istore_n 3, 1, 0, 0) := by decide +kernel
theorem j106_7 : ax_in 106 7 = some (.aload_n 0, 1, 0, 0) := by decide +kernel
theorem j106_8 : ax_in 106 8 = some (.iload_n 3, 1, 0, 0) := by decide +kernel
theorem j106_9 : ax_in 106 9 = some (.iconst 1, 1, 0, 0) := by decide +kernel
theorem j106_10 : ax_in 106 10 = some (.iadd, 1, 0, 0) := by decide +kernel
theorem j106_11 : ax_in 106 11 = some (.aload_n 0, 1, 0, 0) := by decide +kernel
theorem j106_12 : ax_in 106 12 = some (.getfield 7, 3, 8, 1) := by decide +kernel
theorem j106_15 : ax_in 106 15 = some (.iconst 0, 1, 0, 0) := by decide +kernel
theorem j106_16 : ax_in 106 16 = some (.iaload, 1, 0, 0) := by decide +kernel
theorem j106_17 : ax_in 106 17 = some (.iconst 1, 1, 0, 0) := by decide +kernel
theorem j106_18 : ax_in 106 18 = some (.iadd, 1, 0, 0) := by decide +kernel
theorem j106_19 : ax_in 106 19 = some (.invokevirtual 95, 3, 103, 0) := by decide +kernel
theorem j106_22 : ax_in 106 22 = some (.iload_n 3, 1, 0, 0) := by decide +kernel
theorem j106_23 : ax_in 106 23 = some (.ifCond .ge 29, 3, 0, 0) := by decide +kernel
theorem j106_26 : ax_in 106 26 = some (.aload_n 0, 1, 0, 0) := by decide +kernel
theorem j106_27 : ax_in 106 27 = some (.iload_n 1, 1, 0, 0) := by decide +kernel
theorem j106_28 : ax_in 106 28 = some (.invokestatic 84, 3, 87, 1) := by decide +kernel
theorem j106_31 : ax_in 106 31 = some (.invokevirtual 99, 3, 104, 0) := by decide +kernel
theorem j106_34 : ax_in 106 34 = some (.aload_n 0, 1, 0, 0) := by decide +kernel
theorem j106_35 : ax_in 106 35 = some (.iload_n 1, 1, 0, 0) := by decide +kernel
theorem j106_36 : ax_in 106 36 = some (.invokevirtual 106, 3, 105, 0) := by decide +kernel
theorem j106_39 : ax_in 106 39 = some (.aload_n 0, 1, 0, 0) := by decide +kernel
theorem j106_40 : ax_in 106 40 = some (.getfield 7, 3, 8, 1) := by decide +kernel
theorem j106_43 : ax_in 106 43 = some (.iconst 0, 1, 0, 0) := by decide +kernel
theorem j106_44 : ax_in 106 44 = some (.iaload, 1, 0, 0) := by decide +kernel
theorem j106_45 : ax_in 106 45 = some (.istore_n 3, 1, 0, 0) := by decide +kernel
theorem j106_46 : ax_in 106 46 = some (.aload_n 0, 1, 0, 0) := by decide +kernel
theorem j106_47 : ax_in 106 47 = some (.iconst 0, 1, 0, 0) := by decide +kernel
theorem j106_48 : ax_in 106 48 = some (.iload_n 1, 1, 0, 0) := by decide +kernel
theorem j106_49 : ax_in 106 49 = some (.invokevirtual 109, 3, 93, 0) := by decide +kernel
theorem j106_52 : ax_in 106 52 = some (.aload_n 0, 1, 0, 0) := by decide +kernel
theorem j106_53 : ax_in 106 53 = some (.iconst 0, 1, 0, 0) := by decide +kernel
theorem j106_54 : ax_in 106 54 = some (.iload_n 3, 1, 0, 0) := by decide +kernel
theorem j106_55 : ax_in 106 55 = some (.iload_n 2, 1, 0, 0) := by decide +kernel
theorem j106_56 : ax_in 106 56 = some (.invokevirtual 112, 3, 90, 0) := by decide +kernel
theorem j106_59 : ax_in 106 59 = some (.istore 4, 2, 0, 0) := by decide +kernel
theorem j106_61 : ax_in 106 61 = some (.iload 4, 2, 0, 0) := by decide +kernel
theorem j106_63 : ax_in 106 63 = some (.ifCond .ge 26, 3, 0, 0) := by decide +kernel
theorem j106_66 : ax_in 106 66 = some (.aload_n 0, 1, 0, 0) := by decide +kernel
theorem j106_67 : ax_in 106 67 = some (.iload_n 2, 1, 0, 0) := by decide +kernel
theorem j106_68 : ax_in 106 68 = some (.invokestatic 84, 3, 87, 1) := by decide +kernel
theorem j106_71 : ax_in 106 71 = some (.invokevirtual 99, 3, 104, 0) := by decide +kernel
theorem j106_74 : ax_in 106 74 = some (.aload_n 0, 1, 0, 0) := by decide +kernel
theorem j106_75 : ax_in 106 75 = some (.iload_n 2, 1, 0, 0) := by decide +kernel
theorem j106_76 : ax_in 106 76 = some (.invokevirtual 106, 3, 105, 0) := by decide +kernel
theorem j106_79 : ax_in 106 79 = some (.aload_n 0, 1, 0, 0) := by decide +kernel
theorem j106_80 : ax_in 106 80 = some (.iconst 0, 1, 0, 0) := by decide +kernel
theorem j106_81 : ax_in 106 81 = some (.iload_n 3, 1, 0, 0) := by decide +kernel
theorem j106_82 : ax_in 106 82 = some (.iload_n 2, 1, 0, 0) := by decide +kernel
theorem j106_83 : ax_in 106 83 = some (.invokevirtual 116, 3, 94, 0) := by decide +kernel
theorem j106_86 : ax_in 106 86 = some (.goto 20, 3, 0, 0) := by decide +kernel
theorem j106_89 : ax_in 106 89 = some (.aload_n 0, 1, 0, 0) := by decide +kernel
theorem j106_90 : ax_in 106 90 = some (.iconst 0, 1, 0, 0) := by decide +kernel
theorem j106_91 : ax_in 106 91 = some (.invokevirtual 99, 3, 104, 0) := by decide +kernel
theorem j106_94 : ax_in 106 94 = some (.aload_n 0, 1, 0, 0) := by decide +kernel
theorem j106_95 : ax_in 106 95 = some (.iload 4, 2, 0, 0) := by decide +kernel
theorem j106_97 : ax_in 106 97 = some (.aload_n 0, 1, 0, 0) := by decide +kernel
theorem j106_98 : ax_in 106 98 = some (.getfield 16, 3, 8, 3) := by decide +kernel
theorem j106_101 : ax_in 106 101 = some (.iload_n 3, 1, 0, 0) := by decide +kernel
theorem j106_102 : ax_in 106 102 = some (.iaload, 1, 0, 0) := by decide +kernel
theorem j106_103 : ax_in 106 103 = some (.invokevirtual 95, 3, 103, 0) := by decide +kernel
theorem j106_106 : ax_in 106 106 = some (.aload_n 0, 1, 0, 0) := by decide +kernel
theorem j106_107 : ax_in 106 107 = some (.iconst 0, 1, 0, 0) := by decide +kernel
theorem j106_108 : ax_in 106 108 = some (.iload_n 1, 1, 0, 0) := by decide +kernel
theorem j106_109 : ax_in 106 109 = some (.iload_n 2, 1, 0, 0) := by decide +kernel
theorem j106_110 : ax_in 106 110 = some (.invokevirtual 120, 3, 91, 0) := by decide +kernel
theorem j106_113 : ax_in 106 113 = some (.istore 5, 2, 0, 0) := by decide +kernel
theorem j106_115 : ax_in 106 115 = some (.iload 5, 2, 0, 0) := by decide +kernel
theorem j106_117 : ax_in 106 117 = some (.ifCond .ge 13, 3, 0, 0) := by decide +kernel
theorem j106_120 : ax_in 106 120 = some (.aload_n 0, 1, 0, 0) := by decide +kernel
theorem j106_121 : ax_in 106 121 = some (.iconst 0, 1, 0, 0) := by decide +kernel
theorem j106_122 : ax_in 106 122 = some (.iload_n 1, 1, 0, 0) := by decide +kernel
theorem j106_123 : ax_in 106 123 = some (.iload_n 2, 1, 0, 0) := by decide +kernel
theorem j106_124 : ax_in 106 124 = some (.invokevirtual 123, 3, 92, 0) := by decide +kernel
theorem j106_127 : ax_in 106 127 = some (.goto 5, 3, 0, 0) := by decide +kernel
theorem j106_130 : ax_in 106 130 = some (.iload 5, 2, 0, 0) := by decide +kernel
theorem j106_132 : ax_in 106 132 = some (.ireturn, 1, 0, 0) := by decide +kernel
theorem j107_0 : ax_in 107 0 = some (.iconst 0, 1, 0, 0) := by decide +kernel
theorem j107_1 : ax_in 107 1 = some (.istore_n 3, 1, 0, 0) := by decide +kernel
theorem j107_2 : ax_in 107 2 = some (.iload_n 3, 1, 0, 0) := by decide +kernel
theorem j107_3 : ax_in 107 3 = some (.aload_n 0, 1, 0, 0) := by decide +kernel
theorem j107_4 : ax_in 107 4 = some (.getfield 31, 3, 8, 8) := by decide +kernel
theorem j107_7 : ax_in 107 7 = some (.iload_n 1, 1, 0, 0) := by decide +kernel
theorem j107_8 : ax_in 107 8 = some (.iaload, 1, 0, 0) := by decide +kernel
theorem j107_9 : ax_in 107 9 = some (.if_icmp .ge 40, 3, 0, 0) := by decide +kernel
theorem j107_12 : ax_in 107 12 = some (.aload_n 0, 1, 0, 0) := by decide +kernel
theorem j107_13 : ax_in 107 13 = some (.getfield 34, 3, 8, 9) := by decide +kernel
theorem j107_16 : ax_in 107 16 = some (.iconst 5, 1, 0, 0) := by decide +kernel
theorem j107_17 : ax_in 107 17 = some (.iload_n 1, 1, 0, 0) := by decide +kernel
theorem j107_18 : ax_in 107 18 = some (.imul, 1, 0, 0) := by decide +kernel
theorem j107_19 : ax_in 107 19 = some (.iload_n 3, 1, 0, 0) := by decide +kernel
theorem j107_20 : ax_in 107 20 = some (.iadd, 1, 0, 0) := by decide +kernel
theorem j107_21 : ax_in 107 21 = some (.iaload, 1, 0, 0) := by decide +kernel
theorem j107_22 : ax_in 107 22 = some (.iload_n 2, 1, 0, 0) := by decide +kernel
theorem j107_23 : ax_in 107 23 = some (.if_icmp .ne 20, 3, 0, 0) := by decide +kernel
theorem j107_26 : ax_in 107 26 = some (.aload_n 0, 1, 0, 0) := by decide +kernel
theorem j107_27 : ax_in 107 27 = some (.iconst 0, 1, 0, 0) := by decide +kernel
theorem j107_28 : ax_in 107 28 = some (.invokevirtual 99, 3, 104, 0) := by decide +kernel
theorem j107_31 : ax_in 107 31 = some (.aload_n 0, 1, 0, 0) := by decide +kernel
theorem j107_32 : ax_in 107 32 = some (.iload_n 3, 1, 0, 0) := by decide +kernel
theorem j107_33 : ax_in 107 33 = some (.aload_n 0, 1, 0, 0) := by decide +kernel
theorem j107_34 : ax_in 107 34 = some (.getfield 31, 3, 8, 8) := by decide +kernel
theorem j107_37 : ax_in 107 37 = some (.iload_n 1, 1, 0, 0) := by decide +kernel
theorem j107_38 : ax_in 107 38 = some (.iaload, 1, 0, 0) := by decide +kernel
theorem j107_39 : ax_in 107 39 = some (.invokevirtual 95, 3, 103, 0) := by decide +kernel
theorem j107_42 : ax_in 107 42 = some (.return_, 1, 0, 0) := by decide +kernel
theorem j107_43 : ax_in 107 43 = some (.iinc 3 1, 3, 0, 0) := by decide +kernel
theorem j107_46 : ax_in 107 46 = some (.goto (-44), 3, 0, 0) := by decide +kernel
theorem j107_49 : ax_in 107 49 = some (.iconst 0, 1, 0, 0) := by decide +kernel
theorem j107_50 : ax_in 107 50 = some (.istore_n 3, 1, 0, 0) := by decide +kernel
theorem j107_51 : ax_in 107 51 = some (.iload_n 3, 1, 0, 0) := by decide +kernel
theorem j107_52 : ax_in 107 52 = some (.aload_n 0, 1, 0, 0) := by decide +kernel
theorem j107_53 : ax_in 107 53 = some (.getfield 37, 3, 8, 10) := by decide +kernel
theorem j107_56 : ax_in 107 56 = some (.iconst 0, 1, 0, 0) := by decide +kernel
theorem j107_57 : ax_in 107 57 = some (.iaload, 1, 0, 0) := by decide +kernel
theorem j107_58 : ax_in 107 58 = some (.if_icmp .ge 36, 3, 0, 0) := by decide +kernel
theorem j107_61 : ax_in 107 61 = some (.aload_n 0, 1, 0, 0) := by decide +kernel
theorem j107_62 : ax_in 107 62 = some (.getfield 40, 3, 8, 11) := by decide +kernel
theorem j107_65 : ax_in 107 65 = some (.iload_n 3, 1, 0, 0) := by decide +kernel
theorem j107_66 : ax_in 107 66 = some (.iaload, 1, 0, 0) := by decide +kernel
theorem j107_67 : ax_in 107 67 = some (.iload_n 2, 1, 0, 0) := by decide +kernel
theorem j107_68 : ax_in 107 68 = some (.if_icmp .ne 20, 3, 0, 0) := by decide +kernel
theorem j107_71 : ax_in 107 71 = some (.aload_n 0, 1, 0, 0) := by decide +kernel
theorem j107_72 : ax_in 107 72 = some (.iconst 1, 1, 0, 0) := by decide +kernel
theorem j107_73 : ax_in 107 73 = some (.invokevirtual 99, 3, 104, 0) := by decide +kernel
theorem j107_76 : ax_in 107 76 = some (.aload_n 0, 1, 0, 0) := by decide +kernel
theorem j107_77 : ax_in 107 77 = some (.iload_n 3, 1, 0, 0) := by decide +kernel
theorem j107_78 : ax_in 107 78 = some (.aload_n 0, 1, 0, 0) := by decide +kernel
theorem j107_79 : ax_in 107 79 = some (.getfield 37, 3, 8, 10) := by decide +kernel
theorem j107_82 : ax_in 107 82 = some (.iconst 0, 1, 0, 0) := by decide +kernel
theorem j107_83 : ax_in 107 83 = some (.iaload, 1, 0, 0) := by decide +kernel
theorem j107_84 : ax_in 107 84 = some (.invokevirtual 95, 3, 103, 0) := by decide +kernel
theorem j107_87 : ax_in 107 87 = some (.return_, 1, 0, 0) := by decide +kernel
theorem j107_88 : ax_in 107 88 = some (.iinc 3 1, 3, 0, 0) := by decide +kernel
theorem j107_91 : ax_in 107 91 = some (.goto (-40), 3, 0, 0) := by decide +kernel
theorem j107_94 : ax_in 107 94 = some (.aload_n 0, 1, 0, 0) := by decide +kernel
theorem j107_95 : ax_in 107 95 = some (.iload_n 2, 1, 0, 0) := by decide +kernel
theorem j107_96 : ax_in 107 96 = some (.invokestatic 84, 3, 87, 1) := by decide +kernel
theorem j107_99 : ax_in 107 99 = some (.iconst 2, 1, 0, 0) := by decide +kernel
theorem j107_100 : ax_in 107 100 = some (.iadd, 1, 0, 0) := by decide +kernel
theorem j107_101 : ax_in 107 101 = some (.invokevirtual 99, 3, 104, 0) := by decide +kernel
theorem j107_104 : ax_in 107 104 = some (.aload_n 0, 1, 0, 0) := by decide +kernel
theorem j107_105 : ax_in 107 105 = some (.iload_n 2, 1, 0, 0) := by decide +kernel
theorem j107_106 : ax_in 107 106 = some (.invokevirtual 106, 3, 105, 0) := by decide +kernel
theorem j107_109 : ax_in 107 109 = some (.aload_n 0, 1, 0, 0) := by decide +kernel
theorem j107_110 : ax_in 107 110 = some (.iconst 0, 1, 0, 0) := by decide +kernel
theorem j107_111 : ax_in 107 111 = some (.iload_n 1, 1, 0, 0) := by decide +kernel
theorem j107_112 : ax_in 107 112 = some (.iload_n 2, 1, 0, 0) := by decide +kernel
theorem j107_113 : ax_in 107 113 = some (.invokevirtual 126, 3, 95, 0) := by decide +kernel
theorem j107_116 : ax_in 107 116 = some (.return_, 1, 0, 0) := by decide +kernel
theorem j108_0 : ax_in 108 0 = some (.aload_n 0, 1, 0, 0) := by decide +kernel
theorem j108_1 : ax_in 108 1 = some (.iconst 0, 1, 0, 0) := by decide +kernel
theorem j108_2 : ax_in 108 2 = some (.invokevirtual 129, 3, 96, 0) := by decide +kernel
theorem j108_5 : ax_in 108 5 = some (.istore_n 3, 1, 0, 0) := by decide +kernel
theorem j108_6 : ax_in 108 6 = some (.aload_n 0, 1, 0, 0) := by decide +kernel
theorem j108_7 : ax_in 108 7 = some (.getfield 43, 3, 8, 12) := by decide +kernel
theorem j108_10 : ax_in 108 10 = some (.iload_n 3, 1, 0, 0) := by decide +kernel
theorem j108_11 : ax_in 108 11 = some (.iaload, 1, 0, 0) := by decide +kernel
theorem j108_12 : ax_in 108 12 = some (.istore 4, 2, 0, 0) := by decide +kernel
theorem j108_14 : ax_in 108 14 = some (.iload_n 3, 1, 0, 0) := by decide +kernel
theorem j108_15 : ax_in 108 15 = some (.iconst 2, 1, 0, 0) := by decide +kernel
theorem j108_16 : ax_in 108 16 = some (.irem, 1, 0, 0) := by decide +kernel
theorem j108_17 : ax_in 108 17 = some (.iconst 1, 1, 0, 0) := by decide +kernel
theorem j108_18 : ax_in 108 18 = some (.if_icmp .ne 7, 3, 0, 0) := by decide +kernel
theorem j108_21 : ax_in 108 21 = some (.iconst 1, 1, 0, 0) := by decide +kernel
theorem j108_22 : ax_in 108 22 = some (.goto 4, 3, 0, 0) := by decide +kernel
theorem j108_25 : ax_in 108 25 = some (.iconst 0, 1, 0, 0) := by decide +kernel
theorem j108_26 : ax_in 108 26 = some (.istore 5, 2, 0, 0) := by decide +kernel
theorem j108_28 : ax_in 108 28 = some (.iload_n 1, 1, 0, 0) := by decide +kernel
theorem j108_29 : ax_in 108 29 = some (.ifCond .ge 7, 3, 0, 0) := by decide +kernel
theorem j108_32 : ax_in 108 32 = some (.iconst (-1), 1, 0, 0) := by decide +kernel
theorem j108_33 : ax_in 108 33 = some (.goto 9, 3, 0, 0) := by decide +kernel
theorem j108_36 : ax_in 108 36 = some (.aload_n 0, 1, 0, 0) := by decide +kernel
theorem j108_37 : ax_in 108 37 = some (.iload_n 3, 1, 0, 0) := by decide +kernel
theorem j108_38 : ax_in 108 38 = some (.iload_n 1, 1, 0, 0) := by decide +kernel
theorem j108_39 : ax_in 108 39 = some (.invokevirtual 88, 3, 99, 0) := by decide +kernel
theorem j108_42 : ax_in 108 42 = some (.istore 6, 2, 0, 0) := by decide +kernel
theorem j108_44 : ax_in 108 44 = some (.iload 6, 2, 0, 0) := by decide +kernel
theorem j108_46 : ax_in 108 46 = some (.ifCond .lt 24, 3, 0, 0) := by decide +kernel
theorem j108_49 : ax_in 108 49 = some (.aload_n 0, 1, 0, 0) := by decide +kernel
theorem j108_50 : ax_in 108 50 = some (.iload 6, 2, 0, 0) := by decide +kernel
theorem j108_52 : ax_in 108 52 = some (.iload 4, 2, 0, 0) := by decide +kernel
theorem j108_54 : ax_in 108 54 = some (.iload 5, 2, 0, 0) := by decide +kernel
theorem j108_56 : ax_in 108 56 = some (.ifCond .eq 7, 3, 0, 0) := by decide +kernel
theorem j108_59 : ax_in 108 59 = some (.iconst 2, 1, 0, 0) := by decide +kernel
theorem j108_60 : ax_in 108 60 = some (.goto 4, 3, 0, 0) := by decide +kernel
theorem j108_63 : ax_in 108 63 = some (.iconst 1, 1, 0, 0) := by decide +kernel
theorem j108_64 : ax_in 108 64 = some (.iadd, 1, 0, 0) := by decide +kernel
theorem j108_65 : ax_in 108 65 = some (.invokevirtual 95, 3, 103, 0) := by decide +kernel
theorem j108_68 : ax_in 108 68 = some (.iconst 1, 1, 0, 0) := by decide +kernel
theorem j108_69 : ax_in 108 69 = some (.ireturn, 1, 0, 0) := by decide +kernel
theorem j108_70 : ax_in 108 70 = some (.iload 5, 2, 0, 0) := by decide +kernel
theorem j108_72 : ax_in 108 72 = some (.ifCond .ne 22, 3, 0, 0) := by decide +kernel
theorem j108_75 : ax_in 108 75 = some (.aload_n 0, 1, 0, 0) := by decide +kernel
theorem j108_76 : ax_in 108 76 = some (.iload 4, 2, 0, 0) := by decide +kernel
theorem j108_78 : ax_in 108 78 = some (.iload 4, 2, 0, 0) := by decide +kernel
theorem j108_80 : ax_in 108 80 = some (.iconst 1, 1, 0, 0) := by decide +kernel
theorem j108_81 : ax_in 108 81 = some (.iadd, 1, 0, 0) := by decide +kernel
theorem j108_82 : ax_in 108 82 = some (.invokevirtual 95, 3, 103, 0) := by decide +kernel
theorem j108_85 : ax_in 108 85 = some (.aload_n 0, 1, 0, 0) := by decide +kernel
theorem j108_86 : ax_in 108 86 = some (.iload_n 2, 1, 0, 0) := by decide +kernel
theorem j108_87 : ax_in 108 87 = some (.iconst 4, 1, 0, 0) := by decide +kernel
theorem j108_88 : ax_in 108 88 = some (.invokevirtual 95, 3, 103, 0) := by decide +kernel
theorem j108_91 : ax_in 108 91 = some (.goto 40, 3, 0, 0) := by decide +kernel
theorem j108_94 : ax_in 108 94 = some (.iload_n 2, 1, 0, 0) := by decide +kernel
theorem j108_95 : ax_in 108 95 = some (.ifCond .ne 16, 3, 0, 0) := by decide +kernel
theorem j108_98 : ax_in 108 98 = some (.aload_n 0, 1, 0, 0) := by decide +kernel
theorem j108_99 : ax_in 108 99 = some (.iload 4, 2, 0, 0) := by decide +kernel
theorem j108_101 : ax_in 108 101 = some (.iload 4, 2, 0, 0) := by decide +kernel
theorem j108_103 : ax_in 108 103 = some (.iconst 2, 1, 0, 0) := by decide +kernel
theorem j108_104 : ax_in 108 104 = some (.iadd, 1, 0, 0) := by decide +kernel
theorem j108_105 : ax_in 108 105 = some (.invokevirtual 95, 3, 103, 0) := by decide +kernel
theorem j108_108 : ax_in 108 108 = some (.goto 23, 3, 0, 0) := by decide +kernel
theorem j108_111 : ax_in 108 111 = some (.aload_n 0, 1, 0, 0) := by decide +kernel
theorem j108_112 : ax_in 108 112 = some (.iload 4, 2, 0, 0) := by decide +kernel
theorem j108_114 : ax_in 108 114 = some (.iconst 1, 1, 0, 0) := by decide +kernel
theorem j108_115 : ax_in 108 115 = some (.iadd, 1, 0, 0) := by decide +kernel
theorem j108_116 : ax_in 108 116 = some (.iload 4, 2, 0, 0) := by decide +kernel
theorem j108_118 : ax_in 108 118 = some (.iconst 2, 1, 0, 0) := by decide +kernel
theorem j108_119 : ax_in 108 119 = some (.iadd, 1, 0, 0) := by decide +kernel
theorem j108_120 : ax_in 108 120 = some (.invokevirtual 95, 3, 103, 0) := by decide +kernel
theorem j108_123 : ax_in 108 123 = some (.aload_n 0, 1, 0, 0) := by decide +kernel
theorem j108_124 : ax_in 108 124 = some (.iload_n 2, 1, 0, 0) := by decide +kernel
theorem j108_125 : ax_in 108 125 = some (.iconst 2, 1, 0, 0) := by decide +kernel
theorem j108_126 : ax_in 108 126 = some (.isub, 1, 0, 0) := by decide +kernel
theorem j108_127 : ax_in 108 127 = some (.iconst 2, 1, 0, 0) := by decide +kernel
theorem j108_128 : ax_in 108 128 = some (.invokevirtual 95, 3, 103, 0) := by decide +kernel
theorem j108_131 : ax_in 108 131 = some (.iconst 0, 1, 0, 0) := by decide +kernel
theorem j108_132 : ax_in 108 132 = some (.ireturn, 1, 0, 0) := by decide +kernel
theorem j109_0 : ax_in 109 0 = some (.aload_n 0, 1, 0, 0) := by decide +kernel
theorem j109_1 : ax_in 109 1 = some (.iconst 0, 1, 0, 0) := by decide +kernel
theorem j109_2 : ax_in 109 2 = some (.iload_n 1, 1, 0, 0) := by decide +kernel
theorem j109_3 : ax_in 109 3 = some (.invokevirtual 103, 3, 89, 0) := by decide +kernel
theorem j109_6 : ax_in 109 6 = some (.istore_n 3, 1, 0, 0) := by decide +kernel
theorem j109_7 : ax_in 109 7 = some (.iload_n 3, 1, 0, 0) := by decide +kernel
theorem j109_8 : ax_in 109 8 = some (.ifCond .ge 31, 3, 0, 0) := by decide +kernel
theorem j109_11 : ax_in 109 11 = some (.aload_n 0, 1, 0, 0) := by decide +kernel
theorem j109_12 : ax_in 109 12 = some (.getfield 7, 3, 8, 1) := by decide +kernel
theorem j109_15 : ax_in 109 15 = some (.iconst 0, 1, 0, 0) := by decide +kernel
theorem j109_16 : ax_in 109 16 = some (.iaload, 1, 0, 0) := by decide +kernel
theorem j109_17 : ax_in 109 17 = some (.bipush 6, 2, 0, 0) := by decide +kernel
theorem j109_19 : ax_in 109 19 = some (.if_icmp .eq 14, 3, 0, 0) := by decide +kernel
theorem j109_22 : ax_in 109 22 = some (.aload_n 0, 1, 0, 0) := by decide +kernel
theorem j109_23 : ax_in 109 23 = some (.getfield 22, 3, 8, 5) := by decide +kernel
theorem j109_26 : ax_in 109 26 = some (.iconst 0, 1, 0, 0) := by decide +kernel
theorem j109_27 : ax_in 109 27 = some (.iaload, 1, 0, 0) := by decide +kernel
theorem j109_28 : ax_in 109 28 = some (.bipush 20, 2, 0, 0) := by decide +kernel
theorem j109_30 : ax_in 109 30 = some (.if_icmp .ne 7, 3, 0, 0) := by decide +kernel
theorem j109_33 : ax_in 109 33 = some (.iconst 1, 1, 0, 0) := by decide +kernel
theorem j109_34 : ax_in 109 34 = some (.goto 4, 3, 0, 0) := by decide +kernel
theorem j109_37 : ax_in 109 37 = some (.iconst 0, 1, 0, 0) := by decide +kernel
theorem j109_38 : ax_in 109 38 = some (.ireturn, 1, 0, 0) := by decide +kernel
theorem j109_39 : ax_in 109 39 = some (.aload_n 0, 1, 0, 0) := by decide +kernel
theorem j109_40 : ax_in 109 40 = some (.iconst 0, 1, 0, 0) := by decide +kernel
theorem j109_41 : ax_in 109 41 = some (.iload_n 3, 1, 0, 0) := by decide +kernel
theorem j109_42 : ax_in 109 42 = some (.iload_n 2, 1, 0, 0) := by decide +kernel
theorem j109_43 : ax_in 109 43 = some (.invokevirtual 112, 3, 90, 0) := by decide +kernel
theorem j109_46 : ax_in 109 46 = some (.ifCond .ge 18, 3, 0, 0) := by decide +kernel
theorem j109_49 : ax_in 109 49 = some (.aload_n 0, 1, 0, 0) := by decide +kernel
theorem j109_50 : ax_in 109 50 = some (.getfield 16, 3, 8, 3) := by decide +kernel
theorem j109_53 : ax_in 109 53 = some (.iload_n 3, 1, 0, 0) := by decide +kernel
theorem j109_54 : ax_in 109 54 = some (.iaload, 1, 0, 0) := by decide +kernel
theorem j109_55 : ax_in 109 55 = some (.bipush 10, 2, 0, 0) := by decide +kernel
theorem j109_57 : ax_in 109 57 = some (.if_icmp .ne 7, 3, 0, 0) := by decide +kernel
theorem j109_60 : ax_in 109 60 = some (.iconst 1, 1, 0, 0) := by decide +kernel
theorem j109_61 : ax_in 109 61 = some (.goto 4, 3, 0, 0) := by decide +kernel
theorem j109_64 : ax_in 109 64 = some (.iconst 0, 1, 0, 0) := by decide +kernel
theorem j109_65 : ax_in 109 65 = some (.istore 4, 2, 0, 0) := by decide +kernel
theorem j109_67 : ax_in 109 67 = some (.iload 4, 2, 0, 0) := by decide +kernel
theorem j109_69 : ax_in 109 69 = some (.ifCond .ne 24, 3, 0, 0) := by decide +kernel
theorem j109_72 : ax_in 109 72 = some (.aload_n 0, 1, 0, 0) := by decide +kernel
theorem j109_73 : ax_in 109 73 = some (.iconst 0, 1, 0, 0) := by decide +kernel
theorem j109_74 : ax_in 109 74 = some (.iload_n 1, 1, 0, 0) := by decide +kernel
theorem j109_75 : ax_in 109 75 = some (.iload_n 2, 1, 0, 0) := by decide +kernel
theorem j109_76 : ax_in 109 76 = some (.invokevirtual 120, 3, 91, 0) := by decide +kernel
theorem j109_79 : ax_in 109 79 = some (.ifCond .ge 18, 3, 0, 0) := by decide +kernel
theorem j109_82 : ax_in 109 82 = some (.aload_n 0, 1, 0, 0) := by decide +kernel
theorem j109_83 : ax_in 109 83 = some (.getfield 22, 3, 8, 5) := by decide +kernel
theorem j109_86 : ax_in 109 86 = some (.iconst 0, 1, 0, 0) := by decide +kernel
theorem j109_87 : ax_in 109 87 = some (.iaload, 1, 0, 0) := by decide +kernel
theorem j109_88 : ax_in 109 88 = some (.bipush 20, 2, 0, 0) := by decide +kernel
theorem j109_90 : ax_in 109 90 = some (.if_icmp .ne 7, 3, 0, 0) := by decide +kernel
theorem j109_93 : ax_in 109 93 = some (.iconst 1, 1, 0, 0) := by decide +kernel
theorem j109_94 : ax_in 109 94 = some (.goto 4, 3, 0, 0) := by decide +kernel
theorem j109_97 : ax_in 109 97 = some (.iconst 0, 1, 0, 0) := by decide +kernel
theorem j109_98 : ax_in 109 98 = some (.ireturn, 1, 0, 0) := by decide +kernel
theorem j110_0 : ax_in 110 0 = some (.aload_n 0, 1, 0, 0) := by decide +kernel
theorem j110_1 : ax_in 110 1 = some (.getfield 49, 3, 8, 14) := by decide +kernel
theorem j110_4 : ax_in 110 4 = some (.iconst 0, 1, 0, 0) := by decide +kernel
theorem j110_5 : ax_in 110 5 = some (.iaload, 1, 0, 0) := by decide +kernel
theorem j110_6 : ax_in 110 6 = some (.ifCond .le 20, 3, 0, 0) := by decide +kernel
theorem j110_9 : ax_in 110 9 = some (.aload_n 0, 1, 0, 0) := by decide +kernel
theorem j110_10 : ax_in 110 10 = some (.aload_n 0, 1, 0, 0) := by decide +kernel
theorem j110_11 : ax_in 110 11 = some (.iconst 0, 1, 0, 0) := by decide +kernel
theorem j110_12 : ax_in 110 12 = some (.invokevirtual 129, 3, 96, 0) := by decide +kernel
theorem j110_15 : ax_in 110 15 = some (.iload_n 1, 1, 0, 0) := by decide +kernel
theorem j110_16 : ax_in 110 16 = some (.invokevirtual 88, 3, 99, 0) := by decide +kernel
theorem j110_19 : ax_in 110 19 = some (.ifCond .lt 7, 3, 0, 0) := by decide +kernel
theorem j110_22 : ax_in 110 22 = some (.iconst 1, 1, 0, 0) := by decide +kernel
theorem j110_23 : ax_in 110 23 = some (.goto 4, 3, 0, 0) := by decide +kernel
theorem j110_26 : ax_in 110 26 = some (.iconst 0, 1, 0, 0) := by decide +kernel
theorem j110_27 : ax_in 110 27 = some (.ireturn, 1, 0, 0) := by decide +kernel
theorem j111_0 : ax_in 111 0 = some (.iload_n 0, 1, 0, 0) := by decide +kernel
theorem j111_1 : ax_in 111 1 = some (.invokestatic 132, 3, 88, 1) := by decide +kernel
theorem j111_4 : ax_in 111 4 = some (.ifCond .eq 18, 3, 0, 0) := by decide +kernel
theorem j111_7 : ax_in 111 7 = some (.iload_n 1, 1, 0, 0) := by decide +kernel
theorem j111_8 : ax_in 111 8 = some (.invokestatic 132, 3, 88, 1) := by decide +kernel
theorem j111_11 : ax_in 111 11 = some (.ifCond .eq 11, 3, 0, 0) := by decide +kernel
theorem j111_14 : ax_in 111 14 = some (.iload_n 1, 1, 0, 0) := by decide +kernel
theorem j111_15 : ax_in 111 15 = some (.ifCond .le 7, 3, 0, 0) := by decide +kernel
theorem j111_18 : ax_in 111 18 = some (.iconst 1, 1, 0, 0) := by decide +kernel
theorem j111_19 : ax_in 111 19 = some (.goto 4, 3, 0, 0) := by decide +kernel
theorem j111_22 : ax_in 111 22 = some (.iconst 0, 1, 0, 0) := by decide +kernel
theorem j111_23 : ax_in 111 23 = some (.ireturn, 1, 0, 0) := by decide +kernel
theorem j112_0 : ax_in 112 0 = some (.aload_n 0, 1, 0, 0) := by decide +kernel
theorem j112_1 : ax_in 112 1 = some (.getfield 59, 3, 8, 17) := by decide +kernel
theorem j112_4 : ax_in 112 4 = some (.iconst 0, 1, 0, 0) := by decide +kernel
theorem j112_5 : ax_in 112 5 = some (.baload, 1, 0, 0) := by decide +kernel
theorem j112_6 : ax_in 112 6 = some (.ifCond .eq 5, 3, 0, 0) := by decide +kernel
theorem j112_9 : ax_in 112 9 = some (.iconst 2, 1, 0, 0) := by decide +kernel
theorem j112_10 : ax_in 112 10 = some (.ireturn, 1, 0, 0) := by decide +kernel
theorem j112_11 : ax_in 112 11 = some (.aload_n 0, 1, 0, 0) := by decide +kernel
theorem j112_12 : ax_in 112 12 = some (.iconst 0, 1, 0, 0) := by decide +kernel
theorem j112_13 : ax_in 112 13 = some (.iload_n 1, 1, 0, 0) := by decide +kernel
theorem j112_14 : ax_in 112 14 = some (.iload_n 2, 1, 0, 0) := by decide +kernel
theorem j112_15 : ax_in 112 15 = some (.invokevirtual 120, 3, 91, 0) := by decide +kernel
theorem j112_18 : ax_in 112 18 = some (.istore_n 3, 1, 0, 0) := by decide +kernel
theorem j112_19 : ax_in 112 19 = some (.iload_n 3, 1, 0, 0) := by decide +kernel
theorem j112_20 : ax_in 112 20 = some (.ifCond .lt 18, 3, 0, 0) := by decide +kernel
theorem j112_23 : ax_in 112 23 = some (.aload_n 0, 1, 0, 0) := by decide +kernel
theorem j112_24 : ax_in 112 24 = some (.iload_n 3, 1, 0, 0) := by decide +kernel
theorem j112_25 : ax_in 112 25 = some (.invokestatic 136, 3, 97, 1) := by decide +kernel
theorem j112_28 : ax_in 112 28 = some (.invokevirtual 139, 3, 110, 0) := by decide +kernel
theorem j112_31 : ax_in 112 31 = some (.ifCond .eq 7, 3, 0, 0) := by decide +kernel
theorem j112_34 : ax_in 112 34 = some (.iconst 1, 1, 0, 0) := by decide +kernel
theorem j112_35 : ax_in 112 35 = some (.goto 4, 3, 0, 0) := by decide +kernel
theorem j112_38 : ax_in 112 38 = some (.iconst 0, 1, 0, 0) := by decide +kernel
theorem j112_39 : ax_in 112 39 = some (.istore 4, 2, 0, 0) := by decide +kernel
theorem j112_41 : ax_in 112 41 = some (.aload_n 0, 1, 0, 0) := by decide +kernel
theorem j112_42 : ax_in 112 42 = some (.getfield 49, 3, 8, 14) := by decide +kernel
theorem j112_45 : ax_in 112 45 = some (.iconst 0, 1, 0, 0) := by decide +kernel
theorem j112_46 : ax_in 112 46 = some (.iaload, 1, 0, 0) := by decide +kernel
theorem j112_47 : ax_in 112 47 = some (.bipush 8, 2, 0, 0) := by decide +kernel
theorem j112_49 : ax_in 112 49 = some (.if_icmp .eq 27, 3, 0, 0) := by decide +kernel
theorem j112_52 : ax_in 112 52 = some (.aload_n 0, 1, 0, 0) := by decide +kernel
theorem j112_53 : ax_in 112 53 = some (.getfield 92, 3, 8, 19) := by decide +kernel
theorem j112_56 : ax_in 112 56 = some (.sipush 3800, 3, 0, 0) := by decide +kernel
theorem j112_59 : ax_in 112 59 = some (.if_icmp .gt 17, 3, 0, 0) := by decide +kernel
theorem j112_62 : ax_in 112 62 = some (.iload 4, 2, 0, 0) := by decide +kernel
theorem j112_64 : ax_in 112 64 = some (.ifCond .ne 14, 3, 0, 0) := by decide +kernel
theorem j112_67 : ax_in 112 67 = some (.aload_n 0, 1, 0, 0) := by decide +kernel
theorem j112_68 : ax_in 112 68 = some (.iload_n 1, 1, 0, 0) := by decide +kernel
theorem j112_69 : ax_in 112 69 = some (.iload_n 2, 1, 0, 0) := by decide +kernel
theorem j112_70 : ax_in 112 70 = some (.invokevirtual 142, 3, 109, 0) := by decide +kernel
theorem j112_73 : ax_in 112 73 = some (.ifCond .eq 5, 3, 0, 0) := by decide +kernel
theorem j112_76 : ax_in 112 76 = some (.iconst 3, 1, 0, 0) := by decide +kernel
theorem j112_77 : ax_in 112 77 = some (.ireturn, 1, 0, 0) := by decide +kernel
theorem j112_78 : ax_in 112 78 = some (.aload_n 0, 1, 0, 0) := by decide +kernel
theorem j112_79 : ax_in 112 79 = some (.getfield 49, 3, 8, 14) := by decide +kernel
theorem j112_82 : ax_in 112 82 = some (.iconst 0, 1, 0, 0) := by decide +kernel
theorem j112_83 : ax_in 112 83 = some (.iaload, 1, 0, 0) := by decide +kernel
theorem j112_84 : ax_in 112 84 = some (.ifCond .le 50, 3, 0, 0) := by decide +kernel
theorem j112_87 : ax_in 112 87 = some (.aload_n 0, 1, 0, 0) := by decide +kernel
theorem j112_88 : ax_in 112 88 = some (.iconst 0, 1, 0, 0) := by decide +kernel
theorem j112_89 : ax_in 112 89 = some (.invokevirtual 129, 3, 96, 0) := by decide +kernel
theorem j112_92 : ax_in 112 92 = some (.istore 5, 2, 0, 0) := by decide +kernel
theorem j112_94 : ax_in 112 94 = some (.aload_n 0, 1, 0, 0) := by decide +kernel
theorem j112_95 : ax_in 112 95 = some (.iload_n 3, 1, 0, 0) := by decide +kernel
theorem j112_96 : ax_in 112 96 = some (.ifCond .ge 7, 3, 0, 0) := by decide +kernel
theorem j112_99 : ax_in 112 99 = some (.iconst (-1), 1, 0, 0) := by decide +kernel
theorem j112_100 : ax_in 112 100 = some (.goto 7, 3, 0, 0) := by decide +kernel
theorem j112_103 : ax_in 112 103 = some (.iload_n 3, 1, 0, 0) := by decide +kernel
theorem j112_104 : ax_in 112 104 = some (.invokestatic 136, 3, 97, 1) := by decide +kernel
theorem j112_107 : ax_in 112 107 = some (.iconst 2, 1, 0, 0) := by decide +kernel
theorem j112_108 : ax_in 112 108 = some (.invokevirtual 146, 3, 108, 0) := by decide +kernel
theorem j112_111 : ax_in 112 111 = some (.ifCond .ne 20, 3, 0, 0) := by decide +kernel
theorem j112_114 : ax_in 112 114 = some (.aload_n 0, 1, 0, 0) := by decide +kernel
theorem j112_115 : ax_in 112 115 = some (.iload_n 1, 1, 0, 0) := by decide +kernel
theorem j112_116 : ax_in 112 116 = some (.iload_n 2, 1, 0, 0) := by decide +kernel
theorem j112_117 : ax_in 112 117 = some (.invokevirtual 149, 3, 106, 0) := by decide +kernel
theorem j112_120 : ax_in 112 120 = some (.istore_n 3, 1, 0, 0) := by decide +kernel
theorem j112_121 : ax_in 112 121 = some (.aload_n 0, 1, 0, 0) := by decide +kernel
theorem j112_122 : ax_in 112 122 = some (.iload 5, 2, 0, 0) := by decide +kernel
theorem j112_124 : ax_in 112 124 = some (.iload_n 3, 1, 0, 0) := by decide +kernel
theorem j112_125 : ax_in 112 125 = some (.invokestatic 136, 3, 97, 1) := by decide +kernel
theorem j112_128 : ax_in 112 128 = some (.invokevirtual 152, 3, 100, 0) := by decide +kernel
theorem j112_131 : ax_in 112 131 = some (.goto 10, 3, 0, 0) := by decide +kernel
theorem j112_134 : ax_in 112 134 = some (.aload_n 0, 1, 0, 0) := by decide +kernel
theorem j112_135 : ax_in 112 135 = some (.iload_n 1, 1, 0, 0) := by decide +kernel
theorem j112_136 : ax_in 112 136 = some (.iload_n 2, 1, 0, 0) := by decide +kernel
theorem j112_137 : ax_in 112 137 = some (.invokevirtual 149, 3, 106, 0) := by decide +kernel
theorem j112_140 : ax_in 112 140 = some (.istore_n 3, 1, 0, 0) := by decide +kernel
theorem j112_141 : ax_in 112 141 = some (.aload_n 0, 1, 0, 0) := by decide +kernel
theorem j112_142 : ax_in 112 142 = some (.iconst 0, 1, 0, 0) := by decide +kernel
theorem j112_143 : ax_in 112 143 = some (.iload_n 3, 1, 0, 0) := by decide +kernel
theorem j112_144 : ax_in 112 144 = some (.invokevirtual 155, 3, 101, 0) := by decide +kernel
theorem j112_147 : ax_in 112 147 = some (.iconst 0, 1, 0, 0) := by decide +kernel
theorem j112_148 : ax_in 112 148 = some (.ireturn, 1, 0, 0) := by decide +kernel
theorem j113_0 : ax_in 113 0 = some (.aload_n 0, 1, 0, 0) := by decide +kernel
theorem j113_1 : ax_in 113 1 = some (.getfield 49, 3, 8, 14) := by decide +kernel
theorem j113_4 : ax_in 113 4 = some (.iconst 0, 1, 0, 0) := by decide +kernel
theorem j113_5 : ax_in 113 5 = some (.iaload, 1, 0, 0) := by decide +kernel
theorem j113_6 : ax_in 113 6 = some (.ifCond .eq 19, 3, 0, 0) := by decide +kernel
theorem j113_9 : ax_in 113 9 = some (.aload_n 0, 1, 0, 0) := by decide +kernel
theorem j113_10 : ax_in 113 10 = some (.getfield 55, 3, 8, 16) := by decide +kernel
theorem j113_13 : ax_in 113 13 = some (.aload_n 0, 1, 0, 0) := by decide +kernel
theorem j113_14 : ax_in 113 14 = some (.getfield 49, 3, 8, 14) := by decide +kernel
theorem j113_17 : ax_in 113 17 = some (.iconst 0, 1, 0, 0) := by decide +kernel
theorem j113_18 : ax_in 113 18 = some (.iaload, 1, 0, 0) := by decide +kernel
theorem j113_19 : ax_in 113 19 = some (.iconst 1, 1, 0, 0) := by decide +kernel
theorem j113_20 : ax_in 113 20 = some (.isub, 1, 0, 0) := by decide +kernel
theorem j113_21 : ax_in 113 21 = some (.baload, 1, 0, 0) := by decide +kernel
theorem j113_22 : ax_in 113 22 = some (.ifCond .eq 5, 3, 0, 0) := by decide +kernel
theorem j113_25 : ax_in 113 25 = some (.iconst 2, 1, 0, 0) := by decide +kernel
theorem j113_26 : ax_in 113 26 = some (.ireturn, 1, 0, 0) := by decide +kernel
theorem j113_27 : ax_in 113 27 = some (.aload_n 0, 1, 0, 0) := by decide +kernel
theorem j113_28 : ax_in 113 28 = some (.iconst 0, 1, 0, 0) := by decide +kernel
theorem j113_29 : ax_in 113 29 = some (.iload_n 1, 1, 0, 0) := by decide +kernel
theorem j113_30 : ax_in 113 30 = some (.iload_n 2, 1, 0, 0) := by decide +kernel
theorem j113_31 : ax_in 113 31 = some (.invokevirtual 120, 3, 91, 0) := by decide +kernel
theorem j113_34 : ax_in 113 34 = some (.istore 4, 2, 0, 0) := by decide +kernel
theorem j113_36 : ax_in 113 36 = some (.iload 4, 2, 0, 0) := by decide +kernel
theorem j113_38 : ax_in 113 38 = some (.ifCond .lt 19, 3, 0, 0) := by decide +kernel
theorem j113_41 : ax_in 113 41 = some (.aload_n 0, 1, 0, 0) := by decide +kernel
theorem j113_42 : ax_in 113 42 = some (.iload 4, 2, 0, 0) := by decide +kernel
theorem j113_44 : ax_in 113 44 = some (.invokestatic 158, 3, 98, 1) := by decide +kernel
theorem j113_47 : ax_in 113 47 = some (.invokevirtual 139, 3, 110, 0) := by decide +kernel
theorem j113_50 : ax_in 113 50 = some (.ifCond .eq 7, 3, 0, 0) := by decide +kernel
theorem j113_53 : ax_in 113 53 = some (.iconst 1, 1, 0, 0) := by decide +kernel
theorem j113_54 : ax_in 113 54 = some (.goto 4, 3, 0, 0) := by decide +kernel
theorem j113_57 : ax_in 113 57 = some (.iconst 0, 1, 0, 0) := by decide +kernel
theorem j113_58 : ax_in 113 58 = some (.istore 5, 2, 0, 0) := by decide +kernel
theorem j113_60 : ax_in 113 60 = some (.aload_n 0, 1, 0, 0) := by decide +kernel
theorem j113_61 : ax_in 113 61 = some (.getfield 92, 3, 8, 19) := by decide +kernel
theorem j113_64 : ax_in 113 64 = some (.sipush 3800, 3, 0, 0) := by decide +kernel
theorem j113_67 : ax_in 113 67 = some (.if_icmp .gt 17, 3, 0, 0) := by decide +kernel
theorem j113_70 : ax_in 113 70 = some (.iload 5, 2, 0, 0) := by decide +kernel
theorem j113_72 : ax_in 113 72 = some (.ifCond .ne 14, 3, 0, 0) := by decide +kernel
theorem j113_75 : ax_in 113 75 = some (.aload_n 0, 1, 0, 0) := by decide +kernel
theorem j113_76 : ax_in 113 76 = some (.iload_n 1, 1, 0, 0) := by decide +kernel
theorem j113_77 : ax_in 113 77 = some (.iload_n 2, 1, 0, 0) := by decide +kernel
theorem j113_78 : ax_in 113 78 = some (.invokevirtual 142, 3, 109, 0) := by decide +kernel
theorem j113_81 : ax_in 113 81 = some (.ifCond .eq 5, 3, 0, 0) := by decide +kernel
theorem j113_84 : ax_in 113 84 = some (.iconst 3, 1, 0, 0) := by decide +kernel
theorem j113_85 : ax_in 113 85 = some (.ireturn, 1, 0, 0) := by decide +kernel
theorem j113_86 : ax_in 113 86 = some (.aload_n 0, 1, 0, 0) := by decide +kernel
theorem j113_87 : ax_in 113 87 = some (.iconst 0, 1, 0, 0) := by decide +kernel
theorem j113_88 : ax_in 113 88 = some (.invokevirtual 129, 3, 96, 0) := by decide +kernel
theorem j113_91 : ax_in 113 91 = some (.istore 6, 2, 0, 0) := by decide +kernel
theorem j113_93 : ax_in 113 93 = some (.aload_n 0, 1, 0, 0) := by decide +kernel
theorem j113_94 : ax_in 113 94 = some (.iload 4, 2, 0, 0) := by decide +kernel
theorem j113_96 : ax_in 113 96 = some (.ifCond .ge 7, 3, 0, 0) := by decide +kernel
theorem j113_99 : ax_in 113 99 = some (.iconst (-1), 1, 0, 0) := by decide +kernel
theorem j113_100 : ax_in 113 100 = some (.goto 8, 3, 0, 0) := by decide +kernel
theorem j113_103 : ax_in 113 103 = some (.iload 4, 2, 0, 0) := by decide +kernel
theorem j113_105 : ax_in 113 105 = some (.invokestatic 158, 3, 98, 1) := by decide +kernel
theorem j113_108 : ax_in 113 108 = some (.iconst 1, 1, 0, 0) := by decide +kernel
theorem j113_109 : ax_in 113 109 = some (.invokevirtual 146, 3, 108, 0) := by decide +kernel
theorem j113_112 : ax_in 113 112 = some (.ifCond .ne 22, 3, 0, 0) := by decide +kernel
theorem j113_115 : ax_in 113 115 = some (.aload_n 0, 1, 0, 0) := by decide +kernel
theorem j113_116 : ax_in 113 116 = some (.iload_n 1, 1, 0, 0) := by decide +kernel
theorem j113_117 : ax_in 113 117 = some (.iload_n 2, 1, 0, 0) := by decide +kernel
theorem j113_118 : ax_in 113 118 = some (.invokevirtual 149, 3, 106, 0) := by decide +kernel
theorem j113_121 : ax_in 113 121 = some (.istore 4, 2, 0, 0) := by decide +kernel
theorem j113_123 : ax_in 113 123 = some (.aload_n 0, 1, 0, 0) := by decide +kernel
theorem j113_124 : ax_in 113 124 = some (.iload 6, 2, 0, 0) := by decide +kernel
theorem j113_126 : ax_in 113 126 = some (.iload 4, 2, 0, 0) := by decide +kernel
theorem j113_128 : ax_in 113 128 = some (.invokestatic 158, 3, 98, 1) := by decide +kernel
theorem j113_131 : ax_in 113 131 = some (.invokevirtual 152, 3, 100, 0) := by decide +kernel
theorem j113_134 : ax_in 113 134 = some (.aload_n 0, 1, 0, 0) := by decide +kernel
theorem j113_135 : ax_in 113 135 = some (.iload 4, 2, 0, 0) := by decide +kernel
theorem j113_137 : ax_in 113 137 = some (.iload_n 3, 1, 0, 0) := by decide +kernel
theorem j113_138 : ax_in 113 138 = some (.invokevirtual 161, 3, 107, 0) := by decide +kernel
theorem j113_141 : ax_in 113 141 = some (.iconst 0, 1, 0, 0) := by decide +kernel
theorem j113_142 : ax_in 113 142 = some (.ireturn, 1, 0, 0) := by decide +kernel
theorem j114_0 : ax_in 114 0 = some (.aload_n 0, 1, 0, 0) := by decide +kernel
theorem j114_1 : ax_in 114 1 = some (.getfield 49, 3, 8, 14) := by decide +kernel
theorem j114_4 : ax_in 114 4 = some (.iconst 0, 1, 0, 0) := by decide +kernel
theorem j114_5 : ax_in 114 5 = some (.iaload, 1, 0, 0) := by decide +kernel
theorem j114_6 : ax_in 114 6 = some (.ifCond .ne 5, 3, 0, 0) := by decide +kernel
theorem j114_9 : ax_in 114 9 = some (.iconst 2, 1, 0, 0) := by decide +kernel
theorem j114_10 : ax_in 114 10 = some (.ireturn, 1, 0, 0) := by decide +kernel
theorem j114_11 : ax_in 114 11 = some (.aload_n 0, 1, 0, 0) := by decide +kernel
theorem j114_12 : ax_in 114 12 = some (.getfield 92, 3, 8, 19) := by decide +kernel
theorem j114_15 : ax_in 114 15 = some (.sipush 3800, 3, 0, 0) := by decide +kernel
theorem j114_18 : ax_in 114 18 = some (.if_icmp .le 5, 3, 0, 0) := by decide +kernel
theorem j114_21 : ax_in 114 21 = some (.iconst 3, 1, 0, 0) := by decide +kernel
theorem j114_22 : ax_in 114 22 = some (.ireturn, 1, 0, 0) := by decide +kernel
theorem j114_23 : ax_in 114 23 = some (.aload_n 0, 1, 0, 0) := by decide +kernel
theorem j114_24 : ax_in 114 24 = some (.iconst 0, 1, 0, 0) := by decide +kernel
theorem j114_25 : ax_in 114 25 = some (.invokevirtual 129, 3, 96, 0) := by decide +kernel
theorem j114_28 : ax_in 114 28 = some (.istore_n 2, 1, 0, 0) := by decide +kernel
theorem j114_29 : ax_in 114 29 = some (.aload_n 0, 1, 0, 0) := by decide +kernel
theorem j114_30 : ax_in 114 30 = some (.iconst 1, 1, 0, 0) := by decide +kernel
theorem j114_31 : ax_in 114 31 = some (.iconst 3, 1, 0, 0) := by decide +kernel
theorem j114_32 : ax_in 114 32 = some (.invokevirtual 146, 3, 108, 0) := by decide +kernel
theorem j114_35 : ax_in 114 35 = some (.ifCond .ne 9, 3, 0, 0) := by decide +kernel
theorem j114_38 : ax_in 114 38 = some (.aload_n 0, 1, 0, 0) := by decide +kernel
theorem j114_39 : ax_in 114 39 = some (.iload_n 2, 1, 0, 0) := by decide +kernel
theorem j114_40 : ax_in 114 40 = some (.iconst 1, 1, 0, 0) := by decide +kernel
theorem j114_41 : ax_in 114 41 = some (.invokevirtual 152, 3, 100, 0) := by decide +kernel
theorem j114_44 : ax_in 114 44 = some (.aload_n 0, 1, 0, 0) := by decide +kernel
theorem j114_45 : ax_in 114 45 = some (.getfield 49, 3, 8, 14) := by decide +kernel
theorem j114_48 : ax_in 114 48 = some (.iconst 0, 1, 0, 0) := by decide +kernel
theorem j114_49 : ax_in 114 49 = some (.iaload, 1, 0, 0) := by decide +kernel
theorem j114_50 : ax_in 114 50 = some (.iconst 1, 1, 0, 0) := by decide +kernel
theorem j114_51 : ax_in 114 51 = some (.isub, 1, 0, 0) := by decide +kernel
theorem j114_52 : ax_in 114 52 = some (.istore_n 3, 1, 0, 0) := by decide +kernel
theorem j114_53 : ax_in 114 53 = some (.aload_n 0, 1, 0, 0) := by decide +kernel
theorem j114_54 : ax_in 114 54 = some (.aload_n 0, 1, 0, 0) := by decide +kernel
theorem j114_55 : ax_in 114 55 = some (.getfield 52, 3, 8, 15) := by decide +kernel
theorem j114_58 : ax_in 114 58 = some (.iload_n 3, 1, 0, 0) := by decide +kernel
theorem j114_59 : ax_in 114 59 = some (.iaload, 1, 0, 0) := by decide +kernel
theorem j114_60 : ax_in 114 60 = some (.iload_n 1, 1, 0, 0) := by decide +kernel
theorem j114_61 : ax_in 114 61 = some (.invokevirtual 161, 3, 107, 0) := by decide +kernel
theorem j114_64 : ax_in 114 64 = some (.aload_n 0, 1, 0, 0) := by decide +kernel
theorem j114_65 : ax_in 114 65 = some (.getfield 55, 3, 8, 16) := by decide +kernel
theorem j114_68 : ax_in 114 68 = some (.iload_n 3, 1, 0, 0) := by decide +kernel
theorem j114_69 : ax_in 114 69 = some (.iconst 1, 1, 0, 0) := by decide +kernel
theorem j114_70 : ax_in 114 70 = some (.bastore, 1, 0, 0) := by decide +kernel
theorem j114_71 : ax_in 114 71 = some (.iconst 0, 1, 0, 0) := by decide +kernel
theorem j114_72 : ax_in 114 72 = some (.ireturn, 1, 0, 0) := by decide +kernel
theorem j115_0 : ax_in 115 0 = some (.aload_n 0, 1, 0, 0) := by decide +kernel
theorem j115_1 : ax_in 115 1 = some (.getfield 49, 3, 8, 14) := by decide +kernel
theorem j115_4 : ax_in 115 4 = some (.iconst 0, 1, 0, 0) := by decide +kernel
theorem j115_5 : ax_in 115 5 = some (.iaload, 1, 0, 0) := by decide +kernel
theorem j115_6 : ax_in 115 6 = some (.ifCond .ne 5, 3, 0, 0) := by decide +kernel
theorem j115_9 : ax_in 115 9 = some (.iconst 2, 1, 0, 0) := by decide +kernel
theorem j115_10 : ax_in 115 10 = some (.ireturn, 1, 0, 0) := by decide +kernel
theorem j115_11 : ax_in 115 11 = some (.aload_n 0, 1, 0, 0) := by decide +kernel
theorem j115_12 : ax_in 115 12 = some (.getfield 92, 3, 8, 19) := by decide +kernel
theorem j115_15 : ax_in 115 15 = some (.sipush 3800, 3, 0, 0) := by decide +kernel
theorem j115_18 : ax_in 115 18 = some (.if_icmp .le 5, 3, 0, 0) := by decide +kernel
theorem j115_21 : ax_in 115 21 = some (.iconst 3, 1, 0, 0) := by decide +kernel
theorem j115_22 : ax_in 115 22 = some (.ireturn, 1, 0, 0) := by decide +kernel
theorem j115_23 : ax_in 115 23 = some (.aload_n 0, 1, 0, 0) := by decide +kernel
theorem j115_24 : ax_in 115 24 = some (.iconst 0, 1, 0, 0) := by decide +kernel
theorem j115_25 : ax_in 115 25 = some (.invokevirtual 129, 3, 96, 0) := by decide +kernel
theorem j115_28 : ax_in 115 28 = some (.istore_n 1, 1, 0, 0) := by decide +kernel
theorem j115_29 : ax_in 115 29 = some (.aload_n 0, 1, 0, 0) := by decide +kernel
theorem j115_30 : ax_in 115 30 = some (.iconst 0, 1, 0, 0) := by decide +kernel
theorem j115_31 : ax_in 115 31 = some (.iconst 0, 1, 0, 0) := by decide +kernel
theorem j115_32 : ax_in 115 32 = some (.invokevirtual 146, 3, 108, 0) := by decide +kernel
theorem j115_35 : ax_in 115 35 = some (.ifCond .ne 15, 3, 0, 0) := by decide +kernel
theorem j115_38 : ax_in 115 38 = some (.iload_n 1, 1, 0, 0) := by decide +kernel
theorem j115_39 : ax_in 115 39 = some (.iconst 2, 1, 0, 0) := by decide +kernel
theorem j115_40 : ax_in 115 40 = some (.irem, 1, 0, 0) := by decide +kernel
theorem j115_41 : ax_in 115 41 = some (.ifCond .ne 9, 3, 0, 0) := by decide +kernel
theorem j115_44 : ax_in 115 44 = some (.aload_n 0, 1, 0, 0) := by decide +kernel
theorem j115_45 : ax_in 115 45 = some (.iload_n 1, 1, 0, 0) := by decide +kernel
theorem j115_46 : ax_in 115 46 = some (.iconst 0, 1, 0, 0) := by decide +kernel
theorem j115_47 : ax_in 115 47 = some (.invokevirtual 152, 3, 100, 0) := by decide +kernel
theorem j115_50 : ax_in 115 50 = some (.aload_n 0, 1, 0, 0) := by decide +kernel
theorem j115_51 : ax_in 115 51 = some (.iconst 0, 1, 0, 0) := by decide +kernel
theorem j115_52 : ax_in 115 52 = some (.invokevirtual 164, 3, 102, 0) := by decide +kernel
theorem j115_55 : ax_in 115 55 = some (.iconst 0, 1, 0, 0) := by decide +kernel
theorem j115_56 : ax_in 115 56 = some (.ireturn, 1, 0, 0) := by decide +kernel
theorem j116_0 : ax_in 116 0 = some (.aload_n 0, 1, 0, 0) := by decide +kernel
theorem j116_1 : ax_in 116 1 = some (.iconst 0, 1, 0, 0) := by decide +kernel
theorem j116_2 : ax_in 116 2 = some (.putfield 80, 3, 8, 0) := by decide +kernel
theorem j116_5 : ax_in 116 5 = some (.aload_n 0, 1, 0, 0) := by decide +kernel
theorem j116_6 : ax_in 116 6 = some (.getfield 167, 3, 8, 29) := by decide +kernel
theorem j116_9 : ax_in 116 9 = some (.ifCond .ne 13, 3, 0, 0) := by decide +kernel
theorem j116_12 : ax_in 116 12 = some (.aload_n 0, 1, 0, 0) := by decide +kernel
theorem j116_13 : ax_in 116 13 = some (.iconst 0, 1, 0, 0) := by decide +kernel
theorem j116_14 : ax_in 116 14 = some (.invokevirtual 171, 3, 86, 0) := by decide +kernel
theorem j116_17 : ax_in 116 17 = some (.aload_n 0, 1, 0, 0) := by decide +kernel
theorem j116_18 : ax_in 116 18 = some (.iconst 1, 1, 0, 0) := by decide +kernel
theorem j116_19 : ax_in 116 19 = some (.putfield 167, 3, 8, 29) := by decide +kernel
theorem j116_22 : ax_in 116 22 = some (.return_, 1, 0, 0) := by decide +kernel
theorem j117_0 : ax_in 117 0 = some (.aload_n 0, 1, 0, 0) := by decide +kernel
theorem j117_1 : ax_in 117 1 = some (.invokevirtual 174, 3, 116, 0) := by decide +kernel
theorem j117_4 : ax_in 117 4 = some (.aload_n 0, 1, 0, 0) := by decide +kernel
theorem j117_5 : ax_in 117 5 = some (.iload_n 1, 1, 0, 0) := by decide +kernel
theorem j117_6 : ax_in 117 6 = some (.iload_n 2, 1, 0, 0) := by decide +kernel
theorem j117_7 : ax_in 117 7 = some (.invokestatic 177, 3, 111, 1) := by decide +kernel
theorem j117_10 : ax_in 117 10 = some (.ifCond .eq 12, 3, 0, 0) := by decide +kernel
theorem j117_13 : ax_in 117 13 = some (.aload_n 0, 1, 0, 0) := by decide +kernel
theorem j117_14 : ax_in 117 14 = some (.iload_n 1, 1, 0, 0) := by decide +kernel
theorem j117_15 : ax_in 117 15 = some (.iload_n 2, 1, 0, 0) := by decide +kernel
theorem j117_16 : ax_in 117 16 = some (.invokevirtual 180, 3, 112, 0) := by decide +kernel
theorem j117_19 : ax_in 117 19 = some (.goto 4, 3, 0, 0) := by decide +kernel
theorem j117_22 : ax_in 117 22 = some (.iconst 1, 1, 0, 0) := by decide +kernel
theorem j117_23 : ax_in 117 23 = some (.putfield 80, 3, 8, 0) := by decide +kernel
theorem j117_26 : ax_in 117 26 = some (.return_, 1, 0, 0) := by decide +kernel
theorem j118_0 : ax_in 118 0 = some (.aload_n 0, 1, 0, 0) := by decide +kernel
theorem j118_1 : ax_in 118 1 = some (.invokevirtual 174, 3, 116, 0) := by decide +kernel
theorem j118_4 : ax_in 118 4 = some (.aload_n 0, 1, 0, 0) := by decide +kernel
theorem j118_5 : ax_in 118 5 = some (.iload_n 1, 1, 0, 0) := by decide +kernel
theorem j118_6 : ax_in 118 6 = some (.iload_n 2, 1, 0, 0) := by decide +kernel
theorem j118_7 : ax_in 118 7 = some (.invokestatic 177, 3, 111, 1) := by decide +kernel
theorem j118_10 : ax_in 118 10 = some (.ifCond .eq 20, 3, 0, 0) := by decide +kernel
theorem j118_13 : ax_in 118 13 = some (.iload_n 3, 1, 0, 0) := by decide +kernel
theorem j118_14 : ax_in 118 14 = some (.invokestatic 132, 3, 88, 1) := by decide +kernel
theorem j118_17 : ax_in 118 17 = some (.ifCond .eq 13, 3, 0, 0) := by decide +kernel
theorem j118_20 : ax_in 118 20 = some (.aload_n 0, 1, 0, 0) := by decide +kernel
theorem j118_21 : ax_in 118 21 = some (.iload_n 1, 1, 0, 0) := by decide +kernel
theorem j118_22 : ax_in 118 22 = some (.iload_n 2, 1, 0, 0) := by decide +kernel
theorem j118_23 : ax_in 118 23 = some (.iload_n 3, 1, 0, 0) := by decide +kernel
theorem j118_24 : ax_in 118 24 = some (.invokevirtual 183, 3, 113, 0) := by decide +kernel
theorem j118_27 : ax_in 118 27 = some (.goto 4, 3, 0, 0) := by decide +kernel
theorem j118_30 : ax_in 118 30 = some (.iconst 1, 1, 0, 0) := by decide +kernel
theorem j118_31 : ax_in 118 31 = some (.putfield 80, 3, 8, 0) := by decide +kernel
theorem j118_34 : ax_in 118 34 = some (.return_, 1, 0, 0) := by decide +kernel
theorem j119_0 : ax_in 119 0 = some (.aload_n 0, 1, 0, 0) := by decide +kernel
theorem j119_1 : ax_in 119 1 = some (.invokevirtual 174, 3, 116, 0) := by decide +kernel
theorem j119_4 : ax_in 119 4 = some (.aload_n 0, 1, 0, 0) := by decide +kernel
theorem j119_5 : ax_in 119 5 = some (.iload_n 1, 1, 0, 0) := by decide +kernel
theorem j119_6 : ax_in 119 6 = some (.invokestatic 132, 3, 88, 1) := by decide +kernel
theorem j119_9 : ax_in 119 9 = some (.ifCond .eq 11, 3, 0, 0) := by decide +kernel
theorem j119_12 : ax_in 119 12 = some (.aload_n 0, 1, 0, 0) := by decide +kernel
theorem j119_13 : ax_in 119 13 = some (.iload_n 1, 1, 0, 0) := by decide +kernel
theorem j119_14 : ax_in 119 14 = some (.invokevirtual 186, 3, 114, 0) := by decide +kernel
theorem j119_17 : ax_in 119 17 = some (.goto 4, 3, 0, 0) := by decide +kernel
theorem j119_20 : ax_in 119 20 = some (.iconst 1, 1, 0, 0) := by decide +kernel
theorem j119_21 : ax_in 119 21 = some (.putfield 80, 3, 8, 0) := by decide +kernel
theorem j119_24 : ax_in 119 24 = some (.return_, 1, 0, 0) := by decide +kernel
theorem j120_0 : ax_in 120 0 = some (.aload_n 0, 1, 0, 0) := by decide +kernel
theorem j120_1 : ax_in 120 1 = some (.invokevirtual 174, 3, 116, 0) := by decide +kernel
theorem j120_4 : ax_in 120 4 = some (.aload_n 0, 1, 0, 0) := by decide +kernel
theorem j120_5 : ax_in 120 5 = some (.invokevirtual 189, 3, 115, 0) := by decide +kernel
theorem j120_8 : ax_in 120 8 = some (.istore_n 1, 1, 0, 0) := by decide +kernel
theorem j120_9 : ax_in 120 9 = some (.aload_n 0, 1, 0, 0) := by decide +kernel
theorem j120_10 : ax_in 120 10 = some (.iload_n 1, 1, 0, 0) := by decide +kernel
theorem j120_11 : ax_in 120 11 = some (.ifCond .ne 7, 3, 0, 0) := by decide +kernel
theorem j120_14 : ax_in 120 14 = some (.iconst 0, 1, 0, 0) := by decide +kernel
theorem j120_15 : ax_in 120 15 = some (.goto 6, 3, 0, 0) := by decide +kernel
theorem j120_18 : ax_in 120 18 = some (.iload_n 1, 1, 0, 0) := by decide +kernel
theorem j120_19 : ax_in 120 19 = some (.iconst 1, 1, 0, 0) := by decide +kernel
theorem j120_20 : ax_in 120 20 = some (.isub, 1, 0, 0) := by decide +kernel
theorem j120_21 : ax_in 120 21 = some (.putfield 80, 3, 8, 0) := by decide +kernel
theorem j120_24 : ax_in 120 24 = some (.aload_n 0, 1, 0, 0) := by decide +kernel
theorem j120_25 : ax_in 120 25 = some (.getfield 80, 3, 8, 0) := by decide +kernel
theorem j120_28 : ax_in 120 28 = some (.ifCond .le 7, 3, 0, 0) := by decide +kernel
theorem j120_31 : ax_in 120 31 = some (.iconst 0, 1, 0, 0) := by decide +kernel
theorem j120_32 : ax_in 120 32 = some (.goto 9, 3, 0, 0) := by decide +kernel
theorem j120_35 : ax_in 120 35 = some (.aload_n 0, 1, 0, 0) := by decide +kernel
theorem j120_36 : ax_in 120 36 = some (.getfield 49, 3, 8, 14) := by decide +kernel
theorem j120_39 : ax_in 120 39 = some (.iconst 0, 1, 0, 0) := by decide +kernel
theorem j120_40 : ax_in 120 40 = some (.iaload, 1, 0, 0) := by decide +kernel
theorem j120_41 : ax_in 120 41 = some (.ireturn, 1, 0, 0) := by decide +kernel
theorem j121_0 : ax_in 121 0 = some (.aload_n 0, 1, 0, 0) := by decide +kernel
theorem j121_1 : ax_in 121 1 = some (.invokevirtual 174, 3, 116, 0) := by decide +kernel
theorem j121_4 : ax_in 121 4 = some (.aload_n 0, 1, 0, 0) := by decide +kernel
theorem j121_5 : ax_in 121 5 = some (.iconst 0, 1, 0, 0) := by decide +kernel
theorem j121_6 : ax_in 121 6 = some (.invokevirtual 171, 3, 86, 0) := by decide +kernel
theorem j121_9 : ax_in 121 9 = some (.aload_n 0, 1, 0, 0) := by decide +kernel
theorem j121_10 : ax_in 121 10 = some (.iconst 0, 1, 0, 0) := by decide +kernel
theorem j121_11 : ax_in 121 11 = some (.putfield 92, 3, 8, 19) := by decide +kernel
theorem j121_14 : ax_in 121 14 = some (.return_, 1, 0, 0) := by decide +kernel
theorem j122_0 : ax_in 122 0 = some (.aload_n 0, 1, 0, 0) := by decide +kernel
theorem j122_1 : ax_in 122 1 = some (.iconst 0, 1, 0, 0) := by decide +kernel
theorem j122_2 : ax_in 122 2 = some (.putfield 80, 3, 8, 0) := by decide +kernel
theorem j122_5 : ax_in 122 5 = some (.aload_n 0, 1, 0, 0) := by decide +kernel
theorem j122_6 : ax_in 122 6 = some (.getfield 92, 3, 8, 19) := by decide +kernel
theorem j122_9 : ax_in 122 9 = some (.ireturn, 1, 0, 0) := by decide +kernel
theorem j123_0 : ax_in 123 0 = some (.aload_n 0, 1, 0, 0) := by decide +kernel
theorem j123_1 : ax_in 123 1 = some (.iconst 0, 1, 0, 0) := by decide +kernel
theorem j123_2 : ax_in 123 2 = some (.putfield 80, 3, 8, 0) := by decide +kernel
theorem j123_5 : ax_in 123 5 = some (.iconst 0, 1, 0, 0) := by decide +kernel
theorem j123_6 : ax_in 123 6 = some (.istore_n 1, 1, 0, 0) := by decide +kernel
theorem j123_7 : ax_in 123 7 = some (.iload_n 1, 1, 0, 0) := by decide +kernel
theorem j123_8 : ax_in 123 8 = some (.aload_n 0, 1, 0, 0) := by decide +kernel
theorem j123_9 : ax_in 123 9 = some (.getfield 92, 3, 8, 19) := by decide +kernel
theorem j123_12 : ax_in 123 12 = some (.if_icmp .ge 21, 3, 0, 0) := by decide +kernel
theorem j123_15 : ax_in 123 15 = some (.aload_n 0, 1, 0, 0) := by decide +kernel
theorem j123_16 : ax_in 123 16 = some (.getfield 65, 3, 8, 20) := by decide +kernel
theorem j123_19 : ax_in 123 19 = some (.iload_n 1, 1, 0, 0) := by decide +kernel
theorem j123_20 : ax_in 123 20 = some (.aload_n 0, 1, 0, 0) := by decide +kernel
theorem j123_21 : ax_in 123 21 = some (.getfield 62, 3, 8, 18) := by decide +kernel
theorem j123_24 : ax_in 123 24 = some (.iload_n 1, 1, 0, 0) := by decide +kernel
theorem j123_25 : ax_in 123 25 = some (.baload, 1, 0, 0) := by decide +kernel
theorem j123_26 : ax_in 123 26 = some (.bastore, 1, 0, 0) := by decide +kernel
theorem j123_27 : ax_in 123 27 = some (.iinc 1 1, 3, 0, 0) := by decide +kernel
theorem j123_30 : ax_in 123 30 = some (.goto (-23), 3, 0, 0) := by decide +kernel
theorem j123_33 : ax_in 123 33 = some (.aload_n 0, 1, 0, 0) := by decide +kernel
theorem j123_34 : ax_in 123 34 = some (.aload_n 0, 1, 0, 0) := by decide +kernel
theorem j123_35 : ax_in 123 35 = some (.getfield 92, 3, 8, 19) := by decide +kernel
theorem j123_38 : ax_in 123 38 = some (.putfield 193, 3, 8, 21) := by decide +kernel
theorem j123_41 : ax_in 123 41 = some (.aload_n 0, 1, 0, 0) := by decide +kernel
theorem j123_42 : ax_in 123 42 = some (.getfield 193, 3, 8, 21) := by decide +kernel
theorem j123_45 : ax_in 123 45 = some (.ireturn, 1, 0, 0) := by decide +kernel
theorem j124_0 : ax_in 124 0 = some (.aload_n 0, 1, 0, 0) := by decide +kernel
theorem j124_1 : ax_in 124 1 = some (.aload_n 0, 1, 0, 0) := by decide +kernel
theorem j124_2 : ax_in 124 2 = some (.getfield 193, 3, 8, 21) := by decide +kernel
theorem j124_5 : ax_in 124 5 = some (.sipush 4000, 3, 0, 0) := by decide +kernel
theorem j124_8 : ax_in 124 8 = some (.if_icmp .lt 7, 3, 0, 0) := by decide +kernel
theorem j124_11 : ax_in 124 11 = some (.iconst 1, 1, 0, 0) := by decide +kernel
theorem j124_12 : ax_in 124 12 = some (.goto 4, 3, 0, 0) := by decide +kernel
theorem j124_15 : ax_in 124 15 = some (.iconst 0, 1, 0, 0) := by decide +kernel
theorem j124_16 : ax_in 124 16 = some (.putfield 80, 3, 8, 0) := by decide +kernel
theorem j124_19 : ax_in 124 19 = some (.aload_n 0, 1, 0, 0) := by decide +kernel
theorem j124_20 : ax_in 124 20 = some (.getfield 80, 3, 8, 0) := by decide +kernel
theorem j124_23 : ax_in 124 23 = some (.ifCond .le 5, 3, 0, 0) := by decide +kernel
theorem j124_26 : ax_in 124 26 = some (.iconst 0, 1, 0, 0) := by decide +kernel
theorem j124_27 : ax_in 124 27 = some (.ireturn, 1, 0, 0) := by decide +kernel
theorem j124_28 : ax_in 124 28 = some (.aload_n 0, 1, 0, 0) := by decide +kernel
theorem j124_29 : ax_in 124 29 = some (.getfield 65, 3, 8, 20) := by decide +kernel
theorem j124_32 : ax_in 124 32 = some (.aload_n 0, 1, 0, 0) := by decide +kernel
theorem j124_33 : ax_in 124 33 = some (.getfield 193, 3, 8, 21) := by decide +kernel
theorem j124_36 : ax_in 124 36 = some (.iload_n 1, 1, 0, 0) := by decide +kernel
theorem j124_37 : ax_in 124 37 = some (.bastore, 1, 0, 0) := by decide +kernel
theorem j124_38 : ax_in 124 38 = some (.aload_n 0, 1, 0, 0) := by decide +kernel
theorem j124_39 : ax_in 124 39 = some (.dup, 1, 0, 0) := by decide +kernel
theorem j124_40 : ax_in 124 40 = some (.getfield 193, 3, 8, 21) := by decide +kernel
theorem j124_43 : ax_in 124 43 = some (.iconst 1, 1, 0, 0) := by decide +kernel
theorem j124_44 : ax_in 124 44 = some (.iadd, 1, 0, 0) := by decide +kernel
theorem j124_45 : ax_in 124 45 = some (.putfield 193, 3, 8, 21) := by decide +kernel
theorem j124_48 : ax_in 124 48 = some (.aload_n 0, 1, 0, 0) := by decide +kernel
theorem j124_49 : ax_in 124 49 = some (.getfield 193, 3, 8, 21) := by decide +kernel
theorem j124_52 : ax_in 124 52 = some (.ireturn, 1, 0, 0) := by decide +kernel
theorem j125_0 : ax_in 125 0 = some (.aload_n 0, 1, 0, 0) := by decide +kernel
theorem j125_1 : ax_in 125 1 = some (.iload_n 1, 1, 0, 0) := by decide +kernel
theorem j125_2 : ax_in 125 2 = some (.ifCond .lt 11, 3, 0, 0) := by decide +kernel
theorem j125_5 : ax_in 125 5 = some (.iload_n 1, 1, 0, 0) := by decide +kernel
theorem j125_6 : ax_in 125 6 = some (.aload_n 0, 1, 0, 0) := by decide +kernel
theorem j125_7 : ax_in 125 7 = some (.getfield 193, 3, 8, 21) := by decide +kernel
theorem j125_10 : ax_in 125 10 = some (.if_icmp .lt 7, 3, 0, 0) := by decide +kernel
theorem j125_13 : ax_in 125 13 = some (.iconst 1, 1, 0, 0) := by decide +kernel
theorem j125_14 : ax_in 125 14 = some (.goto 4, 3, 0, 0) := by decide +kernel
theorem j125_17 : ax_in 125 17 = some (.iconst 0, 1, 0, 0) := by decide +kernel
theorem j125_18 : ax_in 125 18 = some (.putfield 80, 3, 8, 0) := by decide +kernel
theorem j125_21 : ax_in 125 21 = some (.aload_n 0, 1, 0, 0) := by decide +kernel
theorem j125_22 : ax_in 125 22 = some (.getfield 80, 3, 8, 0) := by decide +kernel
theorem j125_25 : ax_in 125 25 = some (.ifCond .ne 16, 3, 0, 0) := by decide +kernel
theorem j125_28 : ax_in 125 28 = some (.aload_n 0, 1, 0, 0) := by decide +kernel
theorem j125_29 : ax_in 125 29 = some (.getfield 65, 3, 8, 20) := by decide +kernel
theorem j125_32 : ax_in 125 32 = some (.iload_n 1, 1, 0, 0) := by decide +kernel
theorem j125_33 : ax_in 125 33 = some (.baload, 1, 0, 0) := by decide +kernel
theorem j125_34 : ax_in 125 34 = some (.ifCond .eq 7, 3, 0, 0) := by decide +kernel
theorem j125_37 : ax_in 125 37 = some (.iconst 1, 1, 0, 0) := by decide +kernel
theorem j125_38 : ax_in 125 38 = some (.goto 4, 3, 0, 0) := by decide +kernel
theorem j125_41 : ax_in 125 41 = some (.iconst 0, 1, 0, 0) := by decide +kernel
theorem j125_42 : ax_in 125 42 = some (.ireturn, 1, 0, 0) := by decide +kernel
theorem j126_0 : ax_in 126 0 = some (.aload_n 0, 1, 0, 0) := by decide +kernel
theorem j126_1 : ax_in 126 1 = some (.iload_n 1, 1, 0, 0) := by decide +kernel
theorem j126_2 : ax_in 126 2 = some (.ifCond .lt 11, 3, 0, 0) := by decide +kernel
theorem j126_5 : ax_in 126 5 = some (.iload_n 1, 1, 0, 0) := by decide +kernel
theorem j126_6 : ax_in 126 6 = some (.aload_n 0, 1, 0, 0) := by decide +kernel
theorem j126_7 : ax_in 126 7 = some (.getfield 193, 3, 8, 21) := by decide +kernel
theorem j126_10 : ax_in 126 10 = some (.if_icmp .lt 7, 3, 0, 0) := by decide +kernel
theorem j126_13 : ax_in 126 13 = some (.iconst 1, 1, 0, 0) := by decide +kernel
theorem j126_14 : ax_in 126 14 = some (.goto 4, 3, 0, 0) := by decide +kernel
theorem j126_17 : ax_in 126 17 = some (.iconst 0, 1, 0, 0) := by decide +kernel
theorem j126_18 : ax_in 126 18 = some (.putfield 80, 3, 8, 0) := by decide +kernel
theorem j126_21 : ax_in 126 21 = some (.aload_n 0, 1, 0, 0) := by decide +kernel
theorem j126_22 : ax_in 126 22 = some (.getfield 80, 3, 8, 0) := by decide +kernel
theorem j126_25 : ax_in 126 25 = some (.ifCond .ne 23, 3, 0, 0) := by decide +kernel
theorem j126_28 : ax_in 126 28 = some (.aload_n 0, 1, 0, 0) := by decide +kernel
theorem j126_29 : ax_in 126 29 = some (.getfield 65, 3, 8, 20) := by decide +kernel
theorem j126_32 : ax_in 126 32 = some (.iload_n 1, 1, 0, 0) := by decide +kernel
theorem j126_33 : ax_in 126 33 = some (.aload_n 0, 1, 0, 0) := by decide +kernel
theorem j126_34 : ax_in 126 34 = some (.getfield 65, 3, 8, 20) := by decide +kernel
theorem j126_37 : ax_in 126 37 = some (.iload_n 1, 1, 0, 0) := by decide +kernel
theorem j126_38 : ax_in 126 38 = some (.baload, 1, 0, 0) := by decide +kernel
theorem j126_39 : ax_in 126 39 = some (.ifCond .ne 7, 3, 0, 0) := by decide +kernel
theorem j126_42 : ax_in 126 42 = some (.iconst 1, 1, 0, 0) := by decide +kernel
theorem j126_43 : ax_in 126 43 = some (.goto 4, 3, 0, 0) := by decide +kernel
theorem j126_46 : ax_in 126 46 = some (.iconst 0, 1, 0, 0) := by decide +kernel
theorem j126_47 : ax_in 126 47 = some (.bastore, 1, 0, 0) := by decide +kernel
theorem j126_48 : ax_in 126 48 = some (.return_, 1, 0, 0) := by decide +kernel
theorem j127_0 : ax_in 127 0 = some (.aload_n 0, 1, 0, 0) := by decide +kernel
theorem j127_1 : ax_in 127 1 = some (.iload_n 1, 1, 0, 0) := by decide +kernel
theorem j127_2 : ax_in 127 2 = some (.ifCond .lt 11, 3, 0, 0) := by decide +kernel
theorem j127_5 : ax_in 127 5 = some (.iload_n 1, 1, 0, 0) := by decide +kernel
theorem j127_6 : ax_in 127 6 = some (.aload_n 0, 1, 0, 0) := by decide +kernel
theorem j127_7 : ax_in 127 7 = some (.getfield 193, 3, 8, 21) := by decide +kernel
theorem j127_10 : ax_in 127 10 = some (.if_icmp .le 7, 3, 0, 0) := by decide +kernel
theorem j127_13 : ax_in 127 13 = some (.iconst 1, 1, 0, 0) := by decide +kernel
theorem j127_14 : ax_in 127 14 = some (.goto 4, 3, 0, 0) := by decide +kernel
theorem j127_17 : ax_in 127 17 = some (.iconst 0, 1, 0, 0) := by decide +kernel
theorem j127_18 : ax_in 127 18 = some (.putfield 80, 3, 8, 0) := by decide +kernel
theorem j127_21 : ax_in 127 21 = some (.aload_n 0, 1, 0, 0) := by decide +kernel
theorem j127_22 : ax_in 127 22 = some (.getfield 80, 3, 8, 0) := by decide +kernel
theorem j127_25 : ax_in 127 25 = some (.ifCond .ne 8, 3, 0, 0) := by decide +kernel
theorem j127_28 : ax_in 127 28 = some (.aload_n 0, 1, 0, 0) := by decide +kernel
theorem j127_29 : ax_in 127 29 = some (.iload_n 1, 1, 0, 0) := by decide +kernel
theorem j127_30 : ax_in 127 30 = some (.putfield 193, 3, 8, 21) := by decide +kernel
theorem j127_33 : ax_in 127 33 = some (.return_, 1, 0, 0) := by decide +kernel
theorem j128_0 : ax_in 128 0 = some (.aload_n 0, 1, 0, 0) := by decide +kernel
theorem j128_1 : ax_in 128 1 = some (.aload_n 0, 1, 0, 0) := by decide +kernel
theorem j128_2 : ax_in 128 2 = some (.getfield 196, 3, 8, 23) := by decide +kernel
theorem j128_5 : ax_in 128 5 = some (.ifCond .ne 14, 3, 0, 0) := by decide +kernel
theorem j128_8 : ax_in 128 8 = some (.aload_n 0, 1, 0, 0) := by decide +kernel
theorem j128_9 : ax_in 128 9 = some (.getfield 199, 3, 8, 22) := by decide +kernel
theorem j128_12 : ax_in 128 12 = some (.aload_n 0, 1, 0, 0) := by decide +kernel
theorem j128_13 : ax_in 128 13 = some (.getfield 193, 3, 8, 21) := by decide +kernel
theorem j128_16 : ax_in 128 16 = some (.if_icmp .ne 7, 3, 0, 0) := by decide +kernel
theorem j128_19 : ax_in 128 19 = some (.iconst 1, 1, 0, 0) := by decide +kernel
theorem j128_20 : ax_in 128 20 = some (.goto 4, 3, 0, 0) := by decide +kernel
theorem j128_23 : ax_in 128 23 = some (.iconst 0, 1, 0, 0) := by decide +kernel
theorem j128_24 : ax_in 128 24 = some (.putfield 196, 3, 8, 23) := by decide +kernel
theorem j128_27 : ax_in 128 27 = some (.aload_n 0, 1, 0, 0) := by decide +kernel
theorem j128_28 : ax_in 128 28 = some (.getfield 196, 3, 8, 23) := by decide +kernel
theorem j128_31 : ax_in 128 31 = some (.ifCond .eq 5, 3, 0, 0) := by decide +kernel
theorem j128_34 : ax_in 128 34 = some (.iconst 0, 1, 0, 0) := by decide +kernel
theorem j128_35 : ax_in 128 35 = some (.ireturn, 1, 0, 0) := by decide +kernel
theorem j128_36 : ax_in 128 36 = some (.aload_n 0, 1, 0, 0) := by decide +kernel
theorem j128_37 : ax_in 128 37 = some (.dup, 1, 0, 0) := by decide +kernel
theorem j128_38 : ax_in 128 38 = some (.getfield 199, 3, 8, 22) := by decide +kernel
theorem j128_41 : ax_in 128 41 = some (.iconst 1, 1, 0, 0) := by decide +kernel
theorem j128_42 : ax_in 128 42 = some (.iadd, 1, 0, 0) := by decide +kernel
theorem j128_43 : ax_in 128 43 = some (.putfield 199, 3, 8, 22) := by decide +kernel
theorem j128_46 : ax_in 128 46 = some (.aload_n 0, 1, 0, 0) := by decide +kernel
theorem j128_47 : ax_in 128 47 = some (.getfield 65, 3, 8, 20) := by decide +kernel
theorem j128_50 : ax_in 128 50 = some (.aload_n 0, 1, 0, 0) := by decide +kernel
theorem j128_51 : ax_in 128 51 = some (.getfield 199, 3, 8, 22) := by decide +kernel
theorem j128_54 : ax_in 128 54 = some (.iconst 1, 1, 0, 0) := by decide +kernel
theorem j128_55 : ax_in 128 55 = some (.isub, 1, 0, 0) := by decide +kernel
theorem j128_56 : ax_in 128 56 = some (.baload, 1, 0, 0) := by decide +kernel
theorem j128_57 : ax_in 128 57 = some (.ifCond .eq 7, 3, 0, 0) := by decide +kernel
theorem j128_60 : ax_in 128 60 = some (.iconst 1, 1, 0, 0) := by decide +kernel
theorem j128_61 : ax_in 128 61 = some (.goto 4, 3, 0, 0) := by decide +kernel
theorem j128_64 : ax_in 128 64 = some (.iconst 0, 1, 0, 0) := by decide +kernel
theorem j128_65 : ax_in 128 65 = some (.ireturn, 1, 0, 0) := by decide +kernel
theorem j129_0 : ax_in 129 0 = some (.iconst 0, 1, 0, 0) := by decide +kernel
theorem j129_1 : ax_in 129 1 = some (.istore_n 2, 1, 0, 0) := by decide +kernel
theorem j129_2 : ax_in 129 2 = some (.iconst 1, 1, 0, 0) := by decide +kernel
theorem j129_3 : ax_in 129 3 = some (.istore_n 3, 1, 0, 0) := by decide +kernel
theorem j129_4 : ax_in 129 4 = some (.iload_n 3, 1, 0, 0) := by decide +kernel
theorem j129_5 : ax_in 129 5 = some (.iload_n 1, 1, 0, 0) := by decide +kernel
theorem j129_6 : ax_in 129 6 = some (.if_icmp .ge 19, 3, 0, 0) := by decide +kernel
theorem j129_9 : ax_in 129 9 = some (.iconst 2, 1, 0, 0) := by decide +kernel
theorem j129_10 : ax_in 129 10 = some (.iload_n 2, 1, 0, 0) := by decide +kernel
theorem j129_11 : ax_in 129 11 = some (.imul, 1, 0, 0) := by decide +kernel
theorem j129_12 : ax_in 129 12 = some (.aload_n 0, 1, 0, 0) := by decide +kernel
theorem j129_13 : ax_in 129 13 = some (.invokevirtual 202, 3, 128, 0) := by decide +kernel
theorem j129_16 : ax_in 129 16 = some (.iadd, 1, 0, 0) := by decide +kernel
theorem j129_17 : ax_in 129 17 = some (.istore_n 2, 1, 0, 0) := by decide +kernel
theorem j129_18 : ax_in 129 18 = some (.iconst 2, 1, 0, 0) := by decide +kernel
theorem j129_19 : ax_in 129 19 = some (.iload_n 3, 1, 0, 0) := by decide +kernel
theorem j129_20 : ax_in 129 20 = some (.imul, 1, 0, 0) := by decide +kernel
theorem j129_21 : ax_in 129 21 = some (.istore_n 3, 1, 0, 0) := by decide +kernel
theorem j129_22 : ax_in 129 22 = some (.goto (-18), 3, 0, 0) := by decide +kernel
theorem j129_25 : ax_in 129 25 = some (.aload_n 0, 1, 0, 0) := by decide +kernel
theorem j129_26 : ax_in 129 26 = some (.aload_n 0, 1, 0, 0) := by decide +kernel
theorem j129_27 : ax_in 129 27 = some (.getfield 196, 3, 8, 23) := by decide +kernel
theorem j129_30 : ax_in 129 30 = some (.ifCond .ne 8, 3, 0, 0) := by decide +kernel
theorem j129_33 : ax_in 129 33 = some (.iload_n 2, 1, 0, 0) := by decide +kernel
theorem j129_34 : ax_in 129 34 = some (.iload_n 1, 1, 0, 0) := by decide +kernel
theorem j129_35 : ax_in 129 35 = some (.if_icmp .lt 7, 3, 0, 0) := by decide +kernel
theorem j129_38 : ax_in 129 38 = some (.iconst 1, 1, 0, 0) := by decide +kernel
theorem j129_39 : ax_in 129 39 = some (.goto 4, 3, 0, 0) := by decide +kernel
theorem j129_42 : ax_in 129 42 = some (.iconst 0, 1, 0, 0) := by decide +kernel
theorem j129_43 : ax_in 129 43 = some (.putfield 196, 3, 8, 23) := by decide +kernel
theorem j129_46 : ax_in 129 46 = some (.aload_n 0, 1, 0, 0) := by decide +kernel
theorem j129_47 : ax_in 129 47 = some (.getfield 196, 3, 8, 23) := by decide +kernel
theorem j129_50 : ax_in 129 50 = some (.ifCond .eq 7, 3, 0, 0) := by decide +kernel
theorem j129_53 : ax_in 129 53 = some (.iconst 0, 1, 0, 0) := by decide +kernel
theorem j129_54 : ax_in 129 54 = some (.goto 4, 3, 0, 0) := by decide +kernel
theorem j129_57 : ax_in 129 57 = some (.iload_n 2, 1, 0, 0) := by decide +kernel
theorem j129_58 : ax_in 129 58 = some (.ireturn, 1, 0, 0) := by decide +kernel
theorem j130_0 : ax_in 130 0 = some (.iconst 0, 1, 0, 0) := by decide +kernel
theorem j130_1 : ax_in 130 1 = some (.istore_n 1, 1, 0, 0) := by decide +kernel
theorem j130_2 : ax_in 130 2 = some (.iconst 0, 1, 0, 0) := by decide +kernel
theorem j130_3 : ax_in 130 3 = some (.istore_n 2, 1, 0, 0) := by decide +kernel
theorem j130_4 : ax_in 130 4 = some (.iconst 1, 1, 0, 0) := by decide +kernel
theorem j130_5 : ax_in 130 5 = some (.istore_n 3, 1, 0, 0) := by decide +kernel
theorem j130_6 : ax_in 130 6 = some (.iload_n 3, 1, 0, 0) := by decide +kernel
theorem j130_7 : ax_in 130 7 = some (.ifCond .eq 55, 3, 0, 0) := by decide +kernel
theorem j130_10 : ax_in 130 10 = some (.aload_n 0, 1, 0, 0) := by decide +kernel
theorem j130_11 : ax_in 130 11 = some (.getfield 196, 3, 8, 23) := by decide +kernel
theorem j130_14 : ax_in 130 14 = some (.ifCond .ne 48, 3, 0, 0) := by decide +kernel
theorem j130_17 : ax_in 130 17 = some (.iload_n 2, 1, 0, 0) := by decide +kernel
theorem j130_18 : ax_in 130 18 = some (.iconst 4, 1, 0, 0) := by decide +kernel
theorem j130_19 : ax_in 130 19 = some (.if_icmp .ne 10, 3, 0, 0) := by decide +kernel
theorem j130_22 : ax_in 130 22 = some (.aload_n 0, 1, 0, 0) := by decide +kernel
theorem j130_23 : ax_in 130 23 = some (.iconst 1, 1, 0, 0) := by decide +kernel
theorem j130_24 : ax_in 130 24 = some (.putfield 196, 3, 8, 23) := by decide +kernel
theorem j130_27 : ax_in 130 27 = some (.iconst 0, 1, 0, 0) := by decide +kernel
theorem j130_28 : ax_in 130 28 = some (.ireturn, 1, 0, 0) := by decide +kernel
theorem j130_29 : ax_in 130 29 = some (.aload_n 0, 1, 0, 0) := by decide +kernel
theorem j130_30 : ax_in 130 30 = some (.invokevirtual 202, 3, 128, 0) := by decide +kernel
theorem j130_33 : ax_in 130 33 = some (.iconst 1, 1, 0, 0) := by decide +kernel
theorem j130_34 : ax_in 130 34 = some (.if_icmp .ne 7, 3, 0, 0) := by decide +kernel
theorem j130_37 : ax_in 130 37 = some (.iconst 1, 1, 0, 0) := by decide +kernel
theorem j130_38 : ax_in 130 38 = some (.goto 4, 3, 0, 0) := by decide +kernel
theorem j130_41 : ax_in 130 41 = some (.iconst 0, 1, 0, 0) := by decide +kernel
theorem j130_42 : ax_in 130 42 = some (.istore_n 3, 1, 0, 0) := by decide +kernel
theorem j130_43 : ax_in 130 43 = some (.iload_n 1, 1, 0, 0) := by decide +kernel
theorem j130_44 : ax_in 130 44 = some (.aload_n 0, 1, 0, 0) := by decide +kernel
theorem j130_45 : ax_in 130 45 = some (.bipush 8, 2, 0, 0) := by decide +kernel
theorem j130_47 : ax_in 130 47 = some (.invokevirtual 205, 3, 129, 0) := by decide +kernel
theorem j130_50 : ax_in 130 50 = some (.iconst 3, 1, 0, 0) := by decide +kernel
theorem j130_51 : ax_in 130 51 = some (.iload_n 2, 1, 0, 0) := by decide +kernel
theorem j130_52 : ax_in 130 52 = some (.imul, 1, 0, 0) := by decide +kernel
theorem j130_53 : ax_in 130 53 = some (.ishl, 1, 0, 0) := by decide +kernel
theorem j130_54 : ax_in 130 54 = some (.iadd, 1, 0, 0) := by decide +kernel
theorem j130_55 : ax_in 130 55 = some (.istore_n 1, 1, 0, 0) := by decide +kernel
theorem j130_56 : ax_in 130 56 = some (.iinc 2 1, 3, 0, 0) := by decide +kernel
theorem j130_59 : ax_in 130 59 = some (.goto (-53), 3, 0, 0) := by decide +kernel
theorem j130_62 : ax_in 130 62 = some (.iload_n 1, 1, 0, 0) := by decide +kernel
theorem j130_63 : ax_in 130 63 = some (.ireturn, 1, 0, 0) := by decide +kernel
theorem j131_0 : ax_in 131 0 = some (.aload_n 0, 1, 0, 0) := by decide +kernel
theorem j131_1 : ax_in 131 1 = some (.aload_n 0, 1, 0, 0) := by decide +kernel
theorem j131_2 : ax_in 131 2 = some (.getfield 196, 3, 8, 23) := by decide +kernel
theorem j131_5 : ax_in 131 5 = some (.ifCond .ne 8, 3, 0, 0) := by decide +kernel
theorem j131_8 : ax_in 131 8 = some (.iload_n 1, 1, 0, 0) := by decide +kernel
theorem j131_9 : ax_in 131 9 = some (.iconst 5, 1, 0, 0) := by decide +kernel
theorem j131_10 : ax_in 131 10 = some (.if_icmp .le 7, 3, 0, 0) := by decide +kernel
theorem j131_13 : ax_in 131 13 = some (.iconst 1, 1, 0, 0) := by decide +kernel
theorem j131_14 : ax_in 131 14 = some (.goto 4, 3, 0, 0) := by decide +kernel
theorem j131_17 : ax_in 131 17 = some (.iconst 0, 1, 0, 0) := by decide +kernel
theorem j131_18 : ax_in 131 18 = some (.putfield 196, 3, 8, 23) := by decide +kernel
theorem j131_21 : ax_in 131 21 = some (.iconst 0, 1, 0, 0) := by decide +kernel
theorem j131_22 : ax_in 131 22 = some (.istore_n 2, 1, 0, 0) := by decide +kernel
theorem j131_23 : ax_in 131 23 = some (.iconst 1, 1, 0, 0) := by decide +kernel
theorem j131_24 : ax_in 131 24 = some (.istore_n 3, 1, 0, 0) := by decide +kernel
theorem j131_25 : ax_in 131 25 = some (.iconst 0, 1, 0, 0) := by decide +kernel
theorem j131_26 : ax_in 131 26 = some (.istore 4, 2, 0, 0) := by decide +kernel
theorem j131_28 : ax_in 131 28 = some (.iload 4, 2, 0, 0) := by decide +kernel
theorem j131_30 : ax_in 131 30 = some (.iload_n 1, 1, 0, 0) := by decide +kernel
theorem j131_31 : ax_in 131 31 = some (.if_icmp .ge 74, 3, 0, 0) := by decide +kernel
theorem j131_34 : ax_in 131 34 = some (.aload_n 0, 1, 0, 0) := by decide +kernel
theorem j131_35 : ax_in 131 35 = some (.getfield 196, 3, 8, 23) := by decide +kernel
theorem j131_38 : ax_in 131 38 = some (.ifCond .ne 67, 3, 0, 0) := by decide +kernel
theorem j131_41 : ax_in 131 41 = some (.aload_n 0, 1, 0, 0) := by decide +kernel
theorem j131_42 : ax_in 131 42 = some (.invokevirtual 208, 3, 130, 0) := by decide +kernel
theorem j131_45 : ax_in 131 45 = some (.istore 5, 2, 0, 0) := by decide +kernel
theorem j131_47 : ax_in 131 47 = some (.aload_n 0, 1, 0, 0) := by decide +kernel
theorem j131_48 : ax_in 131 48 = some (.aload_n 0, 1, 0, 0) := by decide +kernel
theorem j131_49 : ax_in 131 49 = some (.getfield 196, 3, 8, 23) := by decide +kernel
theorem j131_52 : ax_in 131 52 = some (.ifCond .ne 16, 3, 0, 0) := by decide +kernel
theorem j131_55 : ax_in 131 55 = some (.iload 5, 2, 0, 0) := by decide +kernel
theorem j131_57 : ax_in 131 57 = some (.iconst 1, 1, 0, 0) := by decide +kernel
theorem j131_58 : ax_in 131 58 = some (.if_icmp .lt 10, 3, 0, 0) := by decide +kernel
theorem j131_61 : ax_in 131 61 = some (.iload 5, 2, 0, 0) := by decide +kernel
theorem j131_63 : ax_in 131 63 = some (.bipush 26, 2, 0, 0) := by decide +kernel
theorem j131_65 : ax_in 131 65 = some (.if_icmp .le 7, 3, 0, 0) := by decide +kernel
theorem j131_68 : ax_in 131 68 = some (.iconst 1, 1, 0, 0) := by decide +kernel
theorem j131_69 : ax_in 131 69 = some (.goto 4, 3, 0, 0) := by decide +kernel
theorem j131_72 : ax_in 131 72 = some (.iconst 0, 1, 0, 0) := by decide +kernel
theorem j131_73 : ax_in 131 73 = some (.putfield 196, 3, 8, 23) := by decide +kernel
theorem j131_76 : ax_in 131 76 = some (.iload_n 2, 1, 0, 0) := by decide +kernel
theorem j131_77 : ax_in 131 77 = some (.aload_n 0, 1, 0, 0) := by decide +kernel
theorem j131_78 : ax_in 131 78 = some (.getfield 196, 3, 8, 23) := by decide +kernel
theorem j131_81 : ax_in 131 81 = some (.ifCond .eq 7, 3, 0, 0) := by decide +kernel
theorem j131_84 : ax_in 131 84 = some (.iconst 0, 1, 0, 0) := by decide +kernel
theorem j131_85 : ax_in 131 85 = some (.goto 7, 3, 0, 0) := by decide +kernel
theorem j131_88 : ax_in 131 88 = some (.iload_n 3, 1, 0, 0) := by decide +kernel
theorem j131_89 : ax_in 131 89 = some (.iload 5, 2, 0, 0) := by decide +kernel
theorem j131_91 : ax_in 131 91 = some (.imul, 1, 0, 0) := by decide +kernel
theorem j131_92 : ax_in 131 92 = some (.iadd, 1, 0, 0) := by decide +kernel
theorem j131_93 : ax_in 131 93 = some (.istore_n 2, 1, 0, 0) := by decide +kernel
theorem j131_94 : ax_in 131 94 = some (.bipush 27, 2, 0, 0) := by decide +kernel
theorem j131_96 : ax_in 131 96 = some (.iload_n 3, 1, 0, 0) := by decide +kernel
theorem j131_97 : ax_in 131 97 = some (.imul, 1, 0, 0) := by decide +kernel
theorem j131_98 : ax_in 131 98 = some (.istore_n 3, 1, 0, 0) := by decide +kernel
theorem j131_99 : ax_in 131 99 = some (.iinc 4 1, 3, 0, 0) := by decide +kernel
theorem j131_102 : ax_in 131 102 = some (.goto (-74), 3, 0, 0) := by decide +kernel
theorem j131_105 : ax_in 131 105 = some (.iload_n 2, 1, 0, 0) := by decide +kernel
theorem j131_106 : ax_in 131 106 = some (.ireturn, 1, 0, 0) := by decide +kernel
theorem j132_0 : ax_in 132 0 = some (.aload_n 0, 1, 0, 0) := by decide +kernel
theorem j132_1 : ax_in 132 1 = some (.aload_n 0, 1, 0, 0) := by decide +kernel
theorem j132_2 : ax_in 132 2 = some (.getfield 7, 3, 8, 1) := by decide +kernel
theorem j132_5 : ax_in 132 5 = some (.iconst 1, 1, 0, 0) := by decide +kernel
theorem j132_6 : ax_in 132 6 = some (.iaload, 1, 0, 0) := by decide +kernel
theorem j132_7 : ax_in 132 7 = some (.iconst 1, 1, 0, 0) := by decide +kernel
theorem j132_8 : ax_in 132 8 = some (.iadd, 1, 0, 0) := by decide +kernel
theorem j132_9 : ax_in 132 9 = some (.invokevirtual 205, 3, 129, 0) := by decide +kernel
theorem j132_12 : ax_in 132 12 = some (.iconst 1, 1, 0, 0) := by decide +kernel
theorem j132_13 : ax_in 132 13 = some (.isub, 1, 0, 0) := by decide +kernel
theorem j132_14 : ax_in 132 14 = some (.istore_n 1, 1, 0, 0) := by decide +kernel
theorem j132_15 : ax_in 132 15 = some (.iload_n 1, 1, 0, 0) := by decide +kernel
theorem j132_16 : ax_in 132 16 = some (.ifCond .ge 61, 3, 0, 0) := by decide +kernel
theorem j132_19 : ax_in 132 19 = some (.aload_n 0, 1, 0, 0) := by decide +kernel
theorem j132_20 : ax_in 132 20 = some (.aload_n 0, 1, 0, 0) := by decide +kernel
theorem j132_21 : ax_in 132 21 = some (.invokevirtual 208, 3, 130, 0) := by decide +kernel
theorem j132_24 : ax_in 132 24 = some (.invokevirtual 211, 3, 131, 0) := by decide +kernel
theorem j132_27 : ax_in 132 27 = some (.istore_n 2, 1, 0, 0) := by decide +kernel
theorem j132_28 : ax_in 132 28 = some (.aload_n 0, 1, 0, 0) := by decide +kernel
theorem j132_29 : ax_in 132 29 = some (.aload_n 0, 1, 0, 0) := by decide +kernel
theorem j132_30 : ax_in 132 30 = some (.getfield 196, 3, 8, 23) := by decide +kernel
theorem j132_33 : ax_in 132 33 = some (.ifCond .ne 14, 3, 0, 0) := by decide +kernel
theorem j132_36 : ax_in 132 36 = some (.aload_n 0, 1, 0, 0) := by decide +kernel
theorem j132_37 : ax_in 132 37 = some (.getfield 7, 3, 8, 1) := by decide +kernel
theorem j132_40 : ax_in 132 40 = some (.iconst 1, 1, 0, 0) := by decide +kernel
theorem j132_41 : ax_in 132 41 = some (.iaload, 1, 0, 0) := by decide +kernel
theorem j132_42 : ax_in 132 42 = some (.bipush 6, 2, 0, 0) := by decide +kernel
theorem j132_44 : ax_in 132 44 = some (.if_icmp .ne 7, 3, 0, 0) := by decide +kernel
theorem j132_47 : ax_in 132 47 = some (.iconst 1, 1, 0, 0) := by decide +kernel
theorem j132_48 : ax_in 132 48 = some (.goto 4, 3, 0, 0) := by decide +kernel
theorem j132_51 : ax_in 132 51 = some (.iconst 0, 1, 0, 0) := by decide +kernel
theorem j132_52 : ax_in 132 52 = some (.putfield 196, 3, 8, 23) := by decide +kernel
theorem j132_55 : ax_in 132 55 = some (.aload_n 0, 1, 0, 0) := by decide +kernel
theorem j132_56 : ax_in 132 56 = some (.getfield 196, 3, 8, 23) := by decide +kernel
theorem j132_59 : ax_in 132 59 = some (.ifCond .eq 5, 3, 0, 0) := by decide +kernel
theorem j132_62 : ax_in 132 62 = some (.iconst (-1), 1, 0, 0) := by decide +kernel
theorem j132_63 : ax_in 132 63 = some (.ireturn, 1, 0, 0) := by decide +kernel
theorem j132_64 : ax_in 132 64 = some (.aload_n 0, 1, 0, 0) := by decide +kernel
theorem j132_65 : ax_in 132 65 = some (.getfield 7, 3, 8, 1) := by decide +kernel
theorem j132_68 : ax_in 132 68 = some (.iconst 1, 1, 0, 0) := by decide +kernel
theorem j132_69 : ax_in 132 69 = some (.iaload, 1, 0, 0) := by decide +kernel
theorem j132_70 : ax_in 132 70 = some (.istore_n 1, 1, 0, 0) := by decide +kernel
theorem j132_71 : ax_in 132 71 = some (.aload_n 0, 1, 0, 0) := by decide +kernel
theorem j132_72 : ax_in 132 72 = some (.iconst 1, 1, 0, 0) := by decide +kernel
theorem j132_73 : ax_in 132 73 = some (.iload_n 2, 1, 0, 0) := by decide +kernel
theorem j132_74 : ax_in 132 74 = some (.invokevirtual 109, 3, 93, 0) := by decide +kernel
theorem j132_77 : ax_in 132 77 = some (.bipush 6, 2, 0, 0) := by decide +kernel
theorem j132_79 : ax_in 132 79 = some (.iload_n 1, 1, 0, 0) := by decide +kernel
theorem j132_80 : ax_in 132 80 = some (.iadd, 1, 0, 0) := by decide +kernel
theorem j132_81 : ax_in 132 81 = some (.istore_n 2, 1, 0, 0) := by decide +kernel
theorem j132_82 : ax_in 132 82 = some (.aload_n 0, 1, 0, 0) := by decide +kernel
theorem j132_83 : ax_in 132 83 = some (.invokevirtual 208, 3, 130, 0) := by decide +kernel
theorem j132_86 : ax_in 132 86 = some (.istore_n 3, 1, 0, 0) := by decide +kernel
theorem j132_87 : ax_in 132 87 = some (.aload_n 0, 1, 0, 0) := by decide +kernel
theorem j132_88 : ax_in 132 88 = some (.getfield 196, 3, 8, 23) := by decide +kernel
theorem j132_91 : ax_in 132 91 = some (.ifCond .eq 5, 3, 0, 0) := by decide +kernel
theorem j132_94 : ax_in 132 94 = some (.iconst (-1), 1, 0, 0) := by decide +kernel
theorem j132_95 : ax_in 132 95 = some (.ireturn, 1, 0, 0) := by decide +kernel
theorem j132_96 : ax_in 132 96 = some (.iload_n 3, 1, 0, 0) := by decide +kernel
theorem j132_97 : ax_in 132 97 = some (.ifCond .ne 28, 3, 0, 0) := by decide +kernel
theorem j132_100 : ax_in 132 100 = some (.aload_n 0, 1, 0, 0) := by decide +kernel
theorem j132_101 : ax_in 132 101 = some (.getfield 19, 3, 8, 4) := by decide +kernel
theorem j132_104 : ax_in 132 104 = some (.bipush 10, 2, 0, 0) := by decide +kernel
theorem j132_106 : ax_in 132 106 = some (.iload_n 2, 1, 0, 0) := by decide +kernel
theorem j132_107 : ax_in 132 107 = some (.imul, 1, 0, 0) := by decide +kernel
theorem j132_108 : ax_in 132 108 = some (.aload_n 0, 1, 0, 0) := by decide +kernel
theorem j132_109 : ax_in 132 109 = some (.aload_n 0, 1, 0, 0) := by decide +kernel
theorem j132_110 : ax_in 132 110 = some (.getfield 16, 3, 8, 3) := by decide +kernel
theorem j132_113 : ax_in 132 113 = some (.iload_n 2, 1, 0, 0) := by decide +kernel
theorem j132_114 : ax_in 132 114 = some (.iaload, 1, 0, 0) := by decide +kernel
theorem j132_115 : ax_in 132 115 = some (.invokevirtual 205, 3, 129, 0) := by decide +kernel
theorem j132_118 : ax_in 132 118 = some (.iadd, 1, 0, 0) := by decide +kernel
theorem j132_119 : ax_in 132 119 = some (.iaload, 1, 0, 0) := by decide +kernel
theorem j132_120 : ax_in 132 120 = some (.istore 4, 2, 0, 0) := by decide +kernel
theorem j132_122 : ax_in 132 122 = some (.goto 52, 3, 0, 0) := by decide +kernel
theorem j132_125 : ax_in 132 125 = some (.aload_n 0, 1, 0, 0) := by decide +kernel
theorem j132_126 : ax_in 132 126 = some (.iload_n 3, 1, 0, 0) := by decide +kernel
theorem j132_127 : ax_in 132 127 = some (.invokevirtual 211, 3, 131, 0) := by decide +kernel
theorem j132_130 : ax_in 132 130 = some (.istore 4, 2, 0, 0) := by decide +kernel
theorem j132_132 : ax_in 132 132 = some (.aload_n 0, 1, 0, 0) := by decide +kernel
theorem j132_133 : ax_in 132 133 = some (.aload_n 0, 1, 0, 0) := by decide +kernel
theorem j132_134 : ax_in 132 134 = some (.getfield 196, 3, 8, 23) := by decide +kernel
theorem j132_137 : ax_in 132 137 = some (.ifCond .ne 14, 3, 0, 0) := by decide +kernel
theorem j132_140 : ax_in 132 140 = some (.aload_n 0, 1, 0, 0) := by decide +kernel
theorem j132_141 : ax_in 132 141 = some (.getfield 16, 3, 8, 3) := by decide +kernel
theorem j132_144 : ax_in 132 144 = some (.iload_n 2, 1, 0, 0) := by decide +kernel
theorem j132_145 : ax_in 132 145 = some (.iaload, 1, 0, 0) := by decide +kernel
theorem j132_146 : ax_in 132 146 = some (.bipush 10, 2, 0, 0) := by decide +kernel
theorem j132_148 : ax_in 132 148 = some (.if_icmp .ne 7, 3, 0, 0) := by decide +kernel
theorem j132_151 : ax_in 132 151 = some (.iconst 1, 1, 0, 0) := by decide +kernel
theorem j132_152 : ax_in 132 152 = some (.goto 4, 3, 0, 0) := by decide +kernel
theorem j132_155 : ax_in 132 155 = some (.iconst 0, 1, 0, 0) := by decide +kernel
theorem j132_156 : ax_in 132 156 = some (.putfield 196, 3, 8, 23) := by decide +kernel
theorem j132_159 : ax_in 132 159 = some (.aload_n 0, 1, 0, 0) := by decide +kernel
theorem j132_160 : ax_in 132 160 = some (.getfield 196, 3, 8, 23) := by decide +kernel
theorem j132_163 : ax_in 132 163 = some (.ifCond .ne 11, 3, 0, 0) := by decide +kernel
theorem j132_166 : ax_in 132 166 = some (.aload_n 0, 1, 0, 0) := by decide +kernel
theorem j132_167 : ax_in 132 167 = some (.iconst 1, 1, 0, 0) := by decide +kernel
theorem j132_168 : ax_in 132 168 = some (.iload_n 1, 1, 0, 0) := by decide +kernel
theorem j132_169 : ax_in 132 169 = some (.iload 4, 2, 0, 0) := by decide +kernel
theorem j132_171 : ax_in 132 171 = some (.invokevirtual 116, 3, 94, 0) := by decide +kernel
theorem j132_174 : ax_in 132 174 = some (.aload_n 0, 1, 0, 0) := by decide +kernel
theorem j132_175 : ax_in 132 175 = some (.getfield 196, 3, 8, 23) := by decide +kernel
theorem j132_178 : ax_in 132 178 = some (.ifCond .eq 5, 3, 0, 0) := by decide +kernel
theorem j132_181 : ax_in 132 181 = some (.iconst (-1), 1, 0, 0) := by decide +kernel
theorem j132_182 : ax_in 132 182 = some (.ireturn, 1, 0, 0) := by decide +kernel
theorem j132_183 : ax_in 132 183 = some (.aload_n 0, 1, 0, 0) := by decide +kernel
theorem j132_184 : ax_in 132 184 = some (.getfield 13, 3, 8, 2) := by decide +kernel
theorem j132_187 : ax_in 132 187 = some (.iload_n 2, 1, 0, 0) := by decide +kernel
theorem j132_188 : ax_in 132 188 = some (.iaload, 1, 0, 0) := by decide +kernel
theorem j132_189 : ax_in 132 189 = some (.istore 5, 2, 0, 0) := by decide +kernel
theorem j132_191 : ax_in 132 191 = some (.aload_n 0, 1, 0, 0) := by decide +kernel
theorem j132_192 : ax_in 132 192 = some (.iconst 1, 1, 0, 0) := by decide +kernel
theorem j132_193 : ax_in 132 193 = some (.iload 5, 2, 0, 0) := by decide +kernel
theorem j132_195 : ax_in 132 195 = some (.iload 4, 2, 0, 0) := by decide +kernel
theorem j132_197 : ax_in 132 197 = some (.invokevirtual 120, 3, 91, 0) := by decide +kernel
theorem j132_200 : ax_in 132 200 = some (.istore 6, 2, 0, 0) := by decide +kernel
theorem j132_202 : ax_in 132 202 = some (.aload_n 0, 1, 0, 0) := by decide +kernel
theorem j132_203 : ax_in 132 203 = some (.iload 6, 2, 0, 0) := by decide +kernel
theorem j132_205 : ax_in 132 205 = some (.ifCond .ge 18, 3, 0, 0) := by decide +kernel
theorem j132_208 : ax_in 132 208 = some (.aload_n 0, 1, 0, 0) := by decide +kernel
theorem j132_209 : ax_in 132 209 = some (.getfield 22, 3, 8, 5) := by decide +kernel
theorem j132_212 : ax_in 132 212 = some (.iconst 1, 1, 0, 0) := by decide +kernel
theorem j132_213 : ax_in 132 213 = some (.iaload, 1, 0, 0) := by decide +kernel
theorem j132_214 : ax_in 132 214 = some (.bipush 20, 2, 0, 0) := by decide +kernel
theorem j132_216 : ax_in 132 216 = some (.if_icmp .ne 7, 3, 0, 0) := by decide +kernel
theorem j132_219 : ax_in 132 219 = some (.iconst 1, 1, 0, 0) := by decide +kernel
theorem j132_220 : ax_in 132 220 = some (.goto 4, 3, 0, 0) := by decide +kernel
theorem j132_223 : ax_in 132 223 = some (.iconst 0, 1, 0, 0) := by decide +kernel
theorem j132_224 : ax_in 132 224 = some (.putfield 196, 3, 8, 23) := by decide +kernel
theorem j132_227 : ax_in 132 227 = some (.aload_n 0, 1, 0, 0) := by decide +kernel
theorem j132_228 : ax_in 132 228 = some (.getfield 196, 3, 8, 23) := by decide +kernel
theorem j132_231 : ax_in 132 231 = some (.ifCond .eq 7, 3, 0, 0) := by decide +kernel
theorem j132_234 : ax_in 132 234 = some (.iconst (-1), 1, 0, 0) := by decide +kernel
theorem j132_235 : ax_in 132 235 = some (.goto 22, 3, 0, 0) := by decide +kernel
theorem j132_238 : ax_in 132 238 = some (.iload 6, 2, 0, 0) := by decide +kernel
theorem j132_240 : ax_in 132 240 = some (.ifCond .ge 15, 3, 0, 0) := by decide +kernel
theorem j132_243 : ax_in 132 243 = some (.aload_n 0, 1, 0, 0) := by decide +kernel
theorem j132_244 : ax_in 132 244 = some (.iconst 1, 1, 0, 0) := by decide +kernel
theorem j132_245 : ax_in 132 245 = some (.iload 5, 2, 0, 0) := by decide +kernel
theorem j132_247 : ax_in 132 247 = some (.iload 4, 2, 0, 0) := by decide +kernel
theorem j132_249 : ax_in 132 249 = some (.invokevirtual 123, 3, 92, 0) := by decide +kernel
theorem j132_252 : ax_in 132 252 = some (.goto 5, 3, 0, 0) := by decide +kernel
theorem j132_255 : ax_in 132 255 = some (.iload 6, 2, 0, 0) := by decide +kernel
theorem j132_257 : ax_in 132 257 = some (.ireturn, 1, 0, 0) := by decide +kernel
theorem j133_0 : ax_in 133 0 = some (.aload_n 0, 1, 0, 0) := by decide +kernel
theorem j133_1 : ax_in 133 1 = some (.invokevirtual 208, 3, 130, 0) := by decide +kernel
theorem j133_4 : ax_in 133 4 = some (.istore_n 2, 1, 0, 0) := by decide +kernel
theorem j133_5 : ax_in 133 5 = some (.aload_n 0, 1, 0, 0) := by decide +kernel
theorem j133_6 : ax_in 133 6 = some (.getfield 196, 3, 8, 23) := by decide +kernel
theorem j133_9 : ax_in 133 9 = some (.ifCond .eq 5, 3, 0, 0) := by decide +kernel
theorem j133_12 : ax_in 133 12 = some (.iconst 0, 1, 0, 0) := by decide +kernel
theorem j133_13 : ax_in 133 13 = some (.ireturn, 1, 0, 0) := by decide +kernel
theorem j133_14 : ax_in 133 14 = some (.iload_n 2, 1, 0, 0) := by decide +kernel
theorem j133_15 : ax_in 133 15 = some (.ifCond .ne 42, 3, 0, 0) := by decide +kernel
theorem j133_18 : ax_in 133 18 = some (.aload_n 0, 1, 0, 0) := by decide +kernel
theorem j133_19 : ax_in 133 19 = some (.aload_n 0, 1, 0, 0) := by decide +kernel
theorem j133_20 : ax_in 133 20 = some (.getfield 31, 3, 8, 8) := by decide +kernel
theorem j133_23 : ax_in 133 23 = some (.bipush 20, 2, 0, 0) := by decide +kernel
theorem j133_25 : ax_in 133 25 = some (.iload_n 1, 1, 0, 0) := by decide +kernel
theorem j133_26 : ax_in 133 26 = some (.iadd, 1, 0, 0) := by decide +kernel
theorem j133_27 : ax_in 133 27 = some (.iaload, 1, 0, 0) := by decide +kernel
theorem j133_28 : ax_in 133 28 = some (.invokevirtual 205, 3, 129, 0) := by decide +kernel
theorem j133_31 : ax_in 133 31 = some (.istore_n 3, 1, 0, 0) := by decide +kernel
theorem j133_32 : ax_in 133 32 = some (.aload_n 0, 1, 0, 0) := by decide +kernel
theorem j133_33 : ax_in 133 33 = some (.getfield 196, 3, 8, 23) := by decide +kernel
theorem j133_36 : ax_in 133 36 = some (.ifCond .eq 7, 3, 0, 0) := by decide +kernel
theorem j133_39 : ax_in 133 39 = some (.iconst 0, 1, 0, 0) := by decide +kernel
theorem j133_40 : ax_in 133 40 = some (.goto 16, 3, 0, 0) := by decide +kernel
theorem j133_43 : ax_in 133 43 = some (.aload_n 0, 1, 0, 0) := by decide +kernel
theorem j133_44 : ax_in 133 44 = some (.getfield 34, 3, 8, 9) := by decide +kernel
theorem j133_47 : ax_in 133 47 = some (.iconst 5, 1, 0, 0) := by decide +kernel
theorem j133_48 : ax_in 133 48 = some (.bipush 20, 2, 0, 0) := by decide +kernel
theorem j133_50 : ax_in 133 50 = some (.iload_n 1, 1, 0, 0) := by decide +kernel
theorem j133_51 : ax_in 133 51 = some (.iadd, 1, 0, 0) := by decide +kernel
theorem j133_52 : ax_in 133 52 = some (.imul, 1, 0, 0) := by decide +kernel
theorem j133_53 : ax_in 133 53 = some (.iload_n 3, 1, 0, 0) := by decide +kernel
theorem j133_54 : ax_in 133 54 = some (.iadd, 1, 0, 0) := by decide +kernel
theorem j133_55 : ax_in 133 55 = some (.iaload, 1, 0, 0) := by decide +kernel
theorem j133_56 : ax_in 133 56 = some (.ireturn, 1, 0, 0) := by decide +kernel
theorem j133_57 : ax_in 133 57 = some (.iload_n 2, 1, 0, 0) := by decide +kernel
theorem j133_58 : ax_in 133 58 = some (.iconst 1, 1, 0, 0) := by decide +kernel
theorem j133_59 : ax_in 133 59 = some (.if_icmp .ne 35, 3, 0, 0) := by decide +kernel
theorem j133_62 : ax_in 133 62 = some (.aload_n 0, 1, 0, 0) := by decide +kernel
theorem j133_63 : ax_in 133 63 = some (.aload_n 0, 1, 0, 0) := by decide +kernel
theorem j133_64 : ax_in 133 64 = some (.getfield 37, 3, 8, 10) := by decide +kernel
theorem j133_67 : ax_in 133 67 = some (.iconst 1, 1, 0, 0) := by decide +kernel
theorem j133_68 : ax_in 133 68 = some (.iaload, 1, 0, 0) := by decide +kernel
theorem j133_69 : ax_in 133 69 = some (.invokevirtual 205, 3, 129, 0) := by decide +kernel
theorem j133_72 : ax_in 133 72 = some (.istore_n 3, 1, 0, 0) := by decide +kernel
theorem j133_73 : ax_in 133 73 = some (.aload_n 0, 1, 0, 0) := by decide +kernel
theorem j133_74 : ax_in 133 74 = some (.getfield 196, 3, 8, 23) := by decide +kernel
theorem j133_77 : ax_in 133 77 = some (.ifCond .eq 7, 3, 0, 0) := by decide +kernel
theorem j133_80 : ax_in 133 80 = some (.iconst 0, 1, 0, 0) := by decide +kernel
theorem j133_81 : ax_in 133 81 = some (.goto 12, 3, 0, 0) := by decide +kernel
theorem j133_84 : ax_in 133 84 = some (.aload_n 0, 1, 0, 0) := by decide +kernel
theorem j133_85 : ax_in 133 85 = some (.getfield 40, 3, 8, 11) := by decide +kernel
theorem j133_88 : ax_in 133 88 = some (.bipush 20, 2, 0, 0) := by decide +kernel
theorem j133_90 : ax_in 133 90 = some (.iload_n 3, 1, 0, 0) := by decide +kernel
theorem j133_91 : ax_in 133 91 = some (.iadd, 1, 0, 0) := by decide +kernel
theorem j133_92 : ax_in 133 92 = some (.iaload, 1, 0, 0) := by decide +kernel
theorem j133_93 : ax_in 133 93 = some (.ireturn, 1, 0, 0) := by decide +kernel
theorem j133_94 : ax_in 133 94 = some (.aload_n 0, 1, 0, 0) := by decide +kernel
theorem j133_95 : ax_in 133 95 = some (.iload_n 2, 1, 0, 0) := by decide +kernel
theorem j133_96 : ax_in 133 96 = some (.iconst 2, 1, 0, 0) := by decide +kernel
theorem j133_97 : ax_in 133 97 = some (.isub, 1, 0, 0) := by decide +kernel
theorem j133_98 : ax_in 133 98 = some (.invokevirtual 211, 3, 131, 0) := by decide +kernel
theorem j133_101 : ax_in 133 101 = some (.istore_n 3, 1, 0, 0) := by decide +kernel
theorem j133_102 : ax_in 133 102 = some (.aload_n 0, 1, 0, 0) := by decide +kernel
theorem j133_103 : ax_in 133 103 = some (.getfield 196, 3, 8, 23) := by decide +kernel
theorem j133_106 : ax_in 133 106 = some (.ifCond .ne 10, 3, 0, 0) := by decide +kernel
theorem j133_109 : ax_in 133 109 = some (.aload_n 0, 1, 0, 0) := by decide +kernel
theorem j133_110 : ax_in 133 110 = some (.iconst 1, 1, 0, 0) := by decide +kernel
theorem j133_111 : ax_in 133 111 = some (.iload_n 1, 1, 0, 0) := by decide +kernel
theorem j133_112 : ax_in 133 112 = some (.iload_n 3, 1, 0, 0) := by decide +kernel
theorem j133_113 : ax_in 133 113 = some (.invokevirtual 126, 3, 95, 0) := by decide +kernel
theorem j133_116 : ax_in 133 116 = some (.iload_n 3, 1, 0, 0) := by decide +kernel
theorem j133_117 : ax_in 133 117 = some (.ireturn, 1, 0, 0) := by decide +kernel
theorem j134_0 : ax_in 134 0 = some (.aload_n 0, 1, 0, 0) := by decide +kernel
theorem j134_1 : ax_in 134 1 = some (.getfield 43, 3, 8, 12) := by decide +kernel
theorem j134_4 : ax_in 134 4 = some (.iload_n 1, 1, 0, 0) := by decide +kernel
theorem j134_5 : ax_in 134 5 = some (.iaload, 1, 0, 0) := by decide +kernel
theorem j134_6 : ax_in 134 6 = some (.istore_n 2, 1, 0, 0) := by decide +kernel
theorem j134_7 : ax_in 134 7 = some (.iload_n 1, 1, 0, 0) := by decide +kernel
theorem j134_8 : ax_in 134 8 = some (.iconst 2, 1, 0, 0) := by decide +kernel
theorem j134_9 : ax_in 134 9 = some (.irem, 1, 0, 0) := by decide +kernel
theorem j134_10 : ax_in 134 10 = some (.iconst 1, 1, 0, 0) := by decide +kernel
theorem j134_11 : ax_in 134 11 = some (.if_icmp .ne 7, 3, 0, 0) := by decide +kernel
theorem j134_14 : ax_in 134 14 = some (.iconst 1, 1, 0, 0) := by decide +kernel
theorem j134_15 : ax_in 134 15 = some (.goto 4, 3, 0, 0) := by decide +kernel
theorem j134_18 : ax_in 134 18 = some (.iconst 0, 1, 0, 0) := by decide +kernel
theorem j134_19 : ax_in 134 19 = some (.istore_n 3, 1, 0, 0) := by decide +kernel
theorem j134_20 : ax_in 134 20 = some (.aload_n 0, 1, 0, 0) := by decide +kernel
theorem j134_21 : ax_in 134 21 = some (.iload_n 2, 1, 0, 0) := by decide +kernel
theorem j134_22 : ax_in 134 22 = some (.iload_n 3, 1, 0, 0) := by decide +kernel
theorem j134_23 : ax_in 134 23 = some (.ifCond .eq 7, 3, 0, 0) := by decide +kernel
theorem j134_26 : ax_in 134 26 = some (.iconst 2, 1, 0, 0) := by decide +kernel
theorem j134_27 : ax_in 134 27 = some (.goto 4, 3, 0, 0) := by decide +kernel
theorem j134_30 : ax_in 134 30 = some (.iconst 1, 1, 0, 0) := by decide +kernel
theorem j134_31 : ax_in 134 31 = some (.iadd, 1, 0, 0) := by decide +kernel
theorem j134_32 : ax_in 134 32 = some (.invokevirtual 205, 3, 129, 0) := by decide +kernel
theorem j134_35 : ax_in 134 35 = some (.istore 4, 2, 0, 0) := by decide +kernel
theorem j134_37 : ax_in 134 37 = some (.aload_n 0, 1, 0, 0) := by decide +kernel
theorem j134_38 : ax_in 134 38 = some (.getfield 196, 3, 8, 23) := by decide +kernel
theorem j134_41 : ax_in 134 41 = some (.ifCond .eq 5, 3, 0, 0) := by decide +kernel
theorem j134_44 : ax_in 134 44 = some (.iconst 0, 1, 0, 0) := by decide +kernel
theorem j134_45 : ax_in 134 45 = some (.ireturn, 1, 0, 0) := by decide +kernel
theorem j134_46 : ax_in 134 46 = some (.iload 4, 2, 0, 0) := by decide +kernel
theorem j134_48 : ax_in 134 48 = some (.iload_n 2, 1, 0, 0) := by decide +kernel
theorem j134_49 : ax_in 134 49 = some (.if_icmp .ge 16, 3, 0, 0) := by decide +kernel
theorem j134_52 : ax_in 134 52 = some (.aload_n 0, 1, 0, 0) := by decide +kernel
theorem j134_53 : ax_in 134 53 = some (.getfield 46, 3, 8, 13) := by decide +kernel
theorem j134_56 : ax_in 134 56 = some (.bipush 12, 2, 0, 0) := by decide +kernel
theorem j134_58 : ax_in 134 58 = some (.iload_n 1, 1, 0, 0) := by decide +kernel
theorem j134_59 : ax_in 134 59 = some (.imul, 1, 0, 0) := by decide +kernel
theorem j134_60 : ax_in 134 60 = some (.iload 4, 2, 0, 0) := by decide +kernel
theorem j134_62 : ax_in 134 62 = some (.iadd, 1, 0, 0) := by decide +kernel
theorem j134_63 : ax_in 134 63 = some (.iaload, 1, 0, 0) := by decide +kernel
theorem j134_64 : ax_in 134 64 = some (.ireturn, 1, 0, 0) := by decide +kernel
theorem j134_65 : ax_in 134 65 = some (.iload_n 3, 1, 0, 0) := by decide +kernel
theorem j134_66 : ax_in 134 66 = some (.ifCond .ne 11, 3, 0, 0) := by decide +kernel
theorem j134_69 : ax_in 134 69 = some (.iconst (-1), 1, 0, 0) := by decide +kernel
theorem j134_70 : ax_in 134 70 = some (.aload_n 0, 1, 0, 0) := by decide +kernel
theorem j134_71 : ax_in 134 71 = some (.iconst 4, 1, 0, 0) := by decide +kernel
theorem j134_72 : ax_in 134 72 = some (.invokevirtual 205, 3, 129, 0) := by decide +kernel
theorem j134_75 : ax_in 134 75 = some (.isub, 1, 0, 0) := by decide +kernel
theorem j134_76 : ax_in 134 76 = some (.ireturn, 1, 0, 0) := by decide +kernel
theorem j134_77 : ax_in 134 77 = some (.iload 4, 2, 0, 0) := by decide +kernel
theorem j134_79 : ax_in 134 79 = some (.iload_n 2, 1, 0, 0) := by decide +kernel
theorem j134_80 : ax_in 134 80 = some (.if_icmp .ne 8, 3, 0, 0) := by decide +kernel
theorem j134_83 : ax_in 134 83 = some (.bipush (-9), 2, 0, 0) := by decide +kernel
theorem j134_85 : ax_in 134 85 = some (.goto 11, 3, 0, 0) := by decide +kernel
theorem j134_88 : ax_in 134 88 = some (.bipush (-3), 2, 0, 0) := by decide +kernel
theorem j134_90 : ax_in 134 90 = some (.aload_n 0, 1, 0, 0) := by decide +kernel
theorem j134_91 : ax_in 134 91 = some (.iconst 2, 1, 0, 0) := by decide +kernel
theorem j134_92 : ax_in 134 92 = some (.invokevirtual 205, 3, 129, 0) := by decide +kernel
theorem j134_95 : ax_in 134 95 = some (.isub, 1, 0, 0) := by decide +kernel
theorem j134_96 : ax_in 134 96 = some (.ireturn, 1, 0, 0) := by decide +kernel
theorem j135_0 : ax_in 135 0 = some (.aload_n 0, 1, 0, 0) := by decide +kernel
theorem j135_1 : ax_in 135 1 = some (.getfield 68, 3, 8, 25) := by decide +kernel
theorem j135_4 : ax_in 135 4 = some (.aload_n 0, 1, 0, 0) := by decide +kernel
theorem j135_5 : ax_in 135 5 = some (.getfield 214, 3, 8, 24) := by decide +kernel
theorem j135_8 : ax_in 135 8 = some (.iload_n 1, 1, 0, 0) := by decide +kernel
theorem j135_9 : ax_in 135 9 = some (.iastore, 1, 0, 0) := by decide +kernel
theorem j135_10 : ax_in 135 10 = some (.aload_n 0, 1, 0, 0) := by decide +kernel
theorem j135_11 : ax_in 135 11 = some (.getfield 71, 3, 8, 26) := by decide +kernel
theorem j135_14 : ax_in 135 14 = some (.aload_n 0, 1, 0, 0) := by decide +kernel
theorem j135_15 : ax_in 135 15 = some (.getfield 214, 3, 8, 24) := by decide +kernel
theorem j135_18 : ax_in 135 18 = some (.iload_n 2, 1, 0, 0) := by decide +kernel
theorem j135_19 : ax_in 135 19 = some (.ifCond .ge 7, 3, 0, 0) := by decide +kernel
theorem j135_22 : ax_in 135 22 = some (.iconst 0, 1, 0, 0) := by decide +kernel
theorem j135_23 : ax_in 135 23 = some (.goto 12, 3, 0, 0) := by decide +kernel
theorem j135_26 : ax_in 135 26 = some (.aload_n 0, 1, 0, 0) := by decide +kernel
theorem j135_27 : ax_in 135 27 = some (.getfield 25, 3, 8, 6) := by decide +kernel
theorem j135_30 : ax_in 135 30 = some (.bipush 20, 2, 0, 0) := by decide +kernel
theorem j135_32 : ax_in 135 32 = some (.iload_n 2, 1, 0, 0) := by decide +kernel
theorem j135_33 : ax_in 135 33 = some (.iadd, 1, 0, 0) := by decide +kernel
theorem j135_34 : ax_in 135 34 = some (.iaload, 1, 0, 0) := by decide +kernel
theorem j135_35 : ax_in 135 35 = some (.iastore, 1, 0, 0) := by decide +kernel
theorem j135_36 : ax_in 135 36 = some (.aload_n 0, 1, 0, 0) := by decide +kernel
theorem j135_37 : ax_in 135 37 = some (.getfield 74, 3, 8, 27) := by decide +kernel
theorem j135_40 : ax_in 135 40 = some (.aload_n 0, 1, 0, 0) := by decide +kernel
theorem j135_41 : ax_in 135 41 = some (.getfield 214, 3, 8, 24) := by decide +kernel
theorem j135_44 : ax_in 135 44 = some (.iload_n 2, 1, 0, 0) := by decide +kernel
theorem j135_45 : ax_in 135 45 = some (.ifCond .ge 7, 3, 0, 0) := by decide +kernel
theorem j135_48 : ax_in 135 48 = some (.iconst 0, 1, 0, 0) := by decide +kernel
theorem j135_49 : ax_in 135 49 = some (.goto 12, 3, 0, 0) := by decide +kernel
theorem j135_52 : ax_in 135 52 = some (.aload_n 0, 1, 0, 0) := by decide +kernel
theorem j135_53 : ax_in 135 53 = some (.getfield 28, 3, 8, 7) := by decide +kernel
theorem j135_56 : ax_in 135 56 = some (.bipush 20, 2, 0, 0) := by decide +kernel
theorem j135_58 : ax_in 135 58 = some (.iload_n 2, 1, 0, 0) := by decide +kernel
theorem j135_59 : ax_in 135 59 = some (.iadd, 1, 0, 0) := by decide +kernel
theorem j135_60 : ax_in 135 60 = some (.iaload, 1, 0, 0) := by decide +kernel
theorem j135_61 : ax_in 135 61 = some (.iastore, 1, 0, 0) := by decide +kernel
theorem j135_62 : ax_in 135 62 = some (.aload_n 0, 1, 0, 0) := by decide +kernel
theorem j135_63 : ax_in 135 63 = some (.getfield 77, 3, 8, 28) := by decide +kernel
theorem j135_66 : ax_in 135 66 = some (.aload_n 0, 1, 0, 0) := by decide +kernel
theorem j135_67 : ax_in 135 67 = some (.getfield 214, 3, 8, 24) := by decide +kernel
theorem j135_70 : ax_in 135 70 = some (.iload_n 3, 1, 0, 0) := by decide +kernel
theorem j135_71 : ax_in 135 71 = some (.iastore, 1, 0, 0) := by decide +kernel
theorem j135_72 : ax_in 135 72 = some (.aload_n 0, 1, 0, 0) := by decide +kernel
theorem j135_73 : ax_in 135 73 = some (.dup, 1, 0, 0) := by decide +kernel
theorem j135_74 : ax_in 135 74 = some (.getfield 214, 3, 8, 24) := by decide +kernel
theorem j135_77 : ax_in 135 77 = some (.iconst 1, 1, 0, 0) := by decide +kernel
theorem j135_78 : ax_in 135 78 = some (.iadd, 1, 0, 0) := by decide +kernel
theorem j135_79 : ax_in 135 79 = some (.putfield 214, 3, 8, 24) := by decide +kernel
theorem j135_82 : ax_in 135 82 = some (.return_, 1, 0, 0) := by decide +kernel
theorem j136_0 : ax_in 136 0 = some (.aload_n 0, 1, 0, 0) := by decide +kernel
theorem j136_1 : ax_in 136 1 = some (.aload_n 0, 1, 0, 0) := by decide +kernel
theorem j136_2 : ax_in 136 2 = some (.getfield 196, 3, 8, 23) := by decide +kernel
theorem j136_5 : ax_in 136 5 = some (.ifCond .ne 14, 3, 0, 0) := by decide +kernel
theorem j136_8 : ax_in 136 8 = some (.aload_n 0, 1, 0, 0) := by decide +kernel
theorem j136_9 : ax_in 136 9 = some (.getfield 49, 3, 8, 14) := by decide +kernel
theorem j136_12 : ax_in 136 12 = some (.iconst 1, 1, 0, 0) := by decide +kernel
theorem j136_13 : ax_in 136 13 = some (.iaload, 1, 0, 0) := by decide +kernel
theorem j136_14 : ax_in 136 14 = some (.bipush 8, 2, 0, 0) := by decide +kernel
theorem j136_16 : ax_in 136 16 = some (.if_icmp .ne 7, 3, 0, 0) := by decide +kernel
theorem j136_19 : ax_in 136 19 = some (.iconst 1, 1, 0, 0) := by decide +kernel
theorem j136_20 : ax_in 136 20 = some (.goto 4, 3, 0, 0) := by decide +kernel
theorem j136_23 : ax_in 136 23 = some (.iconst 0, 1, 0, 0) := by decide +kernel
theorem j136_24 : ax_in 136 24 = some (.putfield 196, 3, 8, 23) := by decide +kernel
theorem j136_27 : ax_in 136 27 = some (.aload_n 0, 1, 0, 0) := by decide +kernel
theorem j136_28 : ax_in 136 28 = some (.getfield 196, 3, 8, 23) := by decide +kernel
theorem j136_31 : ax_in 136 31 = some (.ifCond .ne 16, 3, 0, 0) := by decide +kernel
theorem j136_34 : ax_in 136 34 = some (.aload_n 0, 1, 0, 0) := by decide +kernel
theorem j136_35 : ax_in 136 35 = some (.iconst 1, 1, 0, 0) := by decide +kernel
theorem j136_36 : ax_in 136 36 = some (.iload_n 1, 1, 0, 0) := by decide +kernel
theorem j136_37 : ax_in 136 37 = some (.invokevirtual 155, 3, 101, 0) := by decide +kernel
theorem j136_40 : ax_in 136 40 = some (.aload_n 0, 1, 0, 0) := by decide +kernel
theorem j136_41 : ax_in 136 41 = some (.iconst 1, 1, 0, 0) := by decide +kernel
theorem j136_42 : ax_in 136 42 = some (.iload_n 1, 1, 0, 0) := by decide +kernel
theorem j136_43 : ax_in 136 43 = some (.iconst 0, 1, 0, 0) := by decide +kernel
theorem j136_44 : ax_in 136 44 = some (.invokevirtual 217, 3, 135, 0) := by decide +kernel
theorem j136_47 : ax_in 136 47 = some (.return_, 1, 0, 0) := by decide +kernel
theorem j137_0 : ax_in 137 0 = some (.aload_n 0, 1, 0, 0) := by decide +kernel
theorem j137_1 : ax_in 137 1 = some (.getfield 49, 3, 8, 14) := by decide +kernel
theorem j137_4 : ax_in 137 4 = some (.iconst 1, 1, 0, 0) := by decide +kernel
theorem j137_5 : ax_in 137 5 = some (.iaload, 1, 0, 0) := by decide +kernel
theorem j137_6 : ax_in 137 6 = some (.ifCond .ne 12, 3, 0, 0) := by decide +kernel
theorem j137_9 : ax_in 137 9 = some (.aload_n 0, 1, 0, 0) := by decide +kernel
theorem j137_10 : ax_in 137 10 = some (.aload_n 0, 1, 0, 0) := by decide +kernel
theorem j137_11 : ax_in 137 11 = some (.invokevirtual 220, 3, 132, 0) := by decide +kernel
theorem j137_14 : ax_in 137 14 = some (.invokevirtual 223, 3, 136, 0) := by decide +kernel
theorem j137_17 : ax_in 137 17 = some (.return_, 1, 0, 0) := by decide +kernel
theorem j137_18 : ax_in 137 18 = some (.aload_n 0, 1, 0, 0) := by decide +kernel
theorem j137_19 : ax_in 137 19 = some (.iconst 1, 1, 0, 0) := by decide +kernel
theorem j137_20 : ax_in 137 20 = some (.invokevirtual 129, 3, 96, 0) := by decide +kernel
theorem j137_23 : ax_in 137 23 = some (.istore_n 1, 1, 0, 0) := by decide +kernel
theorem j137_24 : ax_in 137 24 = some (.aload_n 0, 1, 0, 0) := by decide +kernel
theorem j137_25 : ax_in 137 25 = some (.iload_n 1, 1, 0, 0) := by decide +kernel
theorem j137_26 : ax_in 137 26 = some (.invokevirtual 226, 3, 134, 0) := by decide +kernel
theorem j137_29 : ax_in 137 29 = some (.istore_n 2, 1, 0, 0) := by decide +kernel
theorem j137_30 : ax_in 137 30 = some (.aload_n 0, 1, 0, 0) := by decide +kernel
theorem j137_31 : ax_in 137 31 = some (.getfield 196, 3, 8, 23) := by decide +kernel
theorem j137_34 : ax_in 137 34 = some (.ifCond .eq 4, 3, 0, 0) := by decide +kernel
theorem j137_37 : ax_in 137 37 = some (.return_, 1, 0, 0) := by decide +kernel
theorem j137_38 : ax_in 137 38 = some (.iload_n 2, 1, 0, 0) := by decide +kernel
theorem j137_39 : ax_in 137 39 = some (.ifCond .eq 9, 3, 0, 0) := by decide +kernel
theorem j137_42 : ax_in 137 42 = some (.iload_n 2, 1, 0, 0) := by decide +kernel
theorem j137_43 : ax_in 137 43 = some (.bipush (-9), 2, 0, 0) := by decide +kernel
theorem j137_45 : ax_in 137 45 = some (.if_icmp .ne 7, 3, 0, 0) := by decide +kernel
theorem j137_48 : ax_in 137 48 = some (.iconst 0, 1, 0, 0) := by decide +kernel
theorem j137_49 : ax_in 137 49 = some (.goto 27, 3, 0, 0) := by decide +kernel
theorem j137_52 : ax_in 137 52 = some (.iload_n 2, 1, 0, 0) := by decide +kernel
theorem j137_53 : ax_in 137 53 = some (.iconst 1, 1, 0, 0) := by decide +kernel
theorem j137_54 : ax_in 137 54 = some (.if_icmp .ne 7, 3, 0, 0) := by decide +kernel
theorem j137_57 : ax_in 137 57 = some (.iconst 3, 1, 0, 0) := by decide +kernel
theorem j137_58 : ax_in 137 58 = some (.goto 18, 3, 0, 0) := by decide +kernel
theorem j137_61 : ax_in 137 61 = some (.iload_n 2, 1, 0, 0) := by decide +kernel
theorem j137_62 : ax_in 137 62 = some (.ifCond .le 11, 3, 0, 0) := by decide +kernel
theorem j137_65 : ax_in 137 65 = some (.iconst 2, 1, 0, 0) := by decide +kernel
theorem j137_66 : ax_in 137 66 = some (.iload_n 2, 1, 0, 0) := by decide +kernel
theorem j137_67 : ax_in 137 67 = some (.iconst 2, 1, 0, 0) := by decide +kernel
theorem j137_68 : ax_in 137 68 = some (.irem, 1, 0, 0) := by decide +kernel
theorem j137_69 : ax_in 137 69 = some (.isub, 1, 0, 0) := by decide +kernel
theorem j137_70 : ax_in 137 70 = some (.goto 6, 3, 0, 0) := by decide +kernel
theorem j137_73 : ax_in 137 73 = some (.iconst (-1), 1, 0, 0) := by decide +kernel
theorem j137_74 : ax_in 137 74 = some (.iload_n 2, 1, 0, 0) := by decide +kernel
theorem j137_75 : ax_in 137 75 = some (.isub, 1, 0, 0) := by decide +kernel
theorem j137_76 : ax_in 137 76 = some (.istore_n 3, 1, 0, 0) := by decide +kernel
theorem j137_77 : ax_in 137 77 = some (.iload_n 2, 1, 0, 0) := by decide +kernel
theorem j137_78 : ax_in 137 78 = some (.iconst 1, 1, 0, 0) := by decide +kernel
theorem j137_79 : ax_in 137 79 = some (.if_icmp .le 11, 3, 0, 0) := by decide +kernel
theorem j137_82 : ax_in 137 82 = some (.iload_n 2, 1, 0, 0) := by decide +kernel
theorem j137_83 : ax_in 137 83 = some (.iconst 2, 1, 0, 0) := by decide +kernel
theorem j137_84 : ax_in 137 84 = some (.isub, 1, 0, 0) := by decide +kernel
theorem j137_85 : ax_in 137 85 = some (.iconst 2, 1, 0, 0) := by decide +kernel
theorem j137_86 : ax_in 137 86 = some (.idiv, 1, 0, 0) := by decide +kernel
theorem j137_87 : ax_in 137 87 = some (.goto 4, 3, 0, 0) := by decide +kernel
theorem j137_90 : ax_in 137 90 = some (.iconst (-1), 1, 0, 0) := by decide +kernel
theorem j137_91 : ax_in 137 91 = some (.istore 4, 2, 0, 0) := by decide +kernel
theorem j137_93 : ax_in 137 93 = some (.iload_n 2, 1, 0, 0) := by decide +kernel
theorem j137_94 : ax_in 137 94 = some (.ifCond .ge 27, 3, 0, 0) := by decide +kernel
theorem j137_97 : ax_in 137 97 = some (.iload_n 3, 1, 0, 0) := by decide +kernel
theorem j137_98 : ax_in 137 98 = some (.iconst 1, 1, 0, 0) := by decide +kernel
theorem j137_99 : ax_in 137 99 = some (.if_icmp .eq 8, 3, 0, 0) := by decide +kernel
theorem j137_102 : ax_in 137 102 = some (.iload_n 3, 1, 0, 0) := by decide +kernel
theorem j137_103 : ax_in 137 103 = some (.iconst 2, 1, 0, 0) := by decide +kernel
theorem j137_104 : ax_in 137 104 = some (.if_icmp .ne 17, 3, 0, 0) := by decide +kernel
theorem j137_107 : ax_in 137 107 = some (.aload_n 0, 1, 0, 0) := by decide +kernel
theorem j137_108 : ax_in 137 108 = some (.invokevirtual 220, 3, 132, 0) := by decide +kernel
theorem j137_111 : ax_in 137 111 = some (.istore 4, 2, 0, 0) := by decide +kernel
theorem j137_113 : ax_in 137 113 = some (.aload_n 0, 1, 0, 0) := by decide +kernel
theorem j137_114 : ax_in 137 114 = some (.getfield 196, 3, 8, 23) := by decide +kernel
theorem j137_117 : ax_in 137 117 = some (.ifCond .eq 4, 3, 0, 0) := by decide +kernel
theorem j137_120 : ax_in 137 120 = some (.return_, 1, 0, 0) := by decide +kernel
theorem j137_121 : ax_in 137 121 = some (.iload_n 2, 1, 0, 0) := by decide +kernel
theorem j137_122 : ax_in 137 122 = some (.ifCond .ge 49, 3, 0, 0) := by decide +kernel
theorem j137_125 : ax_in 137 125 = some (.iload_n 2, 1, 0, 0) := by decide +kernel
theorem j137_126 : ax_in 137 126 = some (.bipush (-9), 2, 0, 0) := by decide +kernel
theorem j137_128 : ax_in 137 128 = some (.if_icmp .eq 43, 3, 0, 0) := by decide +kernel
theorem j137_131 : ax_in 137 131 = some (.aload_n 0, 1, 0, 0) := by decide +kernel
theorem j137_132 : ax_in 137 132 = some (.iload_n 1, 1, 0, 0) := by decide +kernel
theorem j137_133 : ax_in 137 133 = some (.iload_n 3, 1, 0, 0) := by decide +kernel
theorem j137_134 : ax_in 137 134 = some (.ifCond .ne 7, 3, 0, 0) := by decide +kernel
theorem j137_137 : ax_in 137 137 = some (.iconst 0, 1, 0, 0) := by decide +kernel
theorem j137_138 : ax_in 137 138 = some (.goto 30, 3, 0, 0) := by decide +kernel
theorem j137_141 : ax_in 137 141 = some (.iload_n 3, 1, 0, 0) := by decide +kernel
theorem j137_142 : ax_in 137 142 = some (.iconst 3, 1, 0, 0) := by decide +kernel
theorem j137_143 : ax_in 137 143 = some (.if_icmp .ne 7, 3, 0, 0) := by decide +kernel
theorem j137_146 : ax_in 137 146 = some (.iconst 1, 1, 0, 0) := by decide +kernel
theorem j137_147 : ax_in 137 147 = some (.goto 21, 3, 0, 0) := by decide +kernel
theorem j137_150 : ax_in 137 150 = some (.iload_n 3, 1, 0, 0) := by decide +kernel
theorem j137_151 : ax_in 137 151 = some (.iconst 2, 1, 0, 0) := by decide +kernel
theorem j137_152 : ax_in 137 152 = some (.if_icmp .ne 11, 3, 0, 0) := by decide +kernel
theorem j137_155 : ax_in 137 155 = some (.iload 4, 2, 0, 0) := by decide +kernel
theorem j137_157 : ax_in 137 157 = some (.invokestatic 136, 3, 97, 1) := by decide +kernel
theorem j137_160 : ax_in 137 160 = some (.goto 8, 3, 0, 0) := by decide +kernel
theorem j137_163 : ax_in 137 163 = some (.iload 4, 2, 0, 0) := by decide +kernel
theorem j137_165 : ax_in 137 165 = some (.invokestatic 158, 3, 98, 1) := by decide +kernel
theorem j137_168 : ax_in 137 168 = some (.invokevirtual 152, 3, 100, 0) := by decide +kernel
theorem j137_171 : ax_in 137 171 = some (.iload_n 3, 1, 0, 0) := by decide +kernel
theorem j137_172 : ax_in 137 172 = some (.ifCond .ne 18, 3, 0, 0) := by decide +kernel
theorem j137_175 : ax_in 137 175 = some (.aload_n 0, 1, 0, 0) := by decide +kernel
theorem j137_176 : ax_in 137 176 = some (.iconst 1, 1, 0, 0) := by decide +kernel
theorem j137_177 : ax_in 137 177 = some (.invokevirtual 164, 3, 102, 0) := by decide +kernel
theorem j137_180 : ax_in 137 180 = some (.aload_n 0, 1, 0, 0) := by decide +kernel
theorem j137_181 : ax_in 137 181 = some (.iconst 4, 1, 0, 0) := by decide +kernel
theorem j137_182 : ax_in 137 182 = some (.iconst (-1), 1, 0, 0) := by decide +kernel
theorem j137_183 : ax_in 137 183 = some (.iconst 0, 1, 0, 0) := by decide +kernel
theorem j137_184 : ax_in 137 184 = some (.invokevirtual 217, 3, 135, 0) := by decide +kernel
theorem j137_187 : ax_in 137 187 = some (.goto 98, 3, 0, 0) := by decide +kernel
theorem j137_190 : ax_in 137 190 = some (.iload_n 3, 1, 0, 0) := by decide +kernel
theorem j137_191 : ax_in 137 191 = some (.iconst 2, 1, 0, 0) := by decide +kernel
theorem j137_192 : ax_in 137 192 = some (.if_icmp .ne 12, 3, 0, 0) := by decide +kernel
theorem j137_195 : ax_in 137 195 = some (.aload_n 0, 1, 0, 0) := by decide +kernel
theorem j137_196 : ax_in 137 196 = some (.iload 4, 2, 0, 0) := by decide +kernel
theorem j137_198 : ax_in 137 198 = some (.invokevirtual 223, 3, 136, 0) := by decide +kernel
theorem j137_201 : ax_in 137 201 = some (.goto 84, 3, 0, 0) := by decide +kernel
theorem j137_204 : ax_in 137 204 = some (.iload_n 3, 1, 0, 0) := by decide +kernel
theorem j137_205 : ax_in 137 205 = some (.iconst 1, 1, 0, 0) := by decide +kernel
theorem j137_206 : ax_in 137 206 = some (.if_icmp .ne 30, 3, 0, 0) := by decide +kernel
theorem j137_209 : ax_in 137 209 = some (.aload_n 0, 1, 0, 0) := by decide +kernel
theorem j137_210 : ax_in 137 210 = some (.iload 4, 2, 0, 0) := by decide +kernel
theorem j137_212 : ax_in 137 212 = some (.invokevirtual 229, 3, 133, 0) := by decide +kernel
theorem j137_215 : ax_in 137 215 = some (.istore 5, 2, 0, 0) := by decide +kernel
theorem j137_217 : ax_in 137 217 = some (.aload_n 0, 1, 0, 0) := by decide +kernel
theorem j137_218 : ax_in 137 218 = some (.getfield 196, 3, 8, 23) := by decide +kernel
theorem j137_221 : ax_in 137 221 = some (.ifCond .ne 12, 3, 0, 0) := by decide +kernel
theorem j137_224 : ax_in 137 224 = some (.aload_n 0, 1, 0, 0) := by decide +kernel
theorem j137_225 : ax_in 137 225 = some (.iconst 2, 1, 0, 0) := by decide +kernel
theorem j137_226 : ax_in 137 226 = some (.iload 4, 2, 0, 0) := by decide +kernel
theorem j137_228 : ax_in 137 228 = some (.iload 5, 2, 0, 0) := by decide +kernel
theorem j137_230 : ax_in 137 230 = some (.invokevirtual 217, 3, 135, 0) := by decide +kernel
theorem j137_233 : ax_in 137 233 = some (.goto 52, 3, 0, 0) := by decide +kernel
theorem j137_236 : ax_in 137 236 = some (.bipush 8, 2, 0, 0) := by decide +kernel
theorem j137_238 : ax_in 137 238 = some (.aload_n 0, 1, 0, 0) := by decide +kernel
theorem j137_239 : ax_in 137 239 = some (.getfield 49, 3, 8, 14) := by decide +kernel
theorem j137_242 : ax_in 137 242 = some (.iconst 1, 1, 0, 0) := by decide +kernel
theorem j137_243 : ax_in 137 243 = some (.iaload, 1, 0, 0) := by decide +kernel
theorem j137_244 : ax_in 137 244 = some (.iadd, 1, 0, 0) := by decide +kernel
theorem j137_245 : ax_in 137 245 = some (.iconst 1, 1, 0, 0) := by decide +kernel
theorem j137_246 : ax_in 137 246 = some (.isub, 1, 0, 0) := by decide +kernel
theorem j137_247 : ax_in 137 247 = some (.istore 5, 2, 0, 0) := by decide +kernel
theorem j137_249 : ax_in 137 249 = some (.aload_n 0, 1, 0, 0) := by decide +kernel
theorem j137_250 : ax_in 137 250 = some (.aload_n 0, 1, 0, 0) := by decide +kernel
theorem j137_251 : ax_in 137 251 = some (.getfield 52, 3, 8, 15) := by decide +kernel
theorem j137_254 : ax_in 137 254 = some (.iload 5, 2, 0, 0) := by decide +kernel
theorem j137_256 : ax_in 137 256 = some (.iaload, 1, 0, 0) := by decide +kernel
theorem j137_257 : ax_in 137 257 = some (.invokevirtual 229, 3, 133, 0) := by decide +kernel
theorem j137_260 : ax_in 137 260 = some (.istore 6, 2, 0, 0) := by decide +kernel
theorem j137_262 : ax_in 137 262 = some (.aload_n 0, 1, 0, 0) := by decide +kernel
theorem j137_263 : ax_in 137 263 = some (.getfield 55, 3, 8, 16) := by decide +kernel
theorem j137_266 : ax_in 137 266 = some (.iload 5, 2, 0, 0) := by decide +kernel
theorem j137_268 : ax_in 137 268 = some (.iconst 1, 1, 0, 0) := by decide +kernel
theorem j137_269 : ax_in 137 269 = some (.bastore, 1, 0, 0) := by decide +kernel
theorem j137_270 : ax_in 137 270 = some (.aload_n 0, 1, 0, 0) := by decide +kernel
theorem j137_271 : ax_in 137 271 = some (.getfield 196, 3, 8, 23) := by decide +kernel
theorem j137_274 : ax_in 137 274 = some (.ifCond .ne 11, 3, 0, 0) := by decide +kernel
theorem j137_277 : ax_in 137 277 = some (.aload_n 0, 1, 0, 0) := by decide +kernel
theorem j137_278 : ax_in 137 278 = some (.iconst 3, 1, 0, 0) := by decide +kernel
theorem j137_279 : ax_in 137 279 = some (.iconst (-1), 1, 0, 0) := by decide +kernel
theorem j137_280 : ax_in 137 280 = some (.iload 6, 2, 0, 0) := by decide +kernel
theorem j137_282 : ax_in 137 282 = some (.invokevirtual 217, 3, 135, 0) := by decide +kernel
theorem j137_285 : ax_in 137 285 = some (.return_, 1, 0, 0) := by decide +kernel
theorem j138_0 : ax_in 138 0 = some (.aload_n 0, 1, 0, 0) := by decide +kernel
theorem j138_1 : ax_in 138 1 = some (.iconst 1, 1, 0, 0) := by decide +kernel
theorem j138_2 : ax_in 138 2 = some (.invokevirtual 171, 3, 86, 0) := by decide +kernel
theorem j138_5 : ax_in 138 5 = some (.aload_n 0, 1, 0, 0) := by decide +kernel
theorem j138_6 : ax_in 138 6 = some (.iconst 0, 1, 0, 0) := by decide +kernel
theorem j138_7 : ax_in 138 7 = some (.putfield 199, 3, 8, 22) := by decide +kernel
theorem j138_10 : ax_in 138 10 = some (.aload_n 0, 1, 0, 0) := by decide +kernel
theorem j138_11 : ax_in 138 11 = some (.iconst 0, 1, 0, 0) := by decide +kernel
theorem j138_12 : ax_in 138 12 = some (.putfield 196, 3, 8, 23) := by decide +kernel
theorem j138_15 : ax_in 138 15 = some (.aload_n 0, 1, 0, 0) := by decide +kernel
theorem j138_16 : ax_in 138 16 = some (.iconst 0, 1, 0, 0) := by decide +kernel
theorem j138_17 : ax_in 138 17 = some (.putfield 214, 3, 8, 24) := by decide +kernel
theorem j138_20 : ax_in 138 20 = some (.aload_n 0, 1, 0, 0) := by decide +kernel
theorem j138_21 : ax_in 138 21 = some (.getfield 59, 3, 8, 17) := by decide +kernel
theorem j138_24 : ax_in 138 24 = some (.iconst 1, 1, 0, 0) := by decide +kernel
theorem j138_25 : ax_in 138 25 = some (.baload, 1, 0, 0) := by decide +kernel
theorem j138_26 : ax_in 138 26 = some (.ifCond .ne 27, 3, 0, 0) := by decide +kernel
theorem j138_29 : ax_in 138 29 = some (.aload_n 0, 1, 0, 0) := by decide +kernel
theorem j138_30 : ax_in 138 30 = some (.getfield 196, 3, 8, 23) := by decide +kernel
theorem j138_33 : ax_in 138 33 = some (.ifCond .ne 20, 3, 0, 0) := by decide +kernel
theorem j138_36 : ax_in 138 36 = some (.aload_n 0, 1, 0, 0) := by decide +kernel
theorem j138_37 : ax_in 138 37 = some (.getfield 214, 3, 8, 24) := by decide +kernel
theorem j138_40 : ax_in 138 40 = some (.sipush 201, 3, 0, 0) := by decide +kernel
theorem j138_43 : ax_in 138 43 = some (.if_icmp .ge 10, 3, 0, 0) := by decide +kernel
theorem j138_46 : ax_in 138 46 = some (.aload_n 0, 1, 0, 0) := by decide +kernel
theorem j138_47 : ax_in 138 47 = some (.invokevirtual 232, 3, 137, 0) := by decide +kernel
theorem j138_50 : ax_in 138 50 = some (.goto (-30), 3, 0, 0) := by decide +kernel
theorem j138_53 : ax_in 138 53 = some (.aload_n 0, 1, 0, 0) := by decide +kernel
theorem j138_54 : ax_in 138 54 = some (.aload_n 0, 1, 0, 0) := by decide +kernel
theorem j138_55 : ax_in 138 55 = some (.getfield 196, 3, 8, 23) := by decide +kernel
theorem j138_58 : ax_in 138 58 = some (.ifCond .eq 7, 3, 0, 0) := by decide +kernel
theorem j138_61 : ax_in 138 61 = some (.iconst 1, 1, 0, 0) := by decide +kernel
theorem j138_62 : ax_in 138 62 = some (.goto 18, 3, 0, 0) := by decide +kernel
theorem j138_65 : ax_in 138 65 = some (.aload_n 0, 1, 0, 0) := by decide +kernel
theorem j138_66 : ax_in 138 66 = some (.getfield 214, 3, 8, 24) := by decide +kernel
theorem j138_69 : ax_in 138 69 = some (.sipush 200, 3, 0, 0) := by decide +kernel
theorem j138_72 : ax_in 138 72 = some (.if_icmp .le 7, 3, 0, 0) := by decide +kernel
theorem j138_75 : ax_in 138 75 = some (.iconst 2, 1, 0, 0) := by decide +kernel
theorem j138_76 : ax_in 138 76 = some (.goto 4, 3, 0, 0) := by decide +kernel
theorem j138_79 : ax_in 138 79 = some (.iconst 0, 1, 0, 0) := by decide +kernel
theorem j138_80 : ax_in 138 80 = some (.putfield 80, 3, 8, 0) := by decide +kernel
theorem j138_83 : ax_in 138 83 = some (.aload_n 0, 1, 0, 0) := by decide +kernel
theorem j138_84 : ax_in 138 84 = some (.aload_n 0, 1, 0, 0) := by decide +kernel
theorem j138_85 : ax_in 138 85 = some (.getfield 80, 3, 8, 0) := by decide +kernel
theorem j138_88 : ax_in 138 88 = some (.ifCond .le 7, 3, 0, 0) := by decide +kernel
theorem j138_91 : ax_in 138 91 = some (.iconst 0, 1, 0, 0) := by decide +kernel
theorem j138_92 : ax_in 138 92 = some (.goto 7, 3, 0, 0) := by decide +kernel
theorem j138_95 : ax_in 138 95 = some (.aload_n 0, 1, 0, 0) := by decide +kernel
theorem j138_96 : ax_in 138 96 = some (.getfield 214, 3, 8, 24) := by decide +kernel
theorem j138_99 : ax_in 138 99 = some (.putfield 214, 3, 8, 24) := by decide +kernel
theorem j138_102 : ax_in 138 102 = some (.aload_n 0, 1, 0, 0) := by decide +kernel
theorem j138_103 : ax_in 138 103 = some (.getfield 214, 3, 8, 24) := by decide +kernel
theorem j138_106 : ax_in 138 106 = some (.ireturn, 1, 0, 0) := by decide +kernel
theorem j139_0 : ax_in 139 0 = some (.aload_n 0, 1, 0, 0) := by decide +kernel
theorem j139_1 : ax_in 139 1 = some (.iconst 0, 1, 0, 0) := by decide +kernel
theorem j139_2 : ax_in 139 2 = some (.putfield 80, 3, 8, 0) := by decide +kernel
theorem j139_5 : ax_in 139 5 = some (.aload_n 0, 1, 0, 0) := by decide +kernel
theorem j139_6 : ax_in 139 6 = some (.getfield 199, 3, 8, 22) := by decide +kernel
theorem j139_9 : ax_in 139 9 = some (.ireturn, 1, 0, 0) := by decide +kernel
theorem j140_0 : ax_in 140 0 = some (.aload_n 0, 1, 0, 0) := by decide +kernel
theorem j140_1 : ax_in 140 1 = some (.iload_n 1, 1, 0, 0) := by decide +kernel
theorem j140_2 : ax_in 140 2 = some (.ifCond .lt 11, 3, 0, 0) := by decide +kernel
theorem j140_5 : ax_in 140 5 = some (.iload_n 1, 1, 0, 0) := by decide +kernel
theorem j140_6 : ax_in 140 6 = some (.aload_n 0, 1, 0, 0) := by decide +kernel
theorem j140_7 : ax_in 140 7 = some (.getfield 214, 3, 8, 24) := by decide +kernel
theorem j140_10 : ax_in 140 10 = some (.if_icmp .lt 7, 3, 0, 0) := by decide +kernel
theorem j140_13 : ax_in 140 13 = some (.iconst 1, 1, 0, 0) := by decide +kernel
theorem j140_14 : ax_in 140 14 = some (.goto 17, 3, 0, 0) := by decide +kernel
theorem j140_17 : ax_in 140 17 = some (.iload_n 2, 1, 0, 0) := by decide +kernel
theorem j140_18 : ax_in 140 18 = some (.ifCond .lt 8, 3, 0, 0) := by decide +kernel
theorem j140_21 : ax_in 140 21 = some (.iload_n 2, 1, 0, 0) := by decide +kernel
theorem j140_22 : ax_in 140 22 = some (.iconst 3, 1, 0, 0) := by decide +kernel
theorem j140_23 : ax_in 140 23 = some (.if_icmp .le 7, 3, 0, 0) := by decide +kernel
theorem j140_26 : ax_in 140 26 = some (.iconst 2, 1, 0, 0) := by decide +kernel
theorem j140_27 : ax_in 140 27 = some (.goto 4, 3, 0, 0) := by decide +kernel
theorem j140_30 : ax_in 140 30 = some (.iconst 0, 1, 0, 0) := by decide +kernel
theorem j140_31 : ax_in 140 31 = some (.putfield 80, 3, 8, 0) := by decide +kernel
theorem j140_34 : ax_in 140 34 = some (.aload_n 0, 1, 0, 0) := by decide +kernel
theorem j140_35 : ax_in 140 35 = some (.getfield 80, 3, 8, 0) := by decide +kernel
theorem j140_38 : ax_in 140 38 = some (.ifCond .le 5, 3, 0, 0) := by decide +kernel
theorem j140_41 : ax_in 140 41 = some (.iconst 0, 1, 0, 0) := by decide +kernel
theorem j140_42 : ax_in 140 42 = some (.ireturn, 1, 0, 0) := by decide +kernel
theorem j140_43 : ax_in 140 43 = some (.iload_n 2, 1, 0, 0) := by decide +kernel
theorem j140_44 : ax_in 140 44 = some (.ifCond .ne 12, 3, 0, 0) := by decide +kernel
theorem j140_47 : ax_in 140 47 = some (.aload_n 0, 1, 0, 0) := by decide +kernel
theorem j140_48 : ax_in 140 48 = some (.getfield 68, 3, 8, 25) := by decide +kernel
theorem j140_51 : ax_in 140 51 = some (.iload_n 1, 1, 0, 0) := by decide +kernel
theorem j140_52 : ax_in 140 52 = some (.iaload, 1, 0, 0) := by decide +kernel
theorem j140_53 : ax_in 140 53 = some (.goto 37, 3, 0, 0) := by decide +kernel
theorem j140_56 : ax_in 140 56 = some (.iload_n 2, 1, 0, 0) := by decide +kernel
theorem j140_57 : ax_in 140 57 = some (.iconst 1, 1, 0, 0) := by decide +kernel
theorem j140_58 : ax_in 140 58 = some (.if_icmp .ne 12, 3, 0, 0) := by decide +kernel
theorem j140_61 : ax_in 140 61 = some (.aload_n 0, 1, 0, 0) := by decide +kernel
theorem j140_62 : ax_in 140 62 = some (.getfield 71, 3, 8, 26) := by decide +kernel
theorem j140_65 : ax_in 140 65 = some (.iload_n 1, 1, 0, 0) := by decide +kernel
theorem j140_66 : ax_in 140 66 = some (.iaload, 1, 0, 0) := by decide +kernel
theorem j140_67 : ax_in 140 67 = some (.goto 23, 3, 0, 0) := by decide +kernel
theorem j140_70 : ax_in 140 70 = some (.iload_n 2, 1, 0, 0) := by decide +kernel
theorem j140_71 : ax_in 140 71 = some (.iconst 2, 1, 0, 0) := by decide +kernel
theorem j140_72 : ax_in 140 72 = some (.if_icmp .ne 12, 3, 0, 0) := by decide +kernel
theorem j140_75 : ax_in 140 75 = some (.aload_n 0, 1, 0, 0) := by decide +kernel
theorem j140_76 : ax_in 140 76 = some (.getfield 74, 3, 8, 27) := by decide +kernel
theorem j140_79 : ax_in 140 79 = some (.iload_n 1, 1, 0, 0) := by decide +kernel
theorem j140_80 : ax_in 140 80 = some (.iaload, 1, 0, 0) := by decide +kernel
theorem j140_81 : ax_in 140 81 = some (.goto 9, 3, 0, 0) := by decide +kernel
theorem j140_84 : ax_in 140 84 = some (.aload_n 0, 1, 0, 0) := by decide +kernel
theorem j140_85 : ax_in 140 85 = some (.getfield 77, 3, 8, 28) := by decide +kernel
theorem j140_88 : ax_in 140 88 = some (.iload_n 1, 1, 0, 0) := by decide +kernel
theorem j140_89 : ax_in 140 89 = some (.iaload, 1, 0, 0) := by decide +kernel
theorem j140_90 : ax_in 140 90 = some (.ireturn, 1, 0, 0) := by decide +kernel
theorem j141_0 : ax_in 141 0 = some (.aload_n 0, 1, 0, 0) := by decide +kernel
theorem j141_1 : ax_in 141 1 = some (.invokevirtual 174, 3, 116, 0) := by decide +kernel
theorem j141_4 : ax_in 141 4 = some (.aload_n 0, 1, 0, 0) := by decide +kernel
theorem j141_5 : ax_in 141 5 = some (.aload_n 0, 1, 0, 0) := by decide +kernel
theorem j141_6 : ax_in 141 6 = some (.getfield 214, 3, 8, 24) := by decide +kernel
theorem j141_9 : ax_in 141 9 = some (.ifCond .ne 7, 3, 0, 0) := by decide +kernel
theorem j141_12 : ax_in 141 12 = some (.iconst 1, 1, 0, 0) := by decide +kernel
theorem j141_13 : ax_in 141 13 = some (.goto 4, 3, 0, 0) := by decide +kernel
theorem j141_16 : ax_in 141 16 = some (.iconst 0, 1, 0, 0) := by decide +kernel
theorem j141_17 : ax_in 141 17 = some (.putfield 80, 3, 8, 0) := by decide +kernel
theorem j141_20 : ax_in 141 20 = some (.aload_n 0, 1, 0, 0) := by decide +kernel
theorem j141_21 : ax_in 141 21 = some (.getfield 80, 3, 8, 0) := by decide +kernel
theorem j141_24 : ax_in 141 24 = some (.ifCond .le 5, 3, 0, 0) := by decide +kernel
theorem j141_27 : ax_in 141 27 = some (.iconst 0, 1, 0, 0) := by decide +kernel
theorem j141_28 : ax_in 141 28 = some (.ireturn, 1, 0, 0) := by decide +kernel
theorem j141_29 : ax_in 141 29 = some (.aload_n 0, 1, 0, 0) := by decide +kernel
theorem j141_30 : ax_in 141 30 = some (.iconst 0, 1, 0, 0) := by decide +kernel
theorem j141_31 : ax_in 141 31 = some (.invokevirtual 171, 3, 86, 0) := by decide +kernel
theorem j141_34 : ax_in 141 34 = some (.aload_n 0, 1, 0, 0) := by decide +kernel
theorem j141_35 : ax_in 141 35 = some (.iconst 0, 1, 0, 0) := by decide +kernel
theorem j141_36 : ax_in 141 36 = some (.putfield 92, 3, 8, 19) := by decide +kernel
theorem j141_39 : ax_in 141 39 = some (.iconst 0, 1, 0, 0) := by decide +kernel
theorem j141_40 : ax_in 141 40 = some (.istore_n 1, 1, 0, 0) := by decide +kernel
theorem j141_41 : ax_in 141 41 = some (.iconst 0, 1, 0, 0) := by decide +kernel
theorem j141_42 : ax_in 141 42 = some (.istore_n 2, 1, 0, 0) := by decide +kernel
theorem j141_43 : ax_in 141 43 = some (.iload_n 2, 1, 0, 0) := by decide +kernel
theorem j141_44 : ax_in 141 44 = some (.aload_n 0, 1, 0, 0) := by decide +kernel
theorem j141_45 : ax_in 141 45 = some (.getfield 214, 3, 8, 24) := by decide +kernel
theorem j141_48 : ax_in 141 48 = some (.if_icmp .ge 97, 3, 0, 0) := by decide +kernel
theorem j141_51 : ax_in 141 51 = some (.iload_n 1, 1, 0, 0) := by decide +kernel
theorem j141_52 : ax_in 141 52 = some (.ifCond .ne 93, 3, 0, 0) := by decide +kernel
theorem j141_55 : ax_in 141 55 = some (.aload_n 0, 1, 0, 0) := by decide +kernel
theorem j141_56 : ax_in 141 56 = some (.getfield 68, 3, 8, 25) := by decide +kernel
theorem j141_59 : ax_in 141 59 = some (.iload_n 2, 1, 0, 0) := by decide +kernel
theorem j141_60 : ax_in 141 60 = some (.iaload, 1, 0, 0) := by decide +kernel
theorem j141_61 : ax_in 141 61 = some (.istore_n 3, 1, 0, 0) := by decide +kernel
theorem j141_62 : ax_in 141 62 = some (.iload_n 3, 1, 0, 0) := by decide +kernel
theorem j141_63 : ax_in 141 63 = some (.iconst 1, 1, 0, 0) := by decide +kernel
theorem j141_64 : ax_in 141 64 = some (.if_icmp .ne 22, 3, 0, 0) := by decide +kernel
theorem j141_67 : ax_in 141 67 = some (.aload_n 0, 1, 0, 0) := by decide +kernel
theorem j141_68 : ax_in 141 68 = some (.aload_n 0, 1, 0, 0) := by decide +kernel
theorem j141_69 : ax_in 141 69 = some (.getfield 71, 3, 8, 26) := by decide +kernel
theorem j141_72 : ax_in 141 72 = some (.iload_n 2, 1, 0, 0) := by decide +kernel
theorem j141_73 : ax_in 141 73 = some (.iaload, 1, 0, 0) := by decide +kernel
theorem j141_74 : ax_in 141 74 = some (.aload_n 0, 1, 0, 0) := by decide +kernel
theorem j141_75 : ax_in 141 75 = some (.getfield 74, 3, 8, 27) := by decide +kernel
theorem j141_78 : ax_in 141 78 = some (.iload_n 2, 1, 0, 0) := by decide +kernel
theorem j141_79 : ax_in 141 79 = some (.iaload, 1, 0, 0) := by decide +kernel
theorem j141_80 : ax_in 141 80 = some (.invokevirtual 180, 3, 112, 0) := by decide +kernel
theorem j141_83 : ax_in 141 83 = some (.goto 55, 3, 0, 0) := by decide +kernel
theorem j141_86 : ax_in 141 86 = some (.iload_n 3, 1, 0, 0) := by decide +kernel
theorem j141_87 : ax_in 141 87 = some (.iconst 2, 1, 0, 0) := by decide +kernel
theorem j141_88 : ax_in 141 88 = some (.if_icmp .ne 28, 3, 0, 0) := by decide +kernel
theorem j141_91 : ax_in 141 91 = some (.aload_n 0, 1, 0, 0) := by decide +kernel
theorem j141_92 : ax_in 141 92 = some (.aload_n 0, 1, 0, 0) := by decide +kernel
theorem j141_93 : ax_in 141 93 = some (.getfield 71, 3, 8, 26) := by decide +kernel
theorem j141_96 : ax_in 141 96 = some (.iload_n 2, 1, 0, 0) := by decide +kernel
theorem j141_97 : ax_in 141 97 = some (.iaload, 1, 0, 0) := by decide +kernel
theorem j141_98 : ax_in 141 98 = some (.aload_n 0, 1, 0, 0) := by decide +kernel
theorem j141_99 : ax_in 141 99 = some (.getfield 74, 3, 8, 27) := by decide +kernel
theorem j141_102 : ax_in 141 102 = some (.iload_n 2, 1, 0, 0) := by decide +kernel
theorem j141_103 : ax_in 141 103 = some (.iaload, 1, 0, 0) := by decide +kernel
theorem j141_104 : ax_in 141 104 = some (.aload_n 0, 1, 0, 0) := by decide +kernel
theorem j141_105 : ax_in 141 105 = some (.getfield 77, 3, 8, 28) := by decide +kernel
theorem j141_108 : ax_in 141 108 = some (.iload_n 2, 1, 0, 0) := by decide +kernel
theorem j141_109 : ax_in 141 109 = some (.iaload, 1, 0, 0) := by decide +kernel
theorem j141_110 : ax_in 141 110 = some (.invokevirtual 183, 3, 113, 0) := by decide +kernel
theorem j141_113 : ax_in 141 113 = some (.goto 25, 3, 0, 0) := by decide +kernel
theorem j141_116 : ax_in 141 116 = some (.iload_n 3, 1, 0, 0) := by decide +kernel
theorem j141_117 : ax_in 141 117 = some (.iconst 3, 1, 0, 0) := by decide +kernel
theorem j141_118 : ax_in 141 118 = some (.if_icmp .ne 16, 3, 0, 0) := by decide +kernel
theorem j141_121 : ax_in 141 121 = some (.aload_n 0, 1, 0, 0) := by decide +kernel
theorem j141_122 : ax_in 141 122 = some (.aload_n 0, 1, 0, 0) := by decide +kernel
theorem j141_123 : ax_in 141 123 = some (.getfield 77, 3, 8, 28) := by decide +kernel
theorem j141_126 : ax_in 141 126 = some (.iload_n 2, 1, 0, 0) := by decide +kernel
theorem j141_127 : ax_in 141 127 = some (.iaload, 1, 0, 0) := by decide +kernel
theorem j141_128 : ax_in 141 128 = some (.invokevirtual 186, 3, 114, 0) := by decide +kernel
theorem j141_131 : ax_in 141 131 = some (.goto 7, 3, 0, 0) := by decide +kernel
theorem j141_134 : ax_in 141 134 = some (.aload_n 0, 1, 0, 0) := by decide +kernel
theorem j141_135 : ax_in 141 135 = some (.invokevirtual 189, 3, 115, 0) := by decide +kernel
theorem j141_138 : ax_in 141 138 = some (.istore_n 1, 1, 0, 0) := by decide +kernel
theorem j141_139 : ax_in 141 139 = some (.iinc 2 1, 3, 0, 0) := by decide +kernel
theorem j141_142 : ax_in 141 142 = some (.goto (-99), 3, 0, 0) := by decide +kernel
theorem j141_145 : ax_in 141 145 = some (.iload_n 1, 1, 0, 0) := by decide +kernel
theorem j141_146 : ax_in 141 146 = some (.ifCond .le 20, 3, 0, 0) := by decide +kernel
theorem j141_149 : ax_in 141 149 = some (.aload_n 0, 1, 0, 0) := by decide +kernel
theorem j141_150 : ax_in 141 150 = some (.iconst 0, 1, 0, 0) := by decide +kernel
theorem j141_151 : ax_in 141 151 = some (.invokevirtual 171, 3, 86, 0) := by decide +kernel
theorem j141_154 : ax_in 141 154 = some (.aload_n 0, 1, 0, 0) := by decide +kernel
theorem j141_155 : ax_in 141 155 = some (.iconst 0, 1, 0, 0) := by decide +kernel
theorem j141_156 : ax_in 141 156 = some (.putfield 92, 3, 8, 19) := by decide +kernel
theorem j141_159 : ax_in 141 159 = some (.aload_n 0, 1, 0, 0) := by decide +kernel
theorem j141_160 : ax_in 141 160 = some (.iconst 2, 1, 0, 0) := by decide +kernel
theorem j141_161 : ax_in 141 161 = some (.putfield 80, 3, 8, 0) := by decide +kernel
theorem j141_164 : ax_in 141 164 = some (.iconst 0, 1, 0, 0) := by decide +kernel
theorem j141_165 : ax_in 141 165 = some (.ireturn, 1, 0, 0) := by decide +kernel
theorem j141_166 : ax_in 141 166 = some (.aload_n 0, 1, 0, 0) := by decide +kernel
theorem j141_167 : ax_in 141 167 = some (.getfield 92, 3, 8, 19) := by decide +kernel
theorem j141_170 : ax_in 141 170 = some (.ireturn, 1, 0, 0) := by decide +kernel
end
section
/-! Calls and answers of the abstract machine by the number of arguments; ints and nothing as answers. -/
def ax_Pi (P : Int32 → ax_D → Prop) : ax_Po := fun o d1 => ∃ x : Int32, o = some (.int x) ∧ P x d1
def ax_Pv (P : ax_D → Prop) : ax_Po := fun o d1 => o = none ∧ P d1
section WC
variable {mi pc a b idx id n : Nat} {f : Nat → ax_X} {L : ax_L1} {r : List Value} {d : ax_D} {Q : ax_Po} {P : Int32 → ax_D → Prop} {Pv : ax_D → Prop} {v1 v2 v3 v4 : Value}
theorem wx_ri {v : Int32} {ty : FieldType} (h : ax_in mi pc = some (.ireturn, 1, a, b)) (hr : ax_r (ax_me mi) = some ty) (hn : narrow ty (.int v) = .int v) (hq : P v d) : ax_W mi pc L [.int v] d (ax_Pi P) := wx_iret h hr hn ⟨v, rfl, hq⟩
theorem wx_rv (h : ax_in mi pc = some (.return_, 1, a, b)) (hr : ax_r (ax_me mi) = none) (hq : Pv d) : ax_W mi pc L [] d (ax_Pv Pv) := wx_vret h hr ⟨rfl, hq⟩
theorem wx_i0 (h : ax_in mi pc = some (.invokevirtual idx, 3, a, b)) (hg : 1 = ax_g (ax_me a)) (hs : (r.map fun v => v.category).sum ≤ 8) (hsh : ax_sh id = some (ax_o (ax_me a) + 4, n, f)) (hE : ax_E a [.ref id] d (ax_Pi P)) (k : ∀ (x : Int32) (d1 : ax_D), P x d1 → ax_W mi (pc + 3) L (.int x :: r) d1 Q) : ax_W mi pc L (.ref id :: r) d Q :=
  wx_cv [] r h rfl hg rfl hs hsh hE (fun o d1 ho => by obtain ⟨x, rfl, hp⟩ := ho; exact k x d1 hp)
theorem wx_i1 (h : ax_in mi pc = some (.invokevirtual idx, 3, a, b)) (hg : 2 = ax_g (ax_me a)) (c1 : v1.category = 1) (hs : (r.map fun v => v.category).sum ≤ 8) (hsh : ax_sh id = some (ax_o (ax_me a) + 4, n, f)) (hE : ax_E a [.ref id, v1] d (ax_Pi P)) (k : ∀ (x : Int32) (d1 : ax_D), P x d1 → ax_W mi (pc + 3) L (.int x :: r) d1 Q) : ax_W mi pc L (v1 :: .ref id :: r) d Q :=
  wx_cv [v1] r h rfl hg (by simp [c1]) hs hsh hE (fun o d1 ho => by obtain ⟨x, rfl, hp⟩ := ho; exact k x d1 hp)
theorem wx_i2 (h : ax_in mi pc = some (.invokevirtual idx, 3, a, b)) (hg : 3 = ax_g (ax_me a)) (c1 : v1.category = 1) (c2 : v2.category = 1) (hs : (r.map fun v => v.category).sum ≤ 8) (hsh : ax_sh id = some (ax_o (ax_me a) + 4, n, f)) (hE : ax_E a [.ref id, v1, v2] d (ax_Pi P)) (k : ∀ (x : Int32) (d1 : ax_D), P x d1 → ax_W mi (pc + 3) L (.int x :: r) d1 Q) : ax_W mi pc L (v2 :: v1 :: .ref id :: r) d Q :=
  wx_cv [v1, v2] r h rfl hg (by simp [c1, c2]) hs hsh hE (fun o d1 ho => by obtain ⟨x, rfl, hp⟩ := ho; exact k x d1 hp)
theorem wx_i3 (h : ax_in mi pc = some (.invokevirtual idx, 3, a, b)) (hg : 4 = ax_g (ax_me a)) (c1 : v1.category = 1) (c2 : v2.category = 1) (c3 : v3.category = 1) (hs : (r.map fun v => v.category).sum ≤ 8) (hsh : ax_sh id = some (ax_o (ax_me a) + 4, n, f)) (hE : ax_E a [.ref id, v1, v2, v3] d (ax_Pi P)) (k : ∀ (x : Int32) (d1 : ax_D), P x d1 → ax_W mi (pc + 3) L (.int x :: r) d1 Q) : ax_W mi pc L (v3 :: v2 :: v1 :: .ref id :: r) d Q :=
  wx_cv [v1, v2, v3] r h rfl hg (by simp [c1, c2, c3]) hs hsh hE (fun o d1 ho => by obtain ⟨x, rfl, hp⟩ := ho; exact k x d1 hp)
theorem wx_i4 (h : ax_in mi pc = some (.invokevirtual idx, 3, a, b)) (hg : 5 = ax_g (ax_me a)) (c1 : v1.category = 1) (c2 : v2.category = 1) (c3 : v3.category = 1) (c4 : v4.category = 1) (hs : (r.map fun v => v.category).sum ≤ 8) (hsh : ax_sh id = some (ax_o (ax_me a) + 4, n, f)) (hE : ax_E a [.ref id, v1, v2, v3, v4] d (ax_Pi P)) (k : ∀ (x : Int32) (d1 : ax_D), P x d1 → ax_W mi (pc + 3) L (.int x :: r) d1 Q) : ax_W mi pc L (v4 :: v3 :: v2 :: v1 :: .ref id :: r) d Q :=
  wx_cv [v1, v2, v3, v4] r h rfl hg (by simp [c1, c2, c3, c4]) hs hsh hE (fun o d1 ho => by obtain ⟨x, rfl, hp⟩ := ho; exact k x d1 hp)
theorem wx_v0 (h : ax_in mi pc = some (.invokevirtual idx, 3, a, b)) (hg : 1 = ax_g (ax_me a)) (hs : (r.map fun v => v.category).sum ≤ 8) (hsh : ax_sh id = some (ax_o (ax_me a) + 4, n, f)) (hE : ax_E a [.ref id] d (ax_Pv Pv)) (k : ∀ (d1 : ax_D), Pv d1 → ax_W mi (pc + 3) L r d1 Q) : ax_W mi pc L (.ref id :: r) d Q :=
  wx_cv [] r h rfl hg rfl hs hsh hE (fun o d1 ho => by obtain ⟨rfl, hp⟩ := ho; exact k d1 hp)
theorem wx_v1 (h : ax_in mi pc = some (.invokevirtual idx, 3, a, b)) (hg : 2 = ax_g (ax_me a)) (c1 : v1.category = 1) (hs : (r.map fun v => v.category).sum ≤ 8) (hsh : ax_sh id = some (ax_o (ax_me a) + 4, n, f)) (hE : ax_E a [.ref id, v1] d (ax_Pv Pv)) (k : ∀ (d1 : ax_D), Pv d1 → ax_W mi (pc + 3) L r d1 Q) : ax_W mi pc L (v1 :: .ref id :: r) d Q :=
  wx_cv [v1] r h rfl hg (by simp [c1]) hs hsh hE (fun o d1 ho => by obtain ⟨rfl, hp⟩ := ho; exact k d1 hp)
theorem wx_v2 (h : ax_in mi pc = some (.invokevirtual idx, 3, a, b)) (hg : 3 = ax_g (ax_me a)) (c1 : v1.category = 1) (c2 : v2.category = 1) (hs : (r.map fun v => v.category).sum ≤ 8) (hsh : ax_sh id = some (ax_o (ax_me a) + 4, n, f)) (hE : ax_E a [.ref id, v1, v2] d (ax_Pv Pv)) (k : ∀ (d1 : ax_D), Pv d1 → ax_W mi (pc + 3) L r d1 Q) : ax_W mi pc L (v2 :: v1 :: .ref id :: r) d Q :=
  wx_cv [v1, v2] r h rfl hg (by simp [c1, c2]) hs hsh hE (fun o d1 ho => by obtain ⟨rfl, hp⟩ := ho; exact k d1 hp)
theorem wx_v3 (h : ax_in mi pc = some (.invokevirtual idx, 3, a, b)) (hg : 4 = ax_g (ax_me a)) (c1 : v1.category = 1) (c2 : v2.category = 1) (c3 : v3.category = 1) (hs : (r.map fun v => v.category).sum ≤ 8) (hsh : ax_sh id = some (ax_o (ax_me a) + 4, n, f)) (hE : ax_E a [.ref id, v1, v2, v3] d (ax_Pv Pv)) (k : ∀ (d1 : ax_D), Pv d1 → ax_W mi (pc + 3) L r d1 Q) : ax_W mi pc L (v3 :: v2 :: v1 :: .ref id :: r) d Q :=
  wx_cv [v1, v2, v3] r h rfl hg (by simp [c1, c2, c3]) hs hsh hE (fun o d1 ho => by obtain ⟨rfl, hp⟩ := ho; exact k d1 hp)
theorem wx_v4 (h : ax_in mi pc = some (.invokevirtual idx, 3, a, b)) (hg : 5 = ax_g (ax_me a)) (c1 : v1.category = 1) (c2 : v2.category = 1) (c3 : v3.category = 1) (c4 : v4.category = 1) (hs : (r.map fun v => v.category).sum ≤ 8) (hsh : ax_sh id = some (ax_o (ax_me a) + 4, n, f)) (hE : ax_E a [.ref id, v1, v2, v3, v4] d (ax_Pv Pv)) (k : ∀ (d1 : ax_D), Pv d1 → ax_W mi (pc + 3) L r d1 Q) : ax_W mi pc L (v4 :: v3 :: v2 :: v1 :: .ref id :: r) d Q :=
  wx_cv [v1, v2, v3, v4] r h rfl hg (by simp [c1, c2, c3, c4]) hs hsh hE (fun o d1 ho => by obtain ⟨rfl, hp⟩ := ho; exact k d1 hp)
theorem wx_t1 (h : ax_in mi pc = some (.invokestatic idx, 3, a, b)) (hg : 1 = ax_g (ax_me a)) (c1 : v1.category = 1) (hs : (r.map fun v => v.category).sum ≤ 8) (hE : ax_E a [v1] d (ax_Pi P)) (k : ∀ (x : Int32) (d1 : ax_D), P x d1 → ax_W mi (pc + 3) L (.int x :: r) d1 Q) : ax_W mi pc L (v1 :: r) d Q :=
  wx_cs [v1] r h rfl hg (by simp [c1]) hs hE (fun o d1 ho => by obtain ⟨x, rfl, hp⟩ := ho; exact k x d1 hp)
theorem wx_t2 (h : ax_in mi pc = some (.invokestatic idx, 3, a, b)) (hg : 2 = ax_g (ax_me a)) (c1 : v1.category = 1) (c2 : v2.category = 1) (hs : (r.map fun v => v.category).sum ≤ 8) (hE : ax_E a [v1, v2] d (ax_Pi P)) (k : ∀ (x : Int32) (d1 : ax_D), P x d1 → ax_W mi (pc + 3) L (.int x :: r) d1 Q) : ax_W mi pc L (v2 :: v1 :: r) d Q :=
  wx_cs [v1, v2] r h rfl hg (by simp [c1, c2]) hs hE (fun o d1 ho => by obtain ⟨x, rfl, hp⟩ := ho; exact k x d1 hp)
end WC
theorem ax_W_mono {mi pc : Nat} {L : ax_L1} {st : List Value} {d : ax_D} {Q Q' : ax_Po} (h : ax_W mi pc L st d Q) (hq : ∀ o d1, Q o d1 → Q' o d1) : ax_W mi pc L st d Q' := by
  have key := h (fun mi pc L st d Q => ∀ Q' : ax_Po, (∀ o d1, Q o d1 → Q' o d1) → ax_W mi pc L st d Q') (fun mi pc L st d Q k Q' hq => by
    apply ax_W_in
    unfold ax_st at k ⊢
    cases hin : ax_in mi pc with
    | none => rw [hin] at k; exact k
    | some z =>
      obtain ⟨i, len, a, b⟩ := z
      rw [hin] at k
      dsimp only at k ⊢
      cases i <;> first
        | (obtain ⟨pc', L', st', h1, h2, h3⟩ := k
           exact ⟨pc', L', st', h1, h2, h3 Q' hq⟩)
        | (obtain ⟨hl, v, ty, h1, h2, h3, h4⟩ := k
           exact ⟨hl, v, ty, h1, h2, h3, hq _ _ h4⟩)
        | (obtain ⟨hl, h1, h2, h3⟩ := k
           exact ⟨hl, h1, h2, hq _ _ h3⟩)
        | (obtain ⟨hl, x, r, t, h1, h2, h3, h4⟩ := k
           exact ⟨hl, x, r, t, h1, h2, fun q => h3 q Q' hq, fun q => h4 q Q' hq⟩)
        | (obtain ⟨hl, x, y, r, t, h1, h2, h3, h4⟩ := k
           exact ⟨hl, x, y, r, t, h1, h2, fun q => h3 q Q' hq, fun q => h4 q Q' hq⟩)
        | (obtain ⟨hl, x, y, r, h1, h2, h3⟩ := k
           exact ⟨hl, x, y, r, h1, h2, h3 Q' hq⟩)
        | (obtain ⟨x, r, h1, h2, h3⟩ := k
           refine ⟨x, r, h1, fun q => ?_, fun q => ?_⟩
           · obtain ⟨t, h4, h5⟩ := h2 q
             exact ⟨t, h4, h5 Q' hq⟩
           · obtain ⟨off, t, h4, h5, h6⟩ := h3 q
             exact ⟨off, t, h4, h5, h6 Q' hq⟩)
        | (obtain ⟨x, r, t, h1, h2, h3, h4⟩ := k
           exact ⟨x, r, t, h1, h2, h3, h4 Q' hq⟩)
        | (obtain ⟨hl, id, r, n, f, h1, h2, h3, h4⟩ := k
           exact ⟨hl, id, r, n, f, h1, h2, h3, h4 Q' hq⟩)
        | (obtain ⟨hl, id, x, r, n, f, h1, h2, h3, h4, h5, h6, h7⟩ := k
           exact ⟨hl, id, x, r, n, f, h1, h2, h3, h4, h5, h6, h7 Q' hq⟩)
        | (obtain ⟨hl, id, i, r, n, f, h1, h2, h3, h4⟩ := k
           exact ⟨hl, id, i, r, n, f, h1, h2, h3, h4 Q' hq⟩)
        | (obtain ⟨hl, id, x, i, r, n, f, h1, h2, h3, h4⟩ := k
           exact ⟨hl, id, x, i, r, n, f, h1, h2, h3, h4 Q' hq⟩)
        | (obtain ⟨hl, id, i, r, n, f, j, h1, h2, h3, h4, h5⟩ := k
           exact ⟨hl, id, i, r, n, f, j, h1, h2, h3, h4, h5 Q' hq⟩)
        | (obtain ⟨hl, id, r, t, n, f, h1, h2, h3, h4⟩ := k
           exact ⟨hl, id, r, t, n, f, h1, h2, h3, h4 Q' hq⟩)
        | (obtain ⟨hl, as, rest, P, h1, h2, h3, h4, h5, h6, h7⟩ := k
           exact ⟨hl, as, rest, P, h1, h2, h3, h4, h5, h6 P (fun _ _ h => h), fun r d1 hp => h7 r d1 hp Q' hq⟩))
  exact key Q' hq
theorem ax_E_i {a : Nat} {as : List Value} {d : ax_D} {P P' : Int32 → ax_D → Prop} (h : ax_E a as d (ax_Pi P)) (hq : ∀ x d1, P x d1 → P' x d1) : ax_E a as d (ax_Pi P') := ax_W_mono h (fun _ _ ⟨x, e, hp⟩ => ⟨x, e, hq x _ hp⟩)
theorem ax_E_v {a : Nat} {as : List Value} {d : ax_D} {P P' : ax_D → Prop} (h : ax_E a as d (ax_Pv P)) (hq : ∀ d1, P d1 → P' d1) : ax_E a as d (ax_Pv P') := ax_W_mono h (fun _ _ ⟨e, hp⟩ => ⟨e, hq _ hp⟩)
end
section
/-! Arrays by a place that is a small number; the shapes of the rows. -/
section WN
variable {mi pc a b id n : Nat} {f : Nat → ax_X} {L : ax_L1} {r : List Value} {d : ax_D} {Q : ax_Po} {i x : Int32}
theorem wx_ialx (k : Nat) (h : ax_in mi pc = some (.iaload, 1, a, b)) (hs : ax_sh id = some (0, n, f)) (hi : i = nI k) (hk : k < n) (hn : n < 2 ^ 31) (kk : ax_W mi (pc + 1) L (.int (d id k) :: r) d Q) : ax_W mi pc L (.int i :: .ref id :: r) d Q := by
  subst hi
  refine wx_iald h hs (vp_in_nI hk hn) ?_
  rw [nI_clamp (by omega)]
  exact kk
theorem wx_balx (k : Nat) (h : ax_in mi pc = some (.baload, 1, a, b)) (hs : ax_sh id = some (1, n, f)) (hi : i = nI k) (hk : k < n) (hn : n < 2 ^ 31) (kk : ax_W mi (pc + 1) L (.int (d id k) :: r) d Q) : ax_W mi pc L (.int i :: .ref id :: r) d Q := by
  subst hi
  refine wx_bald h hs (vp_in_nI hk hn) ?_
  rw [nI_clamp (by omega)]
  exact kk
theorem wx_iasx (k : Nat) (h : ax_in mi pc = some (.iastore, 1, a, b)) (hs : ax_sh id = some (0, n, f)) (hi : i = nI k) (hk : k < n) (hn : n < 2 ^ 31) (kk : ax_W mi (pc + 1) L r (ax_up d id k x) Q) : ax_W mi pc L (.int x :: .int i :: .ref id :: r) d Q := by
  subst hi
  refine wx_iast h hs (vp_in_nI hk hn) ?_
  rw [nI_clamp (by omega)]
  exact kk
theorem wx_basx (k : Nat) (h : ax_in mi pc = some (.bastore, 1, a, b)) (hs : ax_sh id = some (1, n, f)) (hi : i = nI k) (hk : k < n) (hn : n < 2 ^ 31) (kk : ax_W mi (pc + 1) L r (ax_up d id k (x &&& 1)) Q) : ax_W mi pc L (.int x :: .int i :: .ref id :: r) d Q := by
  subst hi
  refine wx_bast h hs (vp_in_nI hk hn) ?_
  rw [nI_clamp (by omega)]
  exact kk
theorem wx_aalx (k : Nat) {j : Nat} (h : ax_in mi pc = some (.aaload, 1, a, b)) (hs : ax_sh id = some (3, n, f)) (hi : i = nI k) (hk : k < n) (hn : n < 2 ^ 31) (hf : f k = .inl j) (kk : ax_W mi (pc + 1) L (.ref j :: r) d Q) : ax_W mi pc L (.int i :: .ref id :: r) d Q := by
  subst hi
  exact wx_aald h hs (vp_in_nI hk hn) (by rw [nI_clamp (by omega)]; exact hf) kk
end WN
theorem nr_le (r : Nat) : ax_nr r ≤ 20 := by unfold ax_nr; split <;> omega
theorem nr_pos (r : Nat) : 0 < ax_nr r := by unfold ax_nr; split <;> omega
theorem rm_le (r : Nat) : ax_rm r ≤ 20 := by unfold ax_rm; split <;> omega
theorem rm_pos (r : Nat) : 5 ≤ ax_rm r := by unfold ax_rm; split <;> omega
theorem nr_lt (r : Nat) : ax_nr r < 2 ^ 31 := Nat.lt_of_le_of_lt (nr_le r) (by decide)
theorem rm_lt (r : Nat) : ax_rm r < 2 ^ 31 := Nat.lt_of_le_of_lt (rm_le r) (by decide)
theorem sh_ro {r : Nat} (h : r < 16) : ax_sh (32 * r) = some (8, 3, ax_of [.inl (32 * r + 1), .inl (32 * r + 2), .inr (some (nI (ax_rm r)))]) := by
  unfold ax_sh
  rw [if_pos (by omega), show 32 * r / 32 = r by omega, show 32 * r % 32 = 0 by omega]
  rfl
theorem sh_ri {r : Nat} (h : r < 16) : ax_sh (32 * r + 1) = some (3, ax_nr r, fun k => .inl (32 * r + 3 + k)) := by
  unfold ax_sh
  rw [if_pos (by omega), show (32 * r + 1) / 32 = r by omega, show (32 * r + 1) % 32 = 1 by omega]
  rfl
theorem sh_rs {r : Nat} (h : r < 16) : ax_sh (32 * r + 2) = some (0, ax_nr r, ax_dt) := by
  unfold ax_sh
  rw [if_pos (by omega), show (32 * r + 2) / 32 = r by omega, show (32 * r + 2) % 32 = 2 by omega]
  rfl
theorem sh_rr {r k : Nat} (h : r < 16) (hk : k < ax_nr r) : ax_sh (32 * r + 3 + k) = some (0, ax_rm r, ax_dt) := by
  have h1 := nr_le r
  unfold ax_sh
  rw [if_pos (by omega), show (32 * r + 3 + k) / 32 = r by omega, show (32 * r + 3 + k) % 32 = 3 + k by omega]
  unfold ax_rw
  rw [if_neg (by omega), if_neg (by omega), if_neg (by omega), if_pos (by omega)]
theorem up_at (d : ax_D) (id k : Nat) (x : Int32) : ax_up d id k x id k = x := by rw [ax_up_at]; simp [upd]
theorem up_nk {d : ax_D} {id k j : Nat} {x : Int32} (h : j ≠ k) : ax_up d id k x id j = d id j := by rw [ax_up_at]; simp [upd, h]
theorem up_ni {d : ax_D} {id k i j : Nat} {x : Int32} (h : i ≠ id) : ax_up d id k x i j = d i j := by rw [ax_up_ne h]
theorem up_ap (d : ax_D) (id k i j : Nat) (x : Int32) : ax_up d id k x i j = if i = id ∧ j = k then x else d i j := by
  by_cases h : i = id
  · subst h
    by_cases h2 : j = k
    · subst h2; rw [up_at, if_pos ⟨rfl, rfl⟩]
    · rw [up_nk h2, if_neg (fun q => h2 q.2)]
  · rw [up_ni h, if_neg (fun q => h q.1)]
end
section
/-! ROWS: the class's rows of numbers. 'rw_is d r LL': Rows r holds the lists LL (a list a row). -/
def rw_is (d : ax_D) (r : Nat) (LL : Nat → List Int32) : Prop := ∀ k, k < ax_nr r → (LL k).length ≤ ax_rm r ∧ d (32 * r + 2) k = nI (LL k).length ∧ ∀ i, i < (LL k).length → d (32 * r + 3 + k) i = (LL k).getD i 0
/-- nothing but Rows r has changed -/
def rw_fr (d d1 : ax_D) (r : Nat) : Prop := ∀ id, (id < 32 * r ∨ 32 * r + 32 ≤ id) → d1 id = d id
def rw_up (LL : Nat → List Int32) (k : Nat) (l : List Int32) : Nat → List Int32 := fun j => if j = k then l else LL j
theorem rw_fr_rf (d : ax_D) (r : Nat) : rw_fr d d r := fun _ _ => rfl
theorem rw_fr_tr {d d1 d2 : ax_D} {r : Nat} (h : rw_fr d d1 r) (h2 : rw_fr d1 d2 r) : rw_fr d d2 r := fun id hi => (h2 id hi).trans (h id hi)
theorem rw_keep {d d1 : ax_D} {r r' : Nat} {LL : Nat → List Int32} (h : rw_is d r LL) (hf : rw_fr d d1 r') (hr : r ≠ r') : rw_is d1 r LL := by
  intro k hk
  have h20 := nr_le r
  obtain ⟨h1, h2, h3⟩ := h k hk
  refine ⟨h1, ?_, fun i hi => ?_⟩
  · rw [hf (32 * r + 2) (by omega)]; exact h2
  · rw [hf (32 * r + 3 + k) (by omega)]; exact h3 i hi
theorem rw_len_lt {d : ax_D} {r k : Nat} {LL : Nat → List Int32} (h : rw_is d r LL) (hk : k < ax_nr r) : (LL k).length < 2 ^ 31 := Nat.lt_of_le_of_lt (Nat.le_trans (h k hk).1 (rm_le r)) (by decide)
/-- the first place of an item, or -1 -/
def rw_fi (l : List Int32) (x : Int32) : Int32 := match l.findIdx? (· == x) with
  | some i => nI i
  | none => -1
def rw_gt (l : List Int32) (p : Int32) : Int32 := if p < 0 then -1 else l.getD p.toNatClampNeg (-1)
section RW
variable {d : ax_D} {r k : Nat} {LL : Nat → List Int32} {x : Int32}
theorem nI_p {n : Nat} (h : n < 2 ^ 31) : ¬ nI n < 0 := nI_pos h
theorem sp_count (hr : r < 16) (hk : k < ax_nr r) : ax_E 42 [.ref (32 * r), .int (nI k)] d (ax_Pi fun x d1 => x = d (32 * r + 2) k ∧ d1 = d) := by
  show ax_W 42 0 [some (.ref (32 * r)), some (.int (nI k))] [] d _
  refine wx_ildn j42_0 rfl ?_
  refine wx_if 22 j42_1 (by decide) (fun c1 => ?_) (fun c1 => ?_)
  · simp only [ax_cn, Classical.not_not] at c1
    exact absurd c1 (nI_p (Nat.lt_trans hk (nr_lt r)))
  · simp only [ax_cn, Classical.not_not] at c1
    refine wx_ildn j42_4 rfl ?_
    refine wx_aldn j42_5 rfl ?_
    refine wx_get (v := .ref _) j42_6 (sh_ro hr) (Nat.le_of_ble_eq_true rfl) rfl ?_
    refine wx_alen j42_9 (sh_rs hr) (Nat.le_of_ble_eq_true rfl) ?_
    refine wx_cmp 22 j42_10 (by decide) (fun c10 => ?_) (fun c10 => ?_)
    · simp only [ax_cn, Classical.not_not] at c10
      exact absurd c10 (nI_ge hk (nr_lt r))
    · simp only [ax_cn, Classical.not_not] at c10
      refine wx_aldn j42_13 rfl ?_
      refine wx_get (v := .ref _) j42_14 (sh_ro hr) (Nat.le_of_ble_eq_true rfl) rfl ?_
      refine wx_ildn j42_17 rfl ?_
      refine wx_ialx (k) j42_18 (sh_rs hr) rfl (hk) (nr_lt r) ?_
      refine wx_goto 23 j42_19 (by decide) ?_
      refine wx_ri j42_23 rfl rfl ?_
      exact ⟨rfl, rfl⟩
theorem sp_cnt (hr : r < 16) (hk : k < ax_nr r) (h : rw_is d r LL) : ax_E 42 [.ref (32 * r), .int (nI k)] d (ax_Pi fun x d1 => x = nI (LL k).length ∧ d1 = d) := by
  show ax_W 42 0 [some (.ref (32 * r)), some (.int (nI k))] [] d _
  exact ax_E_i (sp_count hr hk) (fun x d1 ⟨h1, h2⟩ => ⟨h1.trans (h k hk).2.1, h2⟩)
theorem sp_isFull (hr : r < 16) (hk : k < ax_nr r) (h : rw_is d r LL) : ax_E 43 [.ref (32 * r), .int (nI k)] d (ax_Pi fun x d1 => x = (if (LL k).length < ax_rm r then nI 0 else nI 1) ∧ d1 = d) := by
  show ax_W 43 0 [some (.ref (32 * r)), some (.int (nI k))] [] d _
  refine wx_aldn j43_0 rfl ?_
  refine wx_ildn j43_1 rfl ?_
  refine wx_i1 j43_2 rfl rfl (Nat.le_of_ble_eq_true rfl) (sh_ro hr) (sp_cnt hr hk h) ?_
  rintro _ _ ⟨rfl, rfl⟩
  refine wx_aldn j43_5 rfl ?_
  refine wx_get (v := .int _) j43_6 (sh_ro hr) (Nat.le_of_ble_eq_true rfl) rfl ?_
  refine wx_cmp 16 j43_9 (by decide) (fun c9 => ?_) (fun c9 => ?_)
  · simp only [ax_cn, Classical.not_not] at c9
    refine wx_icst (v := nI 0) j43_16 (by decide) ?_
    refine wx_ri j43_17 rfl rfl ?_
    exact ⟨by rw [if_pos ((nI_ltI (rw_len_lt h hk) (rm_lt r)).mp c9)], rfl⟩
  · simp only [ax_cn, Classical.not_not] at c9
    refine wx_icst (v := nI 1) j43_12 (by decide) ?_
    refine wx_goto 17 j43_13 (by decide) ?_
    refine wx_ri j43_17 rfl rfl ?_
    exact ⟨by rw [if_neg (fun q => c9 (nI_lt q (rm_lt r)))], rfl⟩
theorem sp_get (hr : r < 16) (hk : k < ax_nr r) (h : rw_is d r LL) : ax_E 44 [.ref (32 * r), .int (nI k), .int x] d (ax_Pi fun y d1 => y = rw_gt (LL k) x ∧ d1 = d) := by
  show ax_W 44 0 [some (.ref (32 * r)), some (.int (nI k)), some (.int x)] [] d _
  refine wx_ildn j44_0 rfl ?_
  refine wx_if 24 j44_1 (by decide) (fun c1 => ?_) (fun c1 => ?_)
  · simp only [ax_cn, Classical.not_not] at c1
    have hx : rw_gt (LL k) x = -1 := by unfold rw_gt; rw [if_pos c1]
    refine wx_icst (v := (-1)) j44_24 (by decide) ?_
    refine wx_ri j44_25 rfl rfl ?_
    exact ⟨hx.symm, rfl⟩
  · simp only [ax_cn, Classical.not_not] at c1
    obtain ⟨p, hp, rfl⟩ := nI_of c1
    refine wx_ildn j44_4 rfl ?_
    refine wx_aldn j44_5 rfl ?_
    refine wx_ildn j44_6 rfl ?_
    refine wx_i1 j44_7 rfl rfl (Nat.le_of_ble_eq_true rfl) (sh_ro hr) (sp_cnt hr hk h) ?_
    rintro _ _ ⟨rfl, rfl⟩
    refine wx_cmp 24 j44_10 (by decide) (fun c10 => ?_) (fun c10 => ?_)
    · simp only [ax_cn, Classical.not_not] at c10
      have hx : rw_gt (LL k) (nI p) = -1 := by
        unfold rw_gt
        rw [if_neg (nI_p hp), nI_clamp hp, List.getD_eq_getElem?_getD, List.getElem?_eq_none ((nI_leI (rw_len_lt h hk) hp).mp c10)]
        rfl
      refine wx_icst (v := (-1)) j44_24 (by decide) ?_
      refine wx_ri j44_25 rfl rfl ?_
      exact ⟨hx.symm, rfl⟩
    · simp only [ax_cn, Classical.not_not] at c10
      have hpl : p < (LL k).length := Nat.not_le.mp (fun q => c10 ((nI_leI (rw_len_lt h hk) hp).mpr q))
      have hx : rw_gt (LL k) (nI p) = (LL k).getD p 0 := by
        unfold rw_gt
        rw [if_neg (nI_p hp), nI_clamp hp, List.getD_eq_getElem?_getD, List.getD_eq_getElem?_getD, List.getElem?_eq_getElem hpl]
        rfl
      refine wx_aldn j44_13 rfl ?_
      refine wx_get (v := .ref _) j44_14 (sh_ro hr) (Nat.le_of_ble_eq_true rfl) rfl ?_
      refine wx_ildn j44_17 rfl ?_
      refine wx_aalx (k) j44_18 (sh_ri hr) rfl (hk) (nr_lt r) rfl ?_
      refine wx_ildn j44_19 rfl ?_
      refine wx_ialx (p) j44_20 (sh_rr hr hk) rfl (Nat.lt_of_lt_of_le hpl (h k hk).1) (rm_lt r) ?_
      refine wx_goto 25 j44_21 (by decide) ?_
      refine wx_ri j44_25 rfl rfl ?_
      exact ⟨((h k hk).2.2 p hpl).trans hx.symm, rfl⟩
theorem rw_fi_none {l : List Int32} {x : Int32} (h : ∀ j, j < l.length → l.getD j 0 ≠ x) : rw_fi l x = -1 := by
  have h1 : l.findIdx? (· == x) = none := by
    rw [List.findIdx?_eq_none_iff]
    intro y hy
    obtain ⟨j, hj, rfl⟩ := List.mem_iff_getElem.mp hy
    have h2 := h j hj
    rw [List.getD_eq_getElem?_getD, List.getElem?_eq_getElem hj] at h2
    simpa using h2
  unfold rw_fi
  rw [h1]
theorem rw_fi_some {l : List Int32} {x : Int32} {i : Nat} (hi : i < l.length) (he : l.getD i 0 = x) (h : ∀ j, j < i → l.getD j 0 ≠ x) : rw_fi l x = nI i := by
  have h1 : l.findIdx? (· == x) = some i := by
    rw [List.findIdx?_eq_some_iff_getElem]
    refine ⟨hi, ?_, fun j hj => ?_⟩
    · rw [List.getD_eq_getElem?_getD, List.getElem?_eq_getElem hi] at he
      simpa using he
    · have h2 := h j hj
      rw [List.getD_eq_getElem?_getD, List.getElem?_eq_getElem (Nat.lt_trans hj hi)] at h2
      simpa using h2
  unfold rw_fi
  rw [h1]
theorem rw_fi_cases (l : List Int32) (x : Int32) : (∃ i, i < l.length ∧ l.getD i 0 = x ∧ (∀ j, j < i → l.getD j 0 ≠ x) ∧ rw_fi l x = nI i) ∨ ((∀ j, j < l.length → l.getD j 0 ≠ x) ∧ rw_fi l x = -1) := by
  by_cases h : ∀ j, j < l.length → l.getD j 0 ≠ x
  · exact Or.inr ⟨h, rw_fi_none h⟩
  · have h1 : ∃ j, j < l.length ∧ l.getD j 0 = x := by
      simp only [Classical.not_forall, not_imp, Classical.not_not] at h
      obtain ⟨j, hj, he⟩ := h
      exact ⟨j, hj, he⟩
    obtain ⟨i, ⟨hi, he⟩, hm⟩ := pk_least (fun j => j < l.length ∧ l.getD j 0 = x) h1
    have h2 : ∀ j, j < i → l.getD j 0 ≠ x := fun j hj e => hm j hj ⟨Nat.lt_trans hj hi, e⟩
    exact Or.inl ⟨i, hi, he, h2, rw_fi_some hi he h2⟩
theorem rw_put {d1 : ax_D} {l : List Int32} (h : rw_is d r LL) (hk : k < ax_nr r) (hl : l.length ≤ ax_rm r) (h2 : d1 (32 * r + 2) k = nI l.length) (h3 : ∀ i, i < l.length → d1 (32 * r + 3 + k) i = l.getD i 0) (h4 : ∀ j, j ≠ k → d1 (32 * r + 2) j = d (32 * r + 2) j) (h5 : ∀ id, id ≠ 32 * r + 2 → id ≠ 32 * r + 3 + k → d1 id = d id) : rw_is d1 r (rw_up LL k l) ∧ rw_fr d d1 r := by
  have h20 := nr_le r
  refine ⟨fun j hj => ?_, fun id hid => h5 id (by omega) (by omega)⟩
  unfold rw_up
  by_cases hjk : j = k
  · subst hjk
    rw [if_pos rfl]
    exact ⟨hl, h2, h3⟩
  · rw [if_neg hjk]
    obtain ⟨a1, a2, a3⟩ := h j hj
    refine ⟨a1, ?_, fun i hi => ?_⟩
    · rw [h4 j hjk]; exact a2
    · rw [h5 _ (by omega) (by omega)]; exact a3 i hi
theorem rw_find_loop (hr : r < 16) (hk : k < ax_nr r) (h : rw_is d r LL) : ∀ n i, (LL k).length - i < n → i ≤ (LL k).length → (∀ j, j < i → (LL k).getD j 0 ≠ x) → ax_W 45 9 [some (.ref (32 * r)), some (.int (nI k)), some (.int x), some (.int (nI (LL k).length)), some (.int (nI i))] [] d (ax_Pi fun y d1 => y = rw_fi (LL k) x ∧ d1 = d) := by
  have hlen := rw_len_lt h hk
  have hrm := (h k hk).1
  intro n
  induction n with
  | zero => intro i h0; omega
  | succ n ih =>
    intro i h0 hi hno
    refine wx_ild j45_9 rfl ?_
    refine wx_ildn j45_11 rfl ?_
    refine wx_cmp 37 j45_12 (by decide) (fun c12 => ?_) (fun c12 => ?_)
    · simp only [ax_cn, Classical.not_not] at c12
      have hil : i = (LL k).length := Nat.le_antisymm hi ((nI_leI hlen (by omega)).mp c12)
      refine wx_icst (v := (-1)) j45_37 (by decide) ?_
      refine wx_ri j45_38 rfl rfl ?_
      exact ⟨(rw_fi_none (by rw [← hil]; exact hno)).symm, rfl⟩
    · simp only [ax_cn, Classical.not_not] at c12
      have hil : i < (LL k).length := Nat.not_le.mp (fun q => c12 ((nI_leI hlen (by omega)).mpr q))
      refine wx_aldn j45_15 rfl ?_
      refine wx_get (v := .ref _) j45_16 (sh_ro hr) (Nat.le_of_ble_eq_true rfl) rfl ?_
      refine wx_ildn j45_19 rfl ?_
      refine wx_aalx (k) j45_20 (sh_ri hr) rfl (hk) (nr_lt r) rfl ?_
      refine wx_ild j45_21 rfl ?_
      refine wx_ialx (i) j45_23 (sh_rr hr hk) rfl (by omega) (rm_lt r) ?_
      refine wx_ildn j45_24 rfl ?_
      refine wx_cmp 31 j45_25 (by decide) (fun c25 => ?_) (fun c25 => ?_)
      · simp only [ax_cn, Classical.not_not] at c25
        refine wx_iinc (v := nI (i + 1)) (L' := [_, _, _, _, some (.int _)]) j45_31 rfl (nI_1 i) rfl ?_
        refine wx_goto 9 j45_34 (by decide) ?_
        exact ih (i + 1) (by omega) (by omega) (lt_s hno (by rw [← (h k hk).2.2 i hil]; exact c25))
      · simp only [ax_cn, Classical.not_not] at c25
        refine wx_ild j45_28 rfl ?_
        refine wx_ri j45_30 rfl rfl ?_
        exact ⟨(rw_fi_some hil (((h k hk).2.2 i hil).symm.trans c25) hno).symm, rfl⟩
theorem sp_find (hr : r < 16) (hk : k < ax_nr r) (h : rw_is d r LL) : ax_E 45 [.ref (32 * r), .int (nI k), .int x] d (ax_Pi fun y d1 => y = rw_fi (LL k) x ∧ d1 = d) := by
  show ax_W 45 0 [some (.ref (32 * r)), some (.int (nI k)), some (.int x), none, none] [] d _
  refine wx_aldn j45_0 rfl ?_
  refine wx_ildn j45_1 rfl ?_
  refine wx_i1 j45_2 rfl rfl (Nat.le_of_ble_eq_true rfl) (sh_ro hr) (sp_cnt hr hk h) ?_
  rintro _ _ ⟨rfl, rfl⟩
  refine wx_istn (L' := [_, _, _, some (.int _), _]) j45_5 (Nat.le_of_ble_eq_true rfl) rfl ?_
  refine wx_icst (v := nI 0) j45_6 (by decide) ?_
  refine wx_ist (L' := [_, _, _, _, some (.int _)]) j45_7 (Nat.le_of_ble_eq_true rfl) rfl ?_
  exact rw_find_loop hr hk h ((LL k).length + 1) 0 (by omega) (Nat.zero_le _) (fun j hj => absurd hj (Nat.not_lt_zero j))
theorem rw_len_up {l : List Int32} (d : ax_D) (id k i : Nat) (x : Int32) (h : id ≠ i) (j : Nat) (e : d i j = nI l.length) : ax_up d id k x i j = nI l.length := by rw [up_ni (Ne.symm h)]; exact e
theorem sp_addLast (hr : r < 16) (hk : k < ax_nr r) (h : rw_is d r LL) : ax_E 46 [.ref (32 * r), .int (nI k), .int x] d (ax_Pv fun d1 => rw_is d1 r (rw_up LL k (if (LL k).length < ax_rm r then LL k ++ [x] else LL k)) ∧ rw_fr d d1 r) := by
  show ax_W 46 0 [some (.ref (32 * r)), some (.int (nI k)), some (.int x)] [] d _
  refine wx_ildn j46_0 rfl ?_
  refine wx_if 50 j46_1 (by decide) (fun c1 => ?_) (fun c1 => ?_)
  · simp only [ax_cn, Classical.not_not] at c1
    exact absurd c1 (nI_p (Nat.lt_trans hk (nr_lt r)))
  · simp only [ax_cn, Classical.not_not] at c1
    refine wx_ildn j46_4 rfl ?_
    refine wx_aldn j46_5 rfl ?_
    refine wx_get (v := .ref _) j46_6 (sh_ro hr) (Nat.le_of_ble_eq_true rfl) rfl ?_
    refine wx_alen j46_9 (sh_rs hr) (Nat.le_of_ble_eq_true rfl) ?_
    refine wx_cmp 50 j46_10 (by decide) (fun c10 => ?_) (fun c10 => ?_)
    · simp only [ax_cn, Classical.not_not] at c10
      exact absurd c10 (nI_ge hk (nr_lt r))
    · simp only [ax_cn, Classical.not_not] at c10
      refine wx_aldn j46_13 rfl ?_
      refine wx_get (v := .ref _) j46_14 (sh_ro hr) (Nat.le_of_ble_eq_true rfl) rfl ?_
      refine wx_ildn j46_17 rfl ?_
      refine wx_ialx (k) j46_18 (sh_rs hr) rfl (hk) (nr_lt r) ?_
      rw [(h k hk).2.1]
      refine wx_aldn j46_19 rfl ?_
      refine wx_get (v := .int _) j46_20 (sh_ro hr) (Nat.le_of_ble_eq_true rfl) rfl ?_
      refine wx_cmp 50 j46_23 (by decide) (fun c23 => ?_) (fun c23 => ?_)
      · simp only [ax_cn, Classical.not_not] at c23
        have hfull : ¬ (LL k).length < ax_rm r := fun q => absurd c23 (nI_ge q (rm_lt r))
        refine wx_rv j46_50 rfl ?_
        rw [if_neg hfull]
        exact rw_put h hk (h k hk).1 (h k hk).2.1 (h k hk).2.2 (fun _ _ => rfl) (fun _ _ _ => rfl)
      · simp only [ax_cn, Classical.not_not] at c23
        have hroom : (LL k).length < ax_rm r := Nat.not_le.mp (fun q => c23 (nI_le q (rw_len_lt h hk)))
        refine wx_aldn j46_26 rfl ?_
        refine wx_get (v := .ref _) j46_27 (sh_ro hr) (Nat.le_of_ble_eq_true rfl) rfl ?_
        refine wx_ildn j46_30 rfl ?_
        refine wx_aalx (k) j46_31 (sh_ri hr) rfl (hk) (nr_lt r) rfl ?_
        refine wx_aldn j46_32 rfl ?_
        refine wx_get (v := .ref _) j46_33 (sh_ro hr) (Nat.le_of_ble_eq_true rfl) rfl ?_
        refine wx_ildn j46_36 rfl ?_
        refine wx_ialx (k) j46_37 (sh_rs hr) rfl (hk) (nr_lt r) ?_
        rw [(h k hk).2.1]
        refine wx_ildn j46_38 rfl ?_
        refine wx_iasx ((LL k).length) j46_39 (sh_rr hr hk) rfl (hroom) (rm_lt r) ?_
        refine wx_aldn j46_40 rfl ?_
        refine wx_get (v := .ref _) j46_41 (sh_ro hr) (Nat.le_of_ble_eq_true rfl) rfl ?_
        refine wx_ildn j46_44 rfl ?_
        refine wx_dup2 j46_45 ?_
        refine wx_ialx (k) j46_46 (sh_rs hr) rfl (hk) (nr_lt r) ?_
        rw [up_ni (show 32 * r + 2 ≠ 32 * r + 3 + k by omega), (h k hk).2.1]
        refine wx_icst (v := nI 1) j46_47 (by decide) ?_
        refine wx_iadd j46_48 ?_
        refine wx_iasx (k) j46_49 (sh_rs hr) rfl (hk) (nr_lt r) ?_
        refine wx_rv j46_50 rfl ?_
        rw [if_pos hroom]
        refine rw_put h hk (by rw [List.length_append]; exact hroom) ?_ (fun i hi => ?_) (fun j hj => ?_) (fun id h1 h2 => ?_)
        · rw [up_at, nI_add, List.length_append]; rfl
        · rw [up_ni (by omega), up_ap]
          by_cases hi2 : i = (LL k).length
          · subst hi2
            rw [if_pos ⟨rfl, rfl⟩]
            simp
          · rw [if_neg (fun q => hi2 q.2)]
            have hi3 : i < (LL k).length := by rw [List.length_append] at hi; simp at hi; omega
            rw [(h k hk).2.2 i hi3, List.getD_eq_getElem?_getD, List.getD_eq_getElem?_getD, List.getElem?_append_left hi3]
        · rw [up_nk hj, up_ni (by omega)]
        · rw [ax_up_ne h1, ax_up_ne h2]
theorem rw_forget_loop (hr : r < 16) : ∀ n i (d1 : ax_D), ax_nr r - i < n → i ≤ ax_nr r → (∀ j, j < i → d1 (32 * r + 2) j = nI 0) → (∀ id, id ≠ 32 * r + 2 → d1 id = d id) → ax_W 41 2 [some (.ref (32 * r)), some (.int (nI i))] [] d1 (ax_Pv fun d1 => rw_is d1 r (fun _ => []) ∧ rw_fr d d1 r) := by
  have hnr := nr_lt r
  intro n
  induction n with
  | zero => intro i d1 h0; omega
  | succ n ih =>
    intro i d1 h0 hi hz hf
    refine wx_ildn j41_2 rfl ?_
    refine wx_aldn j41_3 rfl ?_
    refine wx_get (v := .ref _) j41_4 (sh_ro hr) (Nat.le_of_ble_eq_true rfl) rfl ?_
    refine wx_alen j41_7 (sh_rs hr) (Nat.le_of_ble_eq_true rfl) ?_
    refine wx_cmp 24 j41_8 (by decide) (fun c8 => ?_) (fun c8 => ?_)
    · simp only [ax_cn, Classical.not_not] at c8
      have hil : i = ax_nr r := Nat.le_antisymm hi ((nI_leI hnr (by omega)).mp c8)
      refine wx_rv j41_24 rfl ?_
      exact ⟨fun j hj => ⟨Nat.zero_le _, hz j (by omega), fun i hi => absurd hi (Nat.not_lt_zero i)⟩, fun id hid => hf id (by omega)⟩
    · simp only [ax_cn, Classical.not_not] at c8
      have hil : i < ax_nr r := Nat.not_le.mp (fun q => c8 ((nI_leI hnr (by omega)).mpr q))
      refine wx_aldn j41_11 rfl ?_
      refine wx_get (v := .ref _) j41_12 (sh_ro hr) (Nat.le_of_ble_eq_true rfl) rfl ?_
      refine wx_ildn j41_15 rfl ?_
      refine wx_icst (v := nI 0) j41_16 (by decide) ?_
      refine wx_iasx (i) j41_17 (sh_rs hr) rfl (hil) hnr ?_
      refine wx_iinc (v := nI (i + 1)) (L' := [_, some (.int _)]) j41_18 rfl (nI_1 i) rfl ?_
      refine wx_goto 2 j41_21 (by decide) ?_
      refine ih (i + 1) _ (by omega) (by omega) (fun j hj => ?_) (fun id hid => by rw [ax_up_ne hid]; exact hf id hid)
      rw [up_ap]
      by_cases hj2 : j = i
      · rw [if_pos ⟨rfl, hj2⟩]
      · rw [if_neg (fun q => hj2 q.2)]; exact hz j (by omega)
theorem sp_forget (hr : r < 16) : ax_E 41 [.ref (32 * r)] d (ax_Pv fun d1 => rw_is d1 r (fun _ => []) ∧ rw_fr d d1 r) := by
  show ax_W 41 0 [some (.ref (32 * r)), none] [] d _
  refine wx_icst (v := nI 0) j41_0 (by decide) ?_
  refine wx_istn (L' := [_, some (.int _)]) j41_1 (Nat.le_of_ble_eq_true rfl) rfl ?_
  exact rw_forget_loop hr (ax_nr r + 1) 0 d (by omega) (Nat.zero_le _) (fun j hj => absurd hj (Nat.not_lt_zero j)) (fun _ _ => rfl)
theorem rw_first_loop (hr : r < 16) (hk : k < ax_nr r) (h : rw_is d r LL) (hroom : (LL k).length < ax_rm r) : ∀ p (d1 : ax_D), p ≤ (LL k).length → (∀ i, p < i → i ≤ (LL k).length → d1 (32 * r + 3 + k) i = (LL k).getD (i - 1) 0) → (∀ i, i ≤ p → i < (LL k).length → d1 (32 * r + 3 + k) i = (LL k).getD i 0) → (∀ id, id ≠ 32 * r + 3 + k → d1 id = d id) → ax_W 47 33 [some (.ref (32 * r)), some (.int (nI k)), some (.int x), some (.int (nI p))] [] d1 (ax_Pv fun d1 => rw_is d1 r (rw_up LL k (x :: LL k)) ∧ rw_fr d d1 r) := by
  have hrm := rm_lt r
  intro p
  induction p with
  | zero =>
    intro d1 hp hs hu hf
    refine wx_ildn j47_33 rfl ?_
    refine wx_if 61 j47_34 (by decide) (fun c34 => ?_) (fun c34 => ?_)
    · simp only [ax_cn, Classical.not_not] at c34
      refine wx_aldn j47_61 rfl ?_
      refine wx_get (v := .ref _) j47_62 (sh_ro hr) (Nat.le_of_ble_eq_true rfl) rfl ?_
      refine wx_ildn j47_65 rfl ?_
      refine wx_aalx (k) j47_66 (sh_ri hr) rfl (hk) (nr_lt r) rfl ?_
      refine wx_icst (v := nI 0) j47_67 (by decide) ?_
      refine wx_ildn j47_68 rfl ?_
      refine wx_iasx (0) j47_69 (sh_rr hr hk) rfl (by omega) hrm ?_
      refine wx_aldn j47_70 rfl ?_
      refine wx_get (v := .ref _) j47_71 (sh_ro hr) (Nat.le_of_ble_eq_true rfl) rfl ?_
      refine wx_ildn j47_74 rfl ?_
      refine wx_dup2 j47_75 ?_
      refine wx_ialx (k) j47_76 (sh_rs hr) rfl (hk) (nr_lt r) ?_
      rw [up_ni (show 32 * r + 2 ≠ 32 * r + 3 + k by omega), hf _ (show 32 * r + 2 ≠ 32 * r + 3 + k by omega), (h k hk).2.1]
      refine wx_icst (v := nI 1) j47_77 (by decide) ?_
      refine wx_iadd j47_78 ?_
      refine wx_iasx (k) j47_79 (sh_rs hr) rfl (hk) (nr_lt r) ?_
      refine wx_rv j47_80 rfl ?_
      refine rw_put h hk hroom ?_ (fun i hi => ?_) (fun j hj => ?_) (fun id h1 h2 => ?_)
      · rw [up_at, nI_add]; rfl
      · rw [up_ni (by omega), up_ap]
        match i, hi with
        | 0, _ => rw [if_pos ⟨rfl, rfl⟩]; rfl
        | i + 1, hi =>
          rw [if_neg (fun q => by omega), hs (i + 1) (by omega) (by simp at hi; omega)]
          rfl
      · rw [up_nk hj, up_ni (by omega), hf _ (by omega)]
      · rw [ax_up_ne h1, ax_up_ne h2, hf id h2]
    · simp only [ax_cn, Classical.not_not] at c34
      exact absurd (show nI 0 ≤ 0 by decide) c34
  | succ p ih =>
    intro d1 hp hs hu hf
    refine wx_ildn j47_33 rfl ?_
    refine wx_if 61 j47_34 (by decide) (fun c34 => ?_) (fun c34 => ?_)
    · simp only [ax_cn, Classical.not_not] at c34
      exact absurd c34 (nI_nle (Nat.succ_pos p) (by omega))
    · simp only [ax_cn, Classical.not_not] at c34
      refine wx_aldn j47_37 rfl ?_
      refine wx_get (v := .ref _) j47_38 (sh_ro hr) (Nat.le_of_ble_eq_true rfl) rfl ?_
      refine wx_ildn j47_41 rfl ?_
      refine wx_aalx (k) j47_42 (sh_ri hr) rfl (hk) (nr_lt r) rfl ?_
      refine wx_ildn j47_43 rfl ?_
      refine wx_aldn j47_44 rfl ?_
      refine wx_get (v := .ref _) j47_45 (sh_ro hr) (Nat.le_of_ble_eq_true rfl) rfl ?_
      refine wx_ildn j47_48 rfl ?_
      refine wx_aalx (k) j47_49 (sh_ri hr) rfl (hk) (nr_lt r) rfl ?_
      refine wx_ildn j47_50 rfl ?_
      refine wx_icst (v := nI 1) j47_51 (by decide) ?_
      refine wx_isub j47_52 ?_
      rw [show nI (p + 1) - nI 1 = nI p from nI_pred p]
      refine wx_ialx (p) j47_53 (sh_rr hr hk) rfl (by omega) hrm ?_
      refine wx_iasx (p + 1) j47_54 (sh_rr hr hk) rfl (by omega) hrm ?_
      refine wx_iinc (v := nI p) (L' := [_, _, _, some (.int _)]) j47_55 rfl (pk_m1 p) rfl ?_
      refine wx_goto 33 j47_58 (by decide) ?_
      refine ih _ (by omega) (fun i h1 h2 => ?_) (fun i h1 h2 => ?_) (fun id hid => by rw [ax_up_ne hid]; exact hf id hid)
      · by_cases hip : i = p + 1
        · subst hip
          rw [up_at, hu p (by omega) (by omega)]
          rfl
        · rw [up_nk hip]; exact hs i (by omega) h2
      · rw [up_nk (by omega)]; exact hu i (by omega) h2
theorem sp_addFirst (hr : r < 16) (hk : k < ax_nr r) (h : rw_is d r LL) : ax_E 47 [.ref (32 * r), .int (nI k), .int x] d (ax_Pv fun d1 => rw_is d1 r (rw_up LL k (if (LL k).length < ax_rm r then x :: LL k else LL k)) ∧ rw_fr d d1 r) := by
  show ax_W 47 0 [some (.ref (32 * r)), some (.int (nI k)), some (.int x), none] [] d _
  refine wx_ildn j47_0 rfl ?_
  refine wx_if 80 j47_1 (by decide) (fun c1 => ?_) (fun c1 => ?_)
  · simp only [ax_cn, Classical.not_not] at c1
    exact absurd c1 (nI_p (Nat.lt_trans hk (nr_lt r)))
  · simp only [ax_cn, Classical.not_not] at c1
    refine wx_ildn j47_4 rfl ?_
    refine wx_aldn j47_5 rfl ?_
    refine wx_get (v := .ref _) j47_6 (sh_ro hr) (Nat.le_of_ble_eq_true rfl) rfl ?_
    refine wx_alen j47_9 (sh_rs hr) (Nat.le_of_ble_eq_true rfl) ?_
    refine wx_cmp 80 j47_10 (by decide) (fun c10 => ?_) (fun c10 => ?_)
    · simp only [ax_cn, Classical.not_not] at c10
      exact absurd c10 (nI_ge hk (nr_lt r))
    · simp only [ax_cn, Classical.not_not] at c10
      refine wx_aldn j47_13 rfl ?_
      refine wx_get (v := .ref _) j47_14 (sh_ro hr) (Nat.le_of_ble_eq_true rfl) rfl ?_
      refine wx_ildn j47_17 rfl ?_
      refine wx_ialx (k) j47_18 (sh_rs hr) rfl (hk) (nr_lt r) ?_
      rw [(h k hk).2.1]
      refine wx_aldn j47_19 rfl ?_
      refine wx_get (v := .int _) j47_20 (sh_ro hr) (Nat.le_of_ble_eq_true rfl) rfl ?_
      refine wx_cmp 80 j47_23 (by decide) (fun c23 => ?_) (fun c23 => ?_)
      · simp only [ax_cn, Classical.not_not] at c23
        have hfull : ¬ (LL k).length < ax_rm r := fun q => absurd c23 (nI_ge q (rm_lt r))
        refine wx_rv j47_80 rfl ?_
        rw [if_neg hfull]
        exact rw_put h hk (h k hk).1 (h k hk).2.1 (h k hk).2.2 (fun _ _ => rfl) (fun _ _ _ => rfl)
      · simp only [ax_cn, Classical.not_not] at c23
        have hroom : (LL k).length < ax_rm r := Nat.not_le.mp (fun q => c23 (nI_le q (rw_len_lt h hk)))
        refine wx_aldn j47_26 rfl ?_
        refine wx_get (v := .ref _) j47_27 (sh_ro hr) (Nat.le_of_ble_eq_true rfl) rfl ?_
        refine wx_ildn j47_30 rfl ?_
        refine wx_ialx (k) j47_31 (sh_rs hr) rfl (hk) (nr_lt r) ?_
        rw [(h k hk).2.1, if_pos hroom]
        refine wx_istn (L' := [_, _, _, some (.int _)]) j47_32 (Nat.le_of_ble_eq_true rfl) rfl ?_
        exact rw_first_loop hr hk h hroom (LL k).length d (Nat.le_refl _) (fun i h1 h2 => by omega) (fun i _ h2 => (h k hk).2.2 i h2) (fun _ _ => rfl)
end RW
end
section
/-! BITS: a row of bits of the class (515 what is written, 517 the stream; their items one further). 'pb w v': v in w bits, the highest one first. -/
def pb : Nat → Nat → List Nat
  | 0, _ => []
  | w + 1, v => (v / 2 ^ w % 2) :: pb w v
theorem pb_len : ∀ w v, (pb w v).length = w
  | 0, _ => rfl
  | w + 1, v => by rw [pb, List.length_cons, pb_len w v]
theorem pb_lt : ∀ w v e, e ∈ pb w v → e < 2
  | 0, _, _, h => by cases h
  | w + 1, v, e, h => by
    rcases List.mem_cons.mp h with rfl | h
    · exact Nat.mod_lt _ (by decide)
    · exact pb_lt w v e h
def bt_is (d : ax_D) (o : Nat) (l : List Nat) : Prop := l.length ≤ 4000 ∧ d o 1 = nI l.length ∧ (∀ i, i < l.length → d (o + 1) i = nI (l.getD i 0)) ∧ ∀ e, e ∈ l → e < 2
def bt_fr (d d1 : ax_D) (o : Nat) : Prop := ∀ id, id ≠ o → id ≠ o + 1 → d1 id = d id
theorem bt_fr_rf (d : ax_D) (o : Nat) : bt_fr d d o := fun _ _ _ => rfl
theorem bt_keep {d d1 : ax_D} {o : Nat} {l : List Nat} (h : bt_is d o l) (h1 : d1 o = d o) (h2 : d1 (o + 1) = d (o + 1)) : bt_is d1 o l := by
  obtain ⟨a, b, c, e⟩ := h
  exact ⟨a, by rw [h1]; exact b, fun i hi => by rw [h2]; exact c i hi, e⟩
theorem sh_bo {o : Nat} (h : o = 515 ∨ o = 517) : ax_sh o = some (4, 2, ax_of [.inl (o + 1), .inr none]) := by rcases h with rfl | rfl <;> rfl
theorem sh_bi {o : Nat} (h : o = 515 ∨ o = 517) : ax_sh (o + 1) = some (0, 4000, ax_dt) := by rcases h with rfl | rfl <;> rfl
theorem getD_app_l {α : Type} {l m : List α} {i : Nat} {z : α} (h : i < l.length) : (l ++ m).getD i z = l.getD i z := by
  rw [List.getD_eq_getElem?_getD, List.getD_eq_getElem?_getD, List.getElem?_append_left h]
theorem getD_app_1 {α : Type} {l : List α} {x z : α} : (l ++ [x]).getD l.length z = x := by
  rw [List.getD_eq_getElem?_getD, List.getElem?_append_right (Nat.le_refl _)]
  simp
theorem sh_amt : ∀ n, n < 32 → ((nI n &&& 31).toBitVec.smod 32).toNat = n := by decide +kernel
/-- bit i of a small number -/
theorem bit_at {v i : Nat} (hv : v < 2 ^ 31) (hi : i < 32) : nI v >>> (nI i &&& 31) &&& nI 1 = nI (v / 2 ^ i % 2) := by
  rw [pk_shrN hv (nI i &&& 31) i (sh_amt i hi), pk_andN (Nat.lt_of_le_of_lt (Nat.div_le_self _ _) (by omega)) 1 (by decide)]
/-- one bit more -/
theorem bt_push {d : ax_D} {o x : Nat} {l : List Nat} (h : bt_is d o l) (hl : l.length < 4000) (hx : x < 2) : bt_is (ax_up (ax_up d (o + 1) l.length (nI x)) o 1 (nI (l.length + 1))) o (l ++ [x]) := by
  obtain ⟨h1, h2, h3, h4⟩ := h
  refine ⟨by rw [List.length_append]; exact hl, by rw [up_at, List.length_append]; rfl, fun i hi => ?_, fun e he => ?_⟩
  · rw [up_ni (by omega), up_ap]
    by_cases hi2 : i = l.length
    · subst hi2
      rw [if_pos ⟨rfl, rfl⟩, getD_app_1]
    · have hi3 : i < l.length := by rw [List.length_append] at hi; simp at hi; omega
      rw [if_neg (fun q => hi2 q.2), h3 i hi3, getD_app_l hi3]
  · rcases List.mem_append.mp he with he | he
    · exact h4 e he
    · rw [List.mem_singleton.mp he]; exact hx
section BT
variable {d : ax_D} {o : Nat} {l : List Nat} {x : Int32}
theorem sp_bfull (ho : o = 515 ∨ o = 517) (h : bt_is d o l) : ax_E 0 [.ref o] d (ax_Pi fun x d1 => x = (if l.length < 4000 then nI 0 else nI 1) ∧ d1 = d) := by
  show ax_W 0 0 [some (.ref o)] [] d _
  refine wx_aldn j0_0 rfl ?_
  refine wx_get (v := .int _) j0_1 (sh_bo ho) (Nat.le_of_ble_eq_true rfl) rfl ?_
  rw [h.2.1]
  refine wx_aldn j0_4 rfl ?_
  refine wx_get (v := .ref _) j0_5 (sh_bo ho) (Nat.le_of_ble_eq_true rfl) rfl ?_
  refine wx_alen j0_8 (sh_bi ho) (Nat.le_of_ble_eq_true rfl) ?_
  refine wx_cmp 16 j0_9 (by decide) (fun c9 => ?_) (fun c9 => ?_)
  · simp only [ax_cn, Classical.not_not] at c9
    refine wx_icst (v := nI 0) j0_16 (by decide) ?_
    refine wx_ri j0_17 rfl rfl ?_
    exact ⟨by rw [if_pos ((nI_ltI (Nat.lt_of_le_of_lt h.1 (by decide)) (by decide)).mp c9)], rfl⟩
  · simp only [ax_cn, Classical.not_not] at c9
    refine wx_icst (v := nI 1) j0_12 (by decide) ?_
    refine wx_goto 17 j0_13 (by decide) ?_
    refine wx_ri j0_17 rfl rfl ?_
    exact ⟨by rw [if_neg (fun q => c9 (nI_lt q (by decide)))], rfl⟩
theorem sp_bhas (ho : o = 515 ∨ o = 517) (h : bt_is d o l) : ax_E 1 [.ref o, .int x] d (ax_Pi fun y d1 => y = (if ¬ x < 0 ∧ x < nI l.length then nI 1 else nI 0) ∧ d1 = d) := by
  show ax_W 1 0 [some (.ref o), some (.int x)] [] d _
  refine wx_ildn j1_0 rfl ?_
  refine wx_if 25 j1_1 (by decide) (fun c1 => ?_) (fun c1 => ?_)
  · simp only [ax_cn, Classical.not_not] at c1
    refine wx_icst (v := nI 0) j1_25 (by decide) ?_
    refine wx_ri j1_26 rfl rfl ?_
    exact ⟨by rw [if_neg (fun q => q.1 c1)], rfl⟩
  · simp only [ax_cn, Classical.not_not] at c1
    refine wx_ildn j1_4 rfl ?_
    refine wx_aldn j1_5 rfl ?_
    refine wx_get (v := .int _) j1_6 (sh_bo ho) (Nat.le_of_ble_eq_true rfl) rfl ?_
    rw [h.2.1]
    refine wx_cmp 25 j1_9 (by decide) (fun c9 => ?_) (fun c9 => ?_)
    · simp only [ax_cn, Classical.not_not] at c9
      refine wx_icst (v := nI 0) j1_25 (by decide) ?_
      refine wx_ri j1_26 rfl rfl ?_
      exact ⟨by rw [if_neg (fun q => Int32.not_lt.mpr c9 q.2)], rfl⟩
    · simp only [ax_cn, Classical.not_not] at c9
      refine wx_ildn j1_12 rfl ?_
      refine wx_aldn j1_13 rfl ?_
      refine wx_get (v := .ref _) j1_14 (sh_bo ho) (Nat.le_of_ble_eq_true rfl) rfl ?_
      refine wx_alen j1_17 (sh_bi ho) (Nat.le_of_ble_eq_true rfl) ?_
      refine wx_cmp 25 j1_18 (by decide) (fun c18 => ?_) (fun c18 => ?_)
      · simp only [ax_cn, Classical.not_not] at c18
        exact absurd c18 (fun q => c9 (Int32.le_trans (nI_le h.1 (by decide)) q))
      · simp only [ax_cn, Classical.not_not] at c18
        refine wx_icst (v := nI 1) j1_21 (by decide) ?_
        refine wx_goto 26 j1_22 (by decide) ?_
        refine wx_ri j1_26 rfl rfl ?_
        exact ⟨by rw [if_pos ⟨c1, Int32.not_le.mp c9⟩], rfl⟩
theorem bt_app_loop {v : Nat} {x2 : Int32} (ho : o = 515 ∨ o = 517) (hv : v < 2 ^ 31) : ∀ w (l : List Nat) (d1 : ax_D), w < 32 → bt_is d1 o l → l.length + w ≤ 4000 → bt_fr d d1 o → ax_W 2 4 [some (.ref o), some (.int (nI v)), some (.int x2), some (.int (nI w - nI 1))] [] d1 (ax_Pv fun d2 => bt_is d2 o (l ++ pb w v) ∧ bt_fr d d2 o) := by
  intro w
  induction w with
  | zero =>
    intro l d1 hw h hl hf
    refine wx_ildn j2_4 rfl ?_
    refine wx_if 50 j2_5 (by decide) (fun c5 => ?_) (fun c5 => ?_)
    · simp only [ax_cn, Classical.not_not] at c5
      refine wx_rv j2_50 rfl ?_
      exact ⟨by rw [pb, List.append_nil]; exact h, hf⟩
    · simp only [ax_cn, Classical.not_not] at c5
      exact absurd (show nI 0 - nI 1 < 0 by decide) c5
  | succ w ih =>
    intro l d1 hw h hl hf
    rw [show nI (w + 1) - nI 1 = nI w from nI_pred w]
    refine wx_ildn j2_4 rfl ?_
    refine wx_if 50 j2_5 (by decide) (fun c5 => ?_) (fun c5 => ?_)
    · simp only [ax_cn, Classical.not_not] at c5
      exact absurd c5 (nI_pos (by omega))
    · simp only [ax_cn, Classical.not_not] at c5
      refine wx_aldn j2_8 rfl ?_
      refine wx_get (v := .int _) j2_9 (sh_bo ho) (Nat.le_of_ble_eq_true rfl) rfl ?_
      rw [h.2.1]
      refine wx_aldn j2_12 rfl ?_
      refine wx_get (v := .ref _) j2_13 (sh_bo ho) (Nat.le_of_ble_eq_true rfl) rfl ?_
      refine wx_alen j2_16 (sh_bi ho) (Nat.le_of_ble_eq_true rfl) ?_
      refine wx_cmp 50 j2_17 (by decide) (fun c17 => ?_) (fun c17 => ?_)
      · simp only [ax_cn, Classical.not_not] at c17
        exact absurd c17 (nI_ge (by omega) (by decide))
      · simp only [ax_cn, Classical.not_not] at c17
        refine wx_aldn j2_20 rfl ?_
        refine wx_get (v := .ref _) j2_21 (sh_bo ho) (Nat.le_of_ble_eq_true rfl) rfl ?_
        refine wx_aldn j2_24 rfl ?_
        refine wx_get (v := .int _) j2_25 (sh_bo ho) (Nat.le_of_ble_eq_true rfl) rfl ?_
        rw [h.2.1]
        refine wx_ildn j2_28 rfl ?_
        refine wx_ildn j2_29 rfl ?_
        refine wx_ishr j2_30 ?_
        refine wx_icst (v := nI 1) j2_31 (by decide) ?_
        refine wx_iand j2_32 ?_
        rw [bit_at hv (by omega)]
        refine wx_iasx (l.length) j2_33 (sh_bi ho) rfl (by omega) (by decide) ?_
        refine wx_aldn j2_34 rfl ?_
        refine wx_dupr j2_35 ?_
        refine wx_get (v := .int _) j2_36 (sh_bo ho) (Nat.le_of_ble_eq_true rfl) rfl ?_
        rw [up_ni (by omega), h.2.1]
        refine wx_icst (v := nI 1) j2_39 (by decide) ?_
        refine wx_iadd j2_40 ?_
        rw [nI_add]
        refine wx_put j2_41 (sh_bo ho) (Nat.le_of_ble_eq_true rfl) rfl rfl rfl ?_
        refine wx_iinc (v := nI w - nI 1) (L' := [_, _, _, some (.int _)]) j2_44 rfl (by rw [Int32.sub_eq_add_neg]; rfl) rfl ?_
        refine wx_goto 4 j2_47 (by decide) ?_
        have h2 := ih (l ++ [v / 2 ^ w % 2]) _ (by omega) (bt_push h (by omega) (Nat.mod_lt _ (by decide))) (by rw [List.length_append]; simp; omega) (fun id h1 h2 => by rw [ax_up_ne h1, ax_up_ne h2]; exact hf id h1 h2)
        rw [List.append_assoc] at h2
        exact h2
theorem sp_append {v w : Nat} (ho : o = 515 ∨ o = 517) (h : bt_is d o l) (hv : v < 2 ^ 31) (hw : w < 32) (hl : l.length + w ≤ 4000) : ax_E 2 [.ref o, .int (nI v), .int (nI w)] d (ax_Pv fun d1 => bt_is d1 o (l ++ pb w v) ∧ bt_fr d d1 o) := by
  show ax_W 2 0 [some (.ref o), some (.int (nI v)), some (.int (nI w)), none] [] d _
  refine wx_ildn j2_0 rfl ?_
  refine wx_icst (v := nI 1) j2_1 (by decide) ?_
  refine wx_isub j2_2 ?_
  refine wx_istn (L' := [_, _, _, some (.int _)]) j2_3 (Nat.le_of_ble_eq_true rfl) rfl ?_
  exact bt_app_loop ho hv w l d hw h hl (bt_fr_rf d o)
theorem take_s {α : Type} {l : List α} {i : Nat} {z : α} (h : i < l.length) : l.take (i + 1) = l.take i ++ [l.getD i z] := by
  rw [List.take_succ, List.getD_eq_getElem?_getD, List.getElem?_eq_getElem h]
  rfl
theorem bt_bec_loop : ∀ n i (d1 : ax_D), l.length - i < n → i ≤ l.length → bt_is d 515 l → bt_is d1 517 (l.take i) → bt_fr d d1 517 → ax_W 3 7 [some (.ref 517), some (.ref 515), some (.int (nI i))] [] d1 (ax_Pv fun d2 => bt_is d2 517 l ∧ bt_fr d d2 517) := by
  intro n
  induction n with
  | zero => intro i d1 h0; omega
  | succ n ih =>
    intro i d1 h0 hi h h1 hf
    have hl := h.1
    have e1 : d1 515 1 = nI l.length := by rw [hf 515 (by decide) (by decide)]; exact h.2.1
    refine wx_ildn j3_7 rfl ?_
    refine wx_aldn j3_8 rfl ?_
    refine wx_get (v := .int _) j3_9 rfl (Nat.le_of_ble_eq_true rfl) rfl ?_
    rw [e1]
    refine wx_cmp 52 j3_12 (by decide) (fun c12 => ?_) (fun c12 => ?_)
    · simp only [ax_cn, Classical.not_not] at c12
      have hil : i = l.length := Nat.le_antisymm hi ((nI_leI (by omega) (by omega)).mp c12)
      have h2 : bt_is d1 517 l := by rw [hil, List.take_length] at h1; exact h1
      refine wx_rv j3_52 rfl ?_
      exact ⟨h2, hf⟩
    · simp only [ax_cn, Classical.not_not] at c12
      have hil : i < l.length := Nat.not_le.mp (fun q => c12 ((nI_leI (by omega) (by omega)).mpr q))
      have hti : (l.take i).length = i := by rw [List.length_take]; omega
      refine wx_ildn j3_15 rfl ?_
      refine wx_aldn j3_16 rfl ?_
      refine wx_get (v := .ref _) j3_17 rfl (Nat.le_of_ble_eq_true rfl) rfl ?_
      refine wx_alen j3_20 rfl (Nat.le_of_ble_eq_true rfl) ?_
      refine wx_cmp 52 j3_21 (by decide) (fun c21 => ?_) (fun c21 => ?_)
      · simp only [ax_cn, Classical.not_not] at c21
        exact absurd c21 (nI_ge (by omega) (by decide))
      · simp only [ax_cn, Classical.not_not] at c21
        refine wx_aldn j3_24 rfl ?_
        refine wx_get (v := .ref _) j3_25 rfl (Nat.le_of_ble_eq_true rfl) rfl ?_
        refine wx_ildn j3_28 rfl ?_
        refine wx_aldn j3_29 rfl ?_
        refine wx_get (v := .ref _) j3_30 rfl (Nat.le_of_ble_eq_true rfl) rfl ?_
        refine wx_ildn j3_33 rfl ?_
        refine wx_ialx (i) j3_34 rfl rfl (by omega) (by decide) ?_
        refine wx_iasx (i) j3_35 rfl rfl (by omega) (by decide) ?_
        refine wx_aldn j3_36 rfl ?_
        refine wx_dupr j3_37 ?_
        refine wx_get (v := .int _) j3_38 rfl (Nat.le_of_ble_eq_true rfl) rfl ?_
        rw [up_ni (by decide), h1.2.1, hti]
        refine wx_icst (v := nI 1) j3_41 (by decide) ?_
        refine wx_iadd j3_42 ?_
        rw [nI_add]
        refine wx_put j3_43 rfl (Nat.le_of_ble_eq_true rfl) rfl rfl rfl ?_
        refine wx_iinc (v := nI (i + 1)) (L' := [_, _, some (.int _)]) j3_46 rfl (nI_1 i) rfl ?_
        refine wx_goto 7 j3_49 (by decide) ?_
        refine ih (i + 1) _ (by omega) hil h ?_ (fun id h2 h3 => by rw [ax_up_ne h2, ax_up_ne h3]; exact hf id h2 h3)
        have h3 := bt_push h1 (by omega) (h.2.2.2 (l.getD i 0) (by rw [List.getD_eq_getElem?_getD, List.getElem?_eq_getElem hil]; exact List.getElem_mem hil))
        rw [hti, ← take_s hil, ← h.2.2.1 i hil, ← hf 516 (by decide) (by decide)] at h3
        exact h3
theorem sp_become (h : bt_is d 515 l) : ax_E 3 [.ref 517, .ref 515] d (ax_Pv fun d1 => bt_is d1 517 l ∧ bt_fr d d1 517) := by
  show ax_W 3 0 [some (.ref 517), some (.ref 515), none] [] d _
  refine wx_aldn j3_0 rfl ?_
  refine wx_icst (v := nI 0) j3_1 (by decide) ?_
  refine wx_put j3_2 rfl (Nat.le_of_ble_eq_true rfl) rfl rfl rfl ?_
  refine wx_icst (v := nI 0) j3_5 (by decide) ?_
  refine wx_istn (L' := [_, _, some (.int _)]) j3_6 (Nat.le_of_ble_eq_true rfl) rfl ?_
  refine bt_bec_loop (l.length + 1) 0 _ (by omega) (Nat.zero_le _) h ⟨Nat.zero_le _, up_at _ _ _ _, fun i hi => absurd hi (by simp), fun e he => by simp at he⟩ (fun id h1 h2 => ax_up_ne h1)
end BT
end
section
/-! THE DOCUMENT'S WORDS, as numbers and lists: what the class and the reference both are held against. -/
/-- the tables of a document: kind j (0 spaces, 1 local parts by a space's place, 2 values by name, 3 all values, 4 and 5 the names' spaces and local parts, 6 and 7 the codes that a name learned: tag, content), row -/
abbrev TT : Type := Nat → Nat → List Nat
def tst (T : TT) (j k : Nat) (l : List Nat) : TT := fun j' k' => if j' = j ∧ k' = k then l else T j' k'
def t00 : TT := fun j k => if j = 0 ∧ k = 0 then [0] else []
theorem tst_at (T : TT) (j k : Nat) (l : List Nat) : tst T j k l j k = l := by simp [tst]
theorem tst_ne {T : TT} {j k j' k' : Nat} {l : List Nat} (h : j' ≠ j ∨ k' ≠ k) : tst T j k l j' k' = T j' k' := by
  unfold tst
  rw [if_neg (fun q => h.elim (fun h => h q.1) (fun h => h q.2))]
def fi (l : List Nat) (x : Nat) : Option Nat := l.findIdx? (· == x)
def oi (o : Option Nat) : Int32 := match o with
  | some i => nI i
  | none => -1
def bB (b : Bool) : Int32 := match b with
  | true => nI 1
  | false => nI 0
theorem bB_0 {b : Bool} : bB b = 0 ↔ b = false := by cases b <;> decide
theorem bB_1 {b : Bool} : ¬ bB b = 0 ↔ b = true := by cases b <;> decide
theorem bB_nar (b : Bool) : narrow .boolean (.int (bB b)) = .int (bB b) := by cases b <;> rfl
theorem bB_fit (b : Bool) : fits .boolean (.int (bB b)) = true := by cases b <;> rfl
theorem oi_neg {o : Option Nat} (h : ∀ i, o = some i → i < 2 ^ 31) : oi o = -1 ↔ o = none := by
  cases o with
  | none => exact ⟨fun _ => rfl, fun _ => rfl⟩
  | some i =>
    refine ⟨fun q => ?_, fun q => by cases q⟩
    exfalso
    have h1 : ¬ nI i < 0 := nI_pos (h i rfl)
    have h2 : nI i = -1 := q
    rw [h2] at h1
    exact h1 (by decide)
theorem fi_lt {l : List Nat} {x i : Nat} (h : fi l x = some i) : i < l.length := (List.findIdx?_eq_some_iff_getElem.mp h).1
theorem fi_at {l : List Nat} {x i : Nat} (h : fi l x = some i) : l.getD i 0 = x := by
  obtain ⟨h1, h2, -⟩ := List.findIdx?_eq_some_iff_getElem.mp h
  rw [List.getD_eq_getElem?_getD, List.getElem?_eq_getElem h1]
  exact eq_of_beq h2
theorem fi_none {l : List Nat} {x : Nat} : fi l x = none ↔ x ∉ l := by
  unfold fi
  rw [List.findIdx?_eq_none_iff]
  refine ⟨fun h hx => ?_, fun h y hy => ?_⟩
  · have := h x hx
    simp at this
  · simp only [beq_eq_false_iff_ne, ne_eq]
    rintro rfl
    exact h hy
theorem fi_some {l : List Nat} {x : Nat} (h : x ∈ l) : ∃ i, fi l x = some i := by
  cases hf : fi l x with
  | none => exact absurd h (fi_none.mp hf)
  | some i => exact ⟨i, rfl⟩
/-- 27 to the power of five: texts are below -/
def tB : Nat := 14348907
theorem tB_lt {x : Nat} (h : x < tB) : x < 2 ^ 31 := Nat.lt_trans h (by decide)
def TB (T : TT) : Prop := ∀ j k e, e ∈ T j k → e < tB
theorem TB_00 : TB t00 := by
  intro j k e h
  unfold t00 at h
  split at h
  · rw [List.mem_singleton.mp h]; decide
  · cases h
theorem TB_st {T : TT} {j k : Nat} {l : List Nat} (h : TB T) (hl : ∀ e, e ∈ l → e < tB) : TB (tst T j k l) := by
  intro j' k' e he
  unfold tst at he
  split at he
  · exact hl e he
  · exact h j' k' e he
theorem fIdx_congr {α : Type} {l : List α} {p q : α → Bool} (h : ∀ y, y ∈ l → p y = q y) : l.findIdx? p = l.findIdx? q := by
  induction l with
  | nil => rfl
  | cons a t ih => rw [List.findIdx?_cons, List.findIdx?_cons, h a List.mem_cons_self, ih (fun y hy => h y (List.mem_cons_of_mem _ hy))]
theorem fi_map {l : List Nat} {x : Nat} (hl : ∀ e, e ∈ l → e < tB) (hx : x < tB) : rw_fi (l.map nI) (nI x) = oi (fi l x) := by
  unfold rw_fi fi oi
  have h : (l.map nI).findIdx? (· == nI x) = l.findIdx? (· == x) := by
    rw [List.findIdx?_map]
    apply fIdx_congr
    intro y hy
    show (nI y == nI x) = (y == x)
    by_cases h2 : y = x
    · subst h2; simp
    · have h3 : ¬ nI y = nI x := fun q => h2 ((nI_eq (tB_lt (hl y hy)) (tB_lt hx)).mp q)
      exact (beq_false_of_ne h3).trans (beq_false_of_ne h2).symm
  rw [h]
  cases l.findIdx? (· == x) <;> rfl
theorem gt_map {l : List Nat} {p : Nat} (hp : p < l.length) (h31 : p < 2 ^ 31) : rw_gt (l.map nI) (nI p) = nI (l.getD p 0) := by
  unfold rw_gt
  rw [if_neg (nI_pos h31), nI_clamp h31, List.getD_eq_getElem?_getD, List.getElem?_map, List.getD_eq_getElem?_getD, List.getElem?_eq_getElem hp]
  rfl
/-- side s of the class holds the tables T -/
def tb_is (d : ax_D) (s : Nat) (T : TT) : Prop := ∀ j, j < 8 → rw_is d (8 * s + j) (fun k => (T j k).map nI)
def tb_fr (d d1 : ax_D) (s : Nat) : Prop := ∀ id, (id < 256 * s ∨ 256 * s + 256 ≤ id) → d1 id = d id
theorem tb_fr_rf (d : ax_D) (s : Nat) : tb_fr d d s := fun _ _ => rfl
theorem tb_fr_tr {d d1 d2 : ax_D} {s : Nat} (h : tb_fr d d1 s) (h2 : tb_fr d1 d2 s) : tb_fr d d2 s := fun id hi => (h2 id hi).trans (h id hi)
theorem rw_tb {d d1 : ax_D} {s j : Nat} (h : rw_fr d d1 (8 * s + j)) (hj : j < 8) : tb_fr d d1 s := fun id hi => h id (by omega)
theorem tb_keep {d d1 : ax_D} {s s' : Nat} {T : TT} (h : tb_is d s T) (hf : tb_fr d d1 s') (hs : s ≠ s') : tb_is d1 s T := by
  intro j hj k hk
  have h20 := nr_le (8 * s + j)
  obtain ⟨h1, h2, h3⟩ := h j hj k hk
  refine ⟨h1, ?_, fun i hi => ?_⟩
  · rw [hf (32 * (8 * s + j) + 2) (by omega)]; exact h2
  · rw [hf (32 * (8 * s + j) + 3 + k) (by omega)]; exact h3 i hi
theorem tb_same {d d1 : ax_D} {s : Nat} {T : TT} (h : tb_is d s T) (hf : ∀ id, id < 512 → d1 id = d id) (hs : s < 2) : tb_is d1 s T := by
  intro j hj k hk
  have h20 := nr_le (8 * s + j)
  obtain ⟨h1, h2, h3⟩ := h j hj k hk
  refine ⟨h1, ?_, fun i hi => ?_⟩
  · rw [hf (32 * (8 * s + j) + 2) (by omega)]; exact h2
  · rw [hf (32 * (8 * s + j) + 3 + k) (by omega)]; exact h3 i hi
theorem rw_congr {d : ax_D} {r : Nat} {LL LL' : Nat → List Int32} (h : rw_is d r LL) (he : ∀ k, k < ax_nr r → LL' k = LL k) : rw_is d r LL' := by
  intro k hk
  rw [he k hk]
  exact h k hk
theorem tb_set {d d1 : ax_D} {s j k : Nat} {T : TT} {l : List Nat} (h : tb_is d s T) (hj : j < 8) (h1 : rw_is d1 (8 * s + j) (rw_up (fun k => (T j k).map nI) k (l.map nI))) (hf : rw_fr d d1 (8 * s + j)) : tb_is d1 s (tst T j k l) := by
  intro j' hj'
  by_cases hjj : j' = j
  · subst hjj
    refine rw_congr h1 (fun k' _ => ?_)
    unfold rw_up tst
    by_cases hk : k' = k
    · subst hk; simp
    · simp [hk]
  · refine rw_congr (rw_keep (h j' hj') hf (by omega)) (fun k' _ => ?_)
    rw [tst_ne (Or.inl hjj)]
theorem nr_8 (s j : Nat) : ax_nr (8 * s + j) = ax_nr j := by unfold ax_nr; rw [show (8 * s + j) % 8 = j % 8 by omega]
theorem rm_8 (s j : Nat) : ax_rm (8 * s + j) = ax_rm j := by unfold ax_rm; rw [show (8 * s + j) % 8 = j % 8 by omega]
section TP
variable {d : ax_D} {s j k x : Nat} {T : TT}
theorem tp_cnt (hs : s < 2) (hj : j < 8) (hk : k < ax_nr j) (h : tb_is d s T) : ax_E 42 [.ref (32 * (8 * s + j)), .int (nI k)] d (ax_Pi fun x d1 => x = nI (T j k).length ∧ d1 = d) :=
  ax_E_i (sp_cnt (by omega) (by rw [nr_8]; exact hk) (h j hj)) (fun x d1 ⟨h1, h2⟩ => ⟨by rw [h1, List.length_map], h2⟩)
theorem tp_full (hs : s < 2) (hj : j < 8) (hk : k < ax_nr j) (h : tb_is d s T) : ax_E 43 [.ref (32 * (8 * s + j)), .int (nI k)] d (ax_Pi fun x d1 => x = bB (decide (ax_rm j ≤ (T j k).length)) ∧ d1 = d) :=
  ax_E_i (sp_isFull (by omega) (by rw [nr_8]; exact hk) (h j hj)) (fun x d1 ⟨h1, h2⟩ => ⟨by
    rw [h1, List.length_map, rm_8]
    by_cases hq : (T j k).length < ax_rm j
    · rw [if_pos hq, decide_eq_false (by omega)]; rfl
    · rw [if_neg hq, decide_eq_true (by omega)]; rfl, h2⟩)
theorem tp_find (hs : s < 2) (hj : j < 8) (hk : k < ax_nr j) (h : tb_is d s T) (hb : TB T) (hx : x < tB) : ax_E 45 [.ref (32 * (8 * s + j)), .int (nI k), .int (nI x)] d (ax_Pi fun y d1 => y = oi (fi (T j k) x) ∧ d1 = d) :=
  ax_E_i (sp_find (by omega) (by rw [nr_8]; exact hk) (h j hj)) (fun y d1 ⟨h1, h2⟩ => ⟨by rw [h1]; exact fi_map (hb j k) hx, h2⟩)
theorem tp_get (hs : s < 2) (hj : j < 8) (hk : k < ax_nr j) (h : tb_is d s T) (hx : x < (T j k).length) : ax_E 44 [.ref (32 * (8 * s + j)), .int (nI k), .int (nI x)] d (ax_Pi fun y d1 => y = nI ((T j k).getD x 0) ∧ d1 = d) := by
  have hl := (h j hj k (by rw [nr_8]; exact hk)).1
  have hr := rm_le (8 * s + j)
  rw [List.length_map] at hl
  exact ax_E_i (sp_get (by omega) (by rw [nr_8]; exact hk) (h j hj)) (fun y d1 ⟨h1, h2⟩ => ⟨by rw [h1]; exact gt_map hx (by omega), h2⟩)
/-- a place that is none -/
theorem tp_getN (hs : s < 2) (hj : j < 8) (hk : k < ax_nr j) (h : tb_is d s T) : ax_E 44 [.ref (32 * (8 * s + j)), .int (nI k), .int (-1)] d (ax_Pi fun y d1 => y = -1 ∧ d1 = d) :=
  ax_E_i (sp_get (by omega) (by rw [nr_8]; exact hk) (h j hj)) (fun y d1 ⟨h1, h2⟩ => ⟨by rw [h1]; rfl, h2⟩)
theorem tp_last (hs : s < 2) (hj : j < 8) (hk : k < ax_nr j) (h : tb_is d s T) : ax_E 46 [.ref (32 * (8 * s + j)), .int (nI k), .int (nI x)] d (ax_Pv fun d1 => tb_is d1 s (tst T j k (if (T j k).length < ax_rm j then T j k ++ [x] else T j k)) ∧ rw_fr d d1 (8 * s + j)) :=
  ax_E_v (sp_addLast (by omega) (by rw [nr_8]; exact hk) (h j hj)) (fun d1 ⟨h1, h2⟩ => ⟨by
    refine tb_set h hj ?_ h2
    rw [List.length_map, rm_8] at h1
    by_cases hq : (T j k).length < ax_rm j
    · rw [if_pos hq] at h1 ⊢
      rw [List.map_append]
      exact h1
    · rw [if_neg hq] at h1 ⊢
      exact h1, h2⟩)
theorem tp_first (hs : s < 2) (hj : j < 8) (hk : k < ax_nr j) (h : tb_is d s T) : ax_E 47 [.ref (32 * (8 * s + j)), .int (nI k), .int (nI x)] d (ax_Pv fun d1 => tb_is d1 s (tst T j k (if (T j k).length < ax_rm j then x :: T j k else T j k)) ∧ rw_fr d d1 (8 * s + j)) :=
  ax_E_v (sp_addFirst (by omega) (by rw [nr_8]; exact hk) (h j hj)) (fun d1 ⟨h1, h2⟩ => ⟨by
    refine tb_set h hj ?_ h2
    rw [List.length_map, rm_8] at h1
    by_cases hq : (T j k).length < ax_rm j
    · rw [if_pos hq] at h1 ⊢
      rw [List.map_cons]
      exact h1
    · rw [if_neg hq] at h1 ⊢
      exact h1, h2⟩)
theorem tb_len (h : tb_is d s T) (hj : j < 8) (hk : k < ax_nr j) : (T j k).length ≤ ax_rm j := by
  have := (h j hj k (by rw [nr_8]; exact hk)).1
  rw [List.length_map, rm_8] at this
  exact this
theorem tb_l20 (h : tb_is d s T) (hj : j < 8) (hk : k < ax_nr j) : (T j k).length ≤ 20 := Nat.le_trans (tb_len h hj hk) (rm_le j)
end TP
end
section
/-! TABLES: the class's names and values of side s. -/
theorem sh_tb {s : Nat} (h : s < 2) : ax_sh (519 + s) = some (9, 6, ax_of [.inl (32 * (8 * s + 0)), .inl (32 * (8 * s + 1)), .inl (32 * (8 * s + 2)), .inl (32 * (8 * s + 3)), .inl (32 * (8 * s + 4)), .inl (32 * (8 * s + 5))]) := by
  match s, h with
  | 0, _ => rfl
  | 1, _ => rfl
/-- the name of a space and a local part -/
def fn (T : TT) (sp lo : Nat) : Option Nat := (List.range (T 4 0).length).find? (fun i => (T 4 0).getD i 0 == sp && (T 5 0).getD i 0 == lo)
theorem fn_some {T : TT} {sp lo i : Nat} (hi : i < (T 4 0).length) (h1 : (T 4 0).getD i 0 = sp) (h2 : (T 5 0).getD i 0 = lo) (hno : ∀ j, j < i → ¬ ((T 4 0).getD j 0 = sp ∧ (T 5 0).getD j 0 = lo)) : fn T sp lo = some i := by
  unfold fn
  rw [List.find?_range_eq_some]
  refine ⟨by rw [h1, h2]; simp, List.mem_range.mpr hi, fun j hj => ?_⟩
  have h3 := hno j hj
  simp only [Bool.not_eq_true', Bool.and_eq_false_iff, beq_eq_false_iff_ne]
  by_cases h4 : (T 4 0).getD j 0 = sp
  · exact Or.inr (fun q => h3 ⟨h4, q⟩)
  · exact Or.inl h4
theorem fn_none {T : TT} {sp lo : Nat} (hno : ∀ j, j < (T 4 0).length → ¬ ((T 4 0).getD j 0 = sp ∧ (T 5 0).getD j 0 = lo)) : fn T sp lo = none := by
  unfold fn
  rw [List.find?_eq_none]
  intro j hj
  have h3 := hno j (List.mem_range.mp hj)
  simp only [Bool.and_eq_true, beq_iff_eq]
  exact h3
theorem fn_spec {T : TT} {sp lo i : Nat} (h : fn T sp lo = some i) : i < (T 4 0).length ∧ (T 4 0).getD i 0 = sp ∧ (T 5 0).getD i 0 = lo := by
  unfold fn at h
  have h1 := List.find?_some h
  have h2 := List.mem_range.mp (List.mem_of_find?_eq_some h)
  simp only [Bool.and_eq_true, beq_iff_eq] at h1
  exact ⟨h2, h1.1, h1.2⟩
theorem fn_no {T : TT} {sp lo : Nat} (h : fn T sp lo = none) : ∀ j, j < (T 4 0).length → ¬ ((T 4 0).getD j 0 = sp ∧ (T 5 0).getD j 0 = lo) := by
  unfold fn at h
  intro j hj q
  have h1 := List.find?_eq_none.mp h j (List.mem_range.mpr hj)
  rw [q.1, q.2] at h1
  simp at h1
theorem getD_mem {l : List Nat} {i : Nat} (h : i < l.length) : l.getD i 0 ∈ l := by
  rw [List.getD_eq_getElem?_getD, List.getElem?_eq_getElem h]
  exact List.getElem_mem h
/-- the tables with one name more -/
def tnm (T : TT) (sp lo : Nat) : TT := tst (tst T 4 0 (T 4 0 ++ [sp])) 5 0 (T 5 0 ++ [lo])
/-- a value comes into both tables (into one that is full it does not; the empty one into none) -/
def tav (T : TT) (n v : Nat) : TT := if v = 0 then T else tst (tst T 2 n (if (T 2 n).length < 5 then T 2 n ++ [v] else T 2 n)) 3 0 (if (T 3 0).length < 20 then T 3 0 ++ [v] else T 3 0)
section TA
variable {d : ax_D} {s k x : Nat} {T : TT}
theorem sp_spaceOf (hs : s < 2) (h : tb_is d s T) (hx : x < (T 4 0).length) : ax_E 49 [.ref (519 + s), .int (nI x)] d (ax_Pi fun y d1 => y = nI ((T 4 0).getD x 0) ∧ d1 = d) := by
  show ax_W 49 0 [some (.ref (519 + s)), some (.int (nI x))] [] d _
  refine wx_aldn j49_0 rfl ?_
  refine wx_get (v := .ref _) j49_1 (sh_tb hs) (Nat.le_of_ble_eq_true rfl) rfl ?_
  refine wx_icst (v := nI 0) j49_4 (by decide) ?_
  refine wx_ildn j49_5 rfl ?_
  refine wx_i2 j49_6 rfl rfl rfl (Nat.le_of_ble_eq_true rfl) (sh_ro (by omega)) (tp_get hs (j := 4) (by decide) (by decide) h hx) ?_
  rintro _ d9 ⟨rfl, h9⟩
  obtain rfl := h9.symm
  refine wx_ri j49_9 rfl rfl ?_
  exact ⟨rfl, rfl⟩
theorem sp_localOf (hs : s < 2) (h : tb_is d s T) (hx : x < (T 5 0).length) : ax_E 50 [.ref (519 + s), .int (nI x)] d (ax_Pi fun y d1 => y = nI ((T 5 0).getD x 0) ∧ d1 = d) := by
  show ax_W 50 0 [some (.ref (519 + s)), some (.int (nI x))] [] d _
  refine wx_aldn j50_0 rfl ?_
  refine wx_get (v := .ref _) j50_1 (sh_tb hs) (Nat.le_of_ble_eq_true rfl) rfl ?_
  refine wx_icst (v := nI 0) j50_4 (by decide) ?_
  refine wx_ildn j50_5 rfl ?_
  refine wx_i2 j50_6 rfl rfl rfl (Nat.le_of_ble_eq_true rfl) (sh_ro (by omega)) (tp_get hs (j := 5) (by decide) (by decide) h hx) ?_
  rintro _ d9 ⟨rfl, h9⟩
  obtain rfl := h9.symm
  refine wx_ri j50_9 rfl rfl ?_
  exact ⟨rfl, rfl⟩
theorem ta_find_loop {sp lo : Nat} (hs : s < 2) (h : tb_is d s T) (hb : TB T) (h45 : (T 4 0).length = (T 5 0).length) (hsp : sp < tB) (hlo : lo < tB) : ∀ n i, (T 4 0).length - i < n → i ≤ (T 4 0).length → (∀ j, j < i → ¬ ((T 4 0).getD j 0 = sp ∧ (T 5 0).getD j 0 = lo)) → ax_W 51 12 [some (.ref (519 + s)), some (.int (nI sp)), some (.int (nI lo)), some (.int (nI (T 4 0).length)), some (.int (nI i))] [] d (ax_Pi fun y d1 => y = oi (fn T sp lo) ∧ d1 = d) := by
  have hl := tb_l20 h (j := 4) (k := 0) (by decide) (by decide)
  intro n
  induction n with
  | zero => intro i h0; omega
  | succ n ih =>
    intro i h0 hi hno
    refine wx_ild j51_12 rfl ?_
    refine wx_ildn j51_14 rfl ?_
    refine wx_cmp 55 j51_15 (by decide) (fun c15 => ?_) (fun c15 => ?_)
    · simp only [ax_cn, Classical.not_not] at c15
      have hil : i = (T 4 0).length := Nat.le_antisymm hi ((nI_leI (by omega) (by omega)).mp c15)
      refine wx_icst (v := (-1)) j51_55 (by decide) ?_
      refine wx_ri j51_56 rfl rfl ?_
      exact ⟨by rw [fn_none (by rw [← hil]; exact hno)]; rfl, rfl⟩
    · simp only [ax_cn, Classical.not_not] at c15
      have hil : i < (T 4 0).length := Nat.not_le.mp (fun q => c15 ((nI_leI (by omega) (by omega)).mpr q))
      have t4 := tB_lt (hb 4 0 _ (getD_mem hil))
      have t5 := tB_lt (hb 5 0 _ (getD_mem (show i < (T 5 0).length by omega)))
      refine wx_aldn j51_18 rfl ?_
      refine wx_get (v := .ref _) j51_19 (sh_tb hs) (Nat.le_of_ble_eq_true rfl) rfl ?_
      refine wx_icst (v := nI 0) j51_22 (by decide) ?_
      refine wx_ild j51_23 rfl ?_
      refine wx_i2 j51_25 rfl rfl rfl (Nat.le_of_ble_eq_true rfl) (sh_ro (by omega)) (tp_get hs (j := 4) (by decide) (by decide) h hil) ?_
      rintro _ d9 ⟨rfl, h9⟩
      obtain rfl := h9.symm
      refine wx_ildn j51_28 rfl ?_
      refine wx_cmp 49 j51_29 (by decide) (fun c29 => ?_) (fun c29 => ?_)
      · simp only [ax_cn, Classical.not_not] at c29
        have hnx : ¬ ((T 4 0).getD i 0 = sp ∧ (T 5 0).getD i 0 = lo) := fun q => c29 (by rw [q.1])
        refine wx_iinc (v := nI (i + 1)) (L' := [_, _, _, _, some (.int _)]) j51_49 rfl (nI_1 i) rfl ?_
        refine wx_goto 12 j51_52 (by decide) ?_
        exact ih (i + 1) (by omega) (by omega) (lt_s hno hnx)
      · simp only [ax_cn, Classical.not_not] at c29
        have h4 := (nI_eq t4 (tB_lt hsp)).mp c29
        refine wx_aldn j51_32 rfl ?_
        refine wx_get (v := .ref _) j51_33 (sh_tb hs) (Nat.le_of_ble_eq_true rfl) rfl ?_
        refine wx_icst (v := nI 0) j51_36 (by decide) ?_
        refine wx_ild j51_37 rfl ?_
        refine wx_i2 j51_39 rfl rfl rfl (Nat.le_of_ble_eq_true rfl) (sh_ro (by omega)) (tp_get hs (j := 5) (by decide) (by decide) h (show i < (T 5 0).length by omega)) ?_
        rintro _ d9 ⟨rfl, h9⟩
        obtain rfl := h9.symm
        refine wx_ildn j51_42 rfl ?_
        refine wx_cmp 49 j51_43 (by decide) (fun c43 => ?_) (fun c43 => ?_)
        · simp only [ax_cn, Classical.not_not] at c43
          have hnx : ¬ ((T 4 0).getD i 0 = sp ∧ (T 5 0).getD i 0 = lo) := fun q => c43 (by rw [q.2])
          refine wx_iinc (v := nI (i + 1)) (L' := [_, _, _, _, some (.int _)]) j51_49 rfl (nI_1 i) rfl ?_
          refine wx_goto 12 j51_52 (by decide) ?_
          exact ih (i + 1) (by omega) (by omega) (lt_s hno hnx)
        · simp only [ax_cn, Classical.not_not] at c43
          have h5 := (nI_eq t5 (tB_lt hlo)).mp c43
          refine wx_ild j51_46 rfl ?_
          refine wx_ri j51_48 rfl rfl ?_
          exact ⟨by rw [fn_some hil h4 h5 hno]; rfl, rfl⟩
theorem sp_findName {sp lo : Nat} (hs : s < 2) (h : tb_is d s T) (hb : TB T) (h45 : (T 4 0).length = (T 5 0).length) (hsp : sp < tB) (hlo : lo < tB) : ax_E 51 [.ref (519 + s), .int (nI sp), .int (nI lo)] d (ax_Pi fun y d1 => y = oi (fn T sp lo) ∧ d1 = d) := by
  show ax_W 51 0 [some (.ref (519 + s)), some (.int (nI sp)), some (.int (nI lo)), none, none] [] d _
  refine wx_aldn j51_0 rfl ?_
  refine wx_get (v := .ref _) j51_1 (sh_tb hs) (Nat.le_of_ble_eq_true rfl) rfl ?_
  refine wx_icst (v := nI 0) j51_4 (by decide) ?_
  refine wx_i1 j51_5 rfl rfl (Nat.le_of_ble_eq_true rfl) (sh_ro (by omega)) (tp_cnt hs (j := 4) (by decide) (by decide) h) ?_
  rintro _ d9 ⟨rfl, h9⟩
  obtain rfl := h9.symm
  refine wx_istn (L' := [_, _, _, some (.int _), _]) j51_8 (Nat.le_of_ble_eq_true rfl) rfl ?_
  refine wx_icst (v := nI 0) j51_9 (by decide) ?_
  refine wx_ist (L' := [_, _, _, _, some (.int _)]) j51_10 (Nat.le_of_ble_eq_true rfl) rfl ?_
  exact ta_find_loop hs h hb h45 hsp hlo ((T 4 0).length + 1) 0 (by omega) (Nat.zero_le _) (fun j hj => absurd hj (Nat.not_lt_zero j))
theorem sp_addSpace {sp : Nat} (hs : s < 2) (h : tb_is d s T) : ax_E 52 [.ref (519 + s), .int (nI sp)] d (ax_Pi fun y d1 => ((T 0 0).length < 6 → y = nI (T 0 0).length ∧ tb_is d1 s (tst T 0 0 (T 0 0 ++ [sp]))) ∧ (¬ (T 0 0).length < 6 → y = -1 ∧ d1 = d) ∧ tb_fr d d1 s) := by
  show ax_W 52 0 [some (.ref (519 + s)), some (.int (nI sp))] [] d _
  refine wx_aldn j52_0 rfl ?_
  refine wx_get (v := .ref _) j52_1 (sh_tb hs) (Nat.le_of_ble_eq_true rfl) rfl ?_
  refine wx_icst (v := nI 0) j52_4 (by decide) ?_
  refine wx_i1 j52_5 rfl rfl (Nat.le_of_ble_eq_true rfl) (sh_ro (by omega)) (tp_full hs (j := 0) (by decide) (by decide) h) ?_
  rintro _ d9 ⟨rfl, h9⟩
  obtain rfl := h9.symm
  refine wx_if 13 j52_8 (by decide) (fun c8 => ?_) (fun c8 => ?_)
  · simp only [ax_cn, Classical.not_not] at c8
    have hroom : (T 0 0).length < 6 := by have := of_decide_eq_false (bB_0.mp c8); exact Nat.not_le.mp this
    refine wx_aldn j52_13 rfl ?_
    refine wx_get (v := .ref _) j52_14 (sh_tb hs) (Nat.le_of_ble_eq_true rfl) rfl ?_
    refine wx_icst (v := nI 0) j52_17 (by decide) ?_
    refine wx_ildn j52_18 rfl ?_
    refine wx_v2 j52_19 rfl rfl rfl (Nat.le_of_ble_eq_true rfl) (sh_ro (by omega)) (tp_last hs (j := 0) (by decide) (by decide) h) ?_
    rintro d1 ⟨h1, hf⟩
    rw [if_pos (show (T 0 0).length < ax_rm 0 from hroom)] at h1
    refine wx_aldn j52_22 rfl ?_
    refine wx_get (v := .ref _) j52_23 (sh_tb hs) (Nat.le_of_ble_eq_true rfl) rfl ?_
    refine wx_icst (v := nI 0) j52_26 (by decide) ?_
    refine wx_i1 j52_27 rfl rfl (Nat.le_of_ble_eq_true rfl) (sh_ro (by omega)) (tp_cnt hs (j := 0) (by decide) (by decide) h1) ?_
    rintro _ d9 ⟨rfl, h9⟩
    obtain rfl := h9.symm
    rw [tst_at, List.length_append]
    refine wx_icst (v := nI 1) j52_30 (by decide) ?_
    refine wx_isub j52_31 ?_
    rw [show nI ((T 0 0).length + [sp].length) - nI 1 = nI (T 0 0).length from nI_pred _]
    refine wx_ri j52_32 rfl rfl ?_
    exact ⟨fun _ => ⟨rfl, h1⟩, fun q => absurd hroom q, rw_tb hf (by decide)⟩
  · simp only [ax_cn, Classical.not_not] at c8
    have hfull : ¬ (T 0 0).length < 6 := by have := of_decide_eq_true (bB_1.mp c8); exact Nat.not_lt.mpr this
    refine wx_icst (v := (-1)) j52_11 (by decide) ?_
    refine wx_ri j52_12 rfl rfl ?_
    exact ⟨fun q => absurd q hfull, fun _ => ⟨rfl, rfl⟩, tb_fr_rf d s⟩
theorem fn_31 {sp lo : Nat} (h : tb_is d s T) : ∀ i, fn T sp lo = some i → i < 2 ^ 31 := fun i hi => by
  have h1 := (fn_spec hi).1
  have h2 := tb_l20 h (j := 4) (k := 0) (by decide) (by decide)
  omega
theorem sp_foan {sp lo : Nat} (hs : s < 2) (h : tb_is d s T) (hb : TB T) (h45 : (T 4 0).length = (T 5 0).length) (hsp : sp < tB) (hlo : lo < tB) : ax_E 53 [.ref (519 + s), .int (nI sp), .int (nI lo)] d (ax_Pi fun y d1 => (∀ i, fn T sp lo = some i → y = nI i ∧ d1 = d) ∧ (fn T sp lo = none → ((T 4 0).length < 20 → y = nI (T 4 0).length ∧ tb_is d1 s (tnm T sp lo)) ∧ (¬ (T 4 0).length < 20 → y = -1 ∧ d1 = d)) ∧ tb_fr d d1 s) := by
  show ax_W 53 0 [some (.ref (519 + s)), some (.int (nI sp)), some (.int (nI lo)), none] [] d _
  refine wx_aldn j53_0 rfl ?_
  refine wx_ildn j53_1 rfl ?_
  refine wx_ildn j53_2 rfl ?_
  refine wx_i2 j53_3 rfl rfl rfl (Nat.le_of_ble_eq_true rfl) (sh_tb hs) (sp_findName hs h hb h45 hsp hlo) ?_
  rintro _ d9 ⟨rfl, h9⟩
  obtain rfl := h9.symm
  refine wx_istn (L' := [_, _, _, some (.int _)]) j53_6 (Nat.le_of_ble_eq_true rfl) rfl ?_
  refine wx_ildn j53_7 rfl ?_
  refine wx_icst (v := (-1)) j53_8 (by decide) ?_
  refine wx_cmp 23 j53_9 (by decide) (fun c9 => ?_) (fun c9 => ?_)
  · simp only [ax_cn, Classical.not_not] at c9
    have hk : ¬ fn T sp lo = none := fun q => c9 ((oi_neg (fn_31 h)).mpr q)
    cases hfn : fn T sp lo with
    | none => exact absurd hfn hk
    | some i =>
      refine wx_ildn j53_23 rfl ?_
      refine wx_ri j53_24 rfl rfl ?_
      exact ⟨fun i2 e => ⟨by cases e; rfl, rfl⟩, fun e => (by cases e), tb_fr_rf d s⟩
  · simp only [ax_cn, Classical.not_not] at c9
    have hk : fn T sp lo = none := (oi_neg (fn_31 h)).mp c9
    refine wx_aldn j53_12 rfl ?_
    refine wx_get (v := .ref _) j53_13 (sh_tb hs) (Nat.le_of_ble_eq_true rfl) rfl ?_
    refine wx_icst (v := nI 0) j53_16 (by decide) ?_
    refine wx_i1 j53_17 rfl rfl (Nat.le_of_ble_eq_true rfl) (sh_ro (by omega)) (tp_full hs (j := 4) (by decide) (by decide) h) ?_
    rintro _ d9 ⟨rfl, h9⟩
    obtain rfl := h9.symm
    refine wx_if 25 j53_20 (by decide) (fun c20 => ?_) (fun c20 => ?_)
    · simp only [ax_cn, Classical.not_not] at c20
      have hroom : (T 4 0).length < 20 := by have := of_decide_eq_false (bB_0.mp c20); exact Nat.not_le.mp this
      refine wx_aldn j53_25 rfl ?_
      refine wx_get (v := .ref _) j53_26 (sh_tb hs) (Nat.le_of_ble_eq_true rfl) rfl ?_
      refine wx_icst (v := nI 0) j53_29 (by decide) ?_
      refine wx_ildn j53_30 rfl ?_
      refine wx_v2 j53_31 rfl rfl rfl (Nat.le_of_ble_eq_true rfl) (sh_ro (by omega)) (tp_last hs (j := 4) (by decide) (by decide) h) ?_
      rintro d1 ⟨h1, hf1⟩
      rw [if_pos (show (T 4 0).length < ax_rm 4 from hroom)] at h1
      refine wx_aldn j53_34 rfl ?_
      refine wx_get (v := .ref _) j53_35 (sh_tb hs) (Nat.le_of_ble_eq_true rfl) rfl ?_
      refine wx_icst (v := nI 0) j53_38 (by decide) ?_
      refine wx_ildn j53_39 rfl ?_
      refine wx_v2 j53_40 rfl rfl rfl (Nat.le_of_ble_eq_true rfl) (sh_ro (by omega)) (tp_last hs (j := 5) (by decide) (by decide) h1) ?_
      rintro d2 ⟨h2, hf2⟩
      rw [tst_ne (Or.inl (by decide)), if_pos (show (T 5 0).length < ax_rm 5 by rw [← h45]; exact hroom)] at h2
      refine wx_aldn j53_43 rfl ?_
      refine wx_get (v := .ref _) j53_44 (sh_tb hs) (Nat.le_of_ble_eq_true rfl) rfl ?_
      refine wx_icst (v := nI 0) j53_47 (by decide) ?_
      refine wx_i1 j53_48 rfl rfl (Nat.le_of_ble_eq_true rfl) (sh_ro (by omega)) (tp_cnt hs (j := 4) (by decide) (by decide) h2) ?_
      rintro _ d9 ⟨rfl, h9⟩
      obtain rfl := h9.symm
      rw [tst_ne (Or.inl (by decide)), tst_at, List.length_append]
      refine wx_icst (v := nI 1) j53_51 (by decide) ?_
      refine wx_isub j53_52 ?_
      rw [show nI ((T 4 0).length + [sp].length) - nI 1 = nI (T 4 0).length from nI_pred _]
      refine wx_ri j53_53 rfl rfl ?_
      exact ⟨fun i e => (by rw [hk] at e; cases e), fun _ => ⟨fun _ => ⟨rfl, h2⟩, fun q => absurd hroom q⟩, tb_fr_tr (rw_tb hf1 (by decide)) (rw_tb hf2 (by decide))⟩
    · simp only [ax_cn, Classical.not_not] at c20
      have hfull : ¬ (T 4 0).length < 20 := by have := of_decide_eq_true (bB_1.mp c20); exact Nat.not_lt.mpr this
      refine wx_ildn j53_23 rfl ?_
      refine wx_ri j53_24 rfl rfl ?_
      rw [hk]
      exact ⟨fun i e => (by cases e), fun _ => ⟨fun q => absurd q hfull, fun _ => ⟨rfl, rfl⟩⟩, tb_fr_rf d s⟩
/-- whether a name has room, as a writer tells it -/
def rfn (T : TT) (sp lo : Nat) : Bool := (fn T sp lo).isSome || (decide ((T 4 0).length < 20) && (match fi (T 0 0) sp with
  | none => decide ((T 0 0).length < 6)
  | some p => decide ((T 1 p).length < 10)))
theorem sp_rfn {sp lo : Nat} (hs : s < 2) (h : tb_is d s T) (hb : TB T) (h45 : (T 4 0).length = (T 5 0).length) (hsp : sp < tB) (hlo : lo < tB) : ax_E 54 [.ref (519 + s), .int (nI sp), .int (nI lo)] d (ax_Pi fun y d1 => y = bB (rfn T sp lo) ∧ d1 = d) := by
  show ax_W 54 0 [some (.ref (519 + s)), some (.int (nI sp)), some (.int (nI lo)), none] [] d _
  refine wx_aldn j54_0 rfl ?_
  refine wx_ildn j54_1 rfl ?_
  refine wx_ildn j54_2 rfl ?_
  refine wx_i2 j54_3 rfl rfl rfl (Nat.le_of_ble_eq_true rfl) (sh_tb hs) (sp_findName hs h hb h45 hsp hlo) ?_
  rintro _ d9 ⟨rfl, h9⟩
  obtain rfl := h9.symm
  refine wx_icst (v := (-1)) j54_6 (by decide) ?_
  refine wx_cmp 12 j54_7 (by decide) (fun c7 => ?_) (fun c7 => ?_)
  · simp only [ax_cn, Classical.not_not] at c7
    have hk : fn T sp lo = none := (oi_neg (fn_31 h)).mp c7
    refine wx_aldn j54_12 rfl ?_
    refine wx_get (v := .ref _) j54_13 (sh_tb hs) (Nat.le_of_ble_eq_true rfl) rfl ?_
    refine wx_icst (v := nI 0) j54_16 (by decide) ?_
    refine wx_i1 j54_17 rfl rfl (Nat.le_of_ble_eq_true rfl) (sh_ro (by omega)) (tp_full hs (j := 4) (by decide) (by decide) h) ?_
    rintro _ d9 ⟨rfl, h9⟩
    obtain rfl := h9.symm
    refine wx_if 25 j54_20 (by decide) (fun c20 => ?_) (fun c20 => ?_)
    · simp only [ax_cn, Classical.not_not] at c20
      have hroom : (T 4 0).length < 20 := by have := of_decide_eq_false (bB_0.mp c20); exact Nat.not_le.mp this
      refine wx_aldn j54_25 rfl ?_
      refine wx_get (v := .ref _) j54_26 (sh_tb hs) (Nat.le_of_ble_eq_true rfl) rfl ?_
      refine wx_icst (v := nI 0) j54_29 (by decide) ?_
      refine wx_ildn j54_30 rfl ?_
      refine wx_i2 j54_31 rfl rfl rfl (Nat.le_of_ble_eq_true rfl) (sh_ro (by omega)) (tp_find hs (j := 0) (by decide) (by decide) h hb hsp) ?_
      rintro _ d9 ⟨rfl, h9⟩
      obtain rfl := h9.symm
      refine wx_istn (L' := [_, _, _, some (.int _)]) j54_34 (Nat.le_of_ble_eq_true rfl) rfl ?_
      refine wx_ildn j54_35 rfl ?_
      refine wx_icst (v := (-1)) j54_36 (by decide) ?_
      have hf31 : ∀ i, fi (T 0 0) sp = some i → i < 2 ^ 31 := fun i hi => by
        have h1 := fi_lt hi
        have h2 := tb_l20 h (j := 0) (k := 0) (by decide) (by decide)
        omega
      refine wx_cmp 59 j54_37 (by decide) (fun c37 => ?_) (fun c37 => ?_)
      · simp only [ax_cn, Classical.not_not] at c37
        obtain ⟨q, hq⟩ : ∃ q, fi (T 0 0) sp = some q := by
          cases hfi : fi (T 0 0) sp with
          | none => exact absurd ((oi_neg hf31).mpr hfi) c37
          | some q => exact ⟨q, rfl⟩
        rw [hq]
        have hq6 : q < ax_nr 1 := Nat.lt_of_lt_of_le (fi_lt hq) (tb_len h (j := 0) (k := 0) (by decide) (by decide))
        show ax_W 54 59 [_, _, _, some (.int (nI q))] [] d _
        refine wx_aldn j54_59 rfl ?_
        refine wx_get (v := .ref _) j54_60 (sh_tb hs) (Nat.le_of_ble_eq_true rfl) rfl ?_
        refine wx_ildn j54_63 rfl ?_
        refine wx_i1 j54_64 rfl rfl (Nat.le_of_ble_eq_true rfl) (sh_ro (by omega)) (tp_full hs (j := 1) (by decide) hq6 h) ?_
        rintro _ d9 ⟨rfl, h9⟩
        obtain rfl := h9.symm
        refine wx_if 74 j54_67 (by decide) (fun c67 => ?_) (fun c67 => ?_)
        · simp only [ax_cn, Classical.not_not] at c67
          have e1 : decide ((T 1 q).length < 10) = false := by have := of_decide_eq_true (bB_1.mp c67); exact decide_eq_false (Nat.not_lt.mpr this)
          refine wx_icst (v := nI 0) j54_74 (by decide) ?_
          refine wx_ri j54_75 rfl rfl ?_
          exact ⟨by unfold rfn; rw [hk, hq, decide_eq_true hroom]; simp only [e1]; rfl, rfl⟩
        · simp only [ax_cn, Classical.not_not] at c67
          have e1 : decide ((T 1 q).length < 10) = true := by have := of_decide_eq_false (bB_0.mp c67); exact decide_eq_true (Nat.not_le.mp this)
          refine wx_icst (v := nI 1) j54_70 (by decide) ?_
          refine wx_goto 75 j54_71 (by decide) ?_
          refine wx_ri j54_75 rfl rfl ?_
          exact ⟨by unfold rfn; rw [hk, hq, decide_eq_true hroom]; simp only [e1]; rfl, rfl⟩
      · simp only [ax_cn, Classical.not_not] at c37
        have hp : fi (T 0 0) sp = none := (oi_neg hf31).mp c37
        refine wx_aldn j54_40 rfl ?_
        refine wx_get (v := .ref _) j54_41 (sh_tb hs) (Nat.le_of_ble_eq_true rfl) rfl ?_
        refine wx_icst (v := nI 0) j54_44 (by decide) ?_
        refine wx_i1 j54_45 rfl rfl (Nat.le_of_ble_eq_true rfl) (sh_ro (by omega)) (tp_full hs (j := 0) (by decide) (by decide) h) ?_
        rintro _ d9 ⟨rfl, h9⟩
        obtain rfl := h9.symm
        refine wx_if 55 j54_48 (by decide) (fun c48 => ?_) (fun c48 => ?_)
        · simp only [ax_cn, Classical.not_not] at c48
          have e1 : decide ((T 0 0).length < 6) = false := by have := of_decide_eq_true (bB_1.mp c48); exact decide_eq_false (Nat.not_lt.mpr this)
          refine wx_icst (v := nI 0) j54_55 (by decide) ?_
          refine wx_goto 75 j54_56 (by decide) ?_
          refine wx_ri j54_75 rfl rfl ?_
          exact ⟨by unfold rfn; rw [hk, hp, decide_eq_true hroom]; simp only [e1]; rfl, rfl⟩
        · simp only [ax_cn, Classical.not_not] at c48
          have e1 : decide ((T 0 0).length < 6) = true := by have := of_decide_eq_false (bB_0.mp c48); exact decide_eq_true (Nat.not_le.mp this)
          refine wx_icst (v := nI 1) j54_51 (by decide) ?_
          refine wx_goto 75 j54_52 (by decide) ?_
          refine wx_ri j54_75 rfl rfl ?_
          exact ⟨by unfold rfn; rw [hk, hp, decide_eq_true hroom]; simp only [e1]; rfl, rfl⟩
    · simp only [ax_cn, Classical.not_not] at c20
      have hfull : ¬ (T 4 0).length < 20 := by have := of_decide_eq_true (bB_1.mp c20); exact Nat.not_lt.mpr this
      refine wx_icst (v := nI 0) j54_23 (by decide) ?_
      refine wx_ri j54_24 rfl rfl ?_
      exact ⟨by unfold rfn; rw [hk, decide_eq_false hfull]; rfl, rfl⟩
  · simp only [ax_cn, Classical.not_not] at c7
    have hk : (fn T sp lo).isSome = true := by
      cases hfn : fn T sp lo with
      | none => exact absurd ((oi_neg (fn_31 h)).mpr hfn) c7
      | some i => rfl
    refine wx_icst (v := nI 1) j54_10 (by decide) ?_
    refine wx_ri j54_11 rfl rfl ?_
    exact ⟨by unfold rfn; rw [hk]; rfl, rfl⟩
theorem sp_addValue {n v : Nat} (hs : s < 2) (h : tb_is d s T) (hn : n < 20) (hv : v < tB) : ax_E 55 [.ref (519 + s), .int (nI n), .int (nI v)] d (ax_Pv fun d1 => tb_is d1 s (tav T n v) ∧ tb_fr d d1 s) := by
  show ax_W 55 0 [some (.ref (519 + s)), some (.int (nI n)), some (.int (nI v))] [] d _
  refine wx_ildn j55_0 rfl ?_
  refine wx_if 22 j55_1 (by decide) (fun c1 => ?_) (fun c1 => ?_)
  · simp only [ax_cn, Classical.not_not] at c1
    have hv0 : v = 0 := (nI_eq (tB_lt hv) (by decide)).mp (c1.trans nI_0.symm)
    refine wx_rv j55_22 rfl ?_
    exact ⟨by unfold tav; rw [if_pos hv0]; exact h, tb_fr_rf d s⟩
  · simp only [ax_cn, Classical.not_not] at c1
    have hv0 : ¬ v = 0 := fun q => c1 (by rw [q]; rfl)
    refine wx_aldn j55_4 rfl ?_
    refine wx_get (v := .ref _) j55_5 (sh_tb hs) (Nat.le_of_ble_eq_true rfl) rfl ?_
    refine wx_ildn j55_8 rfl ?_
    refine wx_ildn j55_9 rfl ?_
    refine wx_v2 j55_10 rfl rfl rfl (Nat.le_of_ble_eq_true rfl) (sh_ro (by omega)) (tp_last hs (j := 2) (by decide) hn h) ?_
    rintro d1 ⟨h1, hf1⟩
    refine wx_aldn j55_13 rfl ?_
    refine wx_get (v := .ref _) j55_14 (sh_tb hs) (Nat.le_of_ble_eq_true rfl) rfl ?_
    refine wx_icst (v := nI 0) j55_17 (by decide) ?_
    refine wx_ildn j55_18 rfl ?_
    refine wx_v2 j55_19 rfl rfl rfl (Nat.le_of_ble_eq_true rfl) (sh_ro (by omega)) (tp_last hs (j := 3) (by decide) (by decide) h1) ?_
    rintro d2 ⟨h2, hf2⟩
    rw [tst_ne (Or.inl (by decide))] at h2
    refine wx_rv j55_22 rfl ?_
    exact ⟨by unfold tav; rw [if_neg hv0]; exact h2, tb_fr_tr (rw_tb hf1 (by decide)) (rw_tb hf2 (by decide))⟩
end TA
end
section
/-! GRAMMARS: the class's open elements and learned codes of side s: n elements are open, nm i their names, fl i whether one has text or an element already, b whether the document has begun. -/
def gr_is (d : ax_D) (s n : Nat) (nm : Nat → Nat) (fl : Nat → Bool) (b : Bool) : Prop := n ≤ 8 ∧ d (521 + s) 4 = nI n ∧ d (521 + s) 5 = bB b ∧ ∀ i, i < n → d (523 + s) i = nI (nm i) ∧ nm i < 20 ∧ d (525 + s) i = bB (fl i)
def gr_fr (d d1 : ax_D) (s : Nat) : Prop := ∀ id, id ≠ 521 + s → id ≠ 523 + s → id ≠ 525 + s → d1 id = d id
theorem gr_fr_rf (d : ax_D) (s : Nat) : gr_fr d d s := fun _ _ _ _ => rfl
theorem gr_keep {d d1 : ax_D} {s n : Nat} {nm : Nat → Nat} {fl : Nat → Bool} {b : Bool} (h : gr_is d s n nm fl b) (h1 : d1 (521 + s) = d (521 + s)) (h2 : d1 (523 + s) = d (523 + s)) (h3 : d1 (525 + s) = d (525 + s)) : gr_is d1 s n nm fl b := by
  unfold gr_is
  rw [h1, h2, h3]
  exact h
theorem sh_gr {s : Nat} (h : s < 2) : ax_sh (521 + s) = some (6, 6, ax_of [.inl (32 * (8 * s + 6)), .inl (32 * (8 * s + 7)), .inl (523 + s), .inl (525 + s), .inr none, .inr none]) := by
  match s, h with
  | 0, _ => rfl
  | 1, _ => rfl
theorem sh_gn {s : Nat} (h : s < 2) : ax_sh (523 + s) = some (0, 8, ax_dt) := by
  match s, h with
  | 0, _ => rfl
  | 1, _ => rfl
theorem sh_gf {s : Nat} (h : s < 2) : ax_sh (525 + s) = some (1, 8, ax_dt) := by
  match s, h with
  | 0, _ => rfl
  | 1, _ => rfl
/-- the innermost element is filled -/
def fll (fl : Nat → Bool) (n : Nat) : Nat → Bool := if n = 0 then fl else va_up fl (n - 1) true
/-- the innermost element's row of codes: its kind -/
def kd (fl : Nat → Bool) (m : Nat) : Nat := if fl m then 7 else 6
theorem kd_lt (fl : Nat → Bool) (m : Nat) : kd fl m < 8 := by unfold kd; split <;> decide
theorem nI_s1 (m : Nat) : nI (m + 1) - nI 1 = nI m := nI_pred m
/-- a code comes in front of the row's others, if it is not there yet and there are fewer than 12 -/
def tln (T : TT) (j k c : Nat) : TT := match fi (T j k) c with
  | some _ => T
  | none => tst T j k (if (T j k).length < 12 then c :: T j k else T j k)
section GR
variable {d : ax_D} {s n m x : Nat} {T : TT} {nm : Nat → Nat} {fl : Nat → Bool} {b : Bool}
theorem sp_openE (hs : s < 2) (h : gr_is d s n nm fl b) : ax_E 8 [.ref (521 + s)] d (ax_Pi fun y d1 => y = nI n ∧ d1 = d) := by
  show ax_W 8 0 [some (.ref (521 + s))] [] d _
  refine wx_aldn j8_0 rfl ?_
  refine wx_get (v := .int _) j8_1 (sh_gr hs) (Nat.le_of_ble_eq_true rfl) rfl ?_
  rw [h.2.1]
  refine wx_ri j8_4 rfl rfl ?_
  exact ⟨rfl, rfl⟩
theorem sp_hasBegun (hs : s < 2) (h : gr_is d s n nm fl b) : ax_E 9 [.ref (521 + s)] d (ax_Pi fun y d1 => y = bB b ∧ d1 = d) := by
  show ax_W 9 0 [some (.ref (521 + s))] [] d _
  refine wx_aldn j9_0 rfl ?_
  refine wx_get (v := .int _) j9_1 (sh_gr hs) (Nat.le_of_ble_eq_true rfl) rfl ?_
  rw [h.2.2.1]
  refine wx_ri j9_4 rfl (bB_nar b) ?_
  exact ⟨rfl, rfl⟩
theorem sp_isWhole (hs : s < 2) (h : gr_is d s n nm fl b) : ax_E 10 [.ref (521 + s)] d (ax_Pi fun y d1 => y = bB (b && decide (n = 0)) ∧ d1 = d) := by
  show ax_W 10 0 [some (.ref (521 + s))] [] d _
  refine wx_aldn j10_0 rfl ?_
  refine wx_get (v := .int _) j10_1 (sh_gr hs) (Nat.le_of_ble_eq_true rfl) rfl ?_
  rw [h.2.2.1]
  refine wx_if 18 j10_4 (by decide) (fun c4 => ?_) (fun c4 => ?_)
  · simp only [ax_cn, Classical.not_not] at c4
    have hb := bB_0.mp c4
    refine wx_icst (v := nI 0) j10_18 (by decide) ?_
    refine wx_ri j10_19 rfl rfl ?_
    exact ⟨by rw [hb]; rfl, rfl⟩
  · simp only [ax_cn, Classical.not_not] at c4
    have hb := bB_1.mp c4
    refine wx_aldn j10_7 rfl ?_
    refine wx_get (v := .int _) j10_8 (sh_gr hs) (Nat.le_of_ble_eq_true rfl) rfl ?_
    rw [h.2.1]
    refine wx_if 18 j10_11 (by decide) (fun c11 => ?_) (fun c11 => ?_)
    · simp only [ax_cn, Classical.not_not] at c11
      have hn : ¬ n = 0 := fun q => c11 (by rw [q]; rfl)
      refine wx_icst (v := nI 0) j10_18 (by decide) ?_
      refine wx_ri j10_19 rfl rfl ?_
      exact ⟨by rw [hb, decide_eq_false hn]; rfl, rfl⟩
    · simp only [ax_cn, Classical.not_not] at c11
      have hn : n = 0 := (nI_eq (Nat.lt_of_le_of_lt h.1 (by decide)) (by decide)).mp (c11.trans nI_0.symm)
      refine wx_icst (v := nI 1) j10_14 (by decide) ?_
      refine wx_goto 19 j10_15 (by decide) ?_
      refine wx_ri j10_19 rfl rfl ?_
      exact ⟨by rw [hb, decide_eq_true hn]; rfl, rfl⟩
theorem sp_isDeepest (hs : s < 2) (h : gr_is d s n nm fl b) : ax_E 11 [.ref (521 + s)] d (ax_Pi fun y d1 => y = bB (decide (n = 8)) ∧ d1 = d) := by
  show ax_W 11 0 [some (.ref (521 + s))] [] d _
  refine wx_aldn j11_0 rfl ?_
  refine wx_get (v := .int _) j11_1 (sh_gr hs) (Nat.le_of_ble_eq_true rfl) rfl ?_
  rw [h.2.1]
  refine wx_bpsh (v := nI 8) j11_4 (by decide) ?_
  refine wx_cmp 13 j11_6 (by decide) (fun c6 => ?_) (fun c6 => ?_)
  · simp only [ax_cn, Classical.not_not] at c6
    have hn : ¬ n = 8 := fun q => by rw [q] at c6; exact absurd c6 (by decide)
    refine wx_icst (v := nI 0) j11_13 (by decide) ?_
    refine wx_ri j11_14 rfl rfl ?_
    exact ⟨by rw [decide_eq_false hn]; rfl, rfl⟩
  · simp only [ax_cn, Classical.not_not] at c6
    have hn : n = 8 := Nat.le_antisymm h.1 (Nat.not_lt.mp (fun q => c6 (nI_lt q (by decide))))
    refine wx_icst (v := nI 1) j11_9 (by decide) ?_
    refine wx_goto 14 j11_10 (by decide) ?_
    refine wx_ri j11_14 rfl rfl ?_
    exact ⟨by rw [decide_eq_true hn]; rfl, rfl⟩
theorem sp_name (hs : s < 2) (h : gr_is d s (m + 1) nm fl b) : ax_E 12 [.ref (521 + s)] d (ax_Pi fun y d1 => y = nI (nm m) ∧ d1 = d) := by
  show ax_W 12 0 [some (.ref (521 + s))] [] d _
  refine wx_aldn j12_0 rfl ?_
  refine wx_get (v := .int _) j12_1 (sh_gr hs) (Nat.le_of_ble_eq_true rfl) rfl ?_
  rw [h.2.1]
  refine wx_if 33 j12_4 (by decide) (fun c4 => ?_) (fun c4 => ?_)
  · simp only [ax_cn, Classical.not_not] at c4
    exact absurd c4 (nI_nle (Nat.succ_pos m) (Nat.lt_of_le_of_lt h.1 (by decide)))
  · simp only [ax_cn, Classical.not_not] at c4
    refine wx_aldn j12_7 rfl ?_
    refine wx_get (v := .int _) j12_8 (sh_gr hs) (Nat.le_of_ble_eq_true rfl) rfl ?_
    rw [h.2.1]
    refine wx_aldn j12_11 rfl ?_
    refine wx_get (v := .ref _) j12_12 (sh_gr hs) (Nat.le_of_ble_eq_true rfl) rfl ?_
    refine wx_alen j12_15 (sh_gn hs) (Nat.le_of_ble_eq_true rfl) ?_
    refine wx_cmp 33 j12_16 (by decide) (fun c16 => ?_) (fun c16 => ?_)
    · simp only [ax_cn, Classical.not_not] at c16
      exact absurd c16 (nI_nlt h.1 (by decide))
    · simp only [ax_cn, Classical.not_not] at c16
      refine wx_aldn j12_19 rfl ?_
      refine wx_get (v := .ref _) j12_20 (sh_gr hs) (Nat.le_of_ble_eq_true rfl) rfl ?_
      refine wx_aldn j12_23 rfl ?_
      refine wx_get (v := .int _) j12_24 (sh_gr hs) (Nat.le_of_ble_eq_true rfl) rfl ?_
      rw [h.2.1]
      refine wx_icst (v := nI 1) j12_27 (by decide) ?_
      refine wx_isub j12_28 ?_
      rw [nI_s1]
      refine wx_ialx (m) j12_29 (sh_gn hs) rfl (h.1) (by decide) ?_
      refine wx_goto 34 j12_30 (by decide) ?_
      refine wx_ri j12_34 rfl rfl ?_
      exact ⟨(h.2.2.2 m (Nat.lt_succ_self m)).1, rfl⟩
theorem sp_isInTag (hs : s < 2) (h : gr_is d s n nm fl b) : ax_E 13 [.ref (521 + s)] d (ax_Pi fun y d1 => y = bB (decide (0 < n) && !fl (n - 1)) ∧ d1 = d) := by
  show ax_W 13 0 [some (.ref (521 + s))] [] d _
  refine wx_aldn j13_0 rfl ?_
  refine wx_get (v := .int _) j13_1 (sh_gr hs) (Nat.le_of_ble_eq_true rfl) rfl ?_
  rw [h.2.1]
  refine wx_if 37 j13_4 (by decide) (fun c4 => ?_) (fun c4 => ?_)
  · simp only [ax_cn, Classical.not_not] at c4
    have hn : ¬ 0 < n := fun q => nI_nle q (Nat.lt_of_le_of_lt h.1 (by decide)) c4
    refine wx_icst (v := nI 0) j13_37 (by decide) ?_
    refine wx_ri j13_38 rfl rfl ?_
    exact ⟨by rw [decide_eq_false hn]; rfl, rfl⟩
  · simp only [ax_cn, Classical.not_not] at c4
    obtain ⟨m, rfl⟩ : ∃ m, n = m + 1 := ⟨n - 1, by
      rcases Nat.eq_zero_or_pos n with q | q
      · rw [q] at c4; exact absurd (show nI 0 ≤ 0 by decide) c4
      · omega⟩
    refine wx_aldn j13_7 rfl ?_
    refine wx_get (v := .int _) j13_8 (sh_gr hs) (Nat.le_of_ble_eq_true rfl) rfl ?_
    rw [h.2.1]
    refine wx_aldn j13_11 rfl ?_
    refine wx_get (v := .ref _) j13_12 (sh_gr hs) (Nat.le_of_ble_eq_true rfl) rfl ?_
    refine wx_alen j13_15 (sh_gf hs) (Nat.le_of_ble_eq_true rfl) ?_
    refine wx_cmp 37 j13_16 (by decide) (fun c16 => ?_) (fun c16 => ?_)
    · simp only [ax_cn, Classical.not_not] at c16
      exact absurd c16 (nI_nlt h.1 (by decide))
    · simp only [ax_cn, Classical.not_not] at c16
      refine wx_aldn j13_19 rfl ?_
      refine wx_get (v := .ref _) j13_20 (sh_gr hs) (Nat.le_of_ble_eq_true rfl) rfl ?_
      refine wx_aldn j13_23 rfl ?_
      refine wx_get (v := .int _) j13_24 (sh_gr hs) (Nat.le_of_ble_eq_true rfl) rfl ?_
      rw [h.2.1]
      refine wx_icst (v := nI 1) j13_27 (by decide) ?_
      refine wx_isub j13_28 ?_
      rw [nI_s1]
      refine wx_balx (m) j13_29 (sh_gf hs) rfl (h.1) (by decide) ?_
      rw [(h.2.2.2 m (Nat.lt_succ_self m)).2.2]
      refine wx_if 37 j13_30 (by decide) (fun c30 => ?_) (fun c30 => ?_)
      · simp only [ax_cn, Classical.not_not] at c30
        have hf := bB_1.mp c30
        refine wx_icst (v := nI 0) j13_37 (by decide) ?_
        refine wx_ri j13_38 rfl rfl ?_
        exact ⟨by rw [Nat.add_sub_cancel, hf, decide_eq_true (Nat.succ_pos m)]; rfl, rfl⟩
      · simp only [ax_cn, Classical.not_not] at c30
        have hf := bB_0.mp c30
        refine wx_icst (v := nI 1) j13_33 (by decide) ?_
        refine wx_goto 38 j13_34 (by decide) ?_
        refine wx_ri j13_38 rfl rfl ?_
        exact ⟨by rw [Nat.add_sub_cancel, hf, decide_eq_true (Nat.succ_pos m)]; rfl, rfl⟩
theorem sp_fill (hs : s < 2) (h : gr_is d s n nm fl b) : ax_E 14 [.ref (521 + s)] d (ax_Pv fun d1 => gr_is d1 s n nm (fll fl n) b ∧ gr_fr d d1 s) := by
  show ax_W 14 0 [some (.ref (521 + s))] [] d _
  refine wx_aldn j14_0 rfl ?_
  refine wx_get (v := .int _) j14_1 (sh_gr hs) (Nat.le_of_ble_eq_true rfl) rfl ?_
  rw [h.2.1]
  refine wx_if 31 j14_4 (by decide) (fun c4 => ?_) (fun c4 => ?_)
  · simp only [ax_cn, Classical.not_not] at c4
    have hn : n = 0 := Nat.eq_zero_of_not_pos (fun q => nI_nle q (Nat.lt_of_le_of_lt h.1 (by decide)) c4)
    refine wx_rv j14_31 rfl ?_
    exact ⟨by unfold fll; rw [if_pos hn]; exact h, gr_fr_rf d s⟩
  · simp only [ax_cn, Classical.not_not] at c4
    obtain ⟨m, rfl⟩ : ∃ m, n = m + 1 := ⟨n - 1, by
      rcases Nat.eq_zero_or_pos n with q | q
      · rw [q] at c4; exact absurd (show nI 0 ≤ 0 by decide) c4
      · omega⟩
    refine wx_aldn j14_7 rfl ?_
    refine wx_get (v := .int _) j14_8 (sh_gr hs) (Nat.le_of_ble_eq_true rfl) rfl ?_
    rw [h.2.1]
    refine wx_aldn j14_11 rfl ?_
    refine wx_get (v := .ref _) j14_12 (sh_gr hs) (Nat.le_of_ble_eq_true rfl) rfl ?_
    refine wx_alen j14_15 (sh_gf hs) (Nat.le_of_ble_eq_true rfl) ?_
    refine wx_cmp 31 j14_16 (by decide) (fun c16 => ?_) (fun c16 => ?_)
    · simp only [ax_cn, Classical.not_not] at c16
      exact absurd c16 (nI_nlt h.1 (by decide))
    · simp only [ax_cn, Classical.not_not] at c16
      refine wx_aldn j14_19 rfl ?_
      refine wx_get (v := .ref _) j14_20 (sh_gr hs) (Nat.le_of_ble_eq_true rfl) rfl ?_
      refine wx_aldn j14_23 rfl ?_
      refine wx_get (v := .int _) j14_24 (sh_gr hs) (Nat.le_of_ble_eq_true rfl) rfl ?_
      rw [h.2.1]
      refine wx_icst (v := nI 1) j14_27 (by decide) ?_
      refine wx_isub j14_28 ?_
      rw [nI_s1]
      refine wx_icst (v := nI 1) j14_29 (by decide) ?_
      refine wx_basx (m) j14_30 (sh_gf hs) rfl (h.1) (by decide) ?_
      refine wx_rv j14_31 rfl ?_
      refine ⟨⟨h.1, ?_, ?_, fun i hi => ?_⟩, fun id h1 h2 h3 => ax_up_ne h3⟩
      · rw [up_ni (by omega)]; exact h.2.1
      · rw [up_ni (by omega)]; exact h.2.2.1
      · obtain ⟨a1, a2, a3⟩ := h.2.2.2 i hi
        rw [up_ni (by omega)]
        refine ⟨a1, a2, ?_⟩
        rw [up_ap]
        unfold fll
        rw [if_neg (Nat.succ_ne_zero m), Nat.add_sub_cancel]
        unfold va_up
        by_cases hi2 : i = m
        · rw [if_pos ⟨rfl, hi2⟩, if_pos hi2]; rfl
        · rw [if_neg (fun q => hi2 q.2), if_neg hi2]; exact a3
theorem sp_enter (hs : s < 2) (h : gr_is d s n nm fl b) (hn : n < 8) (hx : x < 20) : ax_E 15 [.ref (521 + s), .int (nI x)] d (ax_Pv fun d1 => gr_is d1 s (n + 1) (va_up nm n x) (va_up (fll fl n) n false) true ∧ gr_fr d d1 s) := by
  show ax_W 15 0 [some (.ref (521 + s)), some (.int (nI x))] [] d _
  refine wx_aldn j15_0 rfl ?_
  refine wx_v0 j15_1 rfl  (Nat.le_of_ble_eq_true rfl) (sh_gr hs) (sp_fill hs h) ?_
  rintro d1 ⟨h1, hf1⟩
  have e1 : ax_up d1 (521 + s) 5 (nI 1) (521 + s) 4 = nI n := by rw [up_nk (by decide)]; exact h1.2.1
  refine wx_aldn j15_4 rfl ?_
  refine wx_icst (v := nI 1) j15_5 (by decide) ?_
  refine wx_put j15_6 (sh_gr hs) (Nat.le_of_ble_eq_true rfl) rfl rfl rfl ?_
  refine wx_aldn j15_9 rfl ?_
  refine wx_get (v := .int _) j15_10 (sh_gr hs) (Nat.le_of_ble_eq_true rfl) rfl ?_
  rw [e1]
  refine wx_aldn j15_13 rfl ?_
  refine wx_get (v := .ref _) j15_14 (sh_gr hs) (Nat.le_of_ble_eq_true rfl) rfl ?_
  refine wx_alen j15_17 (sh_gn hs) (Nat.le_of_ble_eq_true rfl) ?_
  refine wx_cmp 63 j15_18 (by decide) (fun c18 => ?_) (fun c18 => ?_)
  · simp only [ax_cn, Classical.not_not] at c18
    exact absurd c18 (nI_ge hn (by decide))
  · simp only [ax_cn, Classical.not_not] at c18
    refine wx_aldn j15_21 rfl ?_
    refine wx_get (v := .int _) j15_22 (sh_gr hs) (Nat.le_of_ble_eq_true rfl) rfl ?_
    rw [e1]
    refine wx_aldn j15_25 rfl ?_
    refine wx_get (v := .ref _) j15_26 (sh_gr hs) (Nat.le_of_ble_eq_true rfl) rfl ?_
    refine wx_alen j15_29 (sh_gf hs) (Nat.le_of_ble_eq_true rfl) ?_
    refine wx_cmp 63 j15_30 (by decide) (fun c30 => ?_) (fun c30 => ?_)
    · simp only [ax_cn, Classical.not_not] at c30
      exact absurd c30 (nI_ge hn (by decide))
    · simp only [ax_cn, Classical.not_not] at c30
      refine wx_aldn j15_33 rfl ?_
      refine wx_get (v := .ref _) j15_34 (sh_gr hs) (Nat.le_of_ble_eq_true rfl) rfl ?_
      refine wx_aldn j15_37 rfl ?_
      refine wx_get (v := .int _) j15_38 (sh_gr hs) (Nat.le_of_ble_eq_true rfl) rfl ?_
      rw [e1]
      refine wx_ildn j15_41 rfl ?_
      refine wx_iasx (n) j15_42 (sh_gn hs) rfl (hn) (by decide) ?_
      refine wx_aldn j15_43 rfl ?_
      refine wx_get (v := .ref _) j15_44 (sh_gr hs) (Nat.le_of_ble_eq_true rfl) rfl ?_
      refine wx_aldn j15_47 rfl ?_
      refine wx_get (v := .int _) j15_48 (sh_gr hs) (Nat.le_of_ble_eq_true rfl) rfl ?_
      rw [up_ni (by omega), e1]
      refine wx_icst (v := nI 0) j15_51 (by decide) ?_
      refine wx_basx (n) j15_52 (sh_gf hs) rfl (hn) (by decide) ?_
      refine wx_aldn j15_53 rfl ?_
      refine wx_dupr j15_54 ?_
      refine wx_get (v := .int _) j15_55 (sh_gr hs) (Nat.le_of_ble_eq_true rfl) rfl ?_
      rw [up_ni (by omega), up_ni (by omega), e1]
      refine wx_icst (v := nI 1) j15_58 (by decide) ?_
      refine wx_iadd j15_59 ?_
      rw [nI_add]
      refine wx_put j15_60 (sh_gr hs) (Nat.le_of_ble_eq_true rfl) rfl rfl rfl ?_
      refine wx_rv j15_63 rfl ?_
      refine ⟨⟨hn, by rw [up_at], ?_, fun i hi => ?_⟩, fun id a1 a2 a3 => by rw [ax_up_ne a1, ax_up_ne a3, ax_up_ne a2, ax_up_ne a1]; exact hf1 id a1 a2 a3⟩
      · rw [up_nk (by decide), up_ni (by omega), up_ni (by omega), up_at]; rfl
      · by_cases hi2 : i = n
        · subst hi2
          refine ⟨?_, ?_, ?_⟩
          · rw [up_ni (by omega), up_ni (by omega), up_at]; unfold va_up; rw [if_pos rfl]
          · unfold va_up; rw [if_pos rfl]; exact hx
          · rw [up_ni (by omega), up_at]; unfold va_up; rw [if_pos rfl]; rfl
        · have a := h1.2.2.2 i (by omega)
          unfold va_up
          rw [if_neg hi2, if_neg hi2]
          exact ⟨by rw [up_ni (by omega), up_ni (by omega), up_nk hi2, up_ni (by omega)]; exact a.1, a.2.1, by rw [up_ni (by omega), up_nk hi2, up_ni (by omega), up_ni (by omega)]; exact a.2.2⟩
theorem sp_leave (hs : s < 2) (h : gr_is d s (m + 1) nm fl b) : ax_E 16 [.ref (521 + s)] d (ax_Pv fun d1 => gr_is d1 s m nm fl b ∧ gr_fr d d1 s) := by
  show ax_W 16 0 [some (.ref (521 + s))] [] d _
  refine wx_aldn j16_0 rfl ?_
  refine wx_get (v := .int _) j16_1 (sh_gr hs) (Nat.le_of_ble_eq_true rfl) rfl ?_
  rw [h.2.1]
  refine wx_if 17 j16_4 (by decide) (fun c4 => ?_) (fun c4 => ?_)
  · simp only [ax_cn, Classical.not_not] at c4
    exact absurd c4 (nI_nle (Nat.succ_pos m) (Nat.lt_of_le_of_lt h.1 (by decide)))
  · simp only [ax_cn, Classical.not_not] at c4
    refine wx_aldn j16_7 rfl ?_
    refine wx_dupr j16_8 ?_
    refine wx_get (v := .int _) j16_9 (sh_gr hs) (Nat.le_of_ble_eq_true rfl) rfl ?_
    rw [h.2.1]
    refine wx_icst (v := nI 1) j16_12 (by decide) ?_
    refine wx_isub j16_13 ?_
    rw [nI_s1]
    refine wx_put j16_14 (sh_gr hs) (Nat.le_of_ble_eq_true rfl) rfl rfl rfl ?_
    refine wx_rv j16_17 rfl ?_
    refine ⟨⟨by have := h.1; omega, by rw [up_at], by rw [up_nk (by decide)]; exact h.2.2.1, fun i hi => ?_⟩, fun id a1 a2 a3 => ax_up_ne a1⟩
    rw [up_ni (by omega), up_ni (by omega)]
    exact h.2.2.2 i (by omega)
theorem sp_learned (hs : s < 2) (h : gr_is d s (m + 1) nm fl b) (ht : tb_is d s T) : ax_E 17 [.ref (521 + s)] d (ax_Pi fun y d1 => y = nI (T (kd fl m) (nm m)).length ∧ d1 = d) := by
  show ax_W 17 0 [some (.ref (521 + s))] [] d _
  refine wx_aldn j17_0 rfl ?_
  refine wx_i0 j17_1 rfl  (Nat.le_of_ble_eq_true rfl) (sh_gr hs) (sp_isInTag hs h) ?_
  rintro _ d9 ⟨rfl, h9⟩
  obtain rfl := h9.symm
  refine wx_if 21 j17_4 (by decide) (fun c4 => ?_) (fun c4 => ?_)
  · simp only [ax_cn, Classical.not_not] at c4
    have hf : fl m = true := by
      have := bB_0.mp c4
      simpa using this
    have hkd : kd fl m = 7 := by unfold kd; rw [if_pos hf]
    refine wx_aldn j17_21 rfl ?_
    refine wx_get (v := .ref _) j17_22 (sh_gr hs) (Nat.le_of_ble_eq_true rfl) rfl ?_
    refine wx_aldn j17_25 rfl ?_
    refine wx_i0 j17_26 rfl  (Nat.le_of_ble_eq_true rfl) (sh_gr hs) (sp_name hs h) ?_
    rintro _ d9 ⟨rfl, h9⟩
    obtain rfl := h9.symm
    refine wx_i1 j17_29 rfl rfl (Nat.le_of_ble_eq_true rfl) (sh_ro (by omega)) (tp_cnt hs (j := 7) (by decide) (h.2.2.2 m (Nat.lt_succ_self m)).2.1 ht) ?_
    rintro _ d9 ⟨rfl, h9⟩
    obtain rfl := h9.symm
    refine wx_ri j17_32 rfl rfl ?_
    exact ⟨by rw [hkd], rfl⟩
  · simp only [ax_cn, Classical.not_not] at c4
    have hf : fl m = false := by
      have := bB_1.mp c4
      simpa using this
    have hkd : kd fl m = 6 := by unfold kd; rw [hf]; rfl
    refine wx_aldn j17_7 rfl ?_
    refine wx_get (v := .ref _) j17_8 (sh_gr hs) (Nat.le_of_ble_eq_true rfl) rfl ?_
    refine wx_aldn j17_11 rfl ?_
    refine wx_i0 j17_12 rfl  (Nat.le_of_ble_eq_true rfl) (sh_gr hs) (sp_name hs h) ?_
    rintro _ d9 ⟨rfl, h9⟩
    obtain rfl := h9.symm
    refine wx_i1 j17_15 rfl rfl (Nat.le_of_ble_eq_true rfl) (sh_ro (by omega)) (tp_cnt hs (j := 6) (by decide) (h.2.2.2 m (Nat.lt_succ_self m)).2.1 ht) ?_
    rintro _ d9 ⟨rfl, h9⟩
    obtain rfl := h9.symm
    refine wx_goto 32 j17_18 (by decide) ?_
    refine wx_ri j17_32 rfl rfl ?_
    exact ⟨by rw [hkd], rfl⟩
theorem sp_choices (hs : s < 2) (h : gr_is d s (m + 1) nm fl b) (ht : tb_is d s T) : ax_E 18 [.ref (521 + s)] d (ax_Pi fun y d1 => y = nI ((T (kd fl m) (nm m)).length + (if fl m then 2 else 1)) ∧ d1 = d) := by
  show ax_W 18 0 [some (.ref (521 + s))] [] d _
  refine wx_aldn j18_0 rfl ?_
  refine wx_i0 j18_1 rfl  (Nat.le_of_ble_eq_true rfl) (sh_gr hs) (sp_isInTag hs h) ?_
  rintro _ d9 ⟨rfl, h9⟩
  obtain rfl := h9.symm
  refine wx_if 16 j18_4 (by decide) (fun c4 => ?_) (fun c4 => ?_)
  · simp only [ax_cn, Classical.not_not] at c4
    have hf : fl m = true := by
      have := bB_0.mp c4
      simpa using this
    have hkd : kd fl m = 7 := by unfold kd; rw [if_pos hf]
    refine wx_aldn j18_16 rfl ?_
    refine wx_i0 j18_17 rfl  (Nat.le_of_ble_eq_true rfl) (sh_gr hs) (sp_learned hs h ht) ?_
    rintro _ d9 ⟨rfl, h9⟩
    obtain rfl := h9.symm
    refine wx_icst (v := nI 2) j18_20 (by decide) ?_
    refine wx_iadd j18_21 ?_
    rw [nI_add]
    refine wx_ri j18_22 rfl rfl ?_
    exact ⟨by rw [if_pos hf], rfl⟩
  · simp only [ax_cn, Classical.not_not] at c4
    have hf : fl m = false := by
      have := bB_1.mp c4
      simpa using this
    have hkd : kd fl m = 6 := by unfold kd; rw [hf]; rfl
    refine wx_aldn j18_7 rfl ?_
    refine wx_i0 j18_8 rfl  (Nat.le_of_ble_eq_true rfl) (sh_gr hs) (sp_learned hs h ht) ?_
    rintro _ d9 ⟨rfl, h9⟩
    obtain rfl := h9.symm
    refine wx_icst (v := nI 1) j18_11 (by decide) ?_
    refine wx_iadd j18_12 ?_
    rw [nI_add]
    refine wx_goto 22 j18_13 (by decide) ?_
    refine wx_ri j18_22 rfl rfl ?_
    exact ⟨by rw [hf]; rfl, rfl⟩
theorem sp_codeAt (hs : s < 2) (h : gr_is d s (m + 1) nm fl b) (ht : tb_is d s T) (hx : x < (T (kd fl m) (nm m)).length) : ax_E 19 [.ref (521 + s), .int (nI x)] d (ax_Pi fun y d1 => y = nI ((T (kd fl m) (nm m)).getD x 0) ∧ d1 = d) := by
  show ax_W 19 0 [some (.ref (521 + s)), some (.int (nI x))] [] d _
  refine wx_aldn j19_0 rfl ?_
  refine wx_i0 j19_1 rfl  (Nat.le_of_ble_eq_true rfl) (sh_gr hs) (sp_isInTag hs h) ?_
  rintro _ d9 ⟨rfl, h9⟩
  obtain rfl := h9.symm
  refine wx_if 22 j19_4 (by decide) (fun c4 => ?_) (fun c4 => ?_)
  · simp only [ax_cn, Classical.not_not] at c4
    have hf : fl m = true := by
      have := bB_0.mp c4
      simpa using this
    have hkd : kd fl m = 7 := by unfold kd; rw [if_pos hf]
    refine wx_aldn j19_22 rfl ?_
    refine wx_get (v := .ref _) j19_23 (sh_gr hs) (Nat.le_of_ble_eq_true rfl) rfl ?_
    refine wx_aldn j19_26 rfl ?_
    refine wx_i0 j19_27 rfl  (Nat.le_of_ble_eq_true rfl) (sh_gr hs) (sp_name hs h) ?_
    rintro _ d9 ⟨rfl, h9⟩
    obtain rfl := h9.symm
    refine wx_ildn j19_30 rfl ?_
    refine wx_i2 j19_31 rfl rfl rfl (Nat.le_of_ble_eq_true rfl) (sh_ro (by omega)) (tp_get hs (j := 7) (by decide) (h.2.2.2 m (Nat.lt_succ_self m)).2.1 ht (by rw [hkd] at hx; exact hx)) ?_
    rintro _ d9 ⟨rfl, h9⟩
    obtain rfl := h9.symm
    refine wx_ri j19_34 rfl rfl ?_
    exact ⟨by rw [hkd], rfl⟩
  · simp only [ax_cn, Classical.not_not] at c4
    have hf : fl m = false := by
      have := bB_1.mp c4
      simpa using this
    have hkd : kd fl m = 6 := by unfold kd; rw [hf]; rfl
    refine wx_aldn j19_7 rfl ?_
    refine wx_get (v := .ref _) j19_8 (sh_gr hs) (Nat.le_of_ble_eq_true rfl) rfl ?_
    refine wx_aldn j19_11 rfl ?_
    refine wx_i0 j19_12 rfl  (Nat.le_of_ble_eq_true rfl) (sh_gr hs) (sp_name hs h) ?_
    rintro _ d9 ⟨rfl, h9⟩
    obtain rfl := h9.symm
    refine wx_ildn j19_15 rfl ?_
    refine wx_i2 j19_16 rfl rfl rfl (Nat.le_of_ble_eq_true rfl) (sh_ro (by omega)) (tp_get hs (j := 6) (by decide) (h.2.2.2 m (Nat.lt_succ_self m)).2.1 ht (by rw [hkd] at hx; exact hx)) ?_
    rintro _ d9 ⟨rfl, h9⟩
    obtain rfl := h9.symm
    refine wx_goto 34 j19_19 (by decide) ?_
    refine wx_ri j19_34 rfl rfl ?_
    exact ⟨by rw [hkd], rfl⟩
theorem sp_codeAtN (hs : s < 2) (h : gr_is d s (m + 1) nm fl b) (ht : tb_is d s T) : ax_E 19 [.ref (521 + s), .int (-1)] d (ax_Pi fun y d1 => y = -1 ∧ d1 = d) := by
  show ax_W 19 0 [some (.ref (521 + s)), some (.int (-1))] [] d _
  refine wx_aldn j19_0 rfl ?_
  refine wx_i0 j19_1 rfl  (Nat.le_of_ble_eq_true rfl) (sh_gr hs) (sp_isInTag hs h) ?_
  rintro _ d9 ⟨rfl, h9⟩
  obtain rfl := h9.symm
  refine wx_if 22 j19_4 (by decide) (fun c4 => ?_) (fun c4 => ?_)
  · simp only [ax_cn, Classical.not_not] at c4
    have hf : fl m = true := by
      have := bB_0.mp c4
      simpa using this
    have hkd : kd fl m = 7 := by unfold kd; rw [if_pos hf]
    refine wx_aldn j19_22 rfl ?_
    refine wx_get (v := .ref _) j19_23 (sh_gr hs) (Nat.le_of_ble_eq_true rfl) rfl ?_
    refine wx_aldn j19_26 rfl ?_
    refine wx_i0 j19_27 rfl  (Nat.le_of_ble_eq_true rfl) (sh_gr hs) (sp_name hs h) ?_
    rintro _ d9 ⟨rfl, h9⟩
    obtain rfl := h9.symm
    refine wx_ildn j19_30 rfl ?_
    refine wx_i2 j19_31 rfl rfl rfl (Nat.le_of_ble_eq_true rfl) (sh_ro (by omega)) (tp_getN hs (j := 7) (by decide) (h.2.2.2 m (Nat.lt_succ_self m)).2.1 ht) ?_
    rintro _ d9 ⟨rfl, h9⟩
    obtain rfl := h9.symm
    refine wx_ri j19_34 rfl rfl ?_
    exact ⟨rfl, rfl⟩
  · simp only [ax_cn, Classical.not_not] at c4
    have hf : fl m = false := by
      have := bB_1.mp c4
      simpa using this
    have hkd : kd fl m = 6 := by unfold kd; rw [hf]; rfl
    refine wx_aldn j19_7 rfl ?_
    refine wx_get (v := .ref _) j19_8 (sh_gr hs) (Nat.le_of_ble_eq_true rfl) rfl ?_
    refine wx_aldn j19_11 rfl ?_
    refine wx_i0 j19_12 rfl  (Nat.le_of_ble_eq_true rfl) (sh_gr hs) (sp_name hs h) ?_
    rintro _ d9 ⟨rfl, h9⟩
    obtain rfl := h9.symm
    refine wx_ildn j19_15 rfl ?_
    refine wx_i2 j19_16 rfl rfl rfl (Nat.le_of_ble_eq_true rfl) (sh_ro (by omega)) (tp_getN hs (j := 6) (by decide) (h.2.2.2 m (Nat.lt_succ_self m)).2.1 ht) ?_
    rintro _ d9 ⟨rfl, h9⟩
    obtain rfl := h9.symm
    refine wx_goto 34 j19_19 (by decide) ?_
    refine wx_ri j19_34 rfl rfl ?_
    exact ⟨rfl, rfl⟩
theorem sp_findCode (hs : s < 2) (h : gr_is d s (m + 1) nm fl b) (ht : tb_is d s T) (hb : TB T) (hx : x < tB) : ax_E 20 [.ref (521 + s), .int (nI x)] d (ax_Pi fun y d1 => y = oi (fi (T (kd fl m) (nm m)) x) ∧ d1 = d) := by
  show ax_W 20 0 [some (.ref (521 + s)), some (.int (nI x))] [] d _
  refine wx_aldn j20_0 rfl ?_
  refine wx_i0 j20_1 rfl  (Nat.le_of_ble_eq_true rfl) (sh_gr hs) (sp_isInTag hs h) ?_
  rintro _ d9 ⟨rfl, h9⟩
  obtain rfl := h9.symm
  refine wx_if 22 j20_4 (by decide) (fun c4 => ?_) (fun c4 => ?_)
  · simp only [ax_cn, Classical.not_not] at c4
    have hf : fl m = true := by
      have := bB_0.mp c4
      simpa using this
    have hkd : kd fl m = 7 := by unfold kd; rw [if_pos hf]
    refine wx_aldn j20_22 rfl ?_
    refine wx_get (v := .ref _) j20_23 (sh_gr hs) (Nat.le_of_ble_eq_true rfl) rfl ?_
    refine wx_aldn j20_26 rfl ?_
    refine wx_i0 j20_27 rfl  (Nat.le_of_ble_eq_true rfl) (sh_gr hs) (sp_name hs h) ?_
    rintro _ d9 ⟨rfl, h9⟩
    obtain rfl := h9.symm
    refine wx_ildn j20_30 rfl ?_
    refine wx_i2 j20_31 rfl rfl rfl (Nat.le_of_ble_eq_true rfl) (sh_ro (by omega)) (tp_find hs (j := 7) (by decide) (h.2.2.2 m (Nat.lt_succ_self m)).2.1 ht hb hx) ?_
    rintro _ d9 ⟨rfl, h9⟩
    obtain rfl := h9.symm
    refine wx_ri j20_34 rfl rfl ?_
    exact ⟨by rw [hkd], rfl⟩
  · simp only [ax_cn, Classical.not_not] at c4
    have hf : fl m = false := by
      have := bB_1.mp c4
      simpa using this
    have hkd : kd fl m = 6 := by unfold kd; rw [hf]; rfl
    refine wx_aldn j20_7 rfl ?_
    refine wx_get (v := .ref _) j20_8 (sh_gr hs) (Nat.le_of_ble_eq_true rfl) rfl ?_
    refine wx_aldn j20_11 rfl ?_
    refine wx_i0 j20_12 rfl  (Nat.le_of_ble_eq_true rfl) (sh_gr hs) (sp_name hs h) ?_
    rintro _ d9 ⟨rfl, h9⟩
    obtain rfl := h9.symm
    refine wx_ildn j20_15 rfl ?_
    refine wx_i2 j20_16 rfl rfl rfl (Nat.le_of_ble_eq_true rfl) (sh_ro (by omega)) (tp_find hs (j := 6) (by decide) (h.2.2.2 m (Nat.lt_succ_self m)).2.1 ht hb hx) ?_
    rintro _ d9 ⟨rfl, h9⟩
    obtain rfl := h9.symm
    refine wx_goto 34 j20_19 (by decide) ?_
    refine wx_ri j20_34 rfl rfl ?_
    exact ⟨by rw [hkd], rfl⟩
theorem fi_31 {j k c : Nat} (h : tb_is d s T) (hj : j < 8) (hk : k < ax_nr j) : ∀ i, fi (T j k) c = some i → i < 2 ^ 31 := fun i hi => by
  have h1 := fi_lt hi
  have h2 := tb_l20 h hj hk
  omega
theorem sp_learn (hs : s < 2) (h : gr_is d s (m + 1) nm fl b) (ht : tb_is d s T) (hb : TB T) (hx : x < tB) : ax_E 21 [.ref (521 + s), .int (nI x)] d (ax_Pv fun d1 => tb_is d1 s (tln T (kd fl m) (nm m) x) ∧ tb_fr d d1 s) := by
  show ax_W 21 0 [some (.ref (521 + s)), some (.int (nI x))] [] d _
  refine wx_aldn j21_0 rfl ?_
  refine wx_ildn j21_1 rfl ?_
  refine wx_i1 j21_2 rfl rfl (Nat.le_of_ble_eq_true rfl) (sh_gr hs) (sp_findCode hs h ht hb hx) ?_
  rintro _ d9 ⟨rfl, h9⟩
  obtain rfl := h9.symm
  refine wx_icst (v := (-1)) j21_5 (by decide) ?_
  have hkn : nm m < ax_nr (kd fl m) := by
    have := (h.2.2.2 m (Nat.lt_succ_self m)).2.1
    unfold kd
    split <;> exact this
  refine wx_cmp 10 j21_6 (by decide) (fun c6 => ?_) (fun c6 => ?_)
  · simp only [ax_cn, Classical.not_not] at c6
    have hno : fi (T (kd fl m) (nm m)) x = none := (oi_neg (fi_31 ht (kd_lt fl m) hkn)).mp c6
    refine wx_aldn j21_10 rfl ?_
    refine wx_i0 j21_11 rfl  (Nat.le_of_ble_eq_true rfl) (sh_gr hs) (sp_isInTag hs h) ?_
    rintro _ d9 ⟨rfl, h9⟩
    obtain rfl := h9.symm
    refine wx_if 32 j21_14 (by decide) (fun c14 => ?_) (fun c14 => ?_)
    · simp only [ax_cn, Classical.not_not] at c14
      have hf : fl m = true := by
        have := bB_0.mp c14
        simpa using this
      have hkd : kd fl m = 7 := by unfold kd; rw [if_pos hf]
      refine wx_aldn j21_32 rfl ?_
      refine wx_get (v := .ref _) j21_33 (sh_gr hs) (Nat.le_of_ble_eq_true rfl) rfl ?_
      refine wx_aldn j21_36 rfl ?_
      refine wx_i0 j21_37 rfl  (Nat.le_of_ble_eq_true rfl) (sh_gr hs) (sp_name hs h) ?_
      rintro _ d9 ⟨rfl, h9⟩
      obtain rfl := h9.symm
      refine wx_ildn j21_40 rfl ?_
      refine wx_v2 j21_41 rfl rfl rfl (Nat.le_of_ble_eq_true rfl) (sh_ro (by omega)) (tp_first hs (j := 7) (by decide) (h.2.2.2 m (Nat.lt_succ_self m)).2.1 ht) ?_
      rintro d1 ⟨h1, hf1⟩
      refine wx_rv j21_44 rfl ?_
      exact ⟨by unfold tln; rw [hno, hkd]; exact h1, rw_tb hf1 (by decide)⟩
    · simp only [ax_cn, Classical.not_not] at c14
      have hf : fl m = false := by
        have := bB_1.mp c14
        simpa using this
      have hkd : kd fl m = 6 := by unfold kd; rw [hf]; rfl
      refine wx_aldn j21_17 rfl ?_
      refine wx_get (v := .ref _) j21_18 (sh_gr hs) (Nat.le_of_ble_eq_true rfl) rfl ?_
      refine wx_aldn j21_21 rfl ?_
      refine wx_i0 j21_22 rfl  (Nat.le_of_ble_eq_true rfl) (sh_gr hs) (sp_name hs h) ?_
      rintro _ d9 ⟨rfl, h9⟩
      obtain rfl := h9.symm
      refine wx_ildn j21_25 rfl ?_
      refine wx_v2 j21_26 rfl rfl rfl (Nat.le_of_ble_eq_true rfl) (sh_ro (by omega)) (tp_first hs (j := 6) (by decide) (h.2.2.2 m (Nat.lt_succ_self m)).2.1 ht) ?_
      rintro d1 ⟨h1, hf1⟩
      refine wx_goto 44 j21_29 (by decide) ?_
      refine wx_rv j21_44 rfl ?_
      exact ⟨by unfold tln; rw [hno, hkd]; exact h1, rw_tb hf1 (by decide)⟩
  · simp only [ax_cn, Classical.not_not] at c6
    obtain ⟨q, hq⟩ : ∃ q, fi (T (kd fl m) (nm m)) x = some q := by
      cases hfi : fi (T (kd fl m) (nm m)) x with
      | none => exact absurd ((oi_neg (fi_31 ht (kd_lt fl m) hkn)).mpr hfi) c6
      | some q => exact ⟨q, rfl⟩
    refine wx_rv j21_9 rfl ?_
    exact ⟨by unfold tln; rw [hq]; exact ht, tb_fr_rf d s⟩
/-- what begin leaves: the two rows of codes are empty, no element is open -/
theorem sp_gbegin (hs : s < 2) : ax_E 7 [.ref (521 + s)] d (ax_Pv fun d1 => rw_is d1 (8 * s + 6) (fun _ => []) ∧ rw_is d1 (8 * s + 7) (fun _ => []) ∧ (∀ nm fl, gr_is d1 s 0 nm fl false) ∧ ∀ id, (id < 32 * (8 * s + 6) ∨ 32 * (8 * s + 8) ≤ id) → id ≠ 521 + s → d1 id = d id) := by
  show ax_W 7 0 [some (.ref (521 + s))] [] d _
  refine wx_aldn j7_0 rfl ?_
  refine wx_get (v := .ref _) j7_1 (sh_gr hs) (Nat.le_of_ble_eq_true rfl) rfl ?_
  refine wx_v0 j7_4 rfl  (Nat.le_of_ble_eq_true rfl) (sh_ro (by omega)) (sp_forget (by omega)) ?_
  rintro d1 ⟨h1, hf1⟩
  refine wx_aldn j7_7 rfl ?_
  refine wx_get (v := .ref _) j7_8 (sh_gr hs) (Nat.le_of_ble_eq_true rfl) rfl ?_
  refine wx_v0 j7_11 rfl  (Nat.le_of_ble_eq_true rfl) (sh_ro (by omega)) (sp_forget (by omega)) ?_
  rintro d2 ⟨h2, hf2⟩
  refine wx_aldn j7_14 rfl ?_
  refine wx_icst (v := nI 0) j7_15 (by decide) ?_
  refine wx_put j7_16 (sh_gr hs) (Nat.le_of_ble_eq_true rfl) rfl rfl rfl ?_
  refine wx_aldn j7_19 rfl ?_
  refine wx_icst (v := nI 0) j7_20 (by decide) ?_
  refine wx_put j7_21 (sh_gr hs) (Nat.le_of_ble_eq_true rfl) rfl rfl rfl ?_
  refine wx_rv j7_24 rfl ?_
  have k1 : ∀ id, id < 512 → ax_up (ax_up d2 (521 + s) 4 (nI 0)) (521 + s) 5 (nI 0) id = d2 id := fun id hid => by rw [ax_up_ne (by omega), ax_up_ne (by omega)]
  refine ⟨?_, ?_, fun nm fl => ⟨by decide, by rw [up_nk (by decide), up_at], by rw [up_at]; rfl, fun i hi => absurd hi (Nat.not_lt_zero i)⟩, fun id a1 a2 => ?_⟩
  · have h3 := rw_keep h1 hf2 (by omega)
    intro k hk
    have := nr_le (8 * s + 6)
    rw [k1 _ (by omega), k1 _ (by omega)]
    exact h3 k hk
  · intro k hk
    have := nr_le (8 * s + 7)
    rw [k1 _ (by omega), k1 _ (by omega)]
    exact h2 k hk
  · rw [ax_up_ne a2, ax_up_ne a2, hf2 id (by omega), hf1 id (by omega)]
end GR
end
section
/-! WRITING, the small words: places, numbers, letters; and the class's static methods. -/
def wd (m : Nat) : Nat := if m ≤ 1 then 0 else if m ≤ 2 then 1 else if m ≤ 4 then 2 else if m ≤ 8 then 3 else if m ≤ 16 then 4 else 5
theorem wd_5 (m : Nat) : wd m ≤ 5 := by unfold wd; (repeat' split) <;> omega
theorem wd_le {m b : Nat} (h : m ≤ 2 ^ b) (hb : b ≤ 5) : wd m ≤ b := by
  unfold wd
  match b, hb with
  | 0, _ => simp at h; simp [h]
  | 1, _ => simp at h; (repeat' split) <;> omega
  | 2, _ => simp at h; (repeat' split) <;> omega
  | 3, _ => simp at h; (repeat' split) <;> omega
  | 4, _ => simp at h; (repeat' split) <;> omega
  | 5, _ => (repeat' split) <;> omega
theorem wd_lt {m b : Nat} (h : ¬ m ≤ 2 ^ b) (hm : m ≤ 32) : b < wd m := by
  unfold wd
  match b with
  | 0 => simp at h; (repeat' split) <;> omega
  | 1 => simp at h; (repeat' split) <;> omega
  | 2 => simp at h; (repeat' split) <;> omega
  | 3 => simp at h; (repeat' split) <;> omega
  | 4 => simp at h; (repeat' split) <;> omega
  | b + 5 =>
    exfalso
    have : 2 ^ 5 ≤ 2 ^ (b + 5) := Nat.pow_le_pow_right (by decide) (by omega)
    omega
def nb (v : Nat) : List Nat := if v < 8 then pb 4 v else pb 4 (8 + v % 8) ++ pb 4 (v / 8)
def ltr : Nat → Nat → List Nat
  | 0, _ => []
  | f + 1, t => if t = 0 then [] else nb (t % 27) ++ ltr f (t / 27)
def lts (t : Nat) : List Nat := ltr 5 t
def clr : Nat → Nat → Nat
  | 0, _ => 0
  | f + 1, t => if t = 0 then 0 else 1 + clr f (t / 27)
def cl (t : Nat) : Nat := clr 5 t
theorem nb_len (v : Nat) : (nb v).length ≤ 8 := by unfold nb; split <;> simp [pb_len]
theorem ltr_len : ∀ f t, (ltr f t).length ≤ 8 * f
  | 0, _ => Nat.le_refl 0
  | f + 1, t => by
    unfold ltr
    split
    · exact Nat.zero_le _
    · have h1 := nb_len (t % 27)
      have h2 := ltr_len f (t / 27)
      rw [List.length_append]
      omega
theorem lts_len (t : Nat) : (lts t).length ≤ 40 := ltr_len 5 t
theorem clr_le : ∀ f t, clr f t ≤ f
  | 0, _ => Nat.le_refl 0
  | f + 1, t => by
    unfold clr
    split
    · exact Nat.zero_le _
    · have := clr_le f (t / 27)
      omega
theorem cl_le (t : Nat) : cl t ≤ 5 := clr_le 5 t
section ST
variable {d : ax_D} {l : List Nat}
theorem pb_loop {m : Nat} (hm : m ≤ 32) : ∀ n b, 6 - b < n → b ≤ wd m → ax_W 80 2 [some (.int (nI m)), some (.int (nI b))] [] d (ax_Pi fun y d1 => y = nI (wd m) ∧ d1 = d) := by
  have h5 := wd_5 m
  intro n
  induction n with
  | zero => intro b h0; omega
  | succ n ih =>
    intro b h0 hb
    have hsh : nI 1 <<< (nI b &&& 31) = nI (2 ^ b) := by
      rw [pk_shlN (nI b &&& 31) b (sh_amt b (by omega)) (by rw [Nat.one_mul]; exact Nat.lt_of_le_of_lt (Nat.pow_le_pow_right (by decide) (show b ≤ 5 by omega)) (by decide)), Nat.one_mul]
    have hp : 2 ^ b < 2 ^ 31 := Nat.pow_lt_pow_right (by decide) (by omega)
    refine wx_ildn j80_2 rfl ?_
    refine wx_bpsh (v := nI 30) j80_3 (by decide) ?_
    refine wx_cmp 21 j80_5 (by decide) (fun c5 => ?_) (fun c5 => ?_)
    · simp only [ax_cn, Classical.not_not] at c5
      exact absurd c5 (nI_ge (by omega) (by decide))
    · simp only [ax_cn, Classical.not_not] at c5
      refine wx_icst (v := nI 1) j80_8 (by decide) ?_
      refine wx_ildn j80_9 rfl ?_
      refine wx_ishl j80_10 ?_
      rw [hsh]
      refine wx_ildn j80_11 rfl ?_
      refine wx_cmp 21 j80_12 (by decide) (fun c12 => ?_) (fun c12 => ?_)
      · simp only [ax_cn, Classical.not_not] at c12
        have he : b = wd m := Nat.le_antisymm hb (wd_le ((nI_leI (by omega) hp).mp c12) (by omega))
        refine wx_ildn j80_21 rfl ?_
        refine wx_ri j80_22 rfl rfl ?_
        exact ⟨by rw [he], rfl⟩
      · simp only [ax_cn, Classical.not_not] at c12
        have he : b < wd m := wd_lt (fun q => c12 ((nI_leI (by omega) hp).mpr q)) hm
        refine wx_iinc (v := nI (b + 1)) (L' := [_, some (.int _)]) j80_15 rfl (nI_1 b) rfl ?_
        refine wx_goto 2 j80_18 (by decide) ?_
        exact ih (b + 1) (by omega) he
theorem sp_placeBits {m : Nat} (hm : m ≤ 32) : ax_E 80 [.int (nI m)] d (ax_Pi fun y d1 => y = nI (wd m) ∧ d1 = d) := by
  show ax_W 80 0 [some (.int (nI m)), none] [] d _
  refine wx_icst (v := nI 0) j80_0 (by decide) ?_
  refine wx_istn (L' := [_, some (.int _)]) j80_1 (Nat.le_of_ble_eq_true rfl) rfl ?_
  exact pb_loop hm 7 0 (by omega) (Nat.zero_le _)
theorem cl_loop {x : Int32} : ∀ f c t, c + f = 5 → t < 2 ^ 31 → ax_W 79 4 [some (.int x), some (.int (nI c)), some (.int (nI t))] [] d (ax_Pi fun y d1 => y = nI (c + clr f t) ∧ d1 = d) := by
  intro f
  induction f with
  | zero =>
    intro c t hc ht
    obtain rfl : c = 5 := by omega
    refine wx_ildn j79_4 rfl ?_
    refine wx_icst (v := nI 5) j79_5 (by decide) ?_
    refine wx_cmp 24 j79_6 (by decide) (fun c6 => ?_) (fun c6 => ?_)
    · simp only [ax_cn, Classical.not_not] at c6
      refine wx_ildn j79_24 rfl ?_
      refine wx_ri j79_25 rfl rfl ?_
      exact ⟨rfl, rfl⟩
    · simp only [ax_cn, Classical.not_not] at c6
      exact absurd (show nI 5 ≤ nI 5 by decide) c6
  | succ f ih =>
    intro c t hc ht
    refine wx_ildn j79_4 rfl ?_
    refine wx_icst (v := nI 5) j79_5 (by decide) ?_
    refine wx_cmp 24 j79_6 (by decide) (fun c6 => ?_) (fun c6 => ?_)
    · simp only [ax_cn, Classical.not_not] at c6
      exact absurd c6 (nI_ge (by omega) (by decide))
    · simp only [ax_cn, Classical.not_not] at c6
      refine wx_ildn j79_9 rfl ?_
      refine wx_if 24 j79_10 (by decide) (fun c10 => ?_) (fun c10 => ?_)
      · simp only [ax_cn, Classical.not_not] at c10
        have ht0 : t = 0 := Nat.eq_zero_of_not_pos (fun q => nI_nle q ht c10)
        refine wx_ildn j79_24 rfl ?_
        refine wx_ri j79_25 rfl rfl ?_
        exact ⟨by show nI c = nI (c + (if t = 0 then 0 else 1 + clr f (t / 27))); rw [if_pos ht0]; rfl, rfl⟩
      · simp only [ax_cn, Classical.not_not] at c10
        have ht0 : ¬ t = 0 := fun q => c10 (by rw [q]; decide)
        refine wx_ildn j79_13 rfl ?_
        refine wx_bpsh (v := nI 27) j79_14 (by decide) ?_
        refine wx_idiv j79_16 (by decide) ?_
        rw [pk_div ht (by decide) (by decide)]
        refine wx_istn (L' := [_, _, some (.int _)]) j79_17 (Nat.le_of_ble_eq_true rfl) rfl ?_
        refine wx_iinc (v := nI (c + 1)) (L' := [_, some (.int _), _]) j79_18 rfl (nI_1 c) rfl ?_
        refine wx_goto 4 j79_21 (by decide) ?_
        have h2 := ih (c + 1) (t / 27) (by omega) (Nat.lt_of_le_of_lt (Nat.div_le_self _ _) ht)
        have e : c + clr (f + 1) t = c + 1 + clr f (t / 27) := by show c + (if t = 0 then 0 else 1 + clr f (t / 27)) = _; rw [if_neg ht0]; omega
        rw [e]
        exact h2
theorem sp_countL {t : Nat} (ht : t < tB) : ax_E 79 [.int (nI t)] d (ax_Pi fun y d1 => y = nI (cl t) ∧ d1 = d) := by
  show ax_W 79 0 [some (.int (nI t)), none, none] [] d _
  refine wx_icst (v := nI 0) j79_0 (by decide) ?_
  refine wx_istn (L' := [_, some (.int _), _]) j79_1 (Nat.le_of_ble_eq_true rfl) rfl ?_
  refine wx_ildn j79_2 rfl ?_
  refine wx_istn (L' := [_, _, some (.int _)]) j79_3 (Nat.le_of_ble_eq_true rfl) rfl ?_
  have h2 := cl_loop (d := d) (x := nI t) 5 0 t rfl (tB_lt ht)
  rw [Nat.zero_add] at h2
  exact h2
theorem sp_codeOf {k n : Nat} : ax_E 82 [.int (nI k), .int (nI n)] d (ax_Pi fun y d1 => y = nI (n * 8 + k) ∧ d1 = d) := by
  show ax_W 82 0 [some (.int (nI k)), some (.int (nI n))] [] d _
  refine wx_ildn j82_0 rfl ?_
  refine wx_bpsh (v := nI 8) j82_1 (by decide) ?_
  refine wx_imul j82_3 ?_
  rw [pk_mul]
  refine wx_ildn j82_4 rfl ?_
  refine wx_iadd j82_5 ?_
  rw [nI_add]
  refine wx_ri j82_6 rfl rfl ?_
  exact ⟨rfl, rfl⟩
theorem sp_kindOf {c : Nat} (hc : c < 2 ^ 31) : ax_E 83 [.int (nI c)] d (ax_Pi fun y d1 => y = nI (c % 8) ∧ d1 = d) := by
  show ax_W 83 0 [some (.int (nI c))] [] d _
  refine wx_ildn j83_0 rfl ?_
  refine wx_bpsh (v := nI 8) j83_1 (by decide) ?_
  refine wx_irem j83_3 (by decide) ?_
  rw [pk_rem hc (by decide) (by decide)]
  refine wx_ri j83_4 rfl rfl ?_
  exact ⟨rfl, rfl⟩
theorem sp_nameOf {c : Nat} (hc : c < 2 ^ 31) : ax_E 84 [.int (nI c)] d (ax_Pi fun y d1 => y = nI (c / 8) ∧ d1 = d) := by
  show ax_W 84 0 [some (.int (nI c))] [] d _
  refine wx_ildn j84_0 rfl ?_
  refine wx_bpsh (v := nI 8) j84_1 (by decide) ?_
  refine wx_idiv j84_3 (by decide) ?_
  rw [pk_div hc (by decide) (by decide)]
  refine wx_ri j84_4 rfl rfl ?_
  exact ⟨rfl, rfl⟩
theorem sp_isNamed {k : Nat} (hk : k < 2 ^ 31) : ax_E 81 [.int (nI k)] d (ax_Pi fun y d1 => y = bB (decide (k = 1 ∨ k = 2)) ∧ d1 = d) := by
  show ax_W 81 0 [some (.int (nI k))] [] d _
  refine wx_ildn j81_0 rfl ?_
  refine wx_icst (v := nI 1) j81_1 (by decide) ?_
  refine wx_cmp 10 j81_2 (by decide) (fun c2 => ?_) (fun c2 => ?_)
  · simp only [ax_cn, Classical.not_not] at c2
    have e := (nI_eq hk (by decide)).mp c2
    refine wx_icst (v := nI 1) j81_10 (by decide) ?_
    refine wx_goto 15 j81_11 (by decide) ?_
    refine wx_ri j81_15 rfl rfl ?_
    exact ⟨by rw [decide_eq_true (Or.inl e)]; rfl, rfl⟩
  · simp only [ax_cn, Classical.not_not] at c2
    have e : ¬ k = 1 := fun q => c2 (by rw [q])
    refine wx_ildn j81_5 rfl ?_
    refine wx_icst (v := nI 2) j81_6 (by decide) ?_
    refine wx_cmp 14 j81_7 (by decide) (fun c7 => ?_) (fun c7 => ?_)
    · simp only [ax_cn, Classical.not_not] at c7
      have e2 : ¬ k = 2 := fun q => c7 (by rw [q])
      refine wx_icst (v := nI 0) j81_14 (by decide) ?_
      refine wx_ri j81_15 rfl rfl ?_
      exact ⟨by rw [decide_eq_false (fun q => q.elim e e2)]; rfl, rfl⟩
    · simp only [ax_cn, Classical.not_not] at c7
      have e2 := (nI_eq hk (by decide)).mp c7
      refine wx_icst (v := nI 1) j81_10 (by decide) ?_
      refine wx_goto 15 j81_11 (by decide) ?_
      refine wx_ri j81_15 rfl rfl ?_
      exact ⟨by rw [decide_eq_true (Or.inr e2)]; rfl, rfl⟩
/-- digits to the base of 27, none of them 0, at most f -/
def dz : Nat → Nat → Bool
  | 0, t => decide (t = 0)
  | f + 1, t => decide (t = 0) || (decide (t % 27 ≠ 0) && dz f (t / 27))
/-- a text -/
def tx (x : Int32) : Bool := decide (¬ x < 0) && dz 5 x.toNatClampNeg
theorem dz_lt : ∀ f t, dz f t = true → t < 27 ^ f
  | 0, t, h => by have := of_decide_eq_true h; omega
  | f + 1, t, h => by
    unfold dz at h
    rw [Bool.or_eq_true, Bool.and_eq_true] at h
    rcases h with h | h
    · have := of_decide_eq_true h
      rw [this]
      exact Nat.pow_pos (by decide)
    · have h1 := dz_lt f (t / 27) h.2
      rw [Nat.pow_succ]
      omega
theorem tx_of {x : Int32} (h : tx x = true) : ∃ t, t < tB ∧ x = nI t ∧ dz 5 t = true := by
  unfold tx at h
  rw [Bool.and_eq_true] at h
  obtain ⟨j, hj, rfl⟩ := nI_of (of_decide_eq_true h.1)
  have h2 := h.2
  rw [nI_clamp hj] at h2
  exact ⟨j, dz_lt 5 j h2, rfl, h2⟩
theorem tx_nI {t : Nat} (ht : t < 2 ^ 31) : tx (nI t) = dz 5 t := by
  unfold tx
  rw [decide_eq_true (nI_pos ht), nI_clamp ht]
  rfl
theorem it_loop {x : Int32} : ∀ f c t, c + f = 5 → t < 2 ^ 31 → ax_W 77 4 [some (.int x), some (.int (nI t)), some (.int (nI c))] [] d (ax_Pi fun y d1 => y = bB (dz f t) ∧ d1 = d) := by
  intro f
  induction f with
  | zero =>
    intro c t hc ht
    obtain rfl : c = 5 := by omega
    refine wx_ildn j77_4 rfl ?_
    refine wx_icst (v := nI 5) j77_5 (by decide) ?_
    refine wx_cmp 33 j77_6 (by decide) (fun c6 => ?_) (fun c6 => ?_)
    · simp only [ax_cn, Classical.not_not] at c6
      refine wx_ildn j77_33 rfl ?_
      refine wx_if 41 j77_34 (by decide) (fun c34 => ?_) (fun c34 => ?_)
      · simp only [ax_cn, Classical.not_not] at c34
        have e : ¬ t = 0 := fun q => c34 (by rw [q]; rfl)
        refine wx_icst (v := nI 0) j77_41 (by decide) ?_
        refine wx_ri j77_42 rfl rfl ?_
        exact ⟨by unfold dz; rw [decide_eq_false e]; rfl, rfl⟩
      · simp only [ax_cn, Classical.not_not] at c34
        have e : t = 0 := (nI_eq ht (by decide)).mp (c34.trans nI_0.symm)
        refine wx_icst (v := nI 1) j77_37 (by decide) ?_
        refine wx_goto 42 j77_38 (by decide) ?_
        refine wx_ri j77_42 rfl rfl ?_
        exact ⟨by unfold dz; rw [decide_eq_true e]; rfl, rfl⟩
    · simp only [ax_cn, Classical.not_not] at c6
      exact absurd (show nI 5 ≤ nI 5 by decide) c6
  | succ f ih =>
    intro c t hc ht
    refine wx_ildn j77_4 rfl ?_
    refine wx_icst (v := nI 5) j77_5 (by decide) ?_
    refine wx_cmp 33 j77_6 (by decide) (fun c6 => ?_) (fun c6 => ?_)
    · simp only [ax_cn, Classical.not_not] at c6
      exact absurd c6 (nI_ge (by omega) (by decide))
    · simp only [ax_cn, Classical.not_not] at c6
      refine wx_ildn j77_9 rfl ?_
      refine wx_if 33 j77_10 (by decide) (fun c10 => ?_) (fun c10 => ?_)
      · simp only [ax_cn, Classical.not_not] at c10
        have ht0 : t = 0 := Nat.eq_zero_of_not_pos (fun q => nI_nle q ht c10)
        refine wx_ildn j77_33 rfl ?_
        refine wx_if 41 j77_34 (by decide) (fun c34 => ?_) (fun c34 => ?_)
        · simp only [ax_cn, Classical.not_not] at c34
          exact absurd (show nI t = 0 by rw [ht0]; rfl) c34
        · simp only [ax_cn, Classical.not_not] at c34
          refine wx_icst (v := nI 1) j77_37 (by decide) ?_
          refine wx_goto 42 j77_38 (by decide) ?_
          refine wx_ri j77_42 rfl rfl ?_
          exact ⟨by show nI 1 = bB (decide (t = 0) || (decide (t % 27 ≠ 0) && dz f (t / 27))); rw [decide_eq_true ht0]; rfl, rfl⟩
      · simp only [ax_cn, Classical.not_not] at c10
        have ht0 : ¬ t = 0 := fun q => c10 (by rw [q]; decide)
        refine wx_ildn j77_13 rfl ?_
        refine wx_bpsh (v := nI 27) j77_14 (by decide) ?_
        refine wx_irem j77_16 (by decide) ?_
        rw [pk_rem ht (by decide) (by decide)]
        refine wx_if 22 j77_17 (by decide) (fun c17 => ?_) (fun c17 => ?_)
        · simp only [ax_cn, Classical.not_not] at c17
          have hr : ¬ t % 27 = 0 := fun q => c17 (by rw [q]; rfl)
          refine wx_ildn j77_22 rfl ?_
          refine wx_bpsh (v := nI 27) j77_23 (by decide) ?_
          refine wx_idiv j77_25 (by decide) ?_
          rw [pk_div ht (by decide) (by decide)]
          refine wx_istn (L' := [_, some (.int _), _]) j77_26 (Nat.le_of_ble_eq_true rfl) rfl ?_
          refine wx_iinc (v := nI (c + 1)) (L' := [_, _, some (.int _)]) j77_27 rfl (nI_1 c) rfl ?_
          refine wx_goto 4 j77_30 (by decide) ?_
          have h2 := ih (c + 1) (t / 27) (by omega) (Nat.lt_of_le_of_lt (Nat.div_le_self _ _) ht)
          have e : dz (f + 1) t = dz f (t / 27) := by show (decide (t = 0) || (decide (t % 27 ≠ 0) && dz f (t / 27))) = _; rw [decide_eq_false ht0, decide_eq_true hr]; rfl
          rw [e]
          exact h2
        · simp only [ax_cn, Classical.not_not] at c17
          have hr : t % 27 = 0 := (nI_eq (by omega) (by decide)).mp (c17.trans nI_0.symm)
          refine wx_icst (v := nI 0) j77_20 (by decide) ?_
          refine wx_ri j77_21 rfl rfl ?_
          exact ⟨by show nI 0 = bB (decide (t = 0) || (decide (t % 27 ≠ 0) && dz f (t / 27))); rw [decide_eq_false ht0, decide_eq_false (fun q => q hr)]; rfl, rfl⟩
theorem sp_isText {x : Int32} : ax_E 77 [.int x] d (ax_Pi fun y d1 => y = bB (tx x) ∧ d1 = d) := by
  show ax_W 77 0 [some (.int x), none, none] [] d _
  refine wx_ildn j77_0 rfl ?_
  refine wx_istn (L' := [_, some (.int _), _]) j77_1 (Nat.le_of_ble_eq_true rfl) rfl ?_
  refine wx_icst (v := nI 0) j77_2 (by decide) ?_
  refine wx_istn (L' := [_, _, some (.int _)]) j77_3 (Nat.le_of_ble_eq_true rfl) rfl ?_
  by_cases hx : x < 0
  · refine wx_ildn j77_4 rfl ?_
    refine wx_icst (v := nI 5) j77_5 (by decide) ?_
    refine wx_cmp 33 j77_6 (by decide) (fun c6 => ?_) (fun c6 => ?_)
    · exact absurd (show nI 5 ≤ nI 0 from c6) (by decide)
    · refine wx_ildn j77_9 rfl ?_
      refine wx_if 33 j77_10 (by decide) (fun c10 => ?_) (fun c10 => ?_)
      · refine wx_ildn j77_33 rfl ?_
        refine wx_if 41 j77_34 (by decide) (fun c34 => ?_) (fun c34 => ?_)
        · refine wx_icst (v := nI 0) j77_41 (by decide) ?_
          refine wx_ri j77_42 rfl rfl ?_
          exact ⟨by unfold tx; rw [decide_eq_false (fun q => q hx)]; rfl, rfl⟩
        · simp only [ax_cn, Classical.not_not] at c34
          rw [c34] at hx
          exact absurd hx (by decide)
      · simp only [ax_cn] at c10
        exact absurd (Int32.le_of_lt hx) c10
  · obtain ⟨t, ht, rfl⟩ := nI_of hx
    rw [tx_nI ht]
    exact it_loop 5 0 t rfl ht
theorem sp_isName {x y : Int32} : ax_E 78 [.int x, .int y] d (ax_Pi fun z d1 => z = bB (tx x && (tx y && decide (y ≠ 0))) ∧ d1 = d) := by
  show ax_W 78 0 [some (.int x), some (.int y)] [] d _
  refine wx_ildn j78_0 rfl ?_
  refine wx_t1 j78_1 rfl rfl (Nat.le_of_ble_eq_true rfl) (sp_isText) ?_
  rintro _ d9 ⟨rfl, h9⟩
  obtain rfl := h9.symm
  refine wx_if 22 j78_4 (by decide) (fun c4 => ?_) (fun c4 => ?_)
  · simp only [ax_cn, Classical.not_not] at c4
    have e1 := bB_0.mp c4
    refine wx_icst (v := nI 0) j78_22 (by decide) ?_
    refine wx_ri j78_23 rfl rfl ?_
    exact ⟨by rw [e1]; rfl, rfl⟩
  · simp only [ax_cn, Classical.not_not] at c4
    have e1 := bB_1.mp c4
    refine wx_ildn j78_7 rfl ?_
    refine wx_t1 j78_8 rfl rfl (Nat.le_of_ble_eq_true rfl) (sp_isText) ?_
    rintro _ d9 ⟨rfl, h9⟩
    obtain rfl := h9.symm
    refine wx_if 22 j78_11 (by decide) (fun c11 => ?_) (fun c11 => ?_)
    · simp only [ax_cn, Classical.not_not] at c11
      have e2 := bB_0.mp c11
      refine wx_icst (v := nI 0) j78_22 (by decide) ?_
      refine wx_ri j78_23 rfl rfl ?_
      exact ⟨by rw [e1, e2]; rfl, rfl⟩
    · simp only [ax_cn, Classical.not_not] at c11
      have e2 := bB_1.mp c11
      refine wx_ildn j78_14 rfl ?_
      refine wx_if 22 j78_15 (by decide) (fun c15 => ?_) (fun c15 => ?_)
      · simp only [ax_cn, Classical.not_not] at c15
        refine wx_icst (v := nI 0) j78_22 (by decide) ?_
        refine wx_ri j78_23 rfl rfl ?_
        exact ⟨by rw [e1, e2, decide_eq_false (fun q => q c15)]; rfl, rfl⟩
      · simp only [ax_cn, Classical.not_not] at c15
        refine wx_icst (v := nI 1) j78_18 (by decide) ?_
        refine wx_goto 23 j78_19 (by decide) ?_
        refine wx_ri j78_23 rfl rfl ?_
        exact ⟨by rw [e1, e2, decide_eq_true c15]; rfl, rfl⟩
end ST
end
section
/-! WRITING, names and values. -/
def sSp (T : TT) (sp : Nat) : List Nat × TT × Nat := match fi (T 0 0) sp with
  | some p => (pb (wd ((T 0 0).length + 1)) (p + 1), T, p)
  | none => (pb (wd ((T 0 0).length + 1)) 0 ++ (nb (cl sp) ++ lts sp), tst T 0 0 (T 0 0 ++ [sp]), (T 0 0).length)
def sLo (T : TT) (p lo : Nat) : List Nat × TT := match fi (T 1 p) lo with
  | some q => (nb 0 ++ pb (wd (T 1 p).length) q, T)
  | none => (nb (cl lo) ++ lts lo, tst T 1 p (T 1 p ++ [lo]))
def sFo (T : TT) (sp lo : Nat) : TT × Nat := match fn T sp lo with
  | some i => (T, i)
  | none => (tnm T sp lo, (T 4 0).length)
def sNa (T : TT) (sp lo : Nat) : List Nat × TT × Nat :=
  ((sSp T sp).1 ++ (sLo (sSp T sp).2.1 (sSp T sp).2.2 lo).1, (sFo (sLo (sSp T sp).2.1 (sSp T sp).2.2 lo).2 sp lo).1, (sFo (sLo (sSp T sp).2.1 (sSp T sp).2.2 lo).2 sp lo).2)
def sVa (T : TT) (n v : Nat) : List Nat × TT := match fi (T 2 n) v with
  | some p => (nb 0 ++ pb (wd (T 2 n).length) p, T)
  | none => match fi (T 3 0) v with
    | some p => (nb 1 ++ pb (wd (T 3 0).length) p, T)
    | none => (nb (cl v + 2) ++ lts v, tav T n v)
theorem pb_l5 (m v : Nat) : (pb (wd m) v).length ≤ 5 := by rw [pb_len]; exact wd_5 m
theorem sSp_len (T : TT) (sp : Nat) : (sSp T sp).1.length ≤ 53 := by
  have h1 := pb_l5 ((T 0 0).length + 1)
  have h2 := nb_len (cl sp)
  have h3 := lts_len sp
  unfold sSp
  split
  · rename_i q _; have := h1 (q + 1); simp only; omega
  · have := h1 0; simp only [List.length_append]; omega
theorem sLo_len (T : TT) (p lo : Nat) : (sLo T p lo).1.length ≤ 48 := by
  have h1 := pb_l5 (T 1 p).length
  have h2 := nb_len (cl lo)
  have h3 := lts_len lo
  have h4 := nb_len 0
  unfold sLo
  split
  · rename_i q _; have := h1 q; simp only [List.length_append]; omega
  · simp only [List.length_append]; omega
theorem sNa_len (T : TT) (sp lo : Nat) : (sNa T sp lo).1.length ≤ 101 := by
  have h1 := sSp_len T sp
  have h2 := sLo_len (sSp T sp).2.1 (sSp T sp).2.2 lo
  unfold sNa
  simp only [List.length_append]
  omega
theorem sVa_len (T : TT) (n v : Nat) : (sVa T n v).1.length ≤ 48 := by
  have h2 := nb_len (cl v + 2)
  have h3 := lts_len v
  have h4 := nb_len 0
  have h5 := nb_len 1
  unfold sVa
  split
  · have := pb_l5 (T 2 n).length; rename_i q _; have := this q; simp only [List.length_append]; omega
  · split
    · have := pb_l5 (T 3 0).length; rename_i q _; have := this q; simp only [List.length_append]; omega
    · simp only [List.length_append]; omega
theorem mem_app1 {l : List Nat} {x B : Nat} (h : ∀ e, e ∈ l → e < B) (hx : x < B) : ∀ e, e ∈ l ++ [x] → e < B := fun e he => (List.mem_append.mp he).elim (h e) (fun h2 => by rw [List.mem_singleton.mp h2]; exact hx)
theorem sSp_TB {T : TT} {sp : Nat} (h : TB T) (hs : sp < tB) : TB (sSp T sp).2.1 := by
  unfold sSp
  split
  · exact h
  · exact TB_st h (mem_app1 (h 0 0) hs)
theorem sLo_TB {T : TT} {p lo : Nat} (h : TB T) (hs : lo < tB) : TB (sLo T p lo).2 := by
  unfold sLo
  split
  · exact h
  · exact TB_st h (mem_app1 (h 1 p) hs)
theorem tnm_TB {T : TT} {sp lo : Nat} (h : TB T) (hs : sp < tB) (hl : lo < tB) : TB (tnm T sp lo) := TB_st (TB_st h (mem_app1 (h 4 0) hs)) (mem_app1 (h 5 0) hl)
theorem sFo_TB {T : TT} {sp lo : Nat} (h : TB T) (hs : sp < tB) (hl : lo < tB) : TB (sFo T sp lo).1 := by
  unfold sFo
  split
  · exact h
  · exact tnm_TB h hs hl
theorem sNa_TB {T : TT} {sp lo : Nat} (h : TB T) (hs : sp < tB) (hl : lo < tB) : TB (sNa T sp lo).2.1 := sFo_TB (sLo_TB (sSp_TB h hs) hl) hs hl
theorem tav_TB {T : TT} {n v : Nat} (h : TB T) (hv : v < tB) : TB (tav T n v) := by
  unfold tav
  split
  · exact h
  · refine TB_st (TB_st h ?_) ?_
    · split
      · exact mem_app1 (h 2 n) hv
      · exact h 2 n
    · split
      · exact mem_app1 (h 3 0) hv
      · exact h 3 0
theorem sVa_TB {T : TT} {n v : Nat} (h : TB T) (hv : v < tB) : TB (sVa T n v).2 := by
  unfold sVa
  split
  · exact h
  · split
    · exact h
    · exact tav_TB h hv
/-- the names' spaces and local parts are as many -/
def T45 (T : TT) : Prop := (T 4 0).length = (T 5 0).length
theorem T45_st {T : TT} {j k : Nat} {l : List Nat} (h : T45 T) (hj : j ≠ 4) (hj5 : j ≠ 5) : T45 (tst T j k l) := by
  unfold T45
  rw [tst_ne (Or.inl (Ne.symm hj)), tst_ne (Or.inl (Ne.symm hj5))]
  exact h
theorem tnm_45 {T : TT} {sp lo : Nat} (h : T45 T) : T45 (tnm T sp lo) := by
  unfold T45 tnm
  rw [tst_at, tst_ne (Or.inl (by decide)), tst_at, List.length_append, List.length_append, show (T 4 0).length = (T 5 0).length from h]
  rfl
theorem sSp_45 {T : TT} {sp : Nat} (h : T45 T) : T45 (sSp T sp).2.1 := by
  unfold sSp
  split
  · exact h
  · exact T45_st h (by decide) (by decide)
theorem sLo_45 {T : TT} {p lo : Nat} (h : T45 T) : T45 (sLo T p lo).2 := by
  unfold sLo
  split
  · exact h
  · exact T45_st h (by decide) (by decide)
theorem sFo_45 {T : TT} {sp lo : Nat} (h : T45 T) : T45 (sFo T sp lo).1 := by
  unfold sFo
  split
  · exact h
  · exact tnm_45 h
theorem sNa_45 {T : TT} {sp lo : Nat} (h : T45 T) : T45 (sNa T sp lo).2.1 := sFo_45 (sLo_45 (sSp_45 h))
theorem tav_45 {T : TT} {n v : Nat} (h : T45 T) : T45 (tav T n v) := by
  unfold tav
  split
  · exact h
  · exact T45_st (T45_st h (by decide) (by decide)) (by decide) (by decide)
theorem sVa_45 {T : TT} {n v : Nat} (h : T45 T) : T45 (sVa T n v).2 := by
  unfold sVa
  split
  · exact h
  · split
    · exact h
    · exact tav_45 h
/-- what writing may change beside the open elements: the writer's tables and bits -/
def wf (d d1 : ax_D) : Prop := ∀ id, 256 ≤ id → id ≠ 515 → id ≠ 516 → d1 id = d id
theorem wf_rf (d : ax_D) : wf d d := fun _ _ _ _ => rfl
theorem wf_tr {d d1 d2 : ax_D} (h : wf d d1) (h2 : wf d1 d2) : wf d d2 := fun id a b c => (h2 id a b c).trans (h id a b c)
theorem wf_bt {d d1 : ax_D} (h : bt_fr d d1 515) : wf d d1 := fun id _ b c => h id b c
theorem wf_tb {d d1 : ax_D} (h : tb_fr d d1 0) : wf d d1 := fun id a _ _ => h id (Or.inr a)
section WB
variable {d d1 : ax_D} {l : List Nat} {T : TT} {n : Nat} {nm : Nat → Nat} {fl : Nat → Bool} {b : Bool}
theorem tb_bt (h : tb_is d 0 T) (hf : bt_fr d d1 515) : tb_is d1 0 T := tb_same h (fun id hi => hf id (by omega) (by omega)) (by decide)
theorem bt_tb (h : bt_is d 515 l) (hf : tb_fr d d1 0) : bt_is d1 515 l := bt_keep h (hf 515 (by decide)) (hf 516 (by decide))
theorem gr_wf (h : gr_is d 0 n nm fl b) (hf : wf d d1) : gr_is d1 0 n nm fl b := gr_keep h (hf 521 (by decide) (by decide) (by decide)) (hf 523 (by decide) (by decide) (by decide)) (hf 525 (by decide) (by decide) (by decide))
end WB
section WW
variable {d : ax_D} {l : List Nat} {T : TT}
theorem sp_tPlace {q m : Nat} (h : bt_is d 515 l) (hq : q < 2 ^ 31) (hm : m ≤ 32) (hl : l.length + 5 ≤ 4000) : ax_E 72 [.ref 513, .int (nI q), .int (nI m)] d (ax_Pv fun d1 => bt_is d1 515 (l ++ pb (wd m) q) ∧ bt_fr d d1 515) := by
  show ax_W 72 0 [some (.ref 513), some (.int (nI q)), some (.int (nI m))] [] d _
  refine wx_aldn j72_0 rfl ?_
  refine wx_get (v := .ref _) j72_1 rfl (Nat.le_of_ble_eq_true rfl) rfl ?_
  refine wx_ildn j72_4 rfl ?_
  refine wx_ildn j72_5 rfl ?_
  refine wx_t1 j72_6 rfl rfl (Nat.le_of_ble_eq_true rfl) (sp_placeBits hm) ?_
  rintro _ d9 ⟨rfl, h9⟩
  obtain rfl := h9.symm
  refine wx_v2 j72_9 rfl rfl rfl (Nat.le_of_ble_eq_true rfl) rfl (sp_append (Or.inl rfl) h hq (Nat.lt_of_le_of_lt (wd_5 m) (by decide)) (by have := wd_5 m; omega)) ?_
  rintro d1 h1
  refine wx_rv j72_12 rfl ?_
  exact h1
theorem tn_last {x : Int32} {v g : Nat} {d0 : ax_D} (h : bt_is d 515 l) (hl : l.length + 4 ≤ 4000) (hv : v < 8) (hg : g < 4) (hf : bt_fr d0 d 515) : ax_W 71 4 [some (.ref 513), some (.int x), some (.int (nI v)), some (.int (nI g))] [] d (ax_Pv fun d1 => bt_is d1 515 (l ++ pb 4 v) ∧ bt_fr d0 d1 515) := by
  refine wx_ildn j71_4 rfl ?_
  refine wx_icst (v := nI 4) j71_5 (by decide) ?_
  refine wx_cmp 41 j71_6 (by decide) (fun c6 => ?_) (fun c6 => ?_)
  · simp only [ax_cn, Classical.not_not] at c6
    exact absurd c6 (nI_ge hg (by decide))
  · simp only [ax_cn, Classical.not_not] at c6
    refine wx_ildn j71_9 rfl ?_
    refine wx_bpsh (v := nI 8) j71_10 (by decide) ?_
    refine wx_cmp 41 j71_12 (by decide) (fun c12 => ?_) (fun c12 => ?_)
    · simp only [ax_cn, Classical.not_not] at c12
      refine wx_aldn j71_41 rfl ?_
      refine wx_get (v := .ref _) j71_42 rfl (Nat.le_of_ble_eq_true rfl) rfl ?_
      refine wx_ildn j71_45 rfl ?_
      refine wx_icst (v := nI 4) j71_46 (by decide) ?_
      refine wx_v2 j71_47 rfl rfl rfl (Nat.le_of_ble_eq_true rfl) rfl (sp_append (w := 4) (Or.inl rfl) h (by omega) (by decide) (by omega)) ?_
      rintro d1 ⟨h1, hf1⟩
      refine wx_rv j71_50 rfl ?_
      exact ⟨h1, fun id a1 a2 => (hf1 id a1 a2).trans (hf id a1 a2)⟩
    · simp only [ax_cn, Classical.not_not] at c12
      exact absurd (nI_lt hv (by decide)) c12
theorem sp_tNumber {v : Nat} (h : bt_is d 515 l) (hv : v < 64) (hl : l.length + 8 ≤ 4000) : ax_E 71 [.ref 513, .int (nI v)] d (ax_Pv fun d1 => bt_is d1 515 (l ++ nb v) ∧ bt_fr d d1 515) := by
  show ax_W 71 0 [some (.ref 513), some (.int (nI v)), none, none] [] d _
  by_cases h8 : v < 8
  · have e : nb v = pb 4 v := by unfold nb; rw [if_pos h8]
    rw [e]
    refine wx_ildn j71_0 rfl ?_
    refine wx_istn (L' := [_, _, some (.int _), _]) j71_1 (Nat.le_of_ble_eq_true rfl) rfl ?_
    refine wx_icst (v := nI 1) j71_2 (by decide) ?_
    refine wx_istn (L' := [_, _, _, some (.int _)]) j71_3 (Nat.le_of_ble_eq_true rfl) rfl ?_
    exact tn_last h (by omega) h8 (by decide) (bt_fr_rf d 515)
  · have e : nb v = pb 4 (8 + v % 8) ++ pb 4 (v / 8) := by unfold nb; rw [if_neg h8]
    rw [e, ← List.append_assoc]
    refine wx_ildn j71_0 rfl ?_
    refine wx_istn (L' := [_, _, some (.int _), _]) j71_1 (Nat.le_of_ble_eq_true rfl) rfl ?_
    refine wx_icst (v := nI 1) j71_2 (by decide) ?_
    refine wx_istn (L' := [_, _, _, some (.int _)]) j71_3 (Nat.le_of_ble_eq_true rfl) rfl ?_
    refine wx_ildn j71_4 rfl ?_
    refine wx_icst (v := nI 4) j71_5 (by decide) ?_
    refine wx_cmp 41 j71_6 (by decide) (fun c6 => ?_) (fun c6 => ?_)
    · simp only [ax_cn, Classical.not_not] at c6
      exact absurd c6 (by decide)
    · simp only [ax_cn, Classical.not_not] at c6
      refine wx_ildn j71_9 rfl ?_
      refine wx_bpsh (v := nI 8) j71_10 (by decide) ?_
      refine wx_cmp 41 j71_12 (by decide) (fun c12 => ?_) (fun c12 => ?_)
      · simp only [ax_cn, Classical.not_not] at c12
        exact absurd ((nI_ltI (by omega) (by decide)).mp c12) h8
      · simp only [ax_cn, Classical.not_not] at c12
        refine wx_aldn j71_15 rfl ?_
        refine wx_get (v := .ref _) j71_16 rfl (Nat.le_of_ble_eq_true rfl) rfl ?_
        refine wx_bpsh (v := nI 8) j71_19 (by decide) ?_
        refine wx_ildn j71_21 rfl ?_
        refine wx_bpsh (v := nI 8) j71_22 (by decide) ?_
        refine wx_irem j71_24 (by decide) ?_
        rw [pk_rem (by omega) (by decide) (by decide)]
        refine wx_iadd j71_25 ?_
        rw [nI_add]
        refine wx_icst (v := nI 4) j71_26 (by decide) ?_
        refine wx_v2 j71_27 rfl rfl rfl (Nat.le_of_ble_eq_true rfl) rfl (sp_append (v := 8 + v % 8) (w := 4) (Or.inl rfl) h (by omega) (by decide) (by omega)) ?_
        rintro d1 ⟨h1, hf1⟩
        refine wx_ildn j71_30 rfl ?_
        refine wx_bpsh (v := nI 8) j71_31 (by decide) ?_
        refine wx_idiv j71_33 (by decide) ?_
        rw [pk_div (by omega) (by decide) (by decide)]
        refine wx_istn (L' := [_, _, some (.int _), _]) j71_34 (Nat.le_of_ble_eq_true rfl) rfl ?_
        refine wx_iinc (v := nI 2) (L' := [_, _, _, some (.int _)]) j71_35 rfl (by decide) rfl ?_
        refine wx_goto 4 j71_38 (by decide) ?_
        exact tn_last h1 (by rw [List.length_append, pb_len]; omega) (by omega) (by decide) hf1
theorem tl_loop {x : Int32} : ∀ f c t (l : List Nat) (d1 : ax_D), c + f = 5 → t < 2 ^ 31 → bt_is d1 515 l → l.length + 8 * f ≤ 4000 → bt_fr d d1 515 → ax_W 70 4 [some (.ref 513), some (.int x), some (.int (nI t)), some (.int (nI c))] [] d1 (ax_Pv fun d2 => bt_is d2 515 (l ++ ltr f t) ∧ bt_fr d d2 515) := by
  intro f
  induction f with
  | zero =>
    intro c t l d1 hc ht h hl hf
    obtain rfl : c = 5 := by omega
    refine wx_ildn j70_4 rfl ?_
    refine wx_icst (v := nI 5) j70_5 (by decide) ?_
    refine wx_cmp 32 j70_6 (by decide) (fun c6 => ?_) (fun c6 => ?_)
    · simp only [ax_cn, Classical.not_not] at c6
      refine wx_rv j70_32 rfl ?_
      exact ⟨by rw [ltr, List.append_nil]; exact h, hf⟩
    · simp only [ax_cn, Classical.not_not] at c6
      exact absurd (show nI 5 ≤ nI 5 by decide) c6
  | succ f ih =>
    intro c t l d1 hc ht h hl hf
    refine wx_ildn j70_4 rfl ?_
    refine wx_icst (v := nI 5) j70_5 (by decide) ?_
    refine wx_cmp 32 j70_6 (by decide) (fun c6 => ?_) (fun c6 => ?_)
    · simp only [ax_cn, Classical.not_not] at c6
      exact absurd c6 (nI_ge (by omega) (by decide))
    · simp only [ax_cn, Classical.not_not] at c6
      refine wx_ildn j70_9 rfl ?_
      refine wx_if 32 j70_10 (by decide) (fun c10 => ?_) (fun c10 => ?_)
      · simp only [ax_cn, Classical.not_not] at c10
        have ht0 : t = 0 := Nat.eq_zero_of_not_pos (fun q => nI_nle q ht c10)
        refine wx_rv j70_32 rfl ?_
        have e : ltr (f + 1) t = [] := by show (if t = 0 then [] else nb (t % 27) ++ ltr f (t / 27)) = _; rw [if_pos ht0]
        exact ⟨by rw [e, List.append_nil]; exact h, hf⟩
      · simp only [ax_cn, Classical.not_not] at c10
        have ht0 : ¬ t = 0 := fun q => c10 (by rw [q]; decide)
        refine wx_aldn j70_13 rfl ?_
        refine wx_ildn j70_14 rfl ?_
        refine wx_bpsh (v := nI 27) j70_15 (by decide) ?_
        refine wx_irem j70_17 (by decide) ?_
        rw [pk_rem ht (by decide) (by decide)]
        refine wx_v1 j70_18 rfl rfl (Nat.le_of_ble_eq_true rfl) rfl (sp_tNumber h (by omega) (by omega)) ?_
        rintro d2 ⟨h2, hf2⟩
        refine wx_ildn j70_21 rfl ?_
        refine wx_bpsh (v := nI 27) j70_22 (by decide) ?_
        refine wx_idiv j70_24 (by decide) ?_
        rw [pk_div ht (by decide) (by decide)]
        refine wx_istn (L' := [_, _, some (.int _), _]) j70_25 (Nat.le_of_ble_eq_true rfl) rfl ?_
        refine wx_iinc (v := nI (c + 1)) (L' := [_, _, _, some (.int _)]) j70_26 rfl (nI_1 c) rfl ?_
        refine wx_goto 4 j70_29 (by decide) ?_
        have hnl := nb_len (t % 27)
        have h3 := ih (c + 1) (t / 27) (l ++ nb (t % 27)) d2 (by omega) (Nat.lt_of_le_of_lt (Nat.div_le_self _ _) ht) h2 (by rw [List.length_append]; omega) (fun id a1 a2 => (hf2 id a1 a2).trans (hf id a1 a2))
        have e : ltr (f + 1) t = nb (t % 27) ++ ltr f (t / 27) := by show (if t = 0 then [] else nb (t % 27) ++ ltr f (t / 27)) = _; rw [if_neg ht0]
        rw [e, ← List.append_assoc]
        exact h3
theorem sp_tLetters {t : Nat} (h : bt_is d 515 l) (ht : t < tB) (hl : l.length + 40 ≤ 4000) : ax_E 70 [.ref 513, .int (nI t)] d (ax_Pv fun d1 => bt_is d1 515 (l ++ lts t) ∧ bt_fr d d1 515) := by
  show ax_W 70 0 [some (.ref 513), some (.int (nI t)), none, none] [] d _
  refine wx_ildn j70_0 rfl ?_
  refine wx_istn (L' := [_, _, some (.int _), _]) j70_1 (Nat.le_of_ble_eq_true rfl) rfl ?_
  refine wx_icst (v := nI 0) j70_2 (by decide) ?_
  refine wx_istn (L' := [_, _, _, some (.int _)]) j70_3 (Nat.le_of_ble_eq_true rfl) rfl ?_
  exact tl_loop 5 0 t l d rfl (tB_lt ht) h (by omega) (bt_fr_rf d 515)
theorem bl_app {m : List Nat} {k C : Nat} (h1 : m.length ≤ k) (h : l.length + (k + C) ≤ 4000) : (l ++ m).length + C ≤ 4000 := by rw [List.length_append]; omega
theorem oi_some {o : Option Nat} (h : ¬ oi o = -1) : ∃ q, o = some q := by
  cases o with
  | none => exact absurd rfl h
  | some q => exact ⟨q, rfl⟩
theorem sp_tSpace {sp : Nat} (ht : tb_is d 0 T) (h : bt_is d 515 l) (hb : TB T) (hsp : sp < tB) (hroom : fi (T 0 0) sp = none → (T 0 0).length < 6) (hl : l.length + 60 ≤ 4000) : ax_E 67 [.ref 513, .int (nI sp)] d (ax_Pi fun y d1 => y = nI (sSp T sp).2.2 ∧ tb_is d1 0 (sSp T sp).2.1 ∧ bt_is d1 515 (l ++ (sSp T sp).1) ∧ wf d d1) := by
  show ax_W 67 0 [some (.ref 513), some (.int (nI sp)), none, none] [] d _
  refine wx_aldn j67_0 rfl ?_
  refine wx_get (v := .ref _) j67_1 rfl (Nat.le_of_ble_eq_true rfl) rfl ?_
  refine wx_get (v := .ref _) j67_4 rfl (Nat.le_of_ble_eq_true rfl) rfl ?_
  refine wx_icst (v := nI 0) j67_7 (by decide) ?_
  refine wx_i1 j67_8 rfl rfl (Nat.le_of_ble_eq_true rfl) rfl (tp_cnt (s := 0) (j := 0) (k := 0) (by decide) (by decide) (by decide) ht) ?_
  rintro _ d9 ⟨rfl, h9⟩
  obtain rfl := h9.symm
  refine wx_istn (L' := [_, _, some (.int _), _]) j67_11 (Nat.le_of_ble_eq_true rfl) rfl ?_
  refine wx_aldn j67_12 rfl ?_
  refine wx_get (v := .ref _) j67_13 rfl (Nat.le_of_ble_eq_true rfl) rfl ?_
  refine wx_get (v := .ref _) j67_16 rfl (Nat.le_of_ble_eq_true rfl) rfl ?_
  refine wx_icst (v := nI 0) j67_19 (by decide) ?_
  refine wx_ildn j67_20 rfl ?_
  refine wx_i2 j67_21 rfl rfl rfl (Nat.le_of_ble_eq_true rfl) rfl (tp_find (s := 0) (j := 0) (k := 0) (by decide) (by decide) (by decide) ht hb hsp) ?_
  rintro _ d9 ⟨rfl, h9⟩
  obtain rfl := h9.symm
  refine wx_istn (L' := [_, _, _, some (.int _)]) j67_24 (Nat.le_of_ble_eq_true rfl) rfl ?_
  refine wx_ildn j67_25 rfl ?_
  refine wx_icst (v := (-1)) j67_26 (by decide) ?_
  refine wx_cmp 42 j67_27 (by decide) (fun c27 => ?_) (fun c27 => ?_)
  · simp only [ax_cn, Classical.not_not] at c27
    have hno : fi (T 0 0) sp = none := (oi_neg (fi_31 ht (by decide) (by decide))).mp c27
    refine wx_aldn j67_42 rfl ?_
    refine wx_icst (v := nI 0) j67_43 (by decide) ?_
    refine wx_ildn j67_44 rfl ?_
    refine wx_icst (v := nI 1) j67_45 (by decide) ?_
    refine wx_iadd j67_46 ?_
    rw [nI_add]
    have h6 := hroom hno
    refine wx_v2 j67_47 rfl rfl rfl (Nat.le_of_ble_eq_true rfl) rfl (sp_tPlace h (by decide) (by omega) (by omega)) ?_
    rintro d1 ⟨h1, hf1⟩
    have hp5 := pb_l5 ((T 0 0).length + 1) 0
    refine wx_aldn j67_50 rfl ?_
    refine wx_ildn j67_51 rfl ?_
    refine wx_t1 j67_52 rfl rfl (Nat.le_of_ble_eq_true rfl) (sp_countL hsp) ?_
    rintro _ d9 ⟨rfl, h9⟩
    obtain rfl := h9.symm
    have hc5 := cl_le sp
    refine wx_v1 j67_55 rfl rfl (Nat.le_of_ble_eq_true rfl) rfl (sp_tNumber h1 (by omega) (by rw [List.length_append]; omega)) ?_
    rintro d2 ⟨h2, hf2⟩
    have hn8 := nb_len (cl sp)
    refine wx_aldn j67_58 rfl ?_
    refine wx_ildn j67_59 rfl ?_
    refine wx_v1 j67_60 rfl rfl (Nat.le_of_ble_eq_true rfl) rfl (sp_tLetters h2 hsp (by rw [List.length_append, List.length_append]; omega)) ?_
    rintro d3 ⟨h3, hf3⟩
    have ht3 := tb_bt (tb_bt (tb_bt ht hf1) hf2) hf3
    refine wx_aldn j67_63 rfl ?_
    refine wx_get (v := .ref _) j67_64 rfl (Nat.le_of_ble_eq_true rfl) rfl ?_
    refine wx_ildn j67_67 rfl ?_
    refine wx_i1 j67_68 rfl rfl (Nat.le_of_ble_eq_true rfl) rfl (sp_addSpace (s := 0) (by decide) ht3) ?_
    rintro y d4 ⟨h4, -, hf4⟩
    obtain ⟨rfl, h5⟩ := h4 h6
    refine wx_ri j67_71 rfl rfl ?_
    have e : sSp T sp = (pb (wd ((T 0 0).length + 1)) 0 ++ (nb (cl sp) ++ lts sp), tst T 0 0 (T 0 0 ++ [sp]), (T 0 0).length) := by unfold sSp; rw [hno]
    rw [e]
    refine ⟨rfl, h5, ?_, wf_tr (wf_tr (wf_tr (wf_bt hf1) (wf_bt hf2)) (wf_bt hf3)) (wf_tb hf4)⟩
    have h6 := bt_tb h3 hf4
    rw [List.append_assoc, List.append_assoc] at h6
    exact h6
  · simp only [ax_cn, Classical.not_not] at c27
    obtain ⟨q, hq⟩ := oi_some c27
    rw [hq]
    simp only [oi]
    refine wx_aldn j67_30 rfl ?_
    refine wx_ildn j67_31 rfl ?_
    refine wx_icst (v := nI 1) j67_32 (by decide) ?_
    refine wx_iadd j67_33 ?_
    rw [nI_add]
    refine wx_ildn j67_34 rfl ?_
    refine wx_icst (v := nI 1) j67_35 (by decide) ?_
    refine wx_iadd j67_36 ?_
    rw [nI_add]
    have hq20 := Nat.lt_of_lt_of_le (fi_lt hq) (tb_l20 ht (j := 0) (k := 0) (by decide) (by decide))
    have h20 := tb_l20 ht (j := 0) (k := 0) (by decide) (by decide)
    refine wx_v2 j67_37 rfl rfl rfl (Nat.le_of_ble_eq_true rfl) rfl (sp_tPlace h (by omega) (by omega) (by omega)) ?_
    rintro d1 ⟨h1, hf1⟩
    refine wx_ildn j67_40 rfl ?_
    refine wx_ri j67_41 rfl rfl ?_
    have e : sSp T sp = (pb (wd ((T 0 0).length + 1)) (q + 1), T, q) := by unfold sSp; rw [hq]
    rw [e]
    exact ⟨rfl, tb_bt ht hf1, h1, wf_bt hf1⟩
theorem sp_tLocal {q0 lo : Nat} (ht : tb_is d 0 T) (h : bt_is d 515 l) (hb : TB T) (hlo : lo < tB) (hq0 : q0 < 6) (hroom : fi (T 1 q0) lo = none → (T 1 q0).length < 10) (hl : l.length + 60 ≤ 4000) : ax_E 68 [.ref 513, .int (nI q0), .int (nI lo)] d (ax_Pv fun d1 => tb_is d1 0 (sLo T q0 lo).2 ∧ bt_is d1 515 (l ++ (sLo T q0 lo).1) ∧ wf d d1) := by
  show ax_W 68 0 [some (.ref 513), some (.int (nI q0)), some (.int (nI lo)), none] [] d _
  refine wx_aldn j68_0 rfl ?_
  refine wx_get (v := .ref _) j68_1 rfl (Nat.le_of_ble_eq_true rfl) rfl ?_
  refine wx_get (v := .ref _) j68_4 rfl (Nat.le_of_ble_eq_true rfl) rfl ?_
  refine wx_ildn j68_7 rfl ?_
  refine wx_ildn j68_8 rfl ?_
  refine wx_i2 j68_9 rfl rfl rfl (Nat.le_of_ble_eq_true rfl) rfl (tp_find (s := 0) (j := 1) (by decide) (by decide) hq0 ht hb hlo) ?_
  rintro _ d9 ⟨rfl, h9⟩
  obtain rfl := h9.symm
  refine wx_istn (L' := [_, _, _, some (.int _)]) j68_12 (Nat.le_of_ble_eq_true rfl) rfl ?_
  refine wx_ildn j68_13 rfl ?_
  refine wx_icst (v := (-1)) j68_14 (by decide) ?_
  refine wx_cmp 40 j68_15 (by decide) (fun c15 => ?_) (fun c15 => ?_)
  · simp only [ax_cn, Classical.not_not] at c15
    have hno : fi (T 1 q0) lo = none := (oi_neg (fi_31 ht (by decide) hq0)).mp c15
    refine wx_aldn j68_40 rfl ?_
    refine wx_ildn j68_41 rfl ?_
    refine wx_t1 j68_42 rfl rfl (Nat.le_of_ble_eq_true rfl) (sp_countL hlo) ?_
    rintro _ d9 ⟨rfl, h9⟩
    obtain rfl := h9.symm
    have hc5 := cl_le lo
    refine wx_v1 j68_45 rfl rfl (Nat.le_of_ble_eq_true rfl) rfl (sp_tNumber h (by omega) (by omega)) ?_
    rintro d1 ⟨h1, hf1⟩
    have hn8 := nb_len (cl lo)
    refine wx_aldn j68_48 rfl ?_
    refine wx_ildn j68_49 rfl ?_
    refine wx_v1 j68_50 rfl rfl (Nat.le_of_ble_eq_true rfl) rfl (sp_tLetters h1 hlo (by rw [List.length_append]; omega)) ?_
    rintro d2 ⟨h2, hf2⟩
    have ht2 := tb_bt (tb_bt ht hf1) hf2
    refine wx_aldn j68_53 rfl ?_
    refine wx_get (v := .ref _) j68_54 rfl (Nat.le_of_ble_eq_true rfl) rfl ?_
    refine wx_get (v := .ref _) j68_57 rfl (Nat.le_of_ble_eq_true rfl) rfl ?_
    refine wx_ildn j68_60 rfl ?_
    refine wx_ildn j68_61 rfl ?_
    refine wx_v2 j68_62 rfl rfl rfl (Nat.le_of_ble_eq_true rfl) rfl (tp_last (s := 0) (j := 1) (by decide) (by decide) hq0 ht2) ?_
    rintro d3 ⟨h3, hf3⟩
    rw [if_pos (show (T 1 q0).length < ax_rm 1 from hroom hno)] at h3
    refine wx_rv j68_65 rfl ?_
    have e : sLo T q0 lo = (nb (cl lo) ++ lts lo, tst T 1 q0 (T 1 q0 ++ [lo])) := by unfold sLo; rw [hno]
    rw [e]
    rw [List.append_assoc] at h2
    have hft := rw_tb (s := 0) (j := 1) hf3 (by decide)
    exact ⟨h3, bt_tb h2 hft, wf_tr (wf_tr (wf_bt hf1) (wf_bt hf2)) (wf_tb hft)⟩
  · simp only [ax_cn, Classical.not_not] at c15
    obtain ⟨q, hq⟩ := oi_some c15
    rw [hq]
    simp only [oi]
    refine wx_aldn j68_18 rfl ?_
    refine wx_icst (v := nI 0) j68_19 (by decide) ?_
    refine wx_v1 j68_20 rfl rfl (Nat.le_of_ble_eq_true rfl) rfl (sp_tNumber h (by decide) (by omega)) ?_
    rintro d1 ⟨h1, hf1⟩
    have hn8 := nb_len 0
    have ht1 := tb_bt ht hf1
    refine wx_aldn j68_23 rfl ?_
    refine wx_ildn j68_24 rfl ?_
    refine wx_aldn j68_25 rfl ?_
    refine wx_get (v := .ref _) j68_26 rfl (Nat.le_of_ble_eq_true rfl) rfl ?_
    refine wx_get (v := .ref _) j68_29 rfl (Nat.le_of_ble_eq_true rfl) rfl ?_
    refine wx_ildn j68_32 rfl ?_
    refine wx_i1 j68_33 rfl rfl (Nat.le_of_ble_eq_true rfl) rfl (tp_cnt (s := 0) (j := 1) (by decide) (by decide) hq0 ht1) ?_
    rintro _ d9 ⟨rfl, h9⟩
    obtain rfl := h9.symm
    have hq20 := Nat.lt_of_lt_of_le (fi_lt hq) (tb_l20 ht (j := 1) (by decide) hq0)
    have h20 := tb_l20 ht (j := 1) (by decide) hq0
    refine wx_v2 j68_36 rfl rfl rfl (Nat.le_of_ble_eq_true rfl) rfl (sp_tPlace h1 (by omega) (by omega) (by rw [List.length_append]; omega)) ?_
    rintro d2 ⟨h2, hf2⟩
    refine wx_rv j68_39 rfl ?_
    have e : sLo T q0 lo = (nb 0 ++ pb (wd (T 1 q0).length) q, T) := by unfold sLo; rw [hq]
    rw [e]
    rw [List.append_assoc] at h2
    exact ⟨tb_bt ht1 hf2, h2, wf_tr (wf_bt hf1) (wf_bt hf2)⟩
theorem sp_tValue {n v : Nat} (ht : tb_is d 0 T) (h : bt_is d 515 l) (hb : TB T) (hn : n < 20) (hv : v < tB) (hl : l.length + 60 ≤ 4000) : ax_E 69 [.ref 513, .int (nI n), .int (nI v)] d (ax_Pv fun d1 => tb_is d1 0 (sVa T n v).2 ∧ bt_is d1 515 (l ++ (sVa T n v).1) ∧ wf d d1) := by
  show ax_W 69 0 [some (.ref 513), some (.int (nI n)), some (.int (nI v)), none] [] d _
  refine wx_aldn j69_0 rfl ?_
  refine wx_get (v := .ref _) j69_1 rfl (Nat.le_of_ble_eq_true rfl) rfl ?_
  refine wx_get (v := .ref _) j69_4 rfl (Nat.le_of_ble_eq_true rfl) rfl ?_
  refine wx_ildn j69_7 rfl ?_
  refine wx_ildn j69_8 rfl ?_
  refine wx_i2 j69_9 rfl rfl rfl (Nat.le_of_ble_eq_true rfl) rfl (tp_find (s := 0) (j := 2) (by decide) (by decide) hn ht hb hv) ?_
  rintro _ d9 ⟨rfl, h9⟩
  obtain rfl := h9.symm
  refine wx_istn (L' := [_, _, _, some (.int _)]) j69_12 (Nat.le_of_ble_eq_true rfl) rfl ?_
  refine wx_ildn j69_13 rfl ?_
  refine wx_icst (v := (-1)) j69_14 (by decide) ?_
  refine wx_cmp 40 j69_15 (by decide) (fun c15 => ?_) (fun c15 => ?_)
  · simp only [ax_cn, Classical.not_not] at c15
    have hno : fi (T 2 n) v = none := (oi_neg (fi_31 ht (by decide) hn)).mp c15
    refine wx_aldn j69_40 rfl ?_
    refine wx_get (v := .ref _) j69_41 rfl (Nat.le_of_ble_eq_true rfl) rfl ?_
    refine wx_get (v := .ref _) j69_44 rfl (Nat.le_of_ble_eq_true rfl) rfl ?_
    refine wx_icst (v := nI 0) j69_47 (by decide) ?_
    refine wx_ildn j69_48 rfl ?_
    refine wx_i2 j69_49 rfl rfl rfl (Nat.le_of_ble_eq_true rfl) rfl (tp_find (s := 0) (j := 3) (k := 0) (by decide) (by decide) (by decide) ht hb hv) ?_
    rintro _ d9 ⟨rfl, h9⟩
    obtain rfl := h9.symm
    refine wx_istn (L' := [_, _, _, some (.int _)]) j69_52 (Nat.le_of_ble_eq_true rfl) rfl ?_
    refine wx_ildn j69_53 rfl ?_
    refine wx_icst (v := (-1)) j69_54 (by decide) ?_
    refine wx_cmp 80 j69_55 (by decide) (fun c55 => ?_) (fun c55 => ?_)
    · simp only [ax_cn, Classical.not_not] at c55
      have hno2 : fi (T 3 0) v = none := (oi_neg (fi_31 ht (by decide) (by decide))).mp c55
      refine wx_aldn j69_80 rfl ?_
      refine wx_ildn j69_81 rfl ?_
      refine wx_t1 j69_82 rfl rfl (Nat.le_of_ble_eq_true rfl) (sp_countL hv) ?_
      rintro _ d9 ⟨rfl, h9⟩
      obtain rfl := h9.symm
      refine wx_icst (v := nI 2) j69_85 (by decide) ?_
      refine wx_iadd j69_86 ?_
      rw [nI_add]
      have hc5 := cl_le v
      refine wx_v1 j69_87 rfl rfl (Nat.le_of_ble_eq_true rfl) rfl (sp_tNumber h (by omega) (by omega)) ?_
      rintro d1 ⟨h1, hf1⟩
      have hn8 := nb_len (cl v + 2)
      refine wx_aldn j69_90 rfl ?_
      refine wx_ildn j69_91 rfl ?_
      refine wx_v1 j69_92 rfl rfl (Nat.le_of_ble_eq_true rfl) rfl (sp_tLetters h1 hv (by rw [List.length_append]; omega)) ?_
      rintro d2 ⟨h2, hf2⟩
      have ht2 := tb_bt (tb_bt ht hf1) hf2
      refine wx_aldn j69_95 rfl ?_
      refine wx_get (v := .ref _) j69_96 rfl (Nat.le_of_ble_eq_true rfl) rfl ?_
      refine wx_ildn j69_99 rfl ?_
      refine wx_ildn j69_100 rfl ?_
      refine wx_v2 j69_101 rfl rfl rfl (Nat.le_of_ble_eq_true rfl) rfl (sp_addValue (s := 0) (by decide) ht2 hn hv) ?_
      rintro d3 ⟨h3, hf3⟩
      refine wx_rv j69_104 rfl ?_
      have e : sVa T n v = (nb (cl v + 2) ++ lts v, tav T n v) := by unfold sVa; rw [hno, hno2]
      rw [e]
      rw [List.append_assoc] at h2
      exact ⟨h3, bt_tb h2 hf3, wf_tr (wf_tr (wf_bt hf1) (wf_bt hf2)) (wf_tb hf3)⟩
    · simp only [ax_cn, Classical.not_not] at c55
      obtain ⟨q, hq⟩ := oi_some c55
      rw [hq]
      simp only [oi]
      refine wx_aldn j69_58 rfl ?_
      refine wx_icst (v := nI 1) j69_59 (by decide) ?_
      refine wx_v1 j69_60 rfl rfl (Nat.le_of_ble_eq_true rfl) rfl (sp_tNumber h (by decide) (by omega)) ?_
      rintro d1 ⟨h1, hf1⟩
      have hn8 := nb_len 1
      have ht1 := tb_bt ht hf1
      refine wx_aldn j69_63 rfl ?_
      refine wx_ildn j69_64 rfl ?_
      refine wx_aldn j69_65 rfl ?_
      refine wx_get (v := .ref _) j69_66 rfl (Nat.le_of_ble_eq_true rfl) rfl ?_
      refine wx_get (v := .ref _) j69_69 rfl (Nat.le_of_ble_eq_true rfl) rfl ?_
      refine wx_icst (v := nI 0) j69_72 (by decide) ?_
      refine wx_i1 j69_73 rfl rfl (Nat.le_of_ble_eq_true rfl) rfl (tp_cnt (s := 0) (j := 3) (k := 0) (by decide) (by decide) (by decide) ht1) ?_
      rintro _ d9 ⟨rfl, h9⟩
      obtain rfl := h9.symm
      have hq20 := Nat.lt_of_lt_of_le (fi_lt hq) (tb_l20 ht (j := 3) (k := 0) (by decide) (by decide))
      have h20 := tb_l20 ht (j := 3) (k := 0) (by decide) (by decide)
      refine wx_v2 j69_76 rfl rfl rfl (Nat.le_of_ble_eq_true rfl) rfl (sp_tPlace h1 (by omega) (by omega) (by rw [List.length_append]; omega)) ?_
      rintro d2 ⟨h2, hf2⟩
      refine wx_rv j69_79 rfl ?_
      have e : sVa T n v = (nb 1 ++ pb (wd (T 3 0).length) q, T) := by unfold sVa; rw [hno, hq]
      rw [e]
      rw [List.append_assoc] at h2
      exact ⟨tb_bt ht1 hf2, h2, wf_tr (wf_bt hf1) (wf_bt hf2)⟩
  · simp only [ax_cn, Classical.not_not] at c15
    obtain ⟨q, hq⟩ := oi_some c15
    rw [hq]
    simp only [oi]
    refine wx_aldn j69_18 rfl ?_
    refine wx_icst (v := nI 0) j69_19 (by decide) ?_
    refine wx_v1 j69_20 rfl rfl (Nat.le_of_ble_eq_true rfl) rfl (sp_tNumber h (by decide) (by omega)) ?_
    rintro d1 ⟨h1, hf1⟩
    have hn8 := nb_len 0
    have ht1 := tb_bt ht hf1
    refine wx_aldn j69_23 rfl ?_
    refine wx_ildn j69_24 rfl ?_
    refine wx_aldn j69_25 rfl ?_
    refine wx_get (v := .ref _) j69_26 rfl (Nat.le_of_ble_eq_true rfl) rfl ?_
    refine wx_get (v := .ref _) j69_29 rfl (Nat.le_of_ble_eq_true rfl) rfl ?_
    refine wx_ildn j69_32 rfl ?_
    refine wx_i1 j69_33 rfl rfl (Nat.le_of_ble_eq_true rfl) rfl (tp_cnt (s := 0) (j := 2) (by decide) (by decide) hn ht1) ?_
    rintro _ d9 ⟨rfl, h9⟩
    obtain rfl := h9.symm
    have hq20 := Nat.lt_of_lt_of_le (fi_lt hq) (tb_l20 ht (j := 2) (by decide) hn)
    have h20 := tb_l20 ht (j := 2) (by decide) hn
    refine wx_v2 j69_36 rfl rfl rfl (Nat.le_of_ble_eq_true rfl) rfl (sp_tPlace h1 (by omega) (by omega) (by rw [List.length_append]; omega)) ?_
    rintro d2 ⟨h2, hf2⟩
    refine wx_rv j69_39 rfl ?_
    have e : sVa T n v = (nb 0 ++ pb (wd (T 2 n).length) q, T) := by unfold sVa; rw [hq]
    rw [e]
    rw [List.append_assoc] at h2
    exact ⟨tb_bt ht1 hf2, h2, wf_tr (wf_bt hf1) (wf_bt hf2)⟩
/-- a name that has room: what the steps need -/
theorem rfn_room {sp lo : Nat} (h : rfn T sp lo = true) (hk : fn T sp lo = none) : (T 4 0).length < 20 ∧ (fi (T 0 0) sp = none → (T 0 0).length < 6) ∧ ∀ p, fi (T 0 0) sp = some p → (T 1 p).length < 10 := by
  unfold rfn at h
  rw [hk] at h
  simp only [Option.isSome_none, Bool.false_or, Bool.and_eq_true, decide_eq_true_eq] at h
  refine ⟨h.1, fun q => ?_, fun p q => ?_⟩
  · rw [q] at h; exact of_decide_eq_true h.2
  · rw [q] at h; exact of_decide_eq_true h.2
end WW
end
section
/-! WRITING, codes and events. -/
def kj (f : Bool) : Nat := if f then 7 else 6
def cho (T : TT) (f : Bool) (k : Nat) : Nat := (T (kj f) k).length + (if f then 2 else 1)
def k4 (kind : Nat) : Nat := if kind = 1 then 2 else if kind = 2 then 1 else if kind = 3 then 3 else 0
def sKi (T : TT) (f : Bool) (k kind : Nat) : List Nat := pb (wd (cho T f k)) (cho T f k - 1) ++ (if f then pb 1 (if kind = 1 then 0 else 1) else pb 2 (k4 kind))
def sNw (T : TT) (f : Bool) (k kind sp lo : Nat) : List Nat × TT × Nat := (sKi T f k kind ++ (sNa T sp lo).1, tln (sNa T sp lo).2.1 (kj f) k ((sNa T sp lo).2.2 * 8 + kind), (sNa T sp lo).2.2)
def sNd (T : TT) (f : Bool) (k kind sp lo : Nat) : List Nat × TT × Nat := match fn T sp lo with
  | some i => (match fi (T (kj f) k) (i * 8 + kind) with
    | some p => (pb (wd (cho T f k)) p, T, i)
    | none => sNw T f k kind sp lo)
  | none => sNw T f k kind sp lo
def sNl (T : TT) (f : Bool) (k kind : Nat) : List Nat × TT := match fi (T (kj f) k) kind with
  | some p => (pb (wd (cho T f k)) p, T)
  | none => (sKi T f k kind, tln T (kj f) k kind)
def sCl (T : TT) (f : Bool) (k : Nat) : List Nat × TT := if f then (pb (wd (cho T f k)) (T 7 k).length, T) else sNl T f k 4
theorem kj_lt (f : Bool) : kj f < 8 := by cases f <;> decide
theorem kj_nr (f : Bool) {k : Nat} (h : k < 20) : k < ax_nr (kj f) := by cases f <;> exact h
theorem kj_rm (f : Bool) : ax_rm (kj f) = 12 := by cases f <;> rfl
theorem sKi_len (T : TT) (f : Bool) (k kind : Nat) : (sKi T f k kind).length ≤ 7 := by
  have h := wd_5 (cho T f k)
  unfold sKi
  rw [List.length_append, pb_len]
  split
  · rw [pb_len]; omega
  · rw [pb_len]; omega
theorem sNw_len (T : TT) (f : Bool) (k kind sp lo : Nat) : (sNw T f k kind sp lo).1.length ≤ 108 := by
  have h1 := sKi_len T f k kind
  have h2 := sNa_len T sp lo
  unfold sNw
  rw [List.length_append]
  omega
theorem sNd_len (T : TT) (f : Bool) (k kind sp lo : Nat) : (sNd T f k kind sp lo).1.length ≤ 108 := by
  have h1 := sNw_len T f k kind sp lo
  unfold sNd
  split
  · split
    · rename_i q _; have := pb_l5 (cho T f k) q; simp only; omega
    · exact h1
  · exact h1
theorem sNl_len (T : TT) (f : Bool) (k kind : Nat) : (sNl T f k kind).1.length ≤ 7 := by
  unfold sNl
  split
  · rename_i q _; have := pb_l5 (cho T f k) q; simp only; omega
  · exact sKi_len T f k kind
theorem tln_TB {T : TT} {j k c : Nat} (h : TB T) (hc : c < tB) : TB (tln T j k c) := by
  unfold tln
  split
  · exact h
  · refine TB_st h ?_
    split
    · intro e he
      rcases List.mem_cons.mp he with rfl | he
      · exact hc
      · exact h j k e he
    · exact h j k
theorem tln_45 {T : TT} {j k c : Nat} (h : T45 T) (hj : j ≠ 4) (hj5 : j ≠ 5) : T45 (tln T j k c) := by
  unfold tln
  split
  · exact h
  · exact T45_st h hj hj5
theorem kj_4 (f : Bool) : kj f ≠ 4 := by cases f <;> decide
theorem kj_5 (f : Bool) : kj f ≠ 5 := by cases f <;> decide
/-- the tables of the names are the same -/
theorem fn_congr {T T' : TT} {sp lo : Nat} (h4 : T' 4 0 = T 4 0) (h5 : T' 5 0 = T 5 0) : fn T' sp lo = fn T sp lo := by unfold fn; rw [h4, h5]
theorem sSp_4 (T : TT) (sp j k : Nat) (hj : j ≠ 0) : (sSp T sp).2.1 j k = T j k := by
  unfold sSp
  split
  · rfl
  · exact tst_ne (Or.inl hj)
theorem sLo_4 (T : TT) (p lo j k : Nat) (hj : j ≠ 1) : (sLo T p lo).2 j k = T j k := by
  unfold sLo
  split
  · rfl
  · exact tst_ne (Or.inl hj)
theorem sFo_e (T : TT) (p sp lo : Nat) : (sLo (sSp T sp).2.1 p lo).2 4 0 = T 4 0 ∧ (sLo (sSp T sp).2.1 p lo).2 5 0 = T 5 0 := ⟨by rw [sLo_4 _ _ _ _ _ (by decide), sSp_4 _ _ _ _ (by decide)], by rw [sLo_4 _ _ _ _ _ (by decide), sSp_4 _ _ _ _ (by decide)]⟩
/-- there is room for a name -/
def rm3 (T : TT) (sp lo : Nat) : Prop := (fi (T 0 0) sp = none → (T 0 0).length < 6) ∧ (fi ((sSp T sp).2.1 1 (sSp T sp).2.2) lo = none → ((sSp T sp).2.1 1 (sSp T sp).2.2).length < 10) ∧ (fn T sp lo = none → (T 4 0).length < 20)
theorem sNa_20 {T : TT} {sp lo : Nat} (h : (T 4 0).length ≤ 20) (hr : rm3 T sp lo) : (sNa T sp lo).2.2 < 20 := by
  have e := sFo_e T (sSp T sp).2.2 sp lo
  unfold sNa sFo
  rw [fn_congr e.1 e.2]
  simp only
  cases hf : fn T sp lo with
  | some i => have := (fn_spec hf).1; simp only; omega
  | none => simp only; rw [e.1]; exact hr.2.2 hf
section W3
variable {d : ax_D} {l : List Nat} {T : TT} {m n : Nat} {nm : Nat → Nat} {fl : Nat → Bool} {b : Bool} {sp lo : Nat}
theorem sp_tName (ht : tb_is d 0 T) (h : bt_is d 515 l) (hb : TB T) (h45 : T45 T) (hsp : sp < tB) (hlo : lo < tB) (hr : rm3 T sp lo) (hl : l.length + 120 ≤ 4000) : ax_E 66 [.ref 513, .int (nI sp), .int (nI lo)] d (ax_Pi fun y d1 => y = nI (sNa T sp lo).2.2 ∧ tb_is d1 0 (sNa T sp lo).2.1 ∧ bt_is d1 515 (l ++ (sNa T sp lo).1) ∧ wf d d1) := by
  show ax_W 66 0 [some (.ref 513), some (.int (nI sp)), some (.int (nI lo))] [] d _
  refine wx_aldn j66_0 rfl ?_
  refine wx_aldn j66_1 rfl ?_
  refine wx_ildn j66_2 rfl ?_
  refine wx_i1 j66_3 rfl rfl (Nat.le_of_ble_eq_true rfl) rfl (sp_tSpace ht h hb hsp hr.1 (by omega)) ?_
  rintro _ d1 ⟨rfl, ht1, h1, hf1⟩
  have hp6 : (sSp T sp).2.2 < 6 := by
    have h6 := tb_len ht (j := 0) (k := 0) (by decide) (by decide)
    unfold sSp
    cases hq : fi (T 0 0) sp with
    | some q => exact Nat.lt_of_lt_of_le (fi_lt hq) h6
    | none => exact hr.1 hq
  have hl1 := sSp_len T sp
  refine wx_ildn j66_6 rfl ?_
  refine wx_v2 j66_7 rfl rfl rfl (Nat.le_of_ble_eq_true rfl) rfl (sp_tLocal ht1 h1 (sSp_TB hb hsp) hlo hp6 hr.2.1 (by rw [List.length_append]; omega)) ?_
  rintro d2 ⟨ht2, h2, hf2⟩
  have e := sFo_e T (sSp T sp).2.2 sp lo
  refine wx_aldn j66_10 rfl ?_
  refine wx_get (v := .ref _) j66_11 rfl (Nat.le_of_ble_eq_true rfl) rfl ?_
  refine wx_ildn j66_14 rfl ?_
  refine wx_ildn j66_15 rfl ?_
  refine wx_i2 j66_16 rfl rfl rfl (Nat.le_of_ble_eq_true rfl) rfl (sp_foan (s := 0) (by decide) ht2 (sLo_TB (sSp_TB hb hsp) hlo) (sLo_45 (sSp_45 h45)) hsp hlo) ?_
  rintro y d3 ⟨h31, h32, hf3⟩
  refine wx_ri j66_19 rfl rfl ?_
  have h9 : bt_is d3 515 (l ++ (sNa T sp lo).1) := by
    have := bt_tb h2 hf3
    rw [List.append_assoc] at this
    exact this
  have hw : wf d d3 := wf_tr (wf_tr hf1 hf2) (wf_tb hf3)
  cases hf : fn T sp lo with
  | some i =>
    have hfe := (fn_congr (sp := sp) (lo := lo) e.1 e.2).trans hf
    obtain ⟨e1, e2⟩ := h31 i hfe
    have e3 : sNa T sp lo = ((sSp T sp).1 ++ (sLo (sSp T sp).2.1 (sSp T sp).2.2 lo).1, (sLo (sSp T sp).2.1 (sSp T sp).2.2 lo).2, i) := by unfold sNa sFo; rw [hfe]
    rw [e3] at h9 ⊢
    exact ⟨e1, by rw [e2]; exact ht2, h9, hw⟩
  | none =>
    have hfe := (fn_congr (sp := sp) (lo := lo) e.1 e.2).trans hf
    obtain ⟨e1, e2⟩ := (h32 hfe).1 (by rw [e.1]; exact hr.2.2 hf)
    have e3 : sNa T sp lo = ((sSp T sp).1 ++ (sLo (sSp T sp).2.1 (sSp T sp).2.2 lo).1, tnm (sLo (sSp T sp).2.1 (sSp T sp).2.2 lo).2 sp lo, ((sLo (sSp T sp).2.1 (sSp T sp).2.2 lo).2 4 0).length) := by unfold sNa sFo; rw [hfe]
    rw [e3] at h9 ⊢
    exact ⟨e1, e2, h9, hw⟩
theorem sp_tKind {k : Nat} (hg : gr_is d 0 (m + 1) nm fl b) (ht : tb_is d 0 T) (h : bt_is d 515 l) (hb : TB T) (hk : k = 1 ∨ k = 2 ∨ k = 3 ∨ k = 4) (hl : l.length + 10 ≤ 4000) : ax_E 65 [.ref 513, .int (nI k)] d (ax_Pv fun d1 => bt_is d1 515 (l ++ sKi T (fl m) (nm m) k) ∧ bt_fr d d1 515) := by
  show ax_W 65 0 [some (.ref 513), some (.int (nI k))] [] d _
  refine wx_aldn j65_0 rfl ?_
  refine wx_aldn j65_1 rfl ?_
  refine wx_get (v := .ref _) j65_2 rfl (Nat.le_of_ble_eq_true rfl) rfl ?_
  refine wx_i0 j65_5 rfl  (Nat.le_of_ble_eq_true rfl) rfl (sp_choices (s := 0) (by decide) hg ht) ?_
  rintro _ d9 ⟨rfl, h9⟩
  obtain rfl := h9.symm
  refine wx_icst (v := nI 1) j65_8 (by decide) ?_
  refine wx_isub j65_9 ?_
  rw [pk_sub (show 1 ≤ (T (kd fl m) (nm m)).length + (if fl m = true then 2 else 1) by split <;> omega)]
  refine wx_aldn j65_10 rfl ?_
  refine wx_get (v := .ref _) j65_11 rfl (Nat.le_of_ble_eq_true rfl) rfl ?_
  refine wx_i0 j65_14 rfl  (Nat.le_of_ble_eq_true rfl) rfl (sp_choices (s := 0) (by decide) hg ht) ?_
  rintro _ d9 ⟨rfl, h9⟩
  obtain rfl := h9.symm
  have hn20 := (hg.2.2.2 m (Nat.lt_succ_self m)).2.1
  have h12 := tb_len ht (kj_lt (fl m)) (kj_nr (fl m) hn20)
  rw [kj_rm] at h12
  have hc14 : cho T (fl m) (nm m) ≤ 14 := by unfold cho; split <;> omega
  refine wx_v2 j65_17 rfl rfl rfl (Nat.le_of_ble_eq_true rfl) rfl (sp_tPlace (q := cho T (fl m) (nm m) - 1) (m := cho T (fl m) (nm m)) h (by omega) (by omega) (by omega)) ?_
  rintro d1 ⟨h1, hf1⟩
  have hg1 := gr_wf hg (wf_bt hf1)
  have h5 := pb_l5 (cho T (fl m) (nm m)) (cho T (fl m) (nm m) - 1)
  have fin : ∀ {d2 : ax_D} {z : List Nat}, bt_is d2 515 (l ++ pb (wd (cho T (fl m) (nm m))) (cho T (fl m) (nm m) - 1) ++ z) → bt_fr d1 d2 515 → (if fl m = true then pb 1 (if k = 1 then 0 else 1) else pb 2 (k4 k)) = z → bt_is d2 515 (l ++ sKi T (fl m) (nm m) k) ∧ bt_fr d d2 515 := by
    intro d2 z a1 a2 a3
    unfold sKi
    rw [a3, ← List.append_assoc]
    exact ⟨a1, fun id b1 b2 => (a2 id b1 b2).trans (hf1 id b1 b2)⟩
  refine wx_aldn j65_20 rfl ?_
  refine wx_get (v := .ref _) j65_21 rfl (Nat.le_of_ble_eq_true rfl) rfl ?_
  refine wx_i0 j65_24 rfl  (Nat.le_of_ble_eq_true rfl) rfl (sp_isInTag (s := 0) (by decide) hg1) ?_
  rintro _ d9 ⟨rfl, h9⟩
  obtain rfl := h9.symm
  refine wx_if 46 j65_27 (by decide) (fun c27 => ?_) (fun c27 => ?_)
  · simp only [ax_cn, Classical.not_not] at c27
    have hf : fl m = false := by
      have := bB_1.mp c27
      simpa using this
    refine wx_ildn j65_46 rfl ?_
    rcases hk with rfl | rfl | rfl | rfl
    · refine wx_tsw j65_47 (fun q => absurd q (by decide)) (fun _ => ⟨34, 81, by decide, by decide, ?_⟩)
      refine wx_aldn j65_81 rfl ?_
      refine wx_icst (v := nI 2) j65_82 (by decide) ?_
      refine wx_icst (v := nI 4) j65_83 (by decide) ?_
      refine wx_v2 j65_84 rfl rfl rfl (Nat.le_of_ble_eq_true rfl) rfl (sp_tPlace (m := 4) h1 (by decide) (by decide) (by rw [List.length_append]; omega)) ?_
      rintro d2 ⟨h2, hf2⟩
      refine wx_goto 105 j65_87 (by decide) ?_
      refine wx_rv j65_105 rfl ?_
      exact fin h2 hf2 (by rw [if_neg (by rw [hf]; decide)]; rfl)
    · refine wx_tsw j65_47 (fun q => absurd q (by decide)) (fun _ => ⟨25, 72, by decide, by decide, ?_⟩)
      refine wx_aldn j65_72 rfl ?_
      refine wx_icst (v := nI 1) j65_73 (by decide) ?_
      refine wx_icst (v := nI 4) j65_74 (by decide) ?_
      refine wx_v2 j65_75 rfl rfl rfl (Nat.le_of_ble_eq_true rfl) rfl (sp_tPlace (m := 4) h1 (by decide) (by decide) (by rw [List.length_append]; omega)) ?_
      rintro d2 ⟨h2, hf2⟩
      refine wx_goto 105 j65_78 (by decide) ?_
      refine wx_rv j65_105 rfl ?_
      exact fin h2 hf2 (by rw [if_neg (by rw [hf]; decide)]; rfl)
    · refine wx_tsw j65_47 (fun q => absurd q (by decide)) (fun _ => ⟨43, 90, by decide, by decide, ?_⟩)
      refine wx_aldn j65_90 rfl ?_
      refine wx_icst (v := nI 3) j65_91 (by decide) ?_
      refine wx_icst (v := nI 4) j65_92 (by decide) ?_
      refine wx_v2 j65_93 rfl rfl rfl (Nat.le_of_ble_eq_true rfl) rfl (sp_tPlace (m := 4) h1 (by decide) (by decide) (by rw [List.length_append]; omega)) ?_
      rintro d2 ⟨h2, hf2⟩
      refine wx_goto 105 j65_96 (by decide) ?_
      refine wx_rv j65_105 rfl ?_
      exact fin h2 hf2 (by rw [if_neg (by rw [hf]; decide)]; rfl)
    · refine wx_tsw j65_47 (fun _ => ⟨99, by decide, ?_⟩) (fun q => absurd (by decide) q)
      refine wx_aldn j65_99 rfl ?_
      refine wx_icst (v := nI 0) j65_100 (by decide) ?_
      refine wx_icst (v := nI 4) j65_101 (by decide) ?_
      refine wx_v2 j65_102 rfl rfl rfl (Nat.le_of_ble_eq_true rfl) rfl (sp_tPlace (m := 4) h1 (by decide) (by decide) (by rw [List.length_append]; omega)) ?_
      rintro d2 ⟨h2, hf2⟩
      refine wx_rv j65_105 rfl ?_
      exact fin h2 hf2 (by rw [if_neg (by rw [hf]; decide)]; rfl)
  · simp only [ax_cn, Classical.not_not] at c27
    have hf : fl m = true := by
      have := bB_0.mp c27
      simpa using this
    refine wx_aldn j65_30 rfl ?_
    refine wx_ildn j65_31 rfl ?_
    refine wx_icst (v := nI 1) j65_32 (by decide) ?_
    refine wx_cmp 40 j65_33 (by decide) (fun c33 => ?_) (fun c33 => ?_)
    · simp only [ax_cn, Classical.not_not] at c33
      have e1 : ¬ k = 1 := fun q => c33 (by rw [q])
      refine wx_icst (v := nI 1) j65_40 (by decide) ?_
      refine wx_icst (v := nI 2) j65_41 (by decide) ?_
      refine wx_v2 j65_42 rfl rfl rfl (Nat.le_of_ble_eq_true rfl) rfl (sp_tPlace (m := 2) h1 (by decide) (by decide) (by rw [List.length_append]; omega)) ?_
      rintro d2 ⟨h2, hf2⟩
      refine wx_rv j65_45 rfl ?_
      exact fin h2 hf2 (by rw [if_pos hf, if_neg e1]; rfl)
    · simp only [ax_cn, Classical.not_not] at c33
      have e1 : k = 1 := by
        rcases hk with q | q | q | q
        · exact q
        all_goals (rw [q] at c33; exact absurd c33 (by decide))
      refine wx_icst (v := nI 0) j65_36 (by decide) ?_
      refine wx_goto 41 j65_37 (by decide) ?_
      refine wx_icst (v := nI 2) j65_41 (by decide) ?_
      refine wx_v2 j65_42 rfl rfl rfl (Nat.le_of_ble_eq_true rfl) rfl (sp_tPlace (m := 2) h1 (by decide) (by decide) (by rw [List.length_append]; omega)) ?_
      rintro d2 ⟨h2, hf2⟩
      refine wx_rv j65_45 rfl ?_
      exact fin h2 hf2 (by rw [if_pos hf, if_pos e1]; rfl)
theorem sp_tNameless {k : Nat} (hg : gr_is d 0 (m + 1) nm fl b) (ht : tb_is d 0 T) (h : bt_is d 515 l) (hb : TB T) (hk : k = 3 ∨ k = 4) (hl : l.length + 10 ≤ 4000) : ax_E 64 [.ref 513, .int (nI k)] d (ax_Pv fun d1 => tb_is d1 0 (sNl T (fl m) (nm m) k).2 ∧ bt_is d1 515 (l ++ (sNl T (fl m) (nm m) k).1) ∧ wf d d1) := by
  show ax_W 64 0 [some (.ref 513), some (.int (nI k)), none, none] [] d _
  refine wx_ildn j64_0 rfl ?_
  refine wx_icst (v := nI 0) j64_1 (by decide) ?_
  refine wx_t2 j64_2 rfl rfl rfl (Nat.le_of_ble_eq_true rfl) (sp_codeOf) ?_
  rintro _ d9 ⟨rfl, h9⟩
  obtain rfl := h9.symm
  rw [show 0 * 8 + k = k by omega]
  have hkB : k < tB := by rcases hk with q | q <;> rw [q] <;> decide
  have hn20 := (hg.2.2.2 m (Nat.lt_succ_self m)).2.1
  refine wx_istn (L' := [_, _, some (.int _), _]) j64_5 (Nat.le_of_ble_eq_true rfl) rfl ?_
  refine wx_aldn j64_6 rfl ?_
  refine wx_get (v := .ref _) j64_7 rfl (Nat.le_of_ble_eq_true rfl) rfl ?_
  refine wx_ildn j64_10 rfl ?_
  refine wx_i1 j64_11 rfl rfl (Nat.le_of_ble_eq_true rfl) rfl (sp_findCode (s := 0) (by decide) hg ht hb hkB) ?_
  rintro _ d9 ⟨rfl, h9⟩
  obtain rfl := h9.symm
  refine wx_istn (L' := [_, _, _, some (.int _)]) j64_14 (Nat.le_of_ble_eq_true rfl) rfl ?_
  refine wx_ildn j64_15 rfl ?_
  refine wx_icst (v := (-1)) j64_16 (by decide) ?_
  refine wx_cmp 33 j64_17 (by decide) (fun c17 => ?_) (fun c17 => ?_)
  · simp only [ax_cn, Classical.not_not] at c17
    have hno : fi (T (kj (fl m)) (nm m)) k = none := (oi_neg (fi_31 ht (kj_lt (fl m)) (kj_nr (fl m) hn20))).mp c17
    refine wx_aldn j64_33 rfl ?_
    refine wx_ildn j64_34 rfl ?_
    refine wx_v1 j64_35 rfl rfl (Nat.le_of_ble_eq_true rfl) rfl (sp_tKind hg ht h hb (by rcases hk with q | q <;> simp [q]) (by omega)) ?_
    rintro d1 ⟨h1, hf1⟩
    have hg1 := gr_wf hg (wf_bt hf1)
    have ht1 := tb_bt ht hf1
    refine wx_aldn j64_38 rfl ?_
    refine wx_get (v := .ref _) j64_39 rfl (Nat.le_of_ble_eq_true rfl) rfl ?_
    refine wx_ildn j64_42 rfl ?_
    refine wx_v1 j64_43 rfl rfl (Nat.le_of_ble_eq_true rfl) rfl (sp_learn (s := 0) (by decide) hg1 ht1 hb hkB) ?_
    rintro d2 ⟨h2, hf2⟩
    refine wx_rv j64_46 rfl ?_
    have e : sNl T (fl m) (nm m) k = (sKi T (fl m) (nm m) k, tln T (kj (fl m)) (nm m) k) := by unfold sNl; rw [hno]
    rw [e]
    exact ⟨h2, bt_tb h1 hf2, wf_tr (wf_bt hf1) (wf_tb hf2)⟩
  · simp only [ax_cn, Classical.not_not] at c17
    obtain ⟨q, hq⟩ := oi_some c17
    rw [hq]
    simp only [oi]
    have hq : fi (T (kj (fl m)) (nm m)) k = some q := hq
    have h12 := tb_len ht (kj_lt (fl m)) (kj_nr (fl m) hn20)
    rw [kj_rm] at h12
    have hq12 := fi_lt hq
    have hc14 : cho T (fl m) (nm m) ≤ 14 := by unfold cho; split <;> omega
    refine wx_aldn j64_20 rfl ?_
    refine wx_ildn j64_21 rfl ?_
    refine wx_aldn j64_22 rfl ?_
    refine wx_get (v := .ref _) j64_23 rfl (Nat.le_of_ble_eq_true rfl) rfl ?_
    refine wx_i0 j64_26 rfl  (Nat.le_of_ble_eq_true rfl) rfl (sp_choices (s := 0) (by decide) hg ht) ?_
    rintro _ d9 ⟨rfl, h9⟩
    obtain rfl := h9.symm
    refine wx_v2 j64_29 rfl rfl rfl (Nat.le_of_ble_eq_true rfl) rfl (sp_tPlace (m := cho T (fl m) (nm m)) h (by omega) (by omega) (by omega)) ?_
    rintro d1 ⟨h1, hf1⟩
    refine wx_rv j64_32 rfl ?_
    have e : sNl T (fl m) (nm m) k = (pb (wd (cho T (fl m) (nm m))) q, T) := by unfold sNl; rw [hq]
    rw [e]
    exact ⟨tb_bt ht hf1, h1, wf_bt hf1⟩
theorem sp_tClose (hg : gr_is d 0 (m + 1) nm fl b) (ht : tb_is d 0 T) (h : bt_is d 515 l) (hb : TB T) (hl : l.length + 10 ≤ 4000) : ax_E 62 [.ref 513] d (ax_Pv fun d1 => tb_is d1 0 (sCl T (fl m) (nm m)).2 ∧ bt_is d1 515 (l ++ (sCl T (fl m) (nm m)).1) ∧ wf d d1) := by
  show ax_W 62 0 [some (.ref 513)] [] d _
  refine wx_aldn j62_0 rfl ?_
  refine wx_get (v := .ref _) j62_1 rfl (Nat.le_of_ble_eq_true rfl) rfl ?_
  refine wx_i0 j62_4 rfl  (Nat.le_of_ble_eq_true rfl) rfl (sp_isInTag (s := 0) (by decide) hg) ?_
  rintro _ d9 ⟨rfl, h9⟩
  obtain rfl := h9.symm
  refine wx_if 18 j62_7 (by decide) (fun c7 => ?_) (fun c7 => ?_)
  · simp only [ax_cn, Classical.not_not] at c7
    have hf : fl m = true := by
      have := bB_0.mp c7
      simpa using this
    have hn20 := (hg.2.2.2 m (Nat.lt_succ_self m)).2.1
    have h12 := tb_len ht (j := 7) (by decide) hn20
    refine wx_aldn j62_18 rfl ?_
    refine wx_aldn j62_19 rfl ?_
    refine wx_get (v := .ref _) j62_20 rfl (Nat.le_of_ble_eq_true rfl) rfl ?_
    refine wx_i0 j62_23 rfl  (Nat.le_of_ble_eq_true rfl) rfl (sp_learned (s := 0) (by decide) hg ht) ?_
    rintro _ d9 ⟨rfl, h9⟩
    obtain rfl := h9.symm
    refine wx_aldn j62_26 rfl ?_
    refine wx_get (v := .ref _) j62_27 rfl (Nat.le_of_ble_eq_true rfl) rfl ?_
    refine wx_i0 j62_30 rfl  (Nat.le_of_ble_eq_true rfl) rfl (sp_choices (s := 0) (by decide) hg ht) ?_
    rintro _ d9 ⟨rfl, h9⟩
    obtain rfl := h9.symm
    have e : sCl T (fl m) (nm m) = (pb (wd (cho T (fl m) (nm m))) (T 7 (nm m)).length, T) := by unfold sCl; rw [if_pos hf]
    have h12b : (T 7 (nm m)).length ≤ 12 := h12
    have ek : kd fl m = 7 := by unfold kd; rw [if_pos hf]
    have hc14 : cho T (fl m) (nm m) ≤ 14 := by unfold cho kj; rw [if_pos hf, if_pos hf]; omega
    have hcc : (T (kd fl m) (nm m)).length + (if fl m = true then 2 else 1) = cho T (fl m) (nm m) := rfl
    rw [hcc, ek]
    refine wx_v2 j62_33 rfl rfl rfl (Nat.le_of_ble_eq_true rfl) rfl (sp_tPlace h (by omega) (by omega) (by omega)) ?_
    rintro d1 ⟨h1, hf1⟩
    refine wx_rv j62_36 rfl ?_
    rw [e]
    exact ⟨tb_bt ht hf1, h1, wf_bt hf1⟩
  · simp only [ax_cn, Classical.not_not] at c7
    have hf : fl m = false := by
      have := bB_1.mp c7
      simpa using this
    refine wx_aldn j62_10 rfl ?_
    refine wx_icst (v := nI 4) j62_11 (by decide) ?_
    refine wx_v1 j62_12 rfl rfl (Nat.le_of_ble_eq_true rfl) rfl (sp_tNameless (k := 4) hg ht h hb (Or.inr rfl) hl) ?_
    rintro d1 h1
    refine wx_goto 36 j62_15 (by decide) ?_
    refine wx_rv j62_36 rfl ?_
    have e : sCl T (fl m) (nm m) = sNl T (fl m) (nm m) 4 := by unfold sCl; rw [if_neg (by rw [hf]; decide)]
    rw [e]
    exact h1
theorem tnd_new {k : Nat} {x4 x5 : Int32} (hg : gr_is d 0 (m + 1) nm fl b) (ht : tb_is d 0 T) (h : bt_is d 515 l) (hb : TB T) (h45 : T45 T) (hsp : sp < tB) (hlo : lo < tB) (hr : rm3 T sp lo) (hk : k = 1 ∨ k = 2) (hl : l.length + 130 ≤ 4000) : ax_W 63 58 [some (.ref 513), some (.int (nI k)), some (.int (nI sp)), some (.int (nI lo)), some (.int x4), some (.int x5), none] [] d (ax_Pi fun y d1 => y = nI (sNw T (fl m) (nm m) k sp lo).2.2 ∧ tb_is d1 0 (sNw T (fl m) (nm m) k sp lo).2.1 ∧ bt_is d1 515 (l ++ (sNw T (fl m) (nm m) k sp lo).1) ∧ wf d d1) := by
  refine wx_aldn j63_58 rfl ?_
  refine wx_ildn j63_59 rfl ?_
  refine wx_v1 j63_60 rfl rfl (Nat.le_of_ble_eq_true rfl) rfl (sp_tKind hg ht h hb (by rcases hk with q | q <;> simp [q]) (by omega)) ?_
  rintro d1 ⟨h1, hf1⟩
  have hg1 := gr_wf hg (wf_bt hf1)
  have ht1 := tb_bt ht hf1
  have hk7 := sKi_len T (fl m) (nm m) k
  refine wx_aldn j63_63 rfl ?_
  refine wx_ildn j63_64 rfl ?_
  refine wx_ildn j63_65 rfl ?_
  refine wx_i2 j63_66 rfl rfl rfl (Nat.le_of_ble_eq_true rfl) rfl (sp_tName ht1 h1 hb h45 hsp hlo hr (by rw [List.length_append]; omega)) ?_
  rintro _ d2 ⟨rfl, ht2, h2, hf2⟩
  have hg2 := gr_wf hg1 hf2
  have hi20 := sNa_20 (tb_l20 ht (j := 4) (k := 0) (by decide) (by decide)) hr
  refine wx_ist (L' := [_, _, _, _, _, _, some (.int _)]) j63_69 (Nat.le_of_ble_eq_true rfl) rfl ?_
  refine wx_aldn j63_71 rfl ?_
  refine wx_get (v := .ref _) j63_72 rfl (Nat.le_of_ble_eq_true rfl) rfl ?_
  refine wx_ildn j63_75 rfl ?_
  refine wx_ild j63_76 rfl ?_
  refine wx_t2 j63_78 rfl rfl rfl (Nat.le_of_ble_eq_true rfl) (sp_codeOf) ?_
  rintro _ d9 ⟨rfl, h9⟩
  obtain rfl := h9.symm
  refine wx_v1 j63_81 rfl rfl (Nat.le_of_ble_eq_true rfl) rfl (sp_learn (s := 0) (by decide) hg2 ht2 (sNa_TB hb hsp hlo) (Nat.lt_trans (show (sNa T sp lo).2.2 * 8 + k < 1000 by omega) (by decide))) ?_
  rintro d3 ⟨h3, hf3⟩
  refine wx_ild j63_84 rfl ?_
  refine wx_ri j63_86 rfl rfl ?_
  have h4 := bt_tb h2 hf3
  rw [List.append_assoc] at h4
  exact ⟨rfl, h3, h4, wf_tr (wf_tr (wf_bt hf1) hf2) (wf_tb hf3)⟩
theorem sp_tNamed {k : Nat} (hg : gr_is d 0 (m + 1) nm fl b) (ht : tb_is d 0 T) (h : bt_is d 515 l) (hb : TB T) (h45 : T45 T) (hsp : sp < tB) (hlo : lo < tB) (hr : rm3 T sp lo) (hk : k = 1 ∨ k = 2) (hl : l.length + 130 ≤ 4000) : ax_E 63 [.ref 513, .int (nI k), .int (nI sp), .int (nI lo)] d (ax_Pi fun y d1 => y = nI (sNd T (fl m) (nm m) k sp lo).2.2 ∧ tb_is d1 0 (sNd T (fl m) (nm m) k sp lo).2.1 ∧ bt_is d1 515 (l ++ (sNd T (fl m) (nm m) k sp lo).1) ∧ wf d d1) := by
  show ax_W 63 0 [some (.ref 513), some (.int (nI k)), some (.int (nI sp)), some (.int (nI lo)), none, none, none] [] d _
  refine wx_aldn j63_0 rfl ?_
  refine wx_get (v := .ref _) j63_1 rfl (Nat.le_of_ble_eq_true rfl) rfl ?_
  refine wx_ildn j63_4 rfl ?_
  refine wx_ildn j63_5 rfl ?_
  refine wx_i2 j63_6 rfl rfl rfl (Nat.le_of_ble_eq_true rfl) rfl (sp_findName (s := 0) (by decide) ht hb h45 hsp hlo) ?_
  rintro _ d9 ⟨rfl, h9⟩
  obtain rfl := h9.symm
  refine wx_ist (L' := [_, _, _, _, some (.int _), _, _]) j63_9 (Nat.le_of_ble_eq_true rfl) rfl ?_
  refine wx_ild j63_11 rfl ?_
  refine wx_icst (v := (-1)) j63_13 (by decide) ?_
  refine wx_cmp 21 j63_14 (by decide) (fun c14 => ?_) (fun c14 => ?_)
  · simp only [ax_cn, Classical.not_not] at c14
    obtain ⟨i, hi⟩ := oi_some c14
    rw [hi]
    simp only [oi]
    have hi20 := Nat.lt_of_lt_of_le (fn_spec hi).1 (tb_l20 ht (j := 4) (k := 0) (by decide) (by decide))
    have hn20 := (hg.2.2.2 m (Nat.lt_succ_self m)).2.1
    refine wx_aldn j63_21 rfl ?_
    refine wx_get (v := .ref _) j63_22 rfl (Nat.le_of_ble_eq_true rfl) rfl ?_
    refine wx_ildn j63_25 rfl ?_
    refine wx_ild j63_26 rfl ?_
    refine wx_t2 j63_28 rfl rfl rfl (Nat.le_of_ble_eq_true rfl) (sp_codeOf) ?_
    rintro _ d9 ⟨rfl, h9⟩
    obtain rfl := h9.symm
    refine wx_i1 j63_31 rfl rfl (Nat.le_of_ble_eq_true rfl) rfl (sp_findCode (s := 0) (by decide) hg ht hb (Nat.lt_trans (show i * 8 + k < 1000 by omega) (by decide))) ?_
    rintro _ d9 ⟨rfl, h9⟩
    obtain rfl := h9.symm
    cases hfi : fi (T (kj (fl m)) (nm m)) (i * 8 + k) with
    | some q =>
      rw [show fi (T (kd fl m) (nm m)) (i * 8 + k) = some q from hfi]
      simp only [oi]
      have h12 := tb_len ht (kj_lt (fl m)) (kj_nr (fl m) hn20)
      rw [kj_rm] at h12
      have hq12 := fi_lt hfi
      have hc14 : cho T (fl m) (nm m) ≤ 14 := by unfold cho; split <;> omega
      refine wx_ist (L' := [_, _, _, _, _, some (.int _), _]) j63_34 (Nat.le_of_ble_eq_true rfl) rfl ?_
      refine wx_ild j63_36 rfl ?_
      refine wx_icst (v := (-1)) j63_38 (by decide) ?_
      refine wx_cmp 58 j63_39 (by decide) (fun c39 => ?_) (fun c39 => ?_)
      · simp only [ax_cn, Classical.not_not] at c39
        exact absurd (show oi (some q) = -1 from c39) (fun q2 => by have := (oi_neg (o := some q) (fun i2 e2 => by cases e2; omega)).mp q2; cases this)
      · simp only [ax_cn, Classical.not_not] at c39
        refine wx_aldn j63_42 rfl ?_
        refine wx_ild j63_43 rfl ?_
        refine wx_aldn j63_45 rfl ?_
        refine wx_get (v := .ref _) j63_46 rfl (Nat.le_of_ble_eq_true rfl) rfl ?_
        refine wx_i0 j63_49 rfl  (Nat.le_of_ble_eq_true rfl) rfl (sp_choices (s := 0) (by decide) hg ht) ?_
        rintro _ d9 ⟨rfl, h9⟩
        obtain rfl := h9.symm
        refine wx_v2 j63_52 rfl rfl rfl (Nat.le_of_ble_eq_true rfl) rfl (sp_tPlace (m := cho T (fl m) (nm m)) h (by omega) (by omega) (by omega)) ?_
        rintro d1 ⟨h1, hf1⟩
        refine wx_ild j63_55 rfl ?_
        refine wx_ri j63_57 rfl rfl ?_
        have e : sNd T (fl m) (nm m) k sp lo = (pb (wd (cho T (fl m) (nm m))) q, T, i) := by unfold sNd; rw [hi]; simp only [hfi]
        rw [e]
        exact ⟨rfl, tb_bt ht hf1, h1, wf_bt hf1⟩
    | none =>
      rw [show fi (T (kd fl m) (nm m)) (i * 8 + k) = none from hfi]
      simp only [oi]
      have e : sNd T (fl m) (nm m) k sp lo = sNw T (fl m) (nm m) k sp lo := by unfold sNd; rw [hi]; simp only [hfi]
      rw [e]
      refine wx_ist (L' := [_, _, _, _, _, some (.int _), _]) j63_34 (Nat.le_of_ble_eq_true rfl) rfl ?_
      refine wx_ild j63_36 rfl ?_
      refine wx_icst (v := (-1)) j63_38 (by decide) ?_
      refine wx_cmp 58 j63_39 (by decide) (fun c39 => ?_) (fun c39 => ?_)
      · simp only [ax_cn, Classical.not_not] at c39
        exact tnd_new hg ht h hb h45 hsp hlo hr hk hl
      · simp only [ax_cn, Classical.not_not] at c39
        exact absurd trivial c39
  · simp only [ax_cn, Classical.not_not] at c14
    have hno : fn T sp lo = none := (oi_neg (fn_31 ht)).mp c14
    have e : sNd T (fl m) (nm m) k sp lo = sNw T (fl m) (nm m) k sp lo := by unfold sNd; rw [hno]
    rw [e]
    refine wx_icst (v := (-1)) j63_17 (by decide) ?_
    refine wx_goto 34 j63_18 (by decide) ?_
    refine wx_ist (L' := [_, _, _, _, _, some (.int _), _]) j63_34 (Nat.le_of_ble_eq_true rfl) rfl ?_
    refine wx_ild j63_36 rfl ?_
    refine wx_icst (v := (-1)) j63_38 (by decide) ?_
    refine wx_cmp 58 j63_39 (by decide) (fun c39 => ?_) (fun c39 => ?_)
    · simp only [ax_cn, Classical.not_not] at c39
      exact tnd_new hg ht h hb h45 hsp hlo hr hk hl
    · simp only [ax_cn, Classical.not_not] at c39
      exact absurd trivial c39
end W3
end
section
/-! WRITING an event; beginning; the class's plain calls. -/
/-- the names of a writer's tables: each has its space and its local part in the tables, by the space's first place, and there are no others -/
def NI (T : TT) : Prop := TB T ∧ T45 T ∧ (∀ k, (T 0 0).length ≤ k → T 1 k = []) ∧ (∀ i, i < (T 4 0).length → ∃ p, fi (T 0 0) ((T 4 0).getD i 0) = some p ∧ (T 5 0).getD i 0 ∈ T 1 p) ∧ (∀ sp p lo, fi (T 0 0) sp = some p → lo ∈ T 1 p → fn T sp lo ≠ none) ∧ (∀ k, (T 4 0).length ≤ k → T 2 k = [] ∧ T 6 k = [] ∧ T 7 k = [])
theorem rm3_of {T : TT} {sp lo : Nat} (h : NI T) (hr : rfn T sp lo = true) : rm3 T sp lo := by
  obtain ⟨hb, h45, h1, hc, hd, he⟩ := h
  cases hf : fn T sp lo with
  | some i =>
    obtain ⟨f1, f2, f3⟩ := fn_spec hf
    obtain ⟨p, hp, hm⟩ := hc i f1
    rw [f2] at hp
    rw [f3] at hm
    refine ⟨fun q => (by rw [hp] at q; cases q), fun q => ?_, fun q => (by rw [hf] at q; cases q)⟩
    have e : sSp T sp = (pb (wd ((T 0 0).length + 1)) (p + 1), T, p) := by unfold sSp; rw [hp]
    rw [e] at q
    exact absurd hm (fi_none.mp q)
  | none =>
    obtain ⟨r1, r2, r3⟩ := rfn_room hr hf
    refine ⟨r2, fun _ => ?_, fun _ => r1⟩
    unfold sSp
    cases hq : fi (T 0 0) sp with
    | some p => exact r3 p hq
    | none =>
      show (tst T 0 0 (T 0 0 ++ [sp]) 1 (T 0 0).length).length < 10
      rw [tst_ne (Or.inl (by decide)), h1 _ (Nat.le_refl _)]
      decide
/-- what the writer's calls may change -/
def we (d d1 : ax_D) : Prop := ∀ id, 256 ≤ id → id ≠ 515 → id ≠ 516 → id ≠ 521 → id ≠ 523 → id ≠ 525 → d1 id = d id
theorem we_wf {d d1 : ax_D} (h : wf d d1) : we d d1 := fun id a b c _ _ _ => h id a b c
theorem we_gr {d d1 : ax_D} (h : gr_fr d d1 0) : we d d1 := fun id _ _ _ a b c => h id a b c
theorem we_rf (d : ax_D) : we d d := fun _ _ _ _ _ _ _ => rfl
theorem we_tr {d d1 d2 : ax_D} (h : we d d1) (h2 : we d1 d2) : we d d2 := fun id a b c e f g => (h2 id a b c e f g).trans (h id a b c e f g)
def hrf (T : TT) (n : Nat) (l : List Nat) (k sp lo : Nat) : Bool := decide (l.length ≤ 3800) && (!(decide (k = 1) && decide (n = 8)) && (!(decide (k = 1 ∨ k = 2)) || rfn T sp lo))
section W4
variable {d : ax_D} {l : List Nat} {T : TT} {m n : Nat} {nm : Nat → Nat} {fl : Nat → Bool} {b : Bool} {sp lo v : Nat}
theorem tb_gr {d1 : ax_D} (h : tb_is d 0 T) (hf : gr_fr d d1 0) : tb_is d1 0 T := tb_same h (fun id hi => hf id (by omega) (by omega) (by omega)) (by decide)
theorem bt_gr {d1 : ax_D} (h : bt_is d 515 l) (hf : gr_fr d d1 0) : bt_is d1 515 l := bt_keep h (hf 515 (by decide) (by decide) (by decide)) (hf 516 (by decide) (by decide) (by decide))
theorem sp_hrf {k : Nat} (ht : tb_is d 0 T) (hg : gr_is d 0 n nm fl b) (h : bt_is d 515 l) (hb : TB T) (h45 : T45 T) (hsp : sp < tB) (hlo : lo < tB) (hk : k < 2 ^ 31) : ax_E 61 [.ref 513, .int (nI k), .int (nI sp), .int (nI lo)] d (ax_Pi fun y d1 => y = bB (hrf T n l k sp lo) ∧ d1 = d) := by
  show ax_W 61 0 [some (.ref 513), some (.int (nI k)), some (.int (nI sp)), some (.int (nI lo))] [] d _
  refine wx_aldn j61_0 rfl ?_
  refine wx_get (v := .ref _) j61_1 rfl (Nat.le_of_ble_eq_true rfl) rfl ?_
  refine wx_get (v := .int _) j61_4 rfl (Nat.le_of_ble_eq_true rfl) rfl ?_
  rw [h.2.1]
  refine wx_spsh (v := nI 3800) j61_7 (by decide) ?_
  refine wx_cmp 28 j61_10 (by decide) (fun c10 => ?_) (fun c10 => ?_)
  · simp only [ax_cn, Classical.not_not] at c10
    have e1 : ¬ l.length ≤ 3800 := fun q => absurd c10 (nI_nlt q (Nat.lt_of_le_of_lt (Nat.le_refl _) (by decide)))
    refine wx_icst (v := nI 0) j61_28 (by decide) ?_
    refine wx_ri j61_29 rfl rfl ?_
    exact ⟨by unfold hrf; rw [decide_eq_false e1]; rfl, rfl⟩
  · simp only [ax_cn, Classical.not_not] at c10
    have e1 : l.length ≤ 3800 := Nat.not_lt.mp (fun q => c10 (nI_lt q (Nat.lt_of_le_of_lt h.1 (by decide))))
    refine wx_ildn j61_13 rfl ?_
    refine wx_icst (v := nI 1) j61_14 (by decide) ?_
    refine wx_cmp 30 j61_15 (by decide) (fun c15 => ?_) (fun c15 => ?_)
    · simp only [ax_cn, Classical.not_not] at c15
      have e2 : ¬ k = 1 := fun q => c15 (by rw [q])
      refine wx_ildn j61_30 rfl ?_
      refine wx_t1 j61_31 rfl rfl (Nat.le_of_ble_eq_true rfl) (sp_isNamed hk) ?_
      rintro _ d9 ⟨rfl, h9⟩
      obtain rfl := h9.symm
      refine wx_if 49 j61_34 (by decide) (fun c34 => ?_) (fun c34 => ?_)
      · simp only [ax_cn, Classical.not_not] at c34
        have e4 := of_decide_eq_false (bB_0.mp c34)
        refine wx_icst (v := nI 1) j61_49 (by decide) ?_
        refine wx_goto 54 j61_50 (by decide) ?_
        refine wx_ri j61_54 rfl rfl ?_
        exact ⟨by unfold hrf; rw [decide_eq_true e1, decide_eq_false e2, decide_eq_false e4]; rfl, rfl⟩
      · simp only [ax_cn, Classical.not_not] at c34
        have e4 := of_decide_eq_true (bB_1.mp c34)
        refine wx_aldn j61_37 rfl ?_
        refine wx_get (v := .ref _) j61_38 rfl (Nat.le_of_ble_eq_true rfl) rfl ?_
        refine wx_ildn j61_41 rfl ?_
        refine wx_ildn j61_42 rfl ?_
        refine wx_i2 j61_43 rfl rfl rfl (Nat.le_of_ble_eq_true rfl) rfl (sp_rfn (s := 0) (by decide) ht hb h45 hsp hlo) ?_
        rintro _ d9 ⟨rfl, h9⟩
        obtain rfl := h9.symm
        refine wx_if 53 j61_46 (by decide) (fun c46 => ?_) (fun c46 => ?_)
        · simp only [ax_cn, Classical.not_not] at c46
          have e5 := bB_0.mp c46
          refine wx_icst (v := nI 0) j61_53 (by decide) ?_
          refine wx_ri j61_54 rfl rfl ?_
          exact ⟨by unfold hrf; rw [decide_eq_true e1, decide_eq_false e2, decide_eq_true e4, e5]; rfl, rfl⟩
        · simp only [ax_cn, Classical.not_not] at c46
          have e5 := bB_1.mp c46
          refine wx_icst (v := nI 1) j61_49 (by decide) ?_
          refine wx_goto 54 j61_50 (by decide) ?_
          refine wx_ri j61_54 rfl rfl ?_
          exact ⟨by unfold hrf; rw [decide_eq_true e1, decide_eq_false e2, decide_eq_true e4, e5]; rfl, rfl⟩
    · simp only [ax_cn, Classical.not_not] at c15
      have e2 : k = 1 := (nI_eq hk (by decide)).mp c15
      refine wx_aldn j61_18 rfl ?_
      refine wx_get (v := .ref _) j61_19 rfl (Nat.le_of_ble_eq_true rfl) rfl ?_
      refine wx_i0 j61_22 rfl  (Nat.le_of_ble_eq_true rfl) rfl (sp_isDeepest (s := 0) (by decide) hg) ?_
      rintro _ d9 ⟨rfl, h9⟩
      obtain rfl := h9.symm
      refine wx_if 30 j61_25 (by decide) (fun c25 => ?_) (fun c25 => ?_)
      · simp only [ax_cn, Classical.not_not] at c25
        have e3 := of_decide_eq_false (bB_0.mp c25)
        refine wx_ildn j61_30 rfl ?_
        refine wx_t1 j61_31 rfl rfl (Nat.le_of_ble_eq_true rfl) (sp_isNamed hk) ?_
        rintro _ d9 ⟨rfl, h9⟩
        obtain rfl := h9.symm
        refine wx_if 49 j61_34 (by decide) (fun c34 => ?_) (fun c34 => ?_)
        · simp only [ax_cn, Classical.not_not] at c34
          have e4 := of_decide_eq_false (bB_0.mp c34)
          refine wx_icst (v := nI 1) j61_49 (by decide) ?_
          refine wx_goto 54 j61_50 (by decide) ?_
          refine wx_ri j61_54 rfl rfl ?_
          exact absurd (Or.inl e2) e4
        · simp only [ax_cn, Classical.not_not] at c34
          have e4 := of_decide_eq_true (bB_1.mp c34)
          refine wx_aldn j61_37 rfl ?_
          refine wx_get (v := .ref _) j61_38 rfl (Nat.le_of_ble_eq_true rfl) rfl ?_
          refine wx_ildn j61_41 rfl ?_
          refine wx_ildn j61_42 rfl ?_
          refine wx_i2 j61_43 rfl rfl rfl (Nat.le_of_ble_eq_true rfl) rfl (sp_rfn (s := 0) (by decide) ht hb h45 hsp hlo) ?_
          rintro _ d9 ⟨rfl, h9⟩
          obtain rfl := h9.symm
          refine wx_if 53 j61_46 (by decide) (fun c46 => ?_) (fun c46 => ?_)
          · simp only [ax_cn, Classical.not_not] at c46
            have e5 := bB_0.mp c46
            refine wx_icst (v := nI 0) j61_53 (by decide) ?_
            refine wx_ri j61_54 rfl rfl ?_
            exact ⟨by unfold hrf; rw [decide_eq_true e1, decide_eq_false e3, decide_eq_true e4, e5, Bool.and_false]; rfl, rfl⟩
          · simp only [ax_cn, Classical.not_not] at c46
            have e5 := bB_1.mp c46
            refine wx_icst (v := nI 1) j61_49 (by decide) ?_
            refine wx_goto 54 j61_50 (by decide) ?_
            refine wx_ri j61_54 rfl rfl ?_
            exact ⟨by unfold hrf; rw [decide_eq_true e1, decide_eq_false e3, decide_eq_true e4, e5, Bool.and_false]; rfl, rfl⟩
      · simp only [ax_cn, Classical.not_not] at c25
        have e3 := of_decide_eq_true (bB_1.mp c25)
        refine wx_icst (v := nI 0) j61_28 (by decide) ?_
        refine wx_ri j61_29 rfl rfl ?_
        exact ⟨by unfold hrf; rw [decide_eq_true e1, decide_eq_true e2, decide_eq_true e3]; rfl, rfl⟩
theorem hrf_of {k : Nat} (h : hrf T n l k sp lo = true) : l.length ≤ 3800 ∧ (k = 1 → ¬ n = 8) ∧ (k = 1 ∨ k = 2 → rfn T sp lo = true) := by
  unfold hrf at h
  simp only [Bool.and_eq_true, decide_eq_true_eq, Bool.not_eq_true', Bool.and_eq_false_iff, decide_eq_false_iff_not, Bool.or_eq_true] at h
  refine ⟨h.1, fun q1 q2 => ?_, fun q => ?_⟩
  · rcases h.2.1 with a | a
    · exact a q1
    · exact a q2
  · rcases h.2.2 with a | a
    · exact absurd q a
    · exact a
theorem sNd_20 {f : Bool} {k kind : Nat} (h : (T 4 0).length ≤ 20) (hr : rm3 T sp lo) : (sNd T f k kind sp lo).2.2 < 20 := by
  have h1 := sNa_20 h hr
  unfold sNd
  cases hf : fn T sp lo with
  | some i =>
    have := (fn_spec hf).1
    simp only
    cases fi (T (kj f) k) (i * 8 + kind) with
    | some p => simp only; omega
    | none => exact h1
  | none => exact h1
theorem sNw_TB {f : Bool} {k kind : Nat} (h : TB T) (h4 : (T 4 0).length ≤ 20) (hr : rm3 T sp lo) (hs : sp < tB) (hl : lo < tB) (hk : kind < 8) : TB (sNw T f k kind sp lo).2.1 := by
  have h1 := sNa_20 h4 hr
  exact tln_TB (sNa_TB h hs hl) (Nat.lt_trans (show (sNa T sp lo).2.2 * 8 + kind < 1000 by omega) (by decide))
theorem sNd_TB {f : Bool} {k kind : Nat} (h : TB T) (h4 : (T 4 0).length ≤ 20) (hr : rm3 T sp lo) (hs : sp < tB) (hl : lo < tB) (hk : kind < 8) : TB (sNd T f k kind sp lo).2.1 := by
  have h1 := sNw_TB (f := f) (k := k) h h4 hr hs hl hk
  unfold sNd
  cases hf : fn T sp lo with
  | some i =>
    simp only
    cases fi (T (kj f) k) (i * 8 + kind) with
    | some p => exact h
    | none => exact h1
  | none => exact h1
theorem sNl_TB {f : Bool} {k kind : Nat} (h : TB T) (hk : kind < 8) : TB (sNl T f k kind).2 := by
  unfold sNl
  split
  · exact h
  · exact tln_TB h (Nat.lt_trans hk (by decide))
theorem sp_we1a {fl : Nat → Bool} {nm : Nat → Nat} (hbf : b = false) (ht : tb_is d 0 T) (hg : gr_is d 0 (0) nm fl b) (h : bt_is d 515 l) (hi : NI T) (hsp : sp < tB) (hlo : lo < tB) (hv : v < tB) : ax_E 60 [.ref 513, .int (nI 1), .int (nI sp), .int (nI lo), .int (nI v)] d (ax_Pi fun y d1 => (hrf T (0) l 1 sp lo = false → y = nI 0 ∧ d1 = d) ∧ (hrf T (0) l 1 sp lo = true → y = nI 1 ∧ tb_is d1 0 ((sNa T sp lo).2.1) ∧ gr_is d1 0 1 (va_up nm 0 (sNa T sp lo).2.2) (va_up fl 0 false) true ∧ bt_is d1 515 (l ++ (sNa T sp lo).1) ∧ we d d1)) := by
  show ax_W 60 0 [some (.ref 513), some (.int (nI 1)), some (.int (nI sp)), some (.int (nI lo)), some (.int (nI v))] [] d _
  refine wx_aldn j60_0 rfl ?_
  refine wx_ildn j60_1 rfl ?_
  refine wx_ildn j60_2 rfl ?_
  refine wx_ildn j60_3 rfl ?_
  refine wx_i3 j60_4 rfl rfl rfl rfl (Nat.le_of_ble_eq_true rfl) rfl (sp_hrf ht hg h hi.1 hi.2.1 hsp hlo (by decide)) ?_
  rintro _ d9 ⟨rfl, h9⟩
  obtain rfl := h9.symm
  refine wx_if 12 j60_7 (by decide) (fun c7 => ?_) (fun c7 => ?_)
  · simp only [ax_cn, Classical.not_not] at c7
    have hr := bB_1.mp c7
    obtain ⟨hl, hn8, hrn⟩ := hrf_of hr
    refine wx_ildn j60_12 rfl ?_
    refine wx_tsw j60_13 (fun q => absurd q (by decide)) (fun _ => ⟨27, 40, by decide, by decide, ?_⟩)
    refine wx_aldn j60_40 rfl ?_
    refine wx_get (v := .ref _) j60_41 rfl (Nat.le_of_ble_eq_true rfl) rfl ?_
    refine wx_aldn j60_44 rfl ?_
    refine wx_get (v := .ref _) j60_45 rfl (Nat.le_of_ble_eq_true rfl) rfl ?_
    refine wx_i0 j60_48 rfl  (Nat.le_of_ble_eq_true rfl) rfl (sp_hasBegun (s := 0) (by decide) hg) ?_
    rintro _ d9 ⟨rfl, h9⟩
    obtain rfl := h9.symm
    refine wx_if 64 j60_51 (by decide) (fun c51 => ?_) (fun c51 => ?_)
    · simp only [ax_cn, Classical.not_not] at c51
      refine wx_aldn j60_64 rfl ?_
      refine wx_ildn j60_65 rfl ?_
      refine wx_ildn j60_66 rfl ?_
      refine wx_i2 j60_67 rfl rfl rfl (Nat.le_of_ble_eq_true rfl) rfl (sp_tName ht h hi.1 hi.2.1 hsp hlo (rm3_of hi (hrn (Or.inl rfl))) (by omega)) ?_
      rintro _ d1 ⟨rfl, ht1, h1, hf1⟩
      have hg1 := gr_wf hg hf1
      have h20 := sNa_20 (tb_l20 ht (j := 4) (k := 0) (by decide) (by decide)) (rm3_of hi (hrn (Or.inl rfl)))
      refine wx_v1 j60_70 rfl rfl (Nat.le_of_ble_eq_true rfl) rfl (sp_enter (s := 0) (by decide) hg1 (by decide) h20) ?_
      rintro d2 ⟨hg2, hf2⟩
      refine wx_goto 131 j60_73 (by decide) ?_
      refine wx_icst (v := nI 1) j60_131 (by decide) ?_
      refine wx_ri j60_132 rfl rfl ?_
      rw [hr]
      refine ⟨fun q => (by cases q), fun _ => ⟨rfl, tb_gr ht1 hf2, hg2, bt_gr h1 hf2, we_tr (we_wf hf1) (we_gr hf2)⟩⟩
    · simp only [ax_cn, Classical.not_not] at c51
      exact absurd (show bB b = 0 by rw [hbf]; rfl) c51
  · simp only [ax_cn, Classical.not_not] at c7
    have hr := bB_0.mp c7
    refine wx_icst (v := nI 0) j60_10 (by decide) ?_
    refine wx_ri j60_11 rfl rfl ?_
    rw [hr]
    exact ⟨fun _ => ⟨rfl, rfl⟩, fun q => by cases q⟩
theorem sp_we1b (hbf : b = true) (ht : tb_is d 0 T) (hg : gr_is d 0 (m + 1) nm fl b) (h : bt_is d 515 l) (hi : NI T) (hsp : sp < tB) (hlo : lo < tB) (hv : v < tB) : ax_E 60 [.ref 513, .int (nI 1), .int (nI sp), .int (nI lo), .int (nI v)] d (ax_Pi fun y d1 => (hrf T (m + 1) l 1 sp lo = false → y = nI 0 ∧ d1 = d) ∧ (hrf T (m + 1) l 1 sp lo = true → y = nI 1 ∧ tb_is d1 0 ((sNd T (fl m) (nm m) 1 sp lo).2.1) ∧ gr_is d1 0 (m + 1 + 1) (va_up nm (m + 1) (sNd T (fl m) (nm m) 1 sp lo).2.2) (va_up (va_up fl m true) (m + 1) false) true ∧ bt_is d1 515 (l ++ (sNd T (fl m) (nm m) 1 sp lo).1) ∧ we d d1)) := by
  show ax_W 60 0 [some (.ref 513), some (.int (nI 1)), some (.int (nI sp)), some (.int (nI lo)), some (.int (nI v))] [] d _
  refine wx_aldn j60_0 rfl ?_
  refine wx_ildn j60_1 rfl ?_
  refine wx_ildn j60_2 rfl ?_
  refine wx_ildn j60_3 rfl ?_
  refine wx_i3 j60_4 rfl rfl rfl rfl (Nat.le_of_ble_eq_true rfl) rfl (sp_hrf ht hg h hi.1 hi.2.1 hsp hlo (by decide)) ?_
  rintro _ d9 ⟨rfl, h9⟩
  obtain rfl := h9.symm
  refine wx_if 12 j60_7 (by decide) (fun c7 => ?_) (fun c7 => ?_)
  · simp only [ax_cn, Classical.not_not] at c7
    have hr := bB_1.mp c7
    obtain ⟨hl, hn8, hrn⟩ := hrf_of hr
    refine wx_ildn j60_12 rfl ?_
    refine wx_tsw j60_13 (fun q => absurd q (by decide)) (fun _ => ⟨27, 40, by decide, by decide, ?_⟩)
    refine wx_aldn j60_40 rfl ?_
    refine wx_get (v := .ref _) j60_41 rfl (Nat.le_of_ble_eq_true rfl) rfl ?_
    refine wx_aldn j60_44 rfl ?_
    refine wx_get (v := .ref _) j60_45 rfl (Nat.le_of_ble_eq_true rfl) rfl ?_
    refine wx_i0 j60_48 rfl  (Nat.le_of_ble_eq_true rfl) rfl (sp_hasBegun (s := 0) (by decide) hg) ?_
    rintro _ d9 ⟨rfl, h9⟩
    obtain rfl := h9.symm
    refine wx_if 64 j60_51 (by decide) (fun c51 => ?_) (fun c51 => ?_)
    · simp only [ax_cn, Classical.not_not] at c51
      exact absurd c51 (by rw [hbf]; decide)
    · simp only [ax_cn, Classical.not_not] at c51
      refine wx_aldn j60_54 rfl ?_
      refine wx_icst (v := nI 1) j60_55 (by decide) ?_
      refine wx_ildn j60_56 rfl ?_
      refine wx_ildn j60_57 rfl ?_
      refine wx_i3 j60_58 rfl rfl rfl rfl (Nat.le_of_ble_eq_true rfl) rfl (sp_tNamed (k := 1) hg ht h hi.1 hi.2.1 hsp hlo (rm3_of hi (hrn (Or.inl rfl))) (Or.inl rfl) (by omega)) ?_
      rintro _ d1 ⟨rfl, ht1, h1, hf1⟩
      have hg1 := gr_wf hg hf1
      have h20 := sNd_20 (f := fl m) (k := nm m) (kind := 1) (tb_l20 ht (j := 4) (k := 0) (by decide) (by decide)) (rm3_of hi (hrn (Or.inl rfl)))
      refine wx_goto 70 j60_61 (by decide) ?_
      refine wx_v1 j60_70 rfl rfl (Nat.le_of_ble_eq_true rfl) rfl (sp_enter (s := 0) (by decide) hg1 (by have := hg.1; have := hn8 rfl; omega) h20) ?_
      rintro d2 ⟨hg2, hf2⟩
      refine wx_goto 131 j60_73 (by decide) ?_
      refine wx_icst (v := nI 1) j60_131 (by decide) ?_
      refine wx_ri j60_132 rfl rfl ?_
      rw [hr]
      refine ⟨fun q => (by cases q), fun _ => ⟨rfl, tb_gr ht1 hf2, hg2, bt_gr h1 hf2, we_tr (we_wf hf1) (we_gr hf2)⟩⟩
  · simp only [ax_cn, Classical.not_not] at c7
    have hr := bB_0.mp c7
    refine wx_icst (v := nI 0) j60_10 (by decide) ?_
    refine wx_ri j60_11 rfl rfl ?_
    rw [hr]
    exact ⟨fun _ => ⟨rfl, rfl⟩, fun q => by cases q⟩
theorem sp_we2 (ht : tb_is d 0 T) (hg : gr_is d 0 (m + 1) nm fl b) (h : bt_is d 515 l) (hi : NI T) (hsp : sp < tB) (hlo : lo < tB) (hv : v < tB) : ax_E 60 [.ref 513, .int (nI 2), .int (nI sp), .int (nI lo), .int (nI v)] d (ax_Pi fun y d1 => (hrf T (m + 1) l 2 sp lo = false → y = nI 0 ∧ d1 = d) ∧ (hrf T (m + 1) l 2 sp lo = true → y = nI 1 ∧ tb_is d1 0 ((sVa (sNd T (fl m) (nm m) 2 sp lo).2.1 (sNd T (fl m) (nm m) 2 sp lo).2.2 v).2) ∧ gr_is d1 0 (m + 1) nm fl b ∧ bt_is d1 515 (l ++ ((sNd T (fl m) (nm m) 2 sp lo).1 ++ (sVa (sNd T (fl m) (nm m) 2 sp lo).2.1 (sNd T (fl m) (nm m) 2 sp lo).2.2 v).1)) ∧ we d d1)) := by
  show ax_W 60 0 [some (.ref 513), some (.int (nI 2)), some (.int (nI sp)), some (.int (nI lo)), some (.int (nI v))] [] d _
  refine wx_aldn j60_0 rfl ?_
  refine wx_ildn j60_1 rfl ?_
  refine wx_ildn j60_2 rfl ?_
  refine wx_ildn j60_3 rfl ?_
  refine wx_i3 j60_4 rfl rfl rfl rfl (Nat.le_of_ble_eq_true rfl) rfl (sp_hrf ht hg h hi.1 hi.2.1 hsp hlo (by decide)) ?_
  rintro _ d9 ⟨rfl, h9⟩
  obtain rfl := h9.symm
  refine wx_if 12 j60_7 (by decide) (fun c7 => ?_) (fun c7 => ?_)
  · simp only [ax_cn, Classical.not_not] at c7
    have hr := bB_1.mp c7
    obtain ⟨hl, hn8, hrn⟩ := hrf_of hr
    refine wx_ildn j60_12 rfl ?_
    refine wx_tsw j60_13 (fun q => absurd q (by decide)) (fun _ => ⟨63, 76, by decide, by decide, ?_⟩)
    refine wx_aldn j60_76 rfl ?_
    refine wx_aldn j60_77 rfl ?_
    refine wx_icst (v := nI 2) j60_78 (by decide) ?_
    refine wx_ildn j60_79 rfl ?_
    refine wx_ildn j60_80 rfl ?_
    refine wx_i3 j60_81 rfl rfl rfl rfl (Nat.le_of_ble_eq_true rfl) rfl (sp_tNamed (k := 2) hg ht h hi.1 hi.2.1 hsp hlo (rm3_of hi (hrn (Or.inr rfl))) (Or.inr rfl) (by omega)) ?_
    rintro _ d1 ⟨rfl, ht1, h1, hf1⟩
    have hg1 := gr_wf hg hf1
    have h420 := tb_l20 ht (j := 4) (k := 0) (by decide) (by decide)
    have h20 := sNd_20 (f := fl m) (k := nm m) (kind := 2) h420 (rm3_of hi (hrn (Or.inr rfl)))
    have hl1 := sNd_len T (fl m) (nm m) 2 sp lo
    refine wx_ild j60_84 rfl ?_
    refine wx_v2 j60_86 rfl rfl rfl (Nat.le_of_ble_eq_true rfl) rfl (sp_tValue ht1 h1 (sNd_TB hi.1 h420 (rm3_of hi (hrn (Or.inr rfl))) hsp hlo (by decide)) h20 hv (by rw [List.length_append]; omega)) ?_
    rintro d2 ⟨ht2, h2, hf2⟩
    rw [List.append_assoc] at h2
    refine wx_goto 131 j60_89 (by decide) ?_
    refine wx_icst (v := nI 1) j60_131 (by decide) ?_
    refine wx_ri j60_132 rfl rfl ?_
    rw [hr]
    refine ⟨fun q => (by cases q), fun _ => ⟨rfl, ht2, gr_wf hg1 hf2, h2, we_tr (we_wf hf1) (we_wf hf2)⟩⟩
  · simp only [ax_cn, Classical.not_not] at c7
    have hr := bB_0.mp c7
    refine wx_icst (v := nI 0) j60_10 (by decide) ?_
    refine wx_ri j60_11 rfl rfl ?_
    rw [hr]
    exact ⟨fun _ => ⟨rfl, rfl⟩, fun q => by cases q⟩
theorem sp_we3 (ht : tb_is d 0 T) (hg : gr_is d 0 (m + 1) nm fl b) (h : bt_is d 515 l) (hi : NI T) (hsp : sp < tB) (hlo : lo < tB) (hv : v < tB) : ax_E 60 [.ref 513, .int (nI 3), .int (nI sp), .int (nI lo), .int (nI v)] d (ax_Pi fun y d1 => (hrf T (m + 1) l 3 sp lo = false → y = nI 0 ∧ d1 = d) ∧ (hrf T (m + 1) l 3 sp lo = true → y = nI 1 ∧ tb_is d1 0 ((sVa (sNl T (fl m) (nm m) 3).2 (nm m) v).2) ∧ gr_is d1 0 (m + 1) nm (va_up fl m true) b ∧ bt_is d1 515 (l ++ ((sNl T (fl m) (nm m) 3).1 ++ (sVa (sNl T (fl m) (nm m) 3).2 (nm m) v).1)) ∧ we d d1)) := by
  show ax_W 60 0 [some (.ref 513), some (.int (nI 3)), some (.int (nI sp)), some (.int (nI lo)), some (.int (nI v))] [] d _
  refine wx_aldn j60_0 rfl ?_
  refine wx_ildn j60_1 rfl ?_
  refine wx_ildn j60_2 rfl ?_
  refine wx_ildn j60_3 rfl ?_
  refine wx_i3 j60_4 rfl rfl rfl rfl (Nat.le_of_ble_eq_true rfl) rfl (sp_hrf ht hg h hi.1 hi.2.1 hsp hlo (by decide)) ?_
  rintro _ d9 ⟨rfl, h9⟩
  obtain rfl := h9.symm
  refine wx_if 12 j60_7 (by decide) (fun c7 => ?_) (fun c7 => ?_)
  · simp only [ax_cn, Classical.not_not] at c7
    have hr := bB_1.mp c7
    obtain ⟨hl, hn8, hrn⟩ := hrf_of hr
    refine wx_ildn j60_12 rfl ?_
    refine wx_tsw j60_13 (fun q => absurd q (by decide)) (fun _ => ⟨79, 92, by decide, by decide, ?_⟩)
    refine wx_aldn j60_92 rfl ?_
    refine wx_icst (v := nI 3) j60_93 (by decide) ?_
    refine wx_v1 j60_94 rfl rfl (Nat.le_of_ble_eq_true rfl) rfl (sp_tNameless (k := 3) hg ht h hi.1 (Or.inl rfl) (by omega)) ?_
    rintro d1 ⟨ht1, h1, hf1⟩
    have hg1 := gr_wf hg hf1
    have hl1 := sNl_len T (fl m) (nm m) 3
    refine wx_aldn j60_97 rfl ?_
    refine wx_get (v := .ref _) j60_98 rfl (Nat.le_of_ble_eq_true rfl) rfl ?_
    refine wx_v0 j60_101 rfl  (Nat.le_of_ble_eq_true rfl) rfl (sp_fill (s := 0) (by decide) hg1) ?_
    rintro d2 ⟨hg2, hf2⟩
    refine wx_aldn j60_104 rfl ?_
    refine wx_aldn j60_105 rfl ?_
    refine wx_get (v := .ref _) j60_106 rfl (Nat.le_of_ble_eq_true rfl) rfl ?_
    refine wx_i0 j60_109 rfl  (Nat.le_of_ble_eq_true rfl) rfl (sp_name (s := 0) (by decide) hg2) ?_
    rintro _ d9 ⟨rfl, h9⟩
    obtain rfl := h9.symm
    refine wx_ild j60_112 rfl ?_
    refine wx_v2 j60_114 rfl rfl rfl (Nat.le_of_ble_eq_true rfl) rfl (sp_tValue (tb_gr ht1 hf2) (bt_gr h1 hf2) (sNl_TB hi.1 (by decide)) (hg.2.2.2 m (Nat.lt_succ_self m)).2.1 hv (by rw [List.length_append]; omega)) ?_
    rintro d3 ⟨ht3, h3, hf3⟩
    rw [List.append_assoc] at h3
    refine wx_goto 131 j60_117 (by decide) ?_
    refine wx_icst (v := nI 1) j60_131 (by decide) ?_
    refine wx_ri j60_132 rfl rfl ?_
    rw [hr]
    refine ⟨fun q => (by cases q), fun _ => ⟨rfl, ht3, gr_wf hg2 hf3, h3, we_tr (we_tr (we_wf hf1) (we_gr hf2)) (we_wf hf3)⟩⟩
  · simp only [ax_cn, Classical.not_not] at c7
    have hr := bB_0.mp c7
    refine wx_icst (v := nI 0) j60_10 (by decide) ?_
    refine wx_ri j60_11 rfl rfl ?_
    rw [hr]
    exact ⟨fun _ => ⟨rfl, rfl⟩, fun q => by cases q⟩
theorem sp_we4 (ht : tb_is d 0 T) (hg : gr_is d 0 (m + 1) nm fl b) (h : bt_is d 515 l) (hi : NI T) (hsp : sp < tB) (hlo : lo < tB) (hv : v < tB) : ax_E 60 [.ref 513, .int (nI 4), .int (nI sp), .int (nI lo), .int (nI v)] d (ax_Pi fun y d1 => (hrf T (m + 1) l 4 sp lo = false → y = nI 0 ∧ d1 = d) ∧ (hrf T (m + 1) l 4 sp lo = true → y = nI 1 ∧ tb_is d1 0 ((sCl T (fl m) (nm m)).2) ∧ gr_is d1 0 m nm fl b ∧ bt_is d1 515 (l ++ (sCl T (fl m) (nm m)).1) ∧ we d d1)) := by
  show ax_W 60 0 [some (.ref 513), some (.int (nI 4)), some (.int (nI sp)), some (.int (nI lo)), some (.int (nI v))] [] d _
  refine wx_aldn j60_0 rfl ?_
  refine wx_ildn j60_1 rfl ?_
  refine wx_ildn j60_2 rfl ?_
  refine wx_ildn j60_3 rfl ?_
  refine wx_i3 j60_4 rfl rfl rfl rfl (Nat.le_of_ble_eq_true rfl) rfl (sp_hrf ht hg h hi.1 hi.2.1 hsp hlo (by decide)) ?_
  rintro _ d9 ⟨rfl, h9⟩
  obtain rfl := h9.symm
  refine wx_if 12 j60_7 (by decide) (fun c7 => ?_) (fun c7 => ?_)
  · simp only [ax_cn, Classical.not_not] at c7
    have hr := bB_1.mp c7
    obtain ⟨hl, hn8, hrn⟩ := hrf_of hr
    refine wx_ildn j60_12 rfl ?_
    refine wx_tsw j60_13 (fun _ => ⟨120, by decide, ?_⟩) (fun q => absurd (by decide) q)
    refine wx_aldn j60_120 rfl ?_
    refine wx_v0 j60_121 rfl  (Nat.le_of_ble_eq_true rfl) rfl (sp_tClose hg ht h hi.1 (by omega)) ?_
    rintro d1 ⟨ht1, h1, hf1⟩
    have hg1 := gr_wf hg hf1
    refine wx_aldn j60_124 rfl ?_
    refine wx_get (v := .ref _) j60_125 rfl (Nat.le_of_ble_eq_true rfl) rfl ?_
    refine wx_v0 j60_128 rfl  (Nat.le_of_ble_eq_true rfl) rfl (sp_leave (s := 0) (by decide) hg1) ?_
    rintro d2 ⟨hg2, hf2⟩
    refine wx_icst (v := nI 1) j60_131 (by decide) ?_
    refine wx_ri j60_132 rfl rfl ?_
    rw [hr]
    refine ⟨fun q => (by cases q), fun _ => ⟨rfl, tb_gr ht1 hf2, hg2, bt_gr h1 hf2, we_tr (we_wf hf1) (we_gr hf2)⟩⟩
  · simp only [ax_cn, Classical.not_not] at c7
    have hr := bB_0.mp c7
    refine wx_icst (v := nI 0) j60_10 (by decide) ?_
    refine wx_ri j60_11 rfl rfl ?_
    rw [hr]
    exact ⟨fun _ => ⟨rfl, rfl⟩, fun q => by cases q⟩
end W4
end
section
/-! READING, the small words: bits, places, numbers, letters. 'sl': the stream's bits; 't': how many are taken; an answer none: it is wrong there. -/
def rB (sl : List Nat) : Nat → Nat → Nat → Option Nat × Nat
  | 0, acc, t => (some acc, t)
  | w + 1, acc, t => if t < sl.length then rB sl w (acc * 2 + sl.getD t 0) (t + 1) else (none, t)
def rP (sl : List Nat) (m t : Nat) : Option Nat × Nat := match rB sl (wd m) 0 t with
  | (some v, t1) => if v < m then (some v, t1) else (none, t1)
  | (none, t1) => (none, t1)
def rN (sl : List Nat) : Nat → Nat → Nat → Nat → Option Nat × Nat
  | 0, _, _, t => (none, t)
  | g + 1, x, w, t => match rB sl 4 0 t with
    | (none, t1) => (none, t1)
    | (some v, t1) => if v < 8 then (some (x + w * (v % 8)), t1) else rN sl g (x + w * (v % 8)) (w * 8) t1
def rNum (sl : List Nat) (t : Nat) : Option Nat × Nat := rN sl 4 0 1 t
def rLr (sl : List Nat) : Nat → Nat → Nat → Nat → Option Nat × Nat
  | 0, x, _, t => (some x, t)
  | k + 1, x, w, t => match rNum sl t with
    | (none, t1) => (none, t1)
    | (some c, t1) => if 1 ≤ c ∧ c < 27 then rLr sl k (x + c * w) (w * 27) t1 else (none, t1)
def rL (sl : List Nat) (n t : Nat) : Option Nat × Nat := if n ≤ 5 then rLr sl n 0 1 t else (none, t)
theorem rB_t {sl : List Nat} : ∀ w acc t, t ≤ sl.length → t ≤ (rB sl w acc t).2 ∧ (rB sl w acc t).2 ≤ sl.length
  | 0, _, t, h => ⟨Nat.le_refl t, h⟩
  | w + 1, acc, t, h => by
    unfold rB
    split
    · rename_i h1
      have := rB_t (sl := sl) w (acc * 2 + sl.getD t 0) (t + 1) h1
      exact ⟨by omega, this.2⟩
    · exact ⟨Nat.le_refl t, h⟩
theorem getD_lt2 {sl : List Nat} (hb : ∀ e, e ∈ sl → e < 2) (t : Nat) : sl.getD t 0 < 2 := by
  by_cases h : t < sl.length
  · exact hb _ (getD_mem h)
  · rw [List.getD_eq_getElem?_getD, List.getElem?_eq_none (by omega)]
    decide
theorem rB_v {sl : List Nat} (hb : ∀ e, e ∈ sl → e < 2) : ∀ w acc t v, (rB sl w acc t).1 = some v → v < (acc + 1) * 2 ^ w
  | 0, acc, t, v, h => by
    unfold rB at h
    cases h
    omega
  | w + 1, acc, t, v, h => by
    unfold rB at h
    split at h
    · have h1 := rB_v hb w _ _ v h
      have h2 := getD_lt2 hb t
      have h3 : (acc * 2 + sl.getD t 0 + 1) * 2 ^ w ≤ (acc * 2 + 2) * 2 ^ w := Nat.mul_le_mul_right _ (by omega)
      have h4 : (acc * 2 + 2) * 2 ^ w = (acc + 1) * 2 ^ (w + 1) := by rw [Nat.pow_succ, show acc * 2 + 2 = (acc + 1) * 2 by omega, Nat.mul_assoc, Nat.mul_comm 2]
      omega
    · cases h
theorem rP_t {sl : List Nat} {m t : Nat} (h : t ≤ sl.length) : t ≤ (rP sl m t).2 ∧ (rP sl m t).2 ≤ sl.length := by
  have h1 := rB_t (wd m) 0 t h
  unfold rP
  split
  · rename_i e; rw [e] at h1; split <;> exact h1
  · rename_i e; rw [e] at h1; exact h1
theorem rP_v {sl : List Nat} {m t v : Nat} (h : (rP sl m t).1 = some v) : v < m := by
  unfold rP at h
  split at h
  · split at h
    · cases h; assumption
    · cases h
  · cases h
theorem rN_t {sl : List Nat} : ∀ g x w t, t ≤ sl.length → t ≤ (rN sl g x w t).2 ∧ (rN sl g x w t).2 ≤ sl.length
  | 0, _, _, t, h => ⟨Nat.le_refl t, h⟩
  | g + 1, x, w, t, h => by
    have h1 := rB_t 4 0 t h
    unfold rN
    split
    · rename_i e; rw [e] at h1; exact h1
    · rename_i v t1 e
      rw [e] at h1
      split
      · exact h1
      · have h2 := rN_t (sl := sl) g (x + w * (v % 8)) (w * 8) t1 h1.2
        exact ⟨Nat.le_trans h1.1 h2.1, h2.2⟩
theorem rN_v {sl : List Nat} : ∀ g x w t v, (rN sl g x w t).1 = some v → v + w ≤ x + w * 8 ^ g
  | 0, _, _, _, _, h => by cases h
  | g + 1, x, w, t, v, h => by
    unfold rN at h
    split at h
    · cases h
    · rename_i u t1 e
      have hu : u % 8 ≤ 7 := by omega
      have h5 : w * (u % 8) ≤ w * 7 := Nat.mul_le_mul_left _ hu
      have h6 : w * 8 ^ (g + 1) = w * 8 * 8 ^ g := by rw [Nat.pow_succ, Nat.mul_comm (8 ^ g), Nat.mul_assoc]
      split at h
      · cases h
        have h7 : w * 8 * 1 ≤ w * 8 * 8 ^ g := Nat.mul_le_mul_left _ (Nat.pow_pos (by decide))
        omega
      · have h1 := rN_v g _ _ _ v h
        omega
theorem rNum_v {sl : List Nat} {t v : Nat} (h : (rNum sl t).1 = some v) : v < 4096 := by
  have := rN_v 4 0 1 t v h
  omega
theorem rNum_t {sl : List Nat} {t : Nat} (h : t ≤ sl.length) : t ≤ (rNum sl t).2 ∧ (rNum sl t).2 ≤ sl.length := rN_t 4 0 1 t h
theorem rLr_t {sl : List Nat} : ∀ k x w t, t ≤ sl.length → t ≤ (rLr sl k x w t).2 ∧ (rLr sl k x w t).2 ≤ sl.length
  | 0, _, _, t, h => ⟨Nat.le_refl t, h⟩
  | k + 1, x, w, t, h => by
    have h1 := rNum_t h
    unfold rLr
    split
    · rename_i e; rw [e] at h1; exact h1
    · rename_i c t1 e
      rw [e] at h1
      split
      · have h2 := rLr_t (sl := sl) k (x + c * w) (w * 27) t1 h1.2
        exact ⟨Nat.le_trans h1.1 h2.1, h2.2⟩
      · exact h1
theorem rLr_v {sl : List Nat} : ∀ k x w t v, (rLr sl k x w t).1 = some v → v + w ≤ x + w * 27 ^ k
  | 0, x, w, _, v, h => by cases h; rw [Nat.pow_zero]; omega
  | k + 1, x, w, t, v, h => by
    unfold rLr at h
    split at h
    · cases h
    · rename_i c t1 e
      split at h
      · rename_i hc
        have h1 := rLr_v k _ _ _ v h
        have h5 : c * w ≤ 26 * w := Nat.mul_le_mul_right _ (by omega)
        have h6 : w * 27 ^ (k + 1) = w * 27 * 27 ^ k := by rw [Nat.pow_succ, Nat.mul_comm (27 ^ k), Nat.mul_assoc]
        omega
      · cases h
theorem rL_t {sl : List Nat} {n t : Nat} (h : t ≤ sl.length) : t ≤ (rL sl n t).2 ∧ (rL sl n t).2 ≤ sl.length := by
  unfold rL
  split
  · exact rLr_t n 0 1 t h
  · exact ⟨Nat.le_refl t, h⟩
theorem rL_v {sl : List Nat} {n t v : Nat} (h : (rL sl n t).1 = some v) : v < tB := by
  unfold rL at h
  split at h
  · rename_i hn
    have h1 := rLr_v n 0 1 t v h
    have h2 : 27 ^ n ≤ 27 ^ 5 := Nat.pow_le_pow_right (by decide) hn
    have h3 : (27 : Nat) ^ 5 = tB := by decide
    omega
  · cases h
section R1
variable {d : ax_D} {sl : List Nat} {t : Nat}
/-- nothing but 'taken' has changed -/
def tk (d d1 : ax_D) : Prop := ∀ id, id ≠ 514 → d1 id = d id
theorem tk_rf (d : ax_D) : tk d d := fun _ _ => rfl
theorem tk_tr {d1 d2 : ax_D} (h : tk d d1) (h2 : tk d1 d2) : tk d d2 := fun id a => (h2 id a).trans (h id a)
theorem bt_tk {d1 : ax_D} (h : bt_is d 517 sl) (hf : tk d d1) : bt_is d1 517 sl := bt_keep h (hf 517 (by decide)) (hf 518 (by decide))
theorem tb_tk {d1 : ax_D} {T : TT} (h : tb_is d 1 T) (hf : tk d d1) : tb_is d1 1 T := tb_same h (fun id hi => hf id (by omega)) (by decide)
theorem gr_tk {d1 : ax_D} {n : Nat} {nm : Nat → Nat} {fl : Nat → Bool} {b : Bool} (h : gr_is d 1 n nm fl b) (hf : tk d d1) : gr_is d1 1 n nm fl b := gr_keep h (hf 522 (by decide)) (hf 524 (by decide)) (hf 526 (by decide))
theorem nI_m1 {m : Nat} (h : m < 2 ^ 31) : ¬ nI m ≤ -1 := fun q => by
  have h1 : (0 : Int32) ≤ nI m := nI_pos' h
  exact absurd (Int32.le_trans h1 q) (by decide)
theorem tb_loop {W : Nat} (hb : bt_is d 517 sl) : ∀ w i acc t (d1 : ax_D), i + w = W → W ≤ 5 → acc < 2 ^ i → t ≤ sl.length → d1 514 4 = nI t → tk d d1 → ax_W 40 4 [some (.ref 514), some (.int (nI W)), some (.int (nI acc)), some (.int (nI i))] [] d1 (ax_Pi fun y d2 => y = oi (rB sl w acc t).1 ∧ d2 514 4 = nI (rB sl w acc t).2 ∧ tk d d2) := by
  have hl := hb.1
  intro w
  induction w with
  | zero =>
    intro i acc t d1 hi hW ha ht h4 hf
    obtain rfl : i = W := by omega
    refine wx_ildn j40_4 rfl ?_
    refine wx_ildn j40_5 rfl ?_
    refine wx_cmp 73 j40_6 (by decide) (fun c6 => ?_) (fun c6 => ?_)
    · simp only [ax_cn, Classical.not_not] at c6
      refine wx_ildn j40_73 rfl ?_
      refine wx_ri j40_74 rfl rfl ?_
      exact ⟨rfl, h4, hf⟩
    · simp only [ax_cn, Classical.not_not] at c6
      exact absurd (Int32.le_refl _) c6
  | succ w ih =>
    intro i acc t d1 hi hW ha ht h4 hf
    have hi5 : 2 ^ i ≤ 2 ^ 5 := Nat.pow_le_pow_right (by decide) (by omega)
    have e1 : d1 517 1 = nI sl.length := by rw [hf 517 (by decide)]; exact hb.2.1
    refine wx_ildn j40_4 rfl ?_
    refine wx_ildn j40_5 rfl ?_
    refine wx_cmp 73 j40_6 (by decide) (fun c6 => ?_) (fun c6 => ?_)
    · simp only [ax_cn, Classical.not_not] at c6
      exact absurd c6 (nI_ge (by omega) (by omega))
    · simp only [ax_cn, Classical.not_not] at c6
      refine wx_aldn j40_9 rfl ?_
      refine wx_get (v := .int _) j40_10 rfl (Nat.le_of_ble_eq_true rfl) rfl ?_
      rw [h4]
      refine wx_aldn j40_13 rfl ?_
      refine wx_get (v := .ref _) j40_14 rfl (Nat.le_of_ble_eq_true rfl) rfl ?_
      refine wx_get (v := .int _) j40_17 rfl (Nat.le_of_ble_eq_true rfl) rfl ?_
      rw [e1]
      refine wx_cmp 38 j40_20 (by decide) (fun c20 => ?_) (fun c20 => ?_)
      · simp only [ax_cn, Classical.not_not] at c20
        have hge : ¬ t < sl.length := Nat.not_lt.mpr ((nI_leI (by omega) (by omega)).mp c20)
        have er : rB sl (w + 1) acc t = (none, t) := by show (if t < sl.length then _ else _) = _; rw [if_neg hge]
        rw [er]
        refine wx_icst (v := (-1)) j40_38 (by decide) ?_
        refine wx_ri j40_39 rfl rfl ?_
        exact ⟨rfl, h4, hf⟩
      · simp only [ax_cn, Classical.not_not] at c20
        have hlt : t < sl.length := Nat.not_le.mp (fun q => c20 ((nI_leI (by omega) (by omega)).mpr q))
        have er : rB sl (w + 1) acc t = rB sl w (acc * 2 + sl.getD t 0) (t + 1) := by show (if t < sl.length then _ else _) = _; rw [if_pos hlt]
        rw [er]
        refine wx_aldn j40_23 rfl ?_
        refine wx_get (v := .int _) j40_24 rfl (Nat.le_of_ble_eq_true rfl) rfl ?_
        rw [h4]
        refine wx_aldn j40_27 rfl ?_
        refine wx_get (v := .ref _) j40_28 rfl (Nat.le_of_ble_eq_true rfl) rfl ?_
        refine wx_get (v := .ref _) j40_31 rfl (Nat.le_of_ble_eq_true rfl) rfl ?_
        refine wx_alen j40_34 rfl (Nat.le_of_ble_eq_true rfl) ?_
        refine wx_cmp 40 j40_35 (by decide) (fun c35 => ?_) (fun c35 => ?_)
        · simp only [ax_cn, Classical.not_not] at c35
          refine wx_ildn j40_40 rfl ?_
          refine wx_icst (v := nI 2) j40_41 (by decide) ?_
          refine wx_imul j40_42 ?_
          rw [pk_mul]
          refine wx_aldn j40_43 rfl ?_
          refine wx_get (v := .ref _) j40_44 rfl (Nat.le_of_ble_eq_true rfl) rfl ?_
          refine wx_get (v := .ref _) j40_47 rfl (Nat.le_of_ble_eq_true rfl) rfl ?_
          refine wx_aldn j40_50 rfl ?_
          refine wx_get (v := .int _) j40_51 rfl (Nat.le_of_ble_eq_true rfl) rfl ?_
          rw [h4]
          refine wx_ialx (t) j40_54 rfl rfl (by omega) (by decide) ?_
          rw [show d1 518 t = nI (sl.getD t 0) by rw [hf 518 (by decide)]; exact hb.2.2.1 t hlt]
          refine wx_iadd j40_55 ?_
          rw [nI_add]
          refine wx_istn (L' := [_, _, some (.int _), _]) j40_56 (Nat.le_of_ble_eq_true rfl) rfl ?_
          refine wx_aldn j40_57 rfl ?_
          refine wx_dupr j40_58 ?_
          refine wx_get (v := .int _) j40_59 rfl (Nat.le_of_ble_eq_true rfl) rfl ?_
          rw [h4]
          refine wx_icst (v := nI 1) j40_62 (by decide) ?_
          refine wx_iadd j40_63 ?_
          rw [nI_add]
          refine wx_put j40_64 rfl (Nat.le_of_ble_eq_true rfl) rfl rfl rfl ?_
          refine wx_iinc (v := nI (i + 1)) (L' := [_, _, _, some (.int _)]) j40_67 rfl (nI_1 i) rfl ?_
          refine wx_goto 4 j40_70 (by decide) ?_
          refine ih (i + 1) _ (t + 1) _ (by omega) hW ?_ hlt (up_at _ _ _ _) (fun id h2 => by rw [ax_up_ne h2]; exact hf id h2)
          have := getD_lt2 hb.2.2.2 t
          rw [Nat.pow_succ]
          omega
        · simp only [ax_cn, Classical.not_not] at c35
          exact absurd (nI_lt (show t < 4000 by omega) (by decide)) c35
theorem sp_takeBits {W : Nat} (hb : bt_is d 517 sl) (h4 : d 514 4 = nI t) (ht : t ≤ sl.length) (hW : W ≤ 5) : ax_E 40 [.ref 514, .int (nI W)] d (ax_Pi fun y d1 => y = oi (rB sl W 0 t).1 ∧ d1 514 4 = nI (rB sl W 0 t).2 ∧ tk d d1) := by
  show ax_W 40 0 [some (.ref 514), some (.int (nI W)), none, none] [] d _
  refine wx_icst (v := nI 0) j40_0 (by decide) ?_
  refine wx_istn (L' := [_, _, some (.int _), _]) j40_1 (Nat.le_of_ble_eq_true rfl) rfl ?_
  refine wx_icst (v := nI 0) j40_2 (by decide) ?_
  refine wx_istn (L' := [_, _, _, some (.int _)]) j40_3 (Nat.le_of_ble_eq_true rfl) rfl ?_
  exact tb_loop hb W 0 0 t d (by omega) hW (by decide) ht h4 (tk_rf d)
theorem sp_takePlace {m : Nat} (hb : bt_is d 517 sl) (h4 : d 514 4 = nI t) (ht : t ≤ sl.length) (hm : m ≤ 32) : ax_E 39 [.ref 514, .int (nI m)] d (ax_Pi fun y d1 => y = oi (rP sl m t).1 ∧ d1 514 4 = nI (rP sl m t).2 ∧ tk d d1) := by
  show ax_W 39 0 [some (.ref 514), some (.int (nI m)), none] [] d _
  refine wx_aldn j39_0 rfl ?_
  refine wx_ildn j39_1 rfl ?_
  refine wx_t1 j39_2 rfl rfl (Nat.le_of_ble_eq_true rfl) (sp_placeBits hm) ?_
  rintro _ d9 ⟨rfl, h9⟩
  obtain rfl := h9.symm
  refine wx_i1 j39_5 rfl rfl (Nat.le_of_ble_eq_true rfl) rfl (sp_takeBits hb h4 ht (wd_5 m)) ?_
  rintro _ d1 ⟨rfl, h41, hf1⟩
  cases hr : (rB sl (wd m) 0 t).1 with
  | none =>
    have e : rP sl m t = (none, (rB sl (wd m) 0 t).2) := by
      unfold rP
      rw [show rB sl (wd m) 0 t = (none, (rB sl (wd m) 0 t).2) from Prod.ext hr rfl]
    rw [e]
    refine wx_istn (L' := [_, _, some (.int _)]) j39_8 (Nat.le_of_ble_eq_true rfl) rfl ?_
    refine wx_ildn j39_9 rfl ?_
    refine wx_ildn j39_10 rfl ?_
    refine wx_cmp 18 j39_11 (by decide) (fun c11 => ?_) (fun c11 => ?_)
    · simp only [ax_cn, Classical.not_not] at c11
      exact absurd c11 (nI_m1 (by omega))
    · simp only [ax_cn, Classical.not_not] at c11
      refine wx_ildn j39_14 rfl ?_
      refine wx_goto 19 j39_15 (by decide) ?_
      refine wx_ri j39_19 rfl rfl ?_
      exact ⟨rfl, h41, hf1⟩
  | some v =>
    have hv := rB_v hb.2.2.2 (wd m) 0 t v hr
    have h32 : 2 ^ wd m ≤ 2 ^ 5 := Nat.pow_le_pow_right (by decide) (wd_5 m)
    have e : rP sl m t = (if v < m then (some v, (rB sl (wd m) 0 t).2) else (none, (rB sl (wd m) 0 t).2)) := by
      unfold rP
      rw [show rB sl (wd m) 0 t = (some v, (rB sl (wd m) 0 t).2) from Prod.ext hr rfl]
    rw [e]
    refine wx_istn (L' := [_, _, some (.int _)]) j39_8 (Nat.le_of_ble_eq_true rfl) rfl ?_
    refine wx_ildn j39_9 rfl ?_
    refine wx_ildn j39_10 rfl ?_
    refine wx_cmp 18 j39_11 (by decide) (fun c11 => ?_) (fun c11 => ?_)
    · simp only [ax_cn, Classical.not_not] at c11
      have hge : ¬ v < m := Nat.not_lt.mpr ((nI_leI (by omega) (by omega)).mp c11)
      refine wx_icst (v := (-1)) j39_18 (by decide) ?_
      refine wx_ri j39_19 rfl rfl ?_
      rw [if_neg hge]
      exact ⟨rfl, h41, hf1⟩
    · simp only [ax_cn, Classical.not_not] at c11
      have hlt : v < m := Nat.not_le.mp (fun q => c11 ((nI_leI (by omega) (by omega)).mpr q))
      refine wx_ildn j39_14 rfl ?_
      refine wx_goto 19 j39_15 (by decide) ?_
      refine wx_ri j39_19 rfl rfl ?_
      rw [if_pos hlt]
      exact ⟨rfl, h41, hf1⟩
  -- 
theorem tn_loop (hb : bt_is d 517 sl) : ∀ g x t (d1 : ax_D) (z : Option Value), g ≤ 4 → x < 8 ^ (4 - g) → t ≤ sl.length → d1 514 4 = nI t → tk d d1 → ax_W 38 6 [some (.ref 514), some (.int (nI x)), some (.int (nI (8 ^ (4 - g)))), some (.int (nI (4 - g))), z] [] d1 (ax_Pi fun y d2 => y = oi (rN sl g x (8 ^ (4 - g)) t).1 ∧ d2 514 4 = nI (rN sl g x (8 ^ (4 - g)) t).2 ∧ tk d d2) := by
  intro g
  induction g with
  | zero =>
    intro x t d1 z hg hx ht h4 hf
    refine wx_ildn j38_6 rfl ?_
    refine wx_icst (v := nI 4) j38_7 (by decide) ?_
    refine wx_cmp 56 j38_8 (by decide) (fun c8 => ?_) (fun c8 => ?_)
    · simp only [ax_cn, Classical.not_not] at c8
      refine wx_icst (v := (-1)) j38_56 (by decide) ?_
      refine wx_ri j38_57 rfl rfl ?_
      exact ⟨rfl, h4, hf⟩
    · simp only [ax_cn, Classical.not_not] at c8
      exact absurd (show nI 4 ≤ nI (4 - 0) by decide) c8
  | succ g ih =>
    intro x t d1 z hg hx ht h4 hf
    have hb1 := bt_tk hb hf
    have h84 : 8 ^ (4 - (g + 1)) ≤ 8 ^ 4 := Nat.pow_le_pow_right (by decide) (by omega)
    have he8 : 8 ^ (4 - (g + 1)) * 8 = 8 ^ (4 - g) := by rw [show 4 - g = 4 - (g + 1) + 1 by omega, Nat.pow_succ]
    refine wx_ildn j38_6 rfl ?_
    refine wx_icst (v := nI 4) j38_7 (by decide) ?_
    refine wx_cmp 56 j38_8 (by decide) (fun c8 => ?_) (fun c8 => ?_)
    · simp only [ax_cn, Classical.not_not] at c8
      exact absurd c8 (nI_ge (by omega) (by decide))
    · simp only [ax_cn, Classical.not_not] at c8
      refine wx_aldn j38_11 rfl ?_
      refine wx_icst (v := nI 4) j38_12 (by decide) ?_
      refine wx_i1 j38_13 rfl rfl (Nat.le_of_ble_eq_true rfl) rfl (sp_takeBits (W := 4) hb1 h4 ht (by decide)) ?_
      rintro _ d2 ⟨rfl, h42, hf2⟩
      have ht2 := rB_t (sl := sl) 4 0 t ht
      have hfr := tk_tr hf hf2
      cases hr : (rB sl 4 0 t).1 with
      | none =>
        have e : rN sl (g + 1) x (8 ^ (4 - (g + 1))) t = (none, (rB sl 4 0 t).2) := by
          unfold rN
          rw [show rB sl 4 0 t = (none, (rB sl 4 0 t).2) from Prod.ext hr rfl]
        rw [e]
        refine wx_ist (L' := [_, _, _, _, some (.int _)]) j38_16 (Nat.le_of_ble_eq_true rfl) rfl ?_
        refine wx_ild j38_18 rfl ?_
        refine wx_icst (v := (-1)) j38_20 (by decide) ?_
        refine wx_cmp 26 j38_21 (by decide) (fun c21 => ?_) (fun c21 => ?_)
        · simp only [ax_cn, Classical.not_not] at c21
          exact absurd (rfl : (oi none) = -1) c21
        · simp only [ax_cn, Classical.not_not] at c21
          refine wx_icst (v := (-1)) j38_24 (by decide) ?_
          refine wx_ri j38_25 rfl rfl ?_
          exact ⟨rfl, h42, hfr⟩
      | some v =>
        have hv := rB_v hb.2.2.2 4 0 t v hr
        have h16 : (0 + 1) * 2 ^ 4 = 16 := by decide
        have e : rN sl (g + 1) x (8 ^ (4 - (g + 1))) t = (if v < 8 then (some (x + 8 ^ (4 - (g + 1)) * (v % 8)), (rB sl 4 0 t).2) else rN sl g (x + 8 ^ (4 - (g + 1)) * (v % 8)) (8 ^ (4 - (g + 1)) * 8) (rB sl 4 0 t).2) := by
          show (match rB sl 4 0 t with | (none, t1) => (none, t1) | (some v, t1) => if v < 8 then (some (x + 8 ^ (4 - (g + 1)) * (v % 8)), t1) else rN sl g (x + 8 ^ (4 - (g + 1)) * (v % 8)) (8 ^ (4 - (g + 1)) * 8) t1) = _
          rw [show rB sl 4 0 t = (some v, (rB sl 4 0 t).2) from Prod.ext hr rfl]
        rw [e]
        refine wx_ist (L' := [_, _, _, _, some (.int _)]) j38_16 (Nat.le_of_ble_eq_true rfl) rfl ?_
        refine wx_ild j38_18 rfl ?_
        refine wx_icst (v := (-1)) j38_20 (by decide) ?_
        refine wx_cmp 26 j38_21 (by decide) (fun c21 => ?_) (fun c21 => ?_)
        · simp only [ax_cn, Classical.not_not] at c21
          refine wx_ildn j38_26 rfl ?_
          refine wx_ildn j38_27 rfl ?_
          refine wx_ild j38_28 rfl ?_
          refine wx_bpsh (v := nI 8) j38_30 (by decide) ?_
          show ax_W 38 _ _ (.int (nI 8) :: .int (nI v) :: _) _ _
          refine wx_irem j38_32 (by decide) ?_
          rw [pk_rem (by omega) (by decide) (by decide)]
          refine wx_imul j38_33 ?_
          rw [pk_mul]
          refine wx_iadd j38_34 ?_
          rw [nI_add]
          refine wx_istn (L' := [_, some (.int _), _, _, _]) j38_35 (Nat.le_of_ble_eq_true rfl) rfl ?_
          refine wx_ildn j38_36 rfl ?_
          refine wx_bpsh (v := nI 8) j38_37 (by decide) ?_
          refine wx_imul j38_39 ?_
          rw [pk_mul]
          refine wx_istn (L' := [_, _, some (.int _), _, _]) j38_40 (Nat.le_of_ble_eq_true rfl) rfl ?_
          refine wx_ild j38_41 rfl ?_
          refine wx_bpsh (v := nI 8) j38_43 (by decide) ?_
          refine wx_cmp 50 j38_45 (by decide) (fun c45 => ?_) (fun c45 => ?_)
          · simp only [ax_cn, Classical.not_not] at c45
            have hge : ¬ v < 8 := Nat.not_lt.mpr ((nI_leI (by decide) (by omega)).mp c45)
            rw [if_neg hge, he8]
            refine wx_iinc (v := nI (4 - g)) (L' := [_, _, _, some (.int _), _]) j38_50 rfl (by rw [show 4 - g = 4 - (g + 1) + 1 by omega]; exact nI_1 _) rfl ?_
            refine wx_goto 6 j38_53 (by decide) ?_
            refine ih _ _ _ _ (by omega) ?_ ht2.2 h42 hfr
            have h7 : 8 ^ (4 - (g + 1)) * (v % 8) ≤ 8 ^ (4 - (g + 1)) * 7 := Nat.mul_le_mul_left _ (by omega)
            omega
          · simp only [ax_cn, Classical.not_not] at c45
            have hlt : v < 8 := Nat.not_le.mp (fun q => c45 ((nI_leI (by decide) (by omega)).mpr q))
            rw [if_pos hlt]
            refine wx_ildn j38_48 rfl ?_
            refine wx_ri j38_49 rfl rfl ?_
            exact ⟨rfl, h42, hfr⟩
        · simp only [ax_cn, Classical.not_not] at c21
          exact absurd ((oi_neg (o := some v) (fun i2 e2 => by cases e2; omega)).mp c21) (by simp)
      -- 
theorem sp_takeNumber (hb : bt_is d 517 sl) (h4 : d 514 4 = nI t) (ht : t ≤ sl.length) : ax_E 38 [.ref 514] d (ax_Pi fun y d1 => y = oi (rNum sl t).1 ∧ d1 514 4 = nI (rNum sl t).2 ∧ tk d d1) := by
  show ax_W 38 0 [some (.ref 514), none, none, none, none] [] d _
  refine wx_icst (v := nI 0) j38_0 (by decide) ?_
  refine wx_istn (L' := [_, some (.int _), _, _, _]) j38_1 (Nat.le_of_ble_eq_true rfl) rfl ?_
  refine wx_icst (v := nI 1) j38_2 (by decide) ?_
  refine wx_istn (L' := [_, _, some (.int _), _, _]) j38_3 (Nat.le_of_ble_eq_true rfl) rfl ?_
  refine wx_icst (v := nI 0) j38_4 (by decide) ?_
  refine wx_istn (L' := [_, _, _, some (.int _), _]) j38_5 (Nat.le_of_ble_eq_true rfl) rfl ?_
  exact tn_loop hb 4 0 t d none (Nat.le_refl 4) (by decide) ht h4 (tk_rf d)
theorem tl_loop3 {C : Nat} (hb : bt_is d 517 sl) (hC : C ≤ 5) : ∀ k i x t (d1 : ax_D) (z : Option Value), i + k = C → x < 27 ^ i → t ≤ sl.length → d1 514 4 = nI t → tk d d1 → ax_W 37 18 [some (.ref 514), some (.int (nI C)), some (.int (nI x)), some (.int (nI (27 ^ i))), some (.int (nI i)), z] [] d1 (ax_Pi fun y d2 => y = oi (rLr sl k x (27 ^ i) t).1 ∧ d2 514 4 = nI (rLr sl k x (27 ^ i) t).2 ∧ tk d d2) := by
  intro k
  induction k with
  | zero =>
    intro i x t d1 z hi hx ht h4 hf
    obtain rfl : i = C := by omega
    refine wx_ild j37_18 rfl ?_
    refine wx_ildn j37_20 rfl ?_
    refine wx_cmp 63 j37_21 (by decide) (fun c21 => ?_) (fun c21 => ?_)
    · simp only [ax_cn, Classical.not_not] at c21
      refine wx_ildn j37_63 rfl ?_
      refine wx_ri j37_64 rfl rfl ?_
      exact ⟨rfl, h4, hf⟩
    · simp only [ax_cn, Classical.not_not] at c21
      exact absurd (Int32.le_refl _) c21
  | succ k ih =>
    intro i x t d1 z hi hx ht h4 hf
    have hb1 := bt_tk hb hf
    have h27 : 27 ^ i ≤ 27 ^ 4 := Nat.pow_le_pow_right (by decide) (by omega)
    refine wx_ild j37_18 rfl ?_
    refine wx_ildn j37_20 rfl ?_
    refine wx_cmp 63 j37_21 (by decide) (fun c21 => ?_) (fun c21 => ?_)
    · simp only [ax_cn, Classical.not_not] at c21
      exact absurd c21 (nI_ge (by omega) (by omega))
    · simp only [ax_cn, Classical.not_not] at c21
      refine wx_aldn j37_24 rfl ?_
      refine wx_i0 j37_25 rfl  (Nat.le_of_ble_eq_true rfl) rfl (sp_takeNumber hb1 h4 ht) ?_
      rintro _ d2 ⟨rfl, h42, hf2⟩
      have ht2 := rNum_t (sl := sl) ht
      have hfr := tk_tr hf hf2
      cases hr : (rNum sl t).1 with
      | none =>
        have e : rLr sl (k + 1) x (27 ^ i) t = (none, (rNum sl t).2) := by
          unfold rLr
          rw [show rNum sl t = (none, (rNum sl t).2) from Prod.ext hr rfl]
        rw [e]
        refine wx_ist (L' := [_, _, _, _, _, some (.int _)]) j37_28 (Nat.le_of_ble_eq_true rfl) rfl ?_
        refine wx_ild j37_30 rfl ?_
        refine wx_icst (v := nI 1) j37_32 (by decide) ?_
        refine wx_cmp 43 j37_33 (by decide) (fun c33 => ?_) (fun c33 => ?_)
        · simp only [ax_cn, Classical.not_not] at c33
          refine wx_icst (v := (-1)) j37_43 (by decide) ?_
          refine wx_ri j37_44 rfl rfl ?_
          exact ⟨rfl, h42, hfr⟩
        · simp only [ax_cn, Classical.not_not] at c33
          exact absurd (show oi none < nI 1 by decide) c33
      | some c =>
        have hc := rNum_v hr
        have e : rLr sl (k + 1) x (27 ^ i) t = (if 1 ≤ c ∧ c < 27 then rLr sl k (x + c * 27 ^ i) (27 ^ i * 27) (rNum sl t).2 else (none, (rNum sl t).2)) := by
          show (match rNum sl t with | (none, t1) => (none, t1) | (some c, t1) => if 1 ≤ c ∧ c < 27 then rLr sl k (x + c * 27 ^ i) (27 ^ i * 27) t1 else (none, t1)) = _
          rw [show rNum sl t = (some c, (rNum sl t).2) from Prod.ext hr rfl]
        rw [e]
        refine wx_ist (L' := [_, _, _, _, _, some (.int _)]) j37_28 (Nat.le_of_ble_eq_true rfl) rfl ?_
        refine wx_ild j37_30 rfl ?_
        refine wx_icst (v := nI 1) j37_32 (by decide) ?_
        refine wx_cmp 43 j37_33 (by decide) (fun c33 => ?_) (fun c33 => ?_)
        · simp only [ax_cn, Classical.not_not] at c33
          have hno : ¬ (1 ≤ c ∧ c < 27) := fun q => absurd ((nI_ltI (by omega) (by decide)).mp c33) (by omega)
          rw [if_neg hno]
          refine wx_icst (v := (-1)) j37_43 (by decide) ?_
          refine wx_ri j37_44 rfl rfl ?_
          exact ⟨rfl, h42, hfr⟩
        · simp only [ax_cn, Classical.not_not] at c33
          have h1 : 1 ≤ c := Nat.not_lt.mp (fun q => c33 (nI_lt q (by decide)))
          refine wx_ild j37_36 rfl ?_
          refine wx_bpsh (v := nI 27) j37_38 (by decide) ?_
          refine wx_cmp 45 j37_40 (by decide) (fun c40 => ?_) (fun c40 => ?_)
          · simp only [ax_cn, Classical.not_not] at c40
            have h26 : c < 27 := (nI_ltI (by omega) (by decide)).mp c40
            rw [if_pos ⟨h1, h26⟩]
            refine wx_ildn j37_45 rfl ?_
            refine wx_ild j37_46 rfl ?_
            refine wx_ildn j37_48 rfl ?_
            show ax_W 37 _ _ (.int (nI (27 ^ i)) :: .int (nI c) :: _) _ _
            refine wx_imul j37_49 ?_
            rw [pk_mul]
            refine wx_iadd j37_50 ?_
            rw [nI_add]
            refine wx_istn (L' := [_, _, some (.int _), _, _, _]) j37_51 (Nat.le_of_ble_eq_true rfl) rfl ?_
            refine wx_ildn j37_52 rfl ?_
            refine wx_bpsh (v := nI 27) j37_53 (by decide) ?_
            refine wx_imul j37_55 ?_
            rw [pk_mul, ← Nat.pow_succ]
            refine wx_istn (L' := [_, _, _, some (.int _), _, _]) j37_56 (Nat.le_of_ble_eq_true rfl) rfl ?_
            refine wx_iinc (v := nI (i + 1)) (L' := [_, _, _, _, some (.int _), _]) j37_57 rfl (nI_1 i) rfl ?_
            refine wx_goto 18 j37_60 (by decide) ?_
            refine ih (i + 1) _ _ _ _ (by omega) ?_ ht2.2 h42 hfr
            have h5 : c * 27 ^ i ≤ 26 * 27 ^ i := Nat.mul_le_mul_right _ (by omega)
            rw [Nat.pow_succ]
            omega
          · simp only [ax_cn, Classical.not_not] at c40
            have hno : ¬ (1 ≤ c ∧ c < 27) := fun q => c40 (nI_lt q.2 (by decide))
            rw [if_neg hno]
            refine wx_icst (v := (-1)) j37_43 (by decide) ?_
            refine wx_ri j37_44 rfl rfl ?_
            exact ⟨rfl, h42, hfr⟩
      -- 
theorem sp_takeLetters {n : Nat} (hb : bt_is d 517 sl) (h4 : d 514 4 = nI t) (ht : t ≤ sl.length) (hn : n < 2 ^ 31) : ax_E 37 [.ref 514, .int (nI n)] d (ax_Pi fun y d1 => y = oi (rL sl n t).1 ∧ d1 514 4 = nI (rL sl n t).2 ∧ tk d d1) := by
  show ax_W 37 0 [some (.ref 514), some (.int (nI n)), none, none, none, none] [] d _
  refine wx_ildn j37_0 rfl ?_
  refine wx_if 9 j37_1 (by decide) (fun c1 => ?_) (fun c1 => ?_)
  · simp only [ax_cn, Classical.not_not] at c1
    exact absurd c1 (nI_pos hn)
  · simp only [ax_cn, Classical.not_not] at c1
    refine wx_ildn j37_4 rfl ?_
    refine wx_icst (v := nI 5) j37_5 (by decide) ?_
    refine wx_cmp 11 j37_6 (by decide) (fun c6 => ?_) (fun c6 => ?_)
    · simp only [ax_cn, Classical.not_not] at c6
      have h5 : n ≤ 5 := (nI_leI hn (by decide)).mp c6
      have e : rL sl n t = rLr sl n 0 1 t := by unfold rL; rw [if_pos h5]
      rw [e]
      refine wx_icst (v := nI 0) j37_11 (by decide) ?_
      refine wx_istn (L' := [_, _, some (.int _), _, _, _]) j37_12 (Nat.le_of_ble_eq_true rfl) rfl ?_
      refine wx_icst (v := nI 1) j37_13 (by decide) ?_
      refine wx_istn (L' := [_, _, _, some (.int _), _, _]) j37_14 (Nat.le_of_ble_eq_true rfl) rfl ?_
      refine wx_icst (v := nI 0) j37_15 (by decide) ?_
      refine wx_ist (L' := [_, _, _, _, some (.int _), _]) j37_16 (Nat.le_of_ble_eq_true rfl) rfl ?_
      exact tl_loop3 hb h5 n 0 0 t d none (by omega) (by decide) ht h4 (tk_rf d)
    · simp only [ax_cn, Classical.not_not] at c6
      have h5 : ¬ n ≤ 5 := fun q => c6 ((nI_leI hn (by decide)).mpr q)
      have e : rL sl n t = (none, t) := by unfold rL; rw [if_neg h5]
      rw [e]
      refine wx_icst (v := (-1)) j37_9 (by decide) ?_
      refine wx_ri j37_10 rfl rfl ?_
      exact ⟨rfl, h4, tk_rf d⟩
theorem sp_takeLettersN : ax_E 37 [.ref 514, .int (-1)] d (ax_Pi fun y d1 => y = -1 ∧ d1 = d) := by
  show ax_W 37 0 [some (.ref 514), some (.int (-1)), none, none, none, none] [] d _
  refine wx_ildn j37_0 rfl ?_
  refine wx_if 9 j37_1 (by decide) (fun c1 => ?_) (fun c1 => ?_)
  · simp only [ax_cn, Classical.not_not] at c1
    refine wx_icst (v := (-1)) j37_9 (by decide) ?_
    refine wx_ri j37_10 rfl rfl ?_
    exact ⟨rfl, rfl⟩
  · simp only [ax_cn, Classical.not_not] at c1
    exact absurd (show (-1 : Int32) < 0 by decide) c1
end R1
end
section
/-! READING, names, values, codes. -/
def rFr (sl : List Nat) (l : List Nat) (t : Nat) : Option Nat × Nat := match (rP sl l.length t).1 with
  | some p => (some (l.getD p 0), (rP sl l.length t).2)
  | none => (none, (rP sl l.length t).2)
def rSn (sl : List Nat) (T : TT) (t : Nat) : Option Nat × TT × Nat := match (rNum sl t).1 with
  | none => (none, T, (rNum sl t).2)
  | some n => match (rL sl n (rNum sl t).2).1 with
    | none => (none, T, (rL sl n (rNum sl t).2).2)
    | some x => if (T 0 0).length < 6 then (some (T 0 0).length, tst T 0 0 (T 0 0 ++ [x]), (rL sl n (rNum sl t).2).2) else (none, T, (rL sl n (rNum sl t).2).2)
def rSp (sl : List Nat) (T : TT) (t : Nat) : Option Nat × TT × Nat := match (rP sl ((T 0 0).length + 1) t).1 with
  | none => (none, T, (rP sl ((T 0 0).length + 1) t).2)
  | some 0 => rSn sl T (rP sl ((T 0 0).length + 1) t).2
  | some (p + 1) => (some p, T, (rP sl ((T 0 0).length + 1) t).2)
def rLx (sl : List Nat) (T : TT) (p n t : Nat) : Option Nat × TT × Nat := match (rL sl n t).1 with
  | none => (none, T, (rL sl n t).2)
  | some x => if (T 1 p).length < 10 then (some x, tst T 1 p (T 1 p ++ [x]), (rL sl n t).2) else (none, T, (rL sl n t).2)
def rLo (sl : List Nat) (T : TT) (p t : Nat) : Option Nat × TT × Nat := match (rNum sl t).1 with
  | none => (none, T, (rNum sl t).2)
  | some 0 => ((rFr sl (T 1 p) (rNum sl t).2).1, T, (rFr sl (T 1 p) (rNum sl t).2).2)
  | some (n + 1) => rLx sl T p (n + 1) (rNum sl t).2
/-- a name, new or known; none if it is the 21st -/
def rFo (T : TT) (sp lo : Nat) : Option Nat × TT := match fn T sp lo with
  | some i => (some i, T)
  | none => if (T 4 0).length < 20 then (some (T 4 0).length, tnm T sp lo) else (none, T)
def rNx (sl : List Nat) (T : TT) (p t : Nat) : Option Nat × TT × Nat := match (rLo sl T p t).1 with
  | none => (none, T, (rLo sl T p t).2.2)
  | some lo => ((rFo (rLo sl T p t).2.1 (((rLo sl T p t).2.1 0 0).getD p 0) lo).1, (rFo (rLo sl T p t).2.1 (((rLo sl T p t).2.1 0 0).getD p 0) lo).2, (rLo sl T p t).2.2)
def rNa (sl : List Nat) (T : TT) (t : Nat) : Option Nat × TT × Nat := match (rSp sl T t).1 with
  | none => (none, T, (rSp sl T t).2.2)
  | some p => rNx sl (rSp sl T t).2.1 p (rSp sl T t).2.2
def rVa (sl : List Nat) (T : TT) (n t : Nat) : Option Nat × TT × Nat := match (rNum sl t).1 with
  | none => (none, T, (rNum sl t).2)
  | some 0 => ((rFr sl (T 2 n) (rNum sl t).2).1, T, (rFr sl (T 2 n) (rNum sl t).2).2)
  | some 1 => ((rFr sl (T 3 0) (rNum sl t).2).1, T, (rFr sl (T 3 0) (rNum sl t).2).2)
  | some (k + 2) => match (rL sl k (rNum sl t).2).1 with
    | none => (none, T, (rL sl k (rNum sl t).2).2)
    | some v => (some v, tav T n v, (rL sl k (rNum sl t).2).2)
theorem rFr_t {sl l : List Nat} {t : Nat} (h : t ≤ sl.length) : t ≤ (rFr sl l t).2 ∧ (rFr sl l t).2 ≤ sl.length := by
  have h1 := rP_t (m := l.length) h
  unfold rFr
  split <;> exact h1
theorem rSn_t {sl : List Nat} {T : TT} {t : Nat} (h : t ≤ sl.length) : t ≤ (rSn sl T t).2.2 ∧ (rSn sl T t).2.2 ≤ sl.length := by
  have h1 := rNum_t h
  unfold rSn
  split
  · exact h1
  · rename_i n _
    have h2 := rL_t (n := n) h1.2
    split
    · exact ⟨Nat.le_trans h1.1 h2.1, h2.2⟩
    · split <;> exact ⟨Nat.le_trans h1.1 h2.1, h2.2⟩
theorem rSp_t {sl : List Nat} {T : TT} {t : Nat} (h : t ≤ sl.length) : t ≤ (rSp sl T t).2.2 ∧ (rSp sl T t).2.2 ≤ sl.length := by
  have h1 := rP_t (m := (T 0 0).length + 1) h
  unfold rSp
  split
  · exact h1
  · have h2 := rSn_t (T := T) h1.2
    exact ⟨Nat.le_trans h1.1 h2.1, h2.2⟩
  · exact h1
theorem rLx_t {sl : List Nat} {T : TT} {p n t : Nat} (h : t ≤ sl.length) : t ≤ (rLx sl T p n t).2.2 ∧ (rLx sl T p n t).2.2 ≤ sl.length := by
  have h1 := rL_t (n := n) h
  unfold rLx
  split
  · exact h1
  · split <;> exact h1
theorem rLo_t {sl : List Nat} {T : TT} {p t : Nat} (h : t ≤ sl.length) : t ≤ (rLo sl T p t).2.2 ∧ (rLo sl T p t).2.2 ≤ sl.length := by
  have h1 := rNum_t h
  unfold rLo
  split
  · exact h1
  · have h2 := rFr_t (l := T 1 p) h1.2
    exact ⟨Nat.le_trans h1.1 h2.1, h2.2⟩
  · rename_i n _
    have h2 := rLx_t (T := T) (p := p) (n := n + 1) h1.2
    exact ⟨Nat.le_trans h1.1 h2.1, h2.2⟩
theorem rNx_t {sl : List Nat} {T : TT} {p t : Nat} (h : t ≤ sl.length) : t ≤ (rNx sl T p t).2.2 ∧ (rNx sl T p t).2.2 ≤ sl.length := by
  have h1 := rLo_t (T := T) (p := p) h
  unfold rNx
  split <;> exact h1
theorem rNa_t {sl : List Nat} {T : TT} {t : Nat} (h : t ≤ sl.length) : t ≤ (rNa sl T t).2.2 ∧ (rNa sl T t).2.2 ≤ sl.length := by
  have h1 := rSp_t (T := T) h
  unfold rNa
  split
  · exact h1
  · rename_i p _
    have h2 := rNx_t (T := (rSp sl T t).2.1) (p := p) h1.2
    exact ⟨Nat.le_trans h1.1 h2.1, h2.2⟩
theorem rVa_t {sl : List Nat} {T : TT} {n t : Nat} (h : t ≤ sl.length) : t ≤ (rVa sl T n t).2.2 ∧ (rVa sl T n t).2.2 ≤ sl.length := by
  have h1 := rNum_t h
  unfold rVa
  split
  · exact h1
  · have h2 := rFr_t (l := T 2 n) h1.2
    exact ⟨Nat.le_trans h1.1 h2.1, h2.2⟩
  · have h2 := rFr_t (l := T 3 0) h1.2
    exact ⟨Nat.le_trans h1.1 h2.1, h2.2⟩
  · rename_i k _
    have h2 := rL_t (n := k) h1.2
    split <;> exact ⟨Nat.le_trans h1.1 h2.1, h2.2⟩
/-- what reading may change beside the open elements and the events -/
def rf (d d1 : ax_D) : Prop := ∀ id, (id < 256 ∨ 512 ≤ id) → id ≠ 514 → d1 id = d id
theorem rf_rf (d : ax_D) : rf d d := fun _ _ _ => rfl
theorem rf_tr {d d1 d2 : ax_D} (h : rf d d1) (h2 : rf d1 d2) : rf d d2 := fun id a b => (h2 id a b).trans (h id a b)
theorem rf_tk {d d1 : ax_D} (h : tk d d1) : rf d d1 := fun id _ b => h id b
theorem rf_tb {d d1 : ax_D} (h : tb_fr d d1 1) : rf d d1 := fun id a _ => h id (by omega)
section R2
variable {d d1 : ax_D} {sl : List Nat} {t n : Nat} {T : TT} {nm : Nat → Nat} {fl : Nat → Bool} {b : Bool}
theorem bt_rf (h : bt_is d 517 sl) (hf : rf d d1) : bt_is d1 517 sl := bt_keep h (hf 517 (by decide) (by decide)) (hf 518 (by decide) (by decide))
theorem gr_rf (h : gr_is d 1 n nm fl b) (hf : rf d d1) : gr_is d1 1 n nm fl b := gr_keep h (hf 522 (by decide) (by decide)) (hf 524 (by decide) (by decide)) (hf 526 (by decide) (by decide))
theorem tk_tb1 (hf : tb_fr d d1 1) : d1 514 = d 514 := hf 514 (by decide)
theorem sp_takeFrom {j k : Nat} (hj : j < 8) (hk : k < ax_nr j) (ht : tb_is d 1 T) (hs : bt_is d 517 sl) (h4 : d 514 4 = nI t) (hts : t ≤ sl.length) : ax_E 36 [.ref 514, .ref (32 * (8 * 1 + j)), .int (nI k)] d (ax_Pi fun y d1 => y = oi (rFr sl (T j k) t).1 ∧ d1 514 4 = nI (rFr sl (T j k) t).2 ∧ tk d d1) := by
  show ax_W 36 0 [some (.ref 514), some (.ref (32 * (8 * 1 + j))), some (.int (nI k))] [] d _
  refine wx_aldn j36_0 rfl ?_
  refine wx_ildn j36_1 rfl ?_
  refine wx_aldn j36_2 rfl ?_
  refine wx_aldn j36_3 rfl ?_
  refine wx_ildn j36_4 rfl ?_
  refine wx_i1 j36_5 rfl rfl (Nat.le_of_ble_eq_true rfl) (sh_ro (by omega)) (tp_cnt (by decide) hj hk ht) ?_
  rintro _ d9 ⟨rfl, h9⟩
  obtain rfl := h9.symm
  refine wx_i1 j36_8 rfl rfl (Nat.le_of_ble_eq_true rfl) rfl (sp_takePlace hs h4 hts (by have := tb_l20 ht hj hk; omega)) ?_
  rintro _ d1 ⟨rfl, h41, hf1⟩
  cases hr : (rP sl (T j k).length t).1 with
  | none =>
    have e : rFr sl (T j k) t = (none, (rP sl (T j k).length t).2) := by unfold rFr; rw [hr]
    rw [e]
    simp only [oi]
    refine wx_i2 j36_11 rfl rfl rfl (Nat.le_of_ble_eq_true rfl) (sh_ro (by omega)) (tp_getN (by decide) hj hk (tb_tk ht hf1)) ?_
    rintro _ d9 ⟨rfl, h9⟩
    obtain rfl := h9.symm
    refine wx_ri j36_14 rfl rfl ?_
    exact ⟨rfl, h41, hf1⟩
  | some q =>
    have e : rFr sl (T j k) t = (some ((T j k).getD q 0), (rP sl (T j k).length t).2) := by unfold rFr; rw [hr]
    rw [e]
    simp only [oi]
    refine wx_i2 j36_11 rfl rfl rfl (Nat.le_of_ble_eq_true rfl) (sh_ro (by omega)) (tp_get (by decide) hj hk (tb_tk ht hf1) (rP_v hr)) ?_
    rintro _ d9 ⟨rfl, h9⟩
    obtain rfl := h9.symm
    refine wx_ri j36_14 rfl rfl ?_
    exact ⟨rfl, h41, hf1⟩
  -- 
theorem ts_new {x : Int32} (ht : tb_is d 1 T) (hs : bt_is d 517 sl) (h4 : d 514 4 = nI t) (hts : t ≤ sl.length) : ax_W 33 35 [some (.ref 514), some (.int x), none] [] d (ax_Pi fun y d1 => y = oi (rSn sl T t).1 ∧ d1 514 4 = nI (rSn sl T t).2.2 ∧ (∀ q, (rSn sl T t).1 = some q → tb_is d1 1 (rSn sl T t).2.1) ∧ rf d d1) := by
  refine wx_aldn j33_35 rfl ?_
  refine wx_aldn j33_36 rfl ?_
  refine wx_i0 j33_37 rfl  (Nat.le_of_ble_eq_true rfl) rfl (sp_takeNumber hs h4 hts) ?_
  rintro _ d1 ⟨rfl, h41, hf1⟩
  have ht1 := rNum_t (sl := sl) hts
  cases hr : (rNum sl t).1 with
  | none =>
    have e : rSn sl T t = (none, T, (rNum sl t).2) := by unfold rSn; rw [hr]
    rw [e]
    simp only [oi]
    refine wx_i1 j33_40 rfl rfl (Nat.le_of_ble_eq_true rfl) rfl (sp_takeLettersN) ?_
    rintro _ d9 ⟨rfl, h9⟩
    obtain rfl := h9.symm
    refine wx_istn (L' := [_, _, some (.int _)]) j33_43 (Nat.le_of_ble_eq_true rfl) rfl ?_
    refine wx_ildn j33_44 rfl ?_
    refine wx_icst (v := (-1)) j33_45 (by decide) ?_
    refine wx_cmp 53 j33_46 (by decide) (fun c46 => ?_) (fun c46 => ?_)
    · simp only [ax_cn, Classical.not_not] at c46
      exact absurd trivial c46
    · simp only [ax_cn, Classical.not_not] at c46
      refine wx_icst (v := (-1)) j33_49 (by decide) ?_
      refine wx_goto 61 j33_50 (by decide) ?_
      refine wx_ri j33_61 rfl rfl ?_
      exact ⟨rfl, h41, fun q e => (by cases e), rf_tk hf1⟩
  | some n =>
    simp only [oi]
    refine wx_i1 j33_40 rfl rfl (Nat.le_of_ble_eq_true rfl) rfl (sp_takeLetters (bt_tk hs hf1) h41 ht1.2 (Nat.lt_trans (rNum_v hr) (by decide))) ?_
    rintro _ d2 ⟨rfl, h42, hf2⟩
    have hr0 := hr
    cases hr : (rL sl n (rNum sl t).2).1 with
    | none =>
      have e : rSn sl T t = (none, T, (rL sl n (rNum sl t).2).2) := by unfold rSn; rw [hr0]; simp only [hr]
      rw [e]
      simp only [oi]
      refine wx_istn (L' := [_, _, some (.int _)]) j33_43 (Nat.le_of_ble_eq_true rfl) rfl ?_
      refine wx_ildn j33_44 rfl ?_
      refine wx_icst (v := (-1)) j33_45 (by decide) ?_
      refine wx_cmp 53 j33_46 (by decide) (fun c46 => ?_) (fun c46 => ?_)
      · simp only [ax_cn, Classical.not_not] at c46
        exact absurd trivial c46
      · simp only [ax_cn, Classical.not_not] at c46
        refine wx_icst (v := (-1)) j33_49 (by decide) ?_
        refine wx_goto 61 j33_50 (by decide) ?_
        refine wx_ri j33_61 rfl rfl ?_
        exact ⟨rfl, h42, fun q e => (by cases e), rf_tk (tk_tr hf1 hf2)⟩
    | some x =>
      have e : rSn sl T t = (if (T 0 0).length < 6 then (some (T 0 0).length, tst T 0 0 (T 0 0 ++ [x]), (rL sl n (rNum sl t).2).2) else (none, T, (rL sl n (rNum sl t).2).2)) := by unfold rSn; rw [hr0]; simp only [hr]
      rw [e]
      simp only [oi]
      refine wx_istn (L' := [_, _, some (.int _)]) j33_43 (Nat.le_of_ble_eq_true rfl) rfl ?_
      refine wx_ildn j33_44 rfl ?_
      refine wx_icst (v := (-1)) j33_45 (by decide) ?_
      refine wx_cmp 53 j33_46 (by decide) (fun c46 => ?_) (fun c46 => ?_)
      · simp only [ax_cn, Classical.not_not] at c46
        refine wx_aldn j33_53 rfl ?_
        refine wx_get (v := .ref _) j33_54 rfl (Nat.le_of_ble_eq_true rfl) rfl ?_
        refine wx_ildn j33_57 rfl ?_
        refine wx_i1 j33_58 rfl rfl (Nat.le_of_ble_eq_true rfl) rfl (sp_addSpace (s := 1) (by decide) (tb_tk ht (tk_tr hf1 hf2))) ?_
        rintro y d3 ⟨h31, h32, hf3⟩
        refine wx_ri j33_61 rfl rfl ?_
        have h43 : d3 514 4 = nI (rL sl n (rNum sl t).2).2 := by rw [tk_tb1 hf3]; exact h42
        have hw := rf_tr (rf_tk (tk_tr hf1 hf2)) (rf_tb hf3)
        by_cases h6 : (T 0 0).length < 6
        · obtain ⟨e1, e2⟩ := h31 h6
          rw [if_pos h6]
          exact ⟨e1, h43, fun q e => (by cases e; exact e2), hw⟩
        · obtain ⟨e1, e2⟩ := h32 h6
          rw [if_neg h6]
          exact ⟨e1, h43, fun q e => (by cases e), hw⟩
      · simp only [ax_cn, Classical.not_not] at c46
        exact absurd (show oi (some x) = -1 from c46) (fun q2 => by have := (oi_neg (o := some x) (fun i2 e2 => by cases e2; exact tB_lt (rL_v hr))).mp q2; cases this)
    -- 
  -- 
theorem sp_takeSpace (ht : tb_is d 1 T) (hs : bt_is d 517 sl) (h4 : d 514 4 = nI t) (hts : t ≤ sl.length) : ax_E 33 [.ref 514] d (ax_Pi fun y d1 => y = oi (rSp sl T t).1 ∧ d1 514 4 = nI (rSp sl T t).2.2 ∧ (∀ q, (rSp sl T t).1 = some q → tb_is d1 1 (rSp sl T t).2.1) ∧ rf d d1) := by
  show ax_W 33 0 [some (.ref 514), none, none] [] d _
  refine wx_aldn j33_0 rfl ?_
  refine wx_aldn j33_1 rfl ?_
  refine wx_get (v := .ref _) j33_2 rfl (Nat.le_of_ble_eq_true rfl) rfl ?_
  refine wx_get (v := .ref _) j33_5 rfl (Nat.le_of_ble_eq_true rfl) rfl ?_
  refine wx_icst (v := nI 0) j33_8 (by decide) ?_
  refine wx_i1 j33_9 rfl rfl (Nat.le_of_ble_eq_true rfl) rfl (tp_cnt (s := 1) (j := 0) (k := 0) (by decide) (by decide) (by decide) ht) ?_
  rintro _ d9 ⟨rfl, h9⟩
  obtain rfl := h9.symm
  refine wx_icst (v := nI 1) j33_12 (by decide) ?_
  refine wx_iadd j33_13 ?_
  rw [nI_add]
  refine wx_i1 j33_14 rfl rfl (Nat.le_of_ble_eq_true rfl) rfl (sp_takePlace hs h4 hts (by have := tb_l20 ht (j := 0) (k := 0) (by decide) (by decide); omega)) ?_
  rintro _ d1 ⟨rfl, h41, hf1⟩
  have htt := rP_t (sl := sl) (m := (T 0 0).length + 1) hts
  cases hr : (rP sl ((T 0 0).length + 1) t).1 with
  | none =>
    have e : rSp sl T t = (none, T, (rP sl ((T 0 0).length + 1) t).2) := by unfold rSp; rw [hr]
    rw [e]
    simp only [oi]
    refine wx_istn (L' := [_, some (.int _), _]) j33_17 (Nat.le_of_ble_eq_true rfl) rfl ?_
    refine wx_ildn j33_18 rfl ?_
    refine wx_if 35 j33_19 (by decide) (fun c19 => ?_) (fun c19 => ?_)
    · simp only [ax_cn, Classical.not_not] at c19
      exact absurd c19 (by decide)
    · simp only [ax_cn, Classical.not_not] at c19
      refine wx_ildn j33_22 rfl ?_
      refine wx_icst (v := (-1)) j33_23 (by decide) ?_
      refine wx_cmp 31 j33_24 (by decide) (fun c24 => ?_) (fun c24 => ?_)
      · simp only [ax_cn, Classical.not_not] at c24
        exact absurd trivial c24
      · simp only [ax_cn, Classical.not_not] at c24
        refine wx_icst (v := (-1)) j33_27 (by decide) ?_
        refine wx_goto 34 j33_28 (by decide) ?_
        refine wx_ri j33_34 rfl rfl ?_
        exact ⟨rfl, h41, fun q e => (by cases e), rf_tk hf1⟩
  | some q =>
    simp only [oi]
    have hq21 := rP_v hr
    have h20 := tb_l20 ht (j := 0) (k := 0) (by decide) (by decide)
    refine wx_istn (L' := [_, some (.int _), _]) j33_17 (Nat.le_of_ble_eq_true rfl) rfl ?_
    refine wx_ildn j33_18 rfl ?_
    refine wx_if 35 j33_19 (by decide) (fun c19 => ?_) (fun c19 => ?_)
    · simp only [ax_cn, Classical.not_not] at c19
      have hq0 : q = 0 := (nI_eq (by omega) (by decide)).mp (c19.trans nI_0.symm)
      have e : rSp sl T t = rSn sl T (rP sl ((T 0 0).length + 1) t).2 := by unfold rSp; rw [hr, hq0]
      rw [e]
      have := ts_new (x := nI q) (tb_tk ht hf1) (bt_tk hs hf1) h41 htt.2
      refine ax_W_mono this ?_
      rintro o d2 ⟨y, e1, e2, e3, e4, e5⟩
      exact ⟨y, e1, e2, e3, e4, rf_tr (rf_tk hf1) e5⟩
    · simp only [ax_cn, Classical.not_not] at c19
      obtain ⟨q, rfl⟩ : ∃ q2, q = q2 + 1 := ⟨q - 1, by
        rcases Nat.eq_zero_or_pos q with h0 | h0
        · rw [h0] at c19; exact absurd rfl c19
        · omega⟩
      have e : rSp sl T t = (some q, T, (rP sl ((T 0 0).length + 1) t).2) := by unfold rSp; rw [hr]
      rw [e]
      refine wx_ildn j33_22 rfl ?_
      refine wx_icst (v := (-1)) j33_23 (by decide) ?_
      refine wx_cmp 31 j33_24 (by decide) (fun c24 => ?_) (fun c24 => ?_)
      · simp only [ax_cn, Classical.not_not] at c24
        refine wx_ildn j33_31 rfl ?_
        refine wx_icst (v := nI 1) j33_32 (by decide) ?_
        refine wx_isub j33_33 ?_
        rw [nI_s1]
        refine wx_ri j33_34 rfl rfl ?_
        exact ⟨rfl, h41, fun q e => (by cases e; exact tb_tk ht hf1), rf_tk hf1⟩
      · simp only [ax_cn, Classical.not_not] at c24
        exact absurd (show oi (some (q + 1)) = -1 from c24) (fun q2 => by have := (oi_neg (o := some (q + 1)) (fun i2 e2 => by cases e2; omega)).mp q2; cases this)
  -- 
theorem rFr_v {sl l : List Nat} {t v : Nat} (h : (rFr sl l t).1 = some v) : v ∈ l := by
  unfold rFr at h
  split at h
  · rename_i q hq
    cases h
    exact getD_mem (rP_v hq)
  · cases h
theorem rSp_TB (hb : TB T) : TB (rSp sl T t).2.1 := by
  unfold rSp rSn
  split
  · exact hb
  · split
    · exact hb
    · split
      · exact hb
      · rename_i x hx
        split
        · exact TB_st hb (mem_app1 (hb 0 0) (rL_v hx))
        · exact hb
  · exact hb
theorem rSp_45 (h : T45 T) : T45 (rSp sl T t).2.1 := by
  unfold rSp rSn
  split
  · exact h
  · split
    · exact h
    · split
      · exact h
      · split
        · exact T45_st h (by decide) (by decide)
        · exact h
  · exact h
theorem rSp_p {q : Nat} (h : (rSp sl T t).1 = some q) : q < ((rSp sl T t).2.1 0 0).length := by
  unfold rSp at h ⊢
  split at h
  · cases h
  · rename_i h0
    unfold rSn at h ⊢
    split at h
    · cases h
    · rename_i n hn
      try rw [hn]
      try simp only
      split at h
      · cases h
      · rename_i x hx
        try rw [hx]
        try simp only
        split at h
        · rename_i h6
          cases h
          try rw [if_pos h6]
          try simp only
          rw [tst_at, List.length_append]
          simp
        · cases h
  · rename_i p2 hp
    cases h
    have := rP_v hp
    try simp only
    omega
theorem rLo_TB {p : Nat} (hb : TB T) : TB (rLo sl T p t).2.1 := by
  unfold rLo rLx
  split
  · exact hb
  · exact hb
  · split
    · exact hb
    · rename_i x hx
      split
      · exact TB_st hb (mem_app1 (hb 1 p) (rL_v hx))
      · exact hb
theorem rLo_45 {p : Nat} (h : T45 T) : T45 (rLo sl T p t).2.1 := by
  unfold rLo rLx
  split
  · exact h
  · exact h
  · split
    · exact h
    · split
      · exact T45_st h (by decide) (by decide)
      · exact h
theorem rLo_v {p v : Nat} (hb : TB T) (h : (rLo sl T p t).1 = some v) : v < tB := by
  unfold rLo rLx at h
  split at h
  · cases h
  · exact hb 1 p v (rFr_v h)
  · split at h
    · cases h
    · rename_i x hx
      split at h
      · cases h; exact rL_v hx
      · cases h
theorem rLo_00 (p : Nat) : (rLo sl T p t).2.1 0 0 = T 0 0 := by
  unfold rLo rLx
  split
  · rfl
  · rfl
  · split
    · rfl
    · split
      · simp only; rw [tst_ne (Or.inl (by decide))]
      · rfl
theorem rVa_TB {n : Nat} (hb : TB T) : TB (rVa sl T n t).2.1 := by
  unfold rVa
  split
  · exact hb
  · exact hb
  · exact hb
  · split
    · exact hb
    · rename_i x hx
      exact tav_TB hb (rL_v hx)
theorem rVa_45 {n : Nat} (h : T45 T) : T45 (rVa sl T n t).2.1 := by
  unfold rVa
  split
  · exact h
  · exact h
  · exact h
  · split
    · exact h
    · exact tav_45 h
theorem rVa_v {n v : Nat} (hb : TB T) (h : (rVa sl T n t).1 = some v) : v < tB := by
  unfold rVa at h
  split at h
  · cases h
  · exact hb 2 n v (rFr_v h)
  · exact hb 3 0 v (rFr_v h)
  · split at h
    · cases h
    · rename_i x hx
      cases h
      exact rL_v hx
theorem tl_new {p n : Nat} (hp : p < 6) (ht : tb_is d 1 T) (hs : bt_is d 517 sl) (h4 : d 514 4 = nI t) (hts : t ≤ sl.length) (hn : n < 2 ^ 31) : ax_W 34 22 [some (.ref 514), some (.int (nI p)), some (.int (nI n)), none] [] d (ax_Pi fun y d1 => y = oi (rLx sl T p n t).1 ∧ d1 514 4 = nI (rLx sl T p n t).2.2 ∧ (∀ q, (rLx sl T p n t).1 = some q → tb_is d1 1 (rLx sl T p n t).2.1) ∧ rf d d1) := by
  refine wx_aldn j34_22 rfl ?_
  refine wx_ildn j34_23 rfl ?_
  refine wx_i1 j34_24 rfl rfl (Nat.le_of_ble_eq_true rfl) rfl (sp_takeLetters hs h4 hts hn) ?_
  rintro _ d2 ⟨rfl, h42, hf2⟩
  have ht2 := tb_tk ht hf2
  cases hr : (rL sl n t).1 with
  | none =>
    have e : rLx sl T p n t = (none, T, (rL sl n t).2) := by unfold rLx; rw [hr]
    rw [e]
    simp only [oi]
    refine wx_istn (L' := [_, _, _, some (.int _)]) j34_27 (Nat.le_of_ble_eq_true rfl) rfl ?_
    refine wx_ildn j34_28 rfl ?_
    refine wx_icst (v := (-1)) j34_29 (by decide) ?_
    refine wx_cmp 47 j34_30 (by decide) (fun c30 => ?_) (fun c30 => ?_)
    · simp only [ax_cn, Classical.not_not] at c30
      refine wx_icst (v := (-1)) j34_47 (by decide) ?_
      refine wx_ri j34_48 rfl rfl ?_
      exact ⟨rfl, h42, fun q e => (by cases e), rf_tk hf2⟩
    · simp only [ax_cn, Classical.not_not] at c30
      exact absurd trivial c30
  | some x =>
    have e : rLx sl T p n t = (if (T 1 p).length < 10 then (some x, tst T 1 p (T 1 p ++ [x]), (rL sl n t).2) else (none, T, (rL sl n t).2)) := by unfold rLx; rw [hr]
    rw [e]
    simp only [oi]
    refine wx_istn (L' := [_, _, _, some (.int _)]) j34_27 (Nat.le_of_ble_eq_true rfl) rfl ?_
    refine wx_ildn j34_28 rfl ?_
    refine wx_icst (v := (-1)) j34_29 (by decide) ?_
    refine wx_cmp 47 j34_30 (by decide) (fun c30 => ?_) (fun c30 => ?_)
    · simp only [ax_cn, Classical.not_not] at c30
      exact absurd (show oi (some x) = -1 from c30) (fun q2 => by have := (oi_neg (o := some x) (fun i2 e2 => by cases e2; exact tB_lt (rL_v hr))).mp q2; cases this)
    · simp only [ax_cn, Classical.not_not] at c30
      refine wx_aldn j34_33 rfl ?_
      refine wx_get (v := .ref _) j34_34 rfl (Nat.le_of_ble_eq_true rfl) rfl ?_
      refine wx_get (v := .ref _) j34_37 rfl (Nat.le_of_ble_eq_true rfl) rfl ?_
      refine wx_ildn j34_40 rfl ?_
      refine wx_i1 j34_41 rfl rfl (Nat.le_of_ble_eq_true rfl) rfl (tp_full (s := 1) (j := 1) (by decide) (by decide) hp ht2) ?_
      rintro _ d9 ⟨rfl, h9⟩
      obtain rfl := h9.symm
      refine wx_if 49 j34_44 (by decide) (fun c44 => ?_) (fun c44 => ?_)
      · simp only [ax_cn, Classical.not_not] at c44
        have hroom : (T 1 p).length < 10 := by have := of_decide_eq_false (bB_0.mp c44); exact Nat.not_le.mp this
        rw [if_pos hroom]
        refine wx_aldn j34_49 rfl ?_
        refine wx_get (v := .ref _) j34_50 rfl (Nat.le_of_ble_eq_true rfl) rfl ?_
        refine wx_get (v := .ref _) j34_53 rfl (Nat.le_of_ble_eq_true rfl) rfl ?_
        refine wx_ildn j34_56 rfl ?_
        refine wx_ildn j34_57 rfl ?_
        refine wx_v2 j34_58 rfl rfl rfl (Nat.le_of_ble_eq_true rfl) rfl (tp_last (s := 1) (j := 1) (by decide) (by decide) hp ht2) ?_
        rintro d3 ⟨h3, hf3⟩
        rw [if_pos (show (T 1 p).length < ax_rm 1 from hroom)] at h3
        have hft := rw_tb (s := 1) (j := 1) hf3 (by decide)
        refine wx_ildn j34_61 rfl ?_
        refine wx_ri j34_62 rfl rfl ?_
        exact ⟨rfl, by rw [tk_tb1 hft]; exact h42, fun q e => (by cases e; exact h3), rf_tr (rf_tk hf2) (rf_tb hft)⟩
      · simp only [ax_cn, Classical.not_not] at c44
        have hfull : ¬ (T 1 p).length < 10 := by have := of_decide_eq_true (bB_1.mp c44); exact Nat.not_lt.mpr this
        rw [if_neg hfull]
        refine wx_icst (v := (-1)) j34_47 (by decide) ?_
        refine wx_ri j34_48 rfl rfl ?_
        exact ⟨rfl, h42, fun q e => (by cases e), rf_tk hf2⟩
  -- 
theorem sp_takeLocal {p : Nat} (hp : p < 6) (ht : tb_is d 1 T) (hs : bt_is d 517 sl) (h4 : d 514 4 = nI t) (hts : t ≤ sl.length) : ax_E 34 [.ref 514, .int (nI p)] d (ax_Pi fun y d1 => y = oi (rLo sl T p t).1 ∧ d1 514 4 = nI (rLo sl T p t).2.2 ∧ (∀ q, (rLo sl T p t).1 = some q → tb_is d1 1 (rLo sl T p t).2.1) ∧ rf d d1) := by
  show ax_W 34 0 [some (.ref 514), some (.int (nI p)), none, none] [] d _
  refine wx_aldn j34_0 rfl ?_
  refine wx_i0 j34_1 rfl  (Nat.le_of_ble_eq_true rfl) rfl (sp_takeNumber hs h4 hts) ?_
  rintro _ d1 ⟨rfl, h41, hf1⟩
  have htt := rNum_t (sl := sl) hts
  cases hr : (rNum sl t).1 with
  | none =>
    have e : rLo sl T p t = (none, T, (rNum sl t).2) := by unfold rLo; rw [hr]
    rw [e]
    simp only [oi]
    refine wx_istn (L' := [_, _, some (.int _), _]) j34_4 (Nat.le_of_ble_eq_true rfl) rfl ?_
    refine wx_ildn j34_5 rfl ?_
    refine wx_if 22 j34_6 (by decide) (fun c6 => ?_) (fun c6 => ?_)
    · simp only [ax_cn, Classical.not_not] at c6
      refine wx_aldn j34_22 rfl ?_
      refine wx_ildn j34_23 rfl ?_
      refine wx_i1 j34_24 rfl rfl (Nat.le_of_ble_eq_true rfl) rfl (sp_takeLettersN) ?_
      rintro _ d9 ⟨rfl, h9⟩
      obtain rfl := h9.symm
      refine wx_istn (L' := [_, _, _, some (.int _)]) j34_27 (Nat.le_of_ble_eq_true rfl) rfl ?_
      refine wx_ildn j34_28 rfl ?_
      refine wx_icst (v := (-1)) j34_29 (by decide) ?_
      refine wx_cmp 47 j34_30 (by decide) (fun c30 => ?_) (fun c30 => ?_)
      · simp only [ax_cn, Classical.not_not] at c30
        refine wx_icst (v := (-1)) j34_47 (by decide) ?_
        refine wx_ri j34_48 rfl rfl ?_
        exact ⟨rfl, h41, fun q e => (by cases e), rf_tk hf1⟩
      · simp only [ax_cn, Classical.not_not] at c30
        exact absurd trivial c30
    · simp only [ax_cn, Classical.not_not] at c6
      exact absurd c6 (by decide)
  | some n =>
    simp only [oi]
    have hn := rNum_v hr
    refine wx_istn (L' := [_, _, some (.int _), _]) j34_4 (Nat.le_of_ble_eq_true rfl) rfl ?_
    refine wx_ildn j34_5 rfl ?_
    refine wx_if 22 j34_6 (by decide) (fun c6 => ?_) (fun c6 => ?_)
    · simp only [ax_cn, Classical.not_not] at c6
      obtain ⟨n, rfl⟩ : ∃ q2, n = q2 + 1 := ⟨n - 1, by
        rcases Nat.eq_zero_or_pos n with h0 | h0
        · rw [h0] at c6; exact absurd rfl c6
        · omega⟩
      have e : rLo sl T p t = rLx sl T p (n + 1) (rNum sl t).2 := by unfold rLo; rw [hr]
      rw [e]
      refine ax_W_mono (tl_new hp (tb_tk ht hf1) (bt_tk hs hf1) h41 htt.2 (by omega)) ?_
      rintro o d2 ⟨y, e1, e2, e3, e4, e5⟩
      exact ⟨y, e1, e2, e3, e4, rf_tr (rf_tk hf1) e5⟩
    · simp only [ax_cn, Classical.not_not] at c6
      have hn0 : n = 0 := (nI_eq (by omega) (by decide)).mp (c6.trans nI_0.symm)
      have e : rLo sl T p t = ((rFr sl (T 1 p) (rNum sl t).2).1, T, (rFr sl (T 1 p) (rNum sl t).2).2) := by unfold rLo; rw [hr, hn0]
      rw [e]
      refine wx_aldn j34_9 rfl ?_
      refine wx_aldn j34_10 rfl ?_
      refine wx_get (v := .ref _) j34_11 rfl (Nat.le_of_ble_eq_true rfl) rfl ?_
      refine wx_get (v := .ref _) j34_14 rfl (Nat.le_of_ble_eq_true rfl) rfl ?_
      refine wx_ildn j34_17 rfl ?_
      refine wx_i2 j34_18 rfl rfl rfl (Nat.le_of_ble_eq_true rfl) rfl (sp_takeFrom (j := 1) (k := p) (by decide) hp (tb_tk ht hf1) (bt_tk hs hf1) h41 htt.2) ?_
      rintro _ d2 ⟨rfl, h42, hf2⟩
      refine wx_ri j34_21 rfl rfl ?_
      exact ⟨rfl, h42, fun q e => tb_tk ht (tk_tr hf1 hf2), rf_tk (tk_tr hf1 hf2)⟩
  -- 
theorem tn_new {p : Nat} (ht : tb_is d 1 T) (hs : bt_is d 517 sl) (h4 : d 514 4 = nI t) (hts : t ≤ sl.length) (hb : TB T) (h45 : T45 T) (hp : p < (T 0 0).length) : ax_W 32 12 [some (.ref 514), some (.int (nI p)), none] [] d (ax_Pi fun y d1 => y = oi (rNx sl T p t).1 ∧ d1 514 4 = nI (rNx sl T p t).2.2 ∧ (∀ q, (rNx sl T p t).1 = some q → tb_is d1 1 (rNx sl T p t).2.1) ∧ rf d d1) := by
  have hp6 : p < 6 := Nat.lt_of_lt_of_le hp (tb_len ht (j := 0) (k := 0) (by decide) (by decide))
  refine wx_aldn j32_12 rfl ?_
  refine wx_ildn j32_13 rfl ?_
  refine wx_i1 j32_14 rfl rfl (Nat.le_of_ble_eq_true rfl) rfl (sp_takeLocal hp6 ht hs h4 hts) ?_
  rintro _ d1 ⟨rfl, h41, ht1, hf1⟩
  cases hr : (rLo sl T p t).1 with
  | none =>
    have e : rNx sl T p t = (none, T, (rLo sl T p t).2.2) := by unfold rNx; rw [hr]
    rw [e]
    simp only [oi]
    refine wx_istn (L' := [_, _, some (.int _)]) j32_17 (Nat.le_of_ble_eq_true rfl) rfl ?_
    refine wx_ildn j32_18 rfl ?_
    refine wx_icst (v := (-1)) j32_19 (by decide) ?_
    refine wx_cmp 25 j32_20 (by decide) (fun c20 => ?_) (fun c20 => ?_)
    · simp only [ax_cn, Classical.not_not] at c20
      exact absurd trivial c20
    · simp only [ax_cn, Classical.not_not] at c20
      refine wx_icst (v := (-1)) j32_23 (by decide) ?_
      refine wx_ri j32_24 rfl rfl ?_
      exact ⟨rfl, h41, fun q e => (by cases e), hf1⟩
  | some lo =>
    have ht1 := ht1 lo hr
    have hlo := rLo_v hb hr
    have e : rNx sl T p t = ((rFo (rLo sl T p t).2.1 (((rLo sl T p t).2.1 0 0).getD p 0) lo).1, (rFo (rLo sl T p t).2.1 (((rLo sl T p t).2.1 0 0).getD p 0) lo).2, (rLo sl T p t).2.2) := by unfold rNx; rw [hr]
    rw [e]
    simp only [oi]
    have hb1 := rLo_TB (sl := sl) (t := t) (p := p) hb
    have hp1 : p < ((rLo sl T p t).2.1 0 0).length := by rw [rLo_00]; exact hp
    refine wx_istn (L' := [_, _, some (.int _)]) j32_17 (Nat.le_of_ble_eq_true rfl) rfl ?_
    refine wx_ildn j32_18 rfl ?_
    refine wx_icst (v := (-1)) j32_19 (by decide) ?_
    refine wx_cmp 25 j32_20 (by decide) (fun c20 => ?_) (fun c20 => ?_)
    · simp only [ax_cn, Classical.not_not] at c20
      refine wx_aldn j32_25 rfl ?_
      refine wx_get (v := .ref _) j32_26 rfl (Nat.le_of_ble_eq_true rfl) rfl ?_
      refine wx_aldn j32_29 rfl ?_
      refine wx_get (v := .ref _) j32_30 rfl (Nat.le_of_ble_eq_true rfl) rfl ?_
      refine wx_get (v := .ref _) j32_33 rfl (Nat.le_of_ble_eq_true rfl) rfl ?_
      refine wx_icst (v := nI 0) j32_36 (by decide) ?_
      refine wx_ildn j32_37 rfl ?_
      refine wx_i2 j32_38 rfl rfl rfl (Nat.le_of_ble_eq_true rfl) rfl (tp_get (s := 1) (j := 0) (k := 0) (by decide) (by decide) (by decide) ht1 hp1) ?_
      rintro _ d9 ⟨rfl, h9⟩
      obtain rfl := h9.symm
      refine wx_ildn j32_41 rfl ?_
      refine wx_i2 j32_42 rfl rfl rfl (Nat.le_of_ble_eq_true rfl) rfl (sp_foan (s := 1) (by decide) ht1 hb1 (rLo_45 h45) (hb1 0 0 _ (getD_mem hp1)) hlo) ?_
      rintro y d2 ⟨h21, h22, hf2⟩
      refine wx_ri j32_45 rfl rfl ?_
      have h42 : d2 514 4 = nI (rLo sl T p t).2.2 := by rw [tk_tb1 hf2]; exact h41
      have hw := rf_tr hf1 (rf_tb hf2)
      cases hf : fn (rLo sl T p t).2.1 (((rLo sl T p t).2.1 0 0).getD p 0) lo with
      | some i =>
        obtain ⟨e1, e2⟩ := h21 i hf
        have e3 : rFo (rLo sl T p t).2.1 (((rLo sl T p t).2.1 0 0).getD p 0) lo = (some i, (rLo sl T p t).2.1) := by unfold rFo; rw [hf]
        rw [e3]
        exact ⟨e1, h42, fun q e => (by rw [e2]; exact ht1), hw⟩
      | none =>
        by_cases h20 : ((rLo sl T p t).2.1 4 0).length < 20
        · obtain ⟨e1, e2⟩ := (h22 hf).1 h20
          have e3 : rFo (rLo sl T p t).2.1 (((rLo sl T p t).2.1 0 0).getD p 0) lo = (some ((rLo sl T p t).2.1 4 0).length, tnm (rLo sl T p t).2.1 (((rLo sl T p t).2.1 0 0).getD p 0) lo) := by unfold rFo; rw [hf]; simp only [if_pos h20]
          rw [e3]
          exact ⟨e1, h42, fun q e => e2, hw⟩
        · obtain ⟨e1, e2⟩ := (h22 hf).2 h20
          have e3 : rFo (rLo sl T p t).2.1 (((rLo sl T p t).2.1 0 0).getD p 0) lo = (none, (rLo sl T p t).2.1) := by unfold rFo; rw [hf]; simp only [if_neg h20]
          rw [e3]
          exact ⟨e1, h42, fun q e => (by cases e), hw⟩
    · simp only [ax_cn, Classical.not_not] at c20
      exact absurd (show oi (some lo) = -1 from c20) (fun q2 => by have := (oi_neg (o := some lo) (fun i2 e2 => by cases e2; exact tB_lt hlo)).mp q2; cases this)
  -- 
theorem sp_takeName (ht : tb_is d 1 T) (hs : bt_is d 517 sl) (h4 : d 514 4 = nI t) (hts : t ≤ sl.length) (hb : TB T) (h45 : T45 T) : ax_E 32 [.ref 514] d (ax_Pi fun y d1 => y = oi (rNa sl T t).1 ∧ d1 514 4 = nI (rNa sl T t).2.2 ∧ (∀ q, (rNa sl T t).1 = some q → tb_is d1 1 (rNa sl T t).2.1) ∧ rf d d1) := by
  show ax_W 32 0 [some (.ref 514), none, none] [] d _
  refine wx_aldn j32_0 rfl ?_
  refine wx_i0 j32_1 rfl  (Nat.le_of_ble_eq_true rfl) rfl (sp_takeSpace ht hs h4 hts) ?_
  rintro _ d1 ⟨rfl, h41, ht1, hf1⟩
  have htt := rSp_t (sl := sl) (T := T) hts
  cases hr : (rSp sl T t).1 with
  | none =>
    have e : rNa sl T t = (none, T, (rSp sl T t).2.2) := by unfold rNa; rw [hr]
    rw [e]
    simp only [oi]
    refine wx_istn (L' := [_, some (.int _), _]) j32_4 (Nat.le_of_ble_eq_true rfl) rfl ?_
    refine wx_ildn j32_5 rfl ?_
    refine wx_icst (v := (-1)) j32_6 (by decide) ?_
    refine wx_cmp 12 j32_7 (by decide) (fun c7 => ?_) (fun c7 => ?_)
    · simp only [ax_cn, Classical.not_not] at c7
      exact absurd trivial c7
    · simp only [ax_cn, Classical.not_not] at c7
      refine wx_icst (v := (-1)) j32_10 (by decide) ?_
      refine wx_ri j32_11 rfl rfl ?_
      exact ⟨rfl, h41, fun q e => (by cases e), hf1⟩
  | some p =>
    have ht1 := ht1 p hr
    have hp := rSp_p hr
    have hp20 := tb_l20 ht1 (j := 0) (k := 0) (by decide) (by decide)
    have e : rNa sl T t = rNx sl (rSp sl T t).2.1 p (rSp sl T t).2.2 := by unfold rNa; rw [hr]
    rw [e]
    simp only [oi]
    refine wx_istn (L' := [_, some (.int _), _]) j32_4 (Nat.le_of_ble_eq_true rfl) rfl ?_
    refine wx_ildn j32_5 rfl ?_
    refine wx_icst (v := (-1)) j32_6 (by decide) ?_
    refine wx_cmp 12 j32_7 (by decide) (fun c7 => ?_) (fun c7 => ?_)
    · simp only [ax_cn, Classical.not_not] at c7
      refine ax_W_mono (tn_new ht1 (bt_rf hs hf1) h41 htt.2 (rSp_TB hb) (rSp_45 h45) hp) ?_
      rintro o d2 ⟨y, e1, e2, e3, e4, e5⟩
      exact ⟨y, e1, e2, e3, e4, rf_tr hf1 e5⟩
    · simp only [ax_cn, Classical.not_not] at c7
      exact absurd (show oi (some p) = -1 from c7) (fun q2 => by have := (oi_neg (o := some p) (fun i2 e2 => by cases e2; exact (by omega))).mp q2; cases this)
  -- 
theorem sp_takeValue (hn : n < 20) (ht : tb_is d 1 T) (hs : bt_is d 517 sl) (h4 : d 514 4 = nI t) (hts : t ≤ sl.length) : ax_E 35 [.ref 514, .int (nI n)] d (ax_Pi fun y d1 => y = oi (rVa sl T n t).1 ∧ d1 514 4 = nI (rVa sl T n t).2.2 ∧ (∀ q, (rVa sl T n t).1 = some q → tb_is d1 1 (rVa sl T n t).2.1) ∧ rf d d1) := by
  show ax_W 35 0 [some (.ref 514), some (.int (nI n)), none, none] [] d _
  refine wx_aldn j35_0 rfl ?_
  refine wx_i0 j35_1 rfl  (Nat.le_of_ble_eq_true rfl) rfl (sp_takeNumber hs h4 hts) ?_
  rintro _ d1 ⟨rfl, h41, hf1⟩
  have htt := rNum_t (sl := sl) hts
  have ht1 := tb_tk ht hf1
  have hs1 := bt_tk hs hf1
  cases hr : (rNum sl t).1 with
  | none =>
    have e : rVa sl T n t = (none, T, (rNum sl t).2) := by unfold rVa; rw [hr]
    rw [e]
    simp only [oi]
    refine wx_istn (L' := [_, _, some (.int _), _]) j35_4 (Nat.le_of_ble_eq_true rfl) rfl ?_
    refine wx_ildn j35_5 rfl ?_
    refine wx_icst (v := (-1)) j35_6 (by decide) ?_
    refine wx_cmp 12 j35_7 (by decide) (fun c7 => ?_) (fun c7 => ?_)
    · simp only [ax_cn, Classical.not_not] at c7
      exact absurd trivial c7
    · simp only [ax_cn, Classical.not_not] at c7
      refine wx_icst (v := (-1)) j35_10 (by decide) ?_
      refine wx_ri j35_11 rfl rfl ?_
      exact ⟨rfl, h41, fun q e => (by cases e), rf_tk hf1⟩
  | some k =>
    simp only [oi]
    have hk := rNum_v hr
    refine wx_istn (L' := [_, _, some (.int _), _]) j35_4 (Nat.le_of_ble_eq_true rfl) rfl ?_
    refine wx_ildn j35_5 rfl ?_
    refine wx_icst (v := (-1)) j35_6 (by decide) ?_
    refine wx_cmp 12 j35_7 (by decide) (fun c7 => ?_) (fun c7 => ?_)
    · simp only [ax_cn, Classical.not_not] at c7
      refine wx_ildn j35_12 rfl ?_
      refine wx_if 29 j35_13 (by decide) (fun c13 => ?_) (fun c13 => ?_)
      · simp only [ax_cn, Classical.not_not] at c13
        have hk0 : ¬ k = 0 := fun q => c13 (by rw [q]; rfl)
        refine wx_ildn j35_29 rfl ?_
        refine wx_icst (v := nI 1) j35_30 (by decide) ?_
        refine wx_cmp 47 j35_31 (by decide) (fun c31 => ?_) (fun c31 => ?_)
        · simp only [ax_cn, Classical.not_not] at c31
          have hk1 : ¬ k = 1 := fun q => c31 (by rw [q])
          obtain ⟨k, rfl⟩ : ∃ q2, k = q2 + 2 := ⟨k - 2, by omega⟩
          refine wx_aldn j35_47 rfl ?_
          refine wx_ildn j35_48 rfl ?_
          refine wx_icst (v := nI 2) j35_49 (by decide) ?_
          refine wx_isub j35_50 ?_
          rw [pk_sub (by omega), show k + 2 - 2 = k by omega]
          refine wx_i1 j35_51 rfl rfl (Nat.le_of_ble_eq_true rfl) rfl (sp_takeLetters hs1 h41 htt.2 (by omega)) ?_
          rintro _ d2 ⟨rfl, h42, hf2⟩
          have hr0 := hr
          cases hr : (rL sl k (rNum sl t).2).1 with
          | none =>
            have e : rVa sl T n t = (none, T, (rL sl k (rNum sl t).2).2) := by unfold rVa; rw [hr0]; simp only [hr]
            rw [e]
            simp only [oi]
            refine wx_istn (L' := [_, _, _, some (.int _)]) j35_54 (Nat.le_of_ble_eq_true rfl) rfl ?_
            refine wx_ildn j35_55 rfl ?_
            refine wx_icst (v := (-1)) j35_56 (by decide) ?_
            refine wx_cmp 69 j35_57 (by decide) (fun c57 => ?_) (fun c57 => ?_)
            · simp only [ax_cn, Classical.not_not] at c57
              refine wx_ildn j35_69 rfl ?_
              refine wx_ri j35_70 rfl rfl ?_
              exact ⟨rfl, h42, fun q e => (by cases e), rf_tk (tk_tr hf1 hf2)⟩
            · simp only [ax_cn, Classical.not_not] at c57
              exact absurd trivial c57
          | some v =>
            have e : rVa sl T n t = (some v, tav T n v, (rL sl k (rNum sl t).2).2) := by unfold rVa; rw [hr0]; simp only [hr]
            rw [e]
            simp only [oi]
            have hv := rL_v hr
            refine wx_istn (L' := [_, _, _, some (.int _)]) j35_54 (Nat.le_of_ble_eq_true rfl) rfl ?_
            refine wx_ildn j35_55 rfl ?_
            refine wx_icst (v := (-1)) j35_56 (by decide) ?_
            refine wx_cmp 69 j35_57 (by decide) (fun c57 => ?_) (fun c57 => ?_)
            · simp only [ax_cn, Classical.not_not] at c57
              exact absurd (show oi (some v) = -1 from c57) (fun q2 => by have := (oi_neg (o := some v) (fun i2 e2 => by cases e2; exact tB_lt hv)).mp q2; cases this)
            · simp only [ax_cn, Classical.not_not] at c57
              refine wx_aldn j35_60 rfl ?_
              refine wx_get (v := .ref _) j35_61 rfl (Nat.le_of_ble_eq_true rfl) rfl ?_
              refine wx_ildn j35_64 rfl ?_
              refine wx_ildn j35_65 rfl ?_
              refine wx_v2 j35_66 rfl rfl rfl (Nat.le_of_ble_eq_true rfl) rfl (sp_addValue (s := 1) (by decide) (tb_tk ht1 hf2) hn hv) ?_
              rintro d3 ⟨h3, hf3⟩
              refine wx_ildn j35_69 rfl ?_
              refine wx_ri j35_70 rfl rfl ?_
              exact ⟨rfl, by rw [tk_tb1 hf3]; exact h42, fun q e => h3, rf_tr (rf_tk (tk_tr hf1 hf2)) (rf_tb hf3)⟩
          -- 
        · simp only [ax_cn, Classical.not_not] at c31
          have hk1 : k = 1 := (nI_eq (by omega) (by decide)).mp c31
          have e : rVa sl T n t = ((rFr sl (T 3 0) (rNum sl t).2).1, T, (rFr sl (T 3 0) (rNum sl t).2).2) := by unfold rVa; rw [hr, hk1]
          rw [e]
          refine wx_aldn j35_34 rfl ?_
          refine wx_aldn j35_35 rfl ?_
          refine wx_get (v := .ref _) j35_36 rfl (Nat.le_of_ble_eq_true rfl) rfl ?_
          refine wx_get (v := .ref _) j35_39 rfl (Nat.le_of_ble_eq_true rfl) rfl ?_
          refine wx_icst (v := nI 0) j35_42 (by decide) ?_
          refine wx_i2 j35_43 rfl rfl rfl (Nat.le_of_ble_eq_true rfl) rfl (sp_takeFrom (j := 3) (k := 0) (by decide) (by decide) ht1 hs1 h41 htt.2) ?_
          rintro _ d2 ⟨rfl, h42, hf2⟩
          refine wx_ri j35_46 rfl rfl ?_
          exact ⟨rfl, h42, fun q e => tb_tk ht1 hf2, rf_tk (tk_tr hf1 hf2)⟩
      · simp only [ax_cn, Classical.not_not] at c13
        have hk0 : k = 0 := (nI_eq (by omega) (by decide)).mp (c13.trans nI_0.symm)
        have e : rVa sl T n t = ((rFr sl (T 2 n) (rNum sl t).2).1, T, (rFr sl (T 2 n) (rNum sl t).2).2) := by unfold rVa; rw [hr, hk0]
        rw [e]
        refine wx_aldn j35_16 rfl ?_
        refine wx_aldn j35_17 rfl ?_
        refine wx_get (v := .ref _) j35_18 rfl (Nat.le_of_ble_eq_true rfl) rfl ?_
        refine wx_get (v := .ref _) j35_21 rfl (Nat.le_of_ble_eq_true rfl) rfl ?_
        refine wx_ildn j35_24 rfl ?_
        refine wx_i2 j35_25 rfl rfl rfl (Nat.le_of_ble_eq_true rfl) rfl (sp_takeFrom (j := 2) (k := n) (by decide) hn ht1 hs1 h41 htt.2) ?_
        rintro _ d2 ⟨rfl, h42, hf2⟩
        refine wx_ri j35_28 rfl rfl ?_
        exact ⟨rfl, h42, fun q e => tb_tk ht1 hf2, rf_tk (tk_tr hf1 hf2)⟩
    · simp only [ax_cn, Classical.not_not] at c7
      exact absurd (show oi (some k) = -1 from c7) (fun q2 => by have := (oi_neg (o := some k) (fun i2 e2 => by cases e2; exact (by omega))).mp q2; cases this)
  -- 
end R2
end
