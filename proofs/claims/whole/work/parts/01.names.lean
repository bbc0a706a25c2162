-- ===== PART A: goes FIRST, ahead of the names: the tables' words, and 'selects' of the private methods out of them =====
/-- a private method of a class that the tables say can be made, by its rows of tables_1 -/
def lw_okq (q : MethodName × Nat) : Prop := (q.1.cls ≠ "java/lang/invoke/MethodHandle" ∧ q.1.cls ≠ "java/lang/invoke/VarHandle") ∧ Cond.instantiable q.1.cls q.2 ∈ tables_1 ∧ Cond.privateMethod q.1 ∈ tables_1 ∧ Cond.instanceMethod q.1 ∈ tables_1
theorem lw_p0 : lw_okq (⟨"ShadeBench", "layOnTape", "(I)V"⟩, 9) := ⟨⟨by decide +kernel, by decide +kernel⟩, List.mem_of_getElem? (i := 21) (by decide +kernel), List.mem_of_getElem? (i := 459) (by decide +kernel), List.mem_of_getElem? (i := 460) (by decide +kernel)⟩
theorem lw_p1 : lw_okq (⟨"ShadeBench$Assembler", "isTooLong", "([II)Z"⟩, 13) := ⟨⟨by decide +kernel, by decide +kernel⟩, List.mem_of_getElem? (i := 29) (by decide +kernel), List.mem_of_getElem? (i := 479) (by decide +kernel), List.mem_of_getElem? (i := 480) (by decide +kernel)⟩
theorem lw_p2 : lw_okq (⟨"ShadeBench$Assembler", "refuse", "(III)V"⟩, 13) := ⟨⟨by decide +kernel, by decide +kernel⟩, List.mem_of_getElem? (i := 29) (by decide +kernel), List.mem_of_getElem? (i := 483) (by decide +kernel), List.mem_of_getElem? (i := 484) (by decide +kernel)⟩
theorem lw_p3 : lw_okq (⟨"ShadeBench$Assembler", "readLine", "()Z"⟩, 13) := ⟨⟨by decide +kernel, by decide +kernel⟩, List.mem_of_getElem? (i := 29) (by decide +kernel), List.mem_of_getElem? (i := 494) (by decide +kernel), List.mem_of_getElem? (i := 495) (by decide +kernel)⟩
theorem lw_p4 : lw_okq (⟨"ShadeBench$Scanner", "byteAt", "(I)I"⟩, 7) := ⟨⟨by decide +kernel, by decide +kernel⟩, List.mem_of_getElem? (i := 35) (by decide +kernel), List.mem_of_getElem? (i := 502) (by decide +kernel), List.mem_of_getElem? (i := 503) (by decide +kernel)⟩
theorem lw_p5 : lw_okq (⟨"ShadeBench$Scanner", "readWord", "()V"⟩, 7) := ⟨⟨by decide +kernel, by decide +kernel⟩, List.mem_of_getElem? (i := 35) (by decide +kernel), List.mem_of_getElem? (i := 509) (by decide +kernel), List.mem_of_getElem? (i := 510) (by decide +kernel)⟩
theorem lw_p6 : lw_okq (⟨"ShadeBench$Scanner", "readNumber", "(I)V"⟩, 7) := ⟨⟨by decide +kernel, by decide +kernel⟩, List.mem_of_getElem? (i := 35) (by decide +kernel), List.mem_of_getElem? (i := 516) (by decide +kernel), List.mem_of_getElem? (i := 517) (by decide +kernel)⟩
theorem lw_p7 : lw_okq (⟨"ShadeBench$Scanner", "readHex", "()Z"⟩, 7) := ⟨⟨by decide +kernel, by decide +kernel⟩, List.mem_of_getElem? (i := 35) (by decide +kernel), List.mem_of_getElem? (i := 520) (by decide +kernel), List.mem_of_getElem? (i := 521) (by decide +kernel)⟩
theorem lw_p8 : lw_okq (⟨"ShadeBench$Scanner", "readDecimal", "(Z)Z"⟩, 7) := ⟨⟨by decide +kernel, by decide +kernel⟩, List.mem_of_getElem? (i := 35) (by decide +kernel), List.mem_of_getElem? (i := 527) (by decide +kernel), List.mem_of_getElem? (i := 528) (by decide +kernel)⟩
theorem lw_p9 : lw_okq (⟨"ShadeBench$Assembler", "isLabel", "()Z"⟩, 13) := ⟨⟨by decide +kernel, by decide +kernel⟩, List.mem_of_getElem? (i := 29) (by decide +kernel), List.mem_of_getElem? (i := 534) (by decide +kernel), List.mem_of_getElem? (i := 535) (by decide +kernel)⟩
theorem lw_p10 : lw_okq (⟨"ShadeBench$Assembler", "instruction", "(J)I"⟩, 13) := ⟨⟨by decide +kernel, by decide +kernel⟩, List.mem_of_getElem? (i := 29) (by decide +kernel), List.mem_of_getElem? (i := 544) (by decide +kernel), List.mem_of_getElem? (i := 545) (by decide +kernel)⟩
theorem lw_p11 : lw_okq (⟨"ShadeBench$Assembler", "readLabel", "()Z"⟩, 13) := ⟨⟨by decide +kernel, by decide +kernel⟩, List.mem_of_getElem? (i := 29) (by decide +kernel), List.mem_of_getElem? (i := 548) (by decide +kernel), List.mem_of_getElem? (i := 549) (by decide +kernel)⟩
theorem lw_p12 : lw_okq (⟨"ShadeBench$Assembler", "refusePiece", "()Z"⟩, 13) := ⟨⟨by decide +kernel, by decide +kernel⟩, List.mem_of_getElem? (i := 29) (by decide +kernel), List.mem_of_getElem? (i := 552) (by decide +kernel), List.mem_of_getElem? (i := 553) (by decide +kernel)⟩
theorem lw_p13 : lw_okq (⟨"ShadeBench$Assembler", "findLabel", "(J)I"⟩, 13) := ⟨⟨by decide +kernel, by decide +kernel⟩, List.mem_of_getElem? (i := 29) (by decide +kernel), List.mem_of_getElem? (i := 556) (by decide +kernel), List.mem_of_getElem? (i := 557) (by decide +kernel)⟩
theorem lw_p14 : lw_okq (⟨"ShadeBench$Assembler", "readInstruction", "(I)Z"⟩, 13) := ⟨⟨by decide +kernel, by decide +kernel⟩, List.mem_of_getElem? (i := 29) (by decide +kernel), List.mem_of_getElem? (i := 560) (by decide +kernel), List.mem_of_getElem? (i := 561) (by decide +kernel)⟩
theorem lw_p15 : lw_okq (⟨"ShadeBench$Assembler", "readOperand", "(CII)Z"⟩, 13) := ⟨⟨by decide +kernel, by decide +kernel⟩, List.mem_of_getElem? (i := 29) (by decide +kernel), List.mem_of_getElem? (i := 580) (by decide +kernel), List.mem_of_getElem? (i := 581) (by decide +kernel)⟩
def lw_privs_1 : List (MethodName × Nat) := [(⟨"ShadeBench", "layOnTape", "(I)V"⟩, 9), (⟨"ShadeBench$Assembler", "isTooLong", "([II)Z"⟩, 13), (⟨"ShadeBench$Assembler", "refuse", "(III)V"⟩, 13), (⟨"ShadeBench$Assembler", "readLine", "()Z"⟩, 13), (⟨"ShadeBench$Scanner", "byteAt", "(I)I"⟩, 7), (⟨"ShadeBench$Scanner", "readWord", "()V"⟩, 7), (⟨"ShadeBench$Scanner", "readNumber", "(I)V"⟩, 7), (⟨"ShadeBench$Scanner", "readHex", "()Z"⟩, 7), (⟨"ShadeBench$Scanner", "readDecimal", "(Z)Z"⟩, 7), (⟨"ShadeBench$Assembler", "isLabel", "()Z"⟩, 13), (⟨"ShadeBench$Assembler", "instruction", "(J)I"⟩, 13), (⟨"ShadeBench$Assembler", "readLabel", "()Z"⟩, 13), (⟨"ShadeBench$Assembler", "refusePiece", "()Z"⟩, 13), (⟨"ShadeBench$Assembler", "findLabel", "(J)I"⟩, 13), (⟨"ShadeBench$Assembler", "readInstruction", "(I)Z"⟩, 13), (⟨"ShadeBench$Assembler", "readOperand", "(CII)Z"⟩, 13)]
theorem lw_r1 : ∀ q ∈ lw_privs_1, lw_okq q := List.forall_mem_cons.mpr ⟨lw_p0, List.forall_mem_cons.mpr ⟨lw_p1, List.forall_mem_cons.mpr ⟨lw_p2, List.forall_mem_cons.mpr ⟨lw_p3, List.forall_mem_cons.mpr ⟨lw_p4, List.forall_mem_cons.mpr ⟨lw_p5, List.forall_mem_cons.mpr ⟨lw_p6, List.forall_mem_cons.mpr ⟨lw_p7, List.forall_mem_cons.mpr ⟨lw_p8, List.forall_mem_cons.mpr ⟨lw_p9, List.forall_mem_cons.mpr ⟨lw_p10, List.forall_mem_cons.mpr ⟨lw_p11, List.forall_mem_cons.mpr ⟨lw_p12, List.forall_mem_cons.mpr ⟨lw_p13, List.forall_mem_cons.mpr ⟨lw_p14, List.forall_mem_cons.mpr ⟨lw_p15, fun _ h => absurd h List.not_mem_nil⟩⟩⟩⟩⟩⟩⟩⟩⟩⟩⟩⟩⟩⟩⟩⟩
theorem lw_p16 : lw_okq (⟨"ShadeBench$Assembler", "resolveLabels", "()Z"⟩, 13) := ⟨⟨by decide +kernel, by decide +kernel⟩, List.mem_of_getElem? (i := 29) (by decide +kernel), List.mem_of_getElem? (i := 588) (by decide +kernel), List.mem_of_getElem? (i := 589) (by decide +kernel)⟩
theorem lw_p17 : lw_okq (⟨"ShadeBench$Machine", "goTo", "(I)V"⟩, 19) := ⟨⟨by decide +kernel, by decide +kernel⟩, List.mem_of_getElem? (i := 198) (by decide +kernel), List.mem_of_getElem? (i := 627) (by decide +kernel), List.mem_of_getElem? (i := 628) (by decide +kernel)⟩
theorem lw_p18 : lw_okq (⟨"ShadeBench$Machine", "performPlain", "(I)V"⟩, 19) := ⟨⟨by decide +kernel, by decide +kernel⟩, List.mem_of_getElem? (i := 198) (by decide +kernel), List.mem_of_getElem? (i := 666) (by decide +kernel), List.mem_of_getElem? (i := 667) (by decide +kernel)⟩
theorem lw_p19 : lw_okq (⟨"ShadeBench$Machine", "compute", "(I)V"⟩, 19) := ⟨⟨by decide +kernel, by decide +kernel⟩, List.mem_of_getElem? (i := 198) (by decide +kernel), List.mem_of_getElem? (i := 670) (by decide +kernel), List.mem_of_getElem? (i := 671) (by decide +kernel)⟩
theorem lw_p20 : lw_okq (⟨"ShadeBench$Machine", "operand", "(I)I"⟩, 19) := ⟨⟨by decide +kernel, by decide +kernel⟩, List.mem_of_getElem? (i := 198) (by decide +kernel), List.mem_of_getElem? (i := 674) (by decide +kernel), List.mem_of_getElem? (i := 675) (by decide +kernel)⟩
theorem lw_p21 : lw_okq (⟨"ShadeBench$Machine", "takeRegister", "(LShadeBench$Datum;I)V"⟩, 19) := ⟨⟨by decide +kernel, by decide +kernel⟩, List.mem_of_getElem? (i := 198) (by decide +kernel), List.mem_of_getElem? (i := 678) (by decide +kernel), List.mem_of_getElem? (i := 679) (by decide +kernel)⟩
theorem lw_p22 : lw_okq (⟨"ShadeBench$Machine", "registerOf", "(I)LShadeBench$Datum;"⟩, 19) := ⟨⟨by decide +kernel, by decide +kernel⟩, List.mem_of_getElem? (i := 198) (by decide +kernel), List.mem_of_getElem? (i := 682) (by decide +kernel), List.mem_of_getElem? (i := 683) (by decide +kernel)⟩
theorem lw_p23 : lw_okq (⟨"ShadeBench$Machine", "takeEither", "(LShadeBench$Datum;I)V"⟩, 19) := ⟨⟨by decide +kernel, by decide +kernel⟩, List.mem_of_getElem? (i := 198) (by decide +kernel), List.mem_of_getElem? (i := 690) (by decide +kernel), List.mem_of_getElem? (i := 691) (by decide +kernel)⟩
theorem lw_p24 : lw_okq (⟨"ShadeBench$Machine", "reportShade", "(ILShadeBench$Datum;)V"⟩, 19) := ⟨⟨by decide +kernel, by decide +kernel⟩, List.mem_of_getElem? (i := 198) (by decide +kernel), List.mem_of_getElem? (i := 694) (by decide +kernel), List.mem_of_getElem? (i := 695) (by decide +kernel)⟩
theorem lw_p25 : lw_okq (⟨"ShadeBench$Ledger", "isSuppressed", "(II)Z"⟩, 11) := ⟨⟨by decide +kernel, by decide +kernel⟩, List.mem_of_getElem? (i := 291) (by decide +kernel), List.mem_of_getElem? (i := 702) (by decide +kernel), List.mem_of_getElem? (i := 703) (by decide +kernel)⟩
theorem lw_p26 : lw_okq (⟨"ShadeBench$Ledger", "find", "(III)I"⟩, 11) := ⟨⟨by decide +kernel, by decide +kernel⟩, List.mem_of_getElem? (i := 291) (by decide +kernel), List.mem_of_getElem? (i := 706) (by decide +kernel), List.mem_of_getElem? (i := 707) (by decide +kernel)⟩
theorem lw_p27 : lw_okq (⟨"ShadeBench$Machine", "trap", "(I)V"⟩, 19) := ⟨⟨by decide +kernel, by decide +kernel⟩, List.mem_of_getElem? (i := 198) (by decide +kernel), List.mem_of_getElem? (i := 710) (by decide +kernel), List.mem_of_getElem? (i := 711) (by decide +kernel)⟩
theorem lw_p28 : lw_okq (⟨"ShadeBench$Machine", "addToMark", "(I)V"⟩, 19) := ⟨⟨by decide +kernel, by decide +kernel⟩, List.mem_of_getElem? (i := 198) (by decide +kernel), List.mem_of_getElem? (i := 714) (by decide +kernel), List.mem_of_getElem? (i := 715) (by decide +kernel)⟩
theorem lw_p29 : lw_okq (⟨"ShadeBench$Machine", "give", "(IIII)V"⟩, 19) := ⟨⟨by decide +kernel, by decide +kernel⟩, List.mem_of_getElem? (i := 198) (by decide +kernel), List.mem_of_getElem? (i := 755) (by decide +kernel), List.mem_of_getElem? (i := 756) (by decide +kernel)⟩
theorem lw_p30 : lw_okq (⟨"ShadeBench$Memory", "putByte", "(IIII)V"⟩, 6) := ⟨⟨by decide +kernel, by decide +kernel⟩, List.mem_of_getElem? (i := 204) (by decide +kernel), List.mem_of_getElem? (i := 775) (by decide +kernel), List.mem_of_getElem? (i := 776) (by decide +kernel)⟩
theorem lw_p31 : lw_okq (⟨"ShadeBench$Machine", "load", "(I)V"⟩, 19) := ⟨⟨by decide +kernel, by decide +kernel⟩, List.mem_of_getElem? (i := 198) (by decide +kernel), List.mem_of_getElem? (i := 779) (by decide +kernel), List.mem_of_getElem? (i := 780) (by decide +kernel)⟩
def lw_privs_2 : List (MethodName × Nat) := [(⟨"ShadeBench$Assembler", "resolveLabels", "()Z"⟩, 13), (⟨"ShadeBench$Machine", "goTo", "(I)V"⟩, 19), (⟨"ShadeBench$Machine", "performPlain", "(I)V"⟩, 19), (⟨"ShadeBench$Machine", "compute", "(I)V"⟩, 19), (⟨"ShadeBench$Machine", "operand", "(I)I"⟩, 19), (⟨"ShadeBench$Machine", "takeRegister", "(LShadeBench$Datum;I)V"⟩, 19), (⟨"ShadeBench$Machine", "registerOf", "(I)LShadeBench$Datum;"⟩, 19), (⟨"ShadeBench$Machine", "takeEither", "(LShadeBench$Datum;I)V"⟩, 19), (⟨"ShadeBench$Machine", "reportShade", "(ILShadeBench$Datum;)V"⟩, 19), (⟨"ShadeBench$Ledger", "isSuppressed", "(II)Z"⟩, 11), (⟨"ShadeBench$Ledger", "find", "(III)I"⟩, 11), (⟨"ShadeBench$Machine", "trap", "(I)V"⟩, 19), (⟨"ShadeBench$Machine", "addToMark", "(I)V"⟩, 19), (⟨"ShadeBench$Machine", "give", "(IIII)V"⟩, 19), (⟨"ShadeBench$Memory", "putByte", "(IIII)V"⟩, 6), (⟨"ShadeBench$Machine", "load", "(I)V"⟩, 19)]
theorem lw_r2 : ∀ q ∈ lw_privs_2, lw_okq q := List.forall_mem_cons.mpr ⟨lw_p16, List.forall_mem_cons.mpr ⟨lw_p17, List.forall_mem_cons.mpr ⟨lw_p18, List.forall_mem_cons.mpr ⟨lw_p19, List.forall_mem_cons.mpr ⟨lw_p20, List.forall_mem_cons.mpr ⟨lw_p21, List.forall_mem_cons.mpr ⟨lw_p22, List.forall_mem_cons.mpr ⟨lw_p23, List.forall_mem_cons.mpr ⟨lw_p24, List.forall_mem_cons.mpr ⟨lw_p25, List.forall_mem_cons.mpr ⟨lw_p26, List.forall_mem_cons.mpr ⟨lw_p27, List.forall_mem_cons.mpr ⟨lw_p28, List.forall_mem_cons.mpr ⟨lw_p29, List.forall_mem_cons.mpr ⟨lw_p30, List.forall_mem_cons.mpr ⟨lw_p31, fun _ h => absurd h List.not_mem_nil⟩⟩⟩⟩⟩⟩⟩⟩⟩⟩⟩⟩⟩⟩⟩⟩
theorem lw_p32 : lw_okq (⟨"ShadeBench$Machine", "loadBytes", "(LShadeBench$Datum;II)V"⟩, 19) := ⟨⟨by decide +kernel, by decide +kernel⟩, List.mem_of_getElem? (i := 198) (by decide +kernel), List.mem_of_getElem? (i := 786) (by decide +kernel), List.mem_of_getElem? (i := 787) (by decide +kernel)⟩
theorem lw_p33 : lw_okq (⟨"ShadeBench$Machine", "isValid", "(II)Z"⟩, 19) := ⟨⟨by decide +kernel, by decide +kernel⟩, List.mem_of_getElem? (i := 198) (by decide +kernel), List.mem_of_getElem? (i := 790) (by decide +kernel), List.mem_of_getElem? (i := 791) (by decide +kernel)⟩
theorem lw_p34 : lw_okq (⟨"ShadeBench$Machine", "store", "(I)V"⟩, 19) := ⟨⟨by decide +kernel, by decide +kernel⟩, List.mem_of_getElem? (i := 198) (by decide +kernel), List.mem_of_getElem? (i := 807) (by decide +kernel), List.mem_of_getElem? (i := 808) (by decide +kernel)⟩
theorem lw_p35 : lw_okq (⟨"ShadeBench$Machine", "branch", "(I)V"⟩, 19) := ⟨⟨by decide +kernel, by decide +kernel⟩, List.mem_of_getElem? (i := 198) (by decide +kernel), List.mem_of_getElem? (i := 815) (by decide +kernel), List.mem_of_getElem? (i := 816) (by decide +kernel)⟩
theorem lw_p36 : lw_okq (⟨"ShadeBench$Machine", "jump", "(I)V"⟩, 19) := ⟨⟨by decide +kernel, by decide +kernel⟩, List.mem_of_getElem? (i := 198) (by decide +kernel), List.mem_of_getElem? (i := 819) (by decide +kernel), List.mem_of_getElem? (i := 820) (by decide +kernel)⟩
theorem lw_p37 : lw_okq (⟨"ShadeBench$Machine", "performWide", "(I)V"⟩, 19) := ⟨⟨by decide +kernel, by decide +kernel⟩, List.mem_of_getElem? (i := 198) (by decide +kernel), List.mem_of_getElem? (i := 823) (by decide +kernel), List.mem_of_getElem? (i := 824) (by decide +kernel)⟩
theorem lw_p38 : lw_okq (⟨"ShadeBench$Machine", "push", "()V"⟩, 19) := ⟨⟨by decide +kernel, by decide +kernel⟩, List.mem_of_getElem? (i := 198) (by decide +kernel), List.mem_of_getElem? (i := 827) (by decide +kernel), List.mem_of_getElem? (i := 828) (by decide +kernel)⟩
theorem lw_p39 : lw_okq (⟨"ShadeBench$Machine", "pop", "()V"⟩, 19) := ⟨⟨by decide +kernel, by decide +kernel⟩, List.mem_of_getElem? (i := 198) (by decide +kernel), List.mem_of_getElem? (i := 831) (by decide +kernel), List.mem_of_getElem? (i := 832) (by decide +kernel)⟩
theorem lw_p40 : lw_okq (⟨"ShadeBench$Machine", "allot", "(I)V"⟩, 19) := ⟨⟨by decide +kernel, by decide +kernel⟩, List.mem_of_getElem? (i := 198) (by decide +kernel), List.mem_of_getElem? (i := 835) (by decide +kernel), List.mem_of_getElem? (i := 836) (by decide +kernel)⟩
theorem lw_p41 : lw_okq (⟨"ShadeBench$Machine", "allotBlock", "(IZ)I"⟩, 19) := ⟨⟨by decide +kernel, by decide +kernel⟩, List.mem_of_getElem? (i := 198) (by decide +kernel), List.mem_of_getElem? (i := 839) (by decide +kernel), List.mem_of_getElem? (i := 840) (by decide +kernel)⟩
theorem lw_p42 : lw_okq (⟨"ShadeBench$Heap", "firstFree", "(I)I"⟩, 11) := ⟨⟨by decide +kernel, by decide +kernel⟩, List.mem_of_getElem? (i := 229) (by decide +kernel), List.mem_of_getElem? (i := 850) (by decide +kernel), List.mem_of_getElem? (i := 851) (by decide +kernel)⟩
theorem lw_p43 : lw_okq (⟨"ShadeBench$Heap", "own", "(II)V"⟩, 11) := ⟨⟨by decide +kernel, by decide +kernel⟩, List.mem_of_getElem? (i := 229) (by decide +kernel), List.mem_of_getElem? (i := 854) (by decide +kernel), List.mem_of_getElem? (i := 855) (by decide +kernel)⟩
theorem lw_p44 : lw_okq (⟨"ShadeBench$Machine", "grow", "()V"⟩, 19) := ⟨⟨by decide +kernel, by decide +kernel⟩, List.mem_of_getElem? (i := 198) (by decide +kernel), List.mem_of_getElem? (i := 863) (by decide +kernel), List.mem_of_getElem? (i := 864) (by decide +kernel)⟩
theorem lw_p45 : lw_okq (⟨"ShadeBench$Machine", "blockToFree", "(I)I"⟩, 19) := ⟨⟨by decide +kernel, by decide +kernel⟩, List.mem_of_getElem? (i := 198) (by decide +kernel), List.mem_of_getElem? (i := 867) (by decide +kernel), List.mem_of_getElem? (i := 868) (by decide +kernel)⟩
theorem lw_p46 : lw_okq (⟨"ShadeBench$Machine", "keepBlock", "(I)V"⟩, 19) := ⟨⟨by decide +kernel, by decide +kernel⟩, List.mem_of_getElem? (i := 198) (by decide +kernel), List.mem_of_getElem? (i := 891) (by decide +kernel), List.mem_of_getElem? (i := 892) (by decide +kernel)⟩
theorem lw_p47 : lw_okq (⟨"ShadeBench$Machine", "giveBack", "()V"⟩, 19) := ⟨⟨by decide +kernel, by decide +kernel⟩, List.mem_of_getElem? (i := 198) (by decide +kernel), List.mem_of_getElem? (i := 903) (by decide +kernel), List.mem_of_getElem? (i := 904) (by decide +kernel)⟩
def lw_privs_3 : List (MethodName × Nat) := [(⟨"ShadeBench$Machine", "loadBytes", "(LShadeBench$Datum;II)V"⟩, 19), (⟨"ShadeBench$Machine", "isValid", "(II)Z"⟩, 19), (⟨"ShadeBench$Machine", "store", "(I)V"⟩, 19), (⟨"ShadeBench$Machine", "branch", "(I)V"⟩, 19), (⟨"ShadeBench$Machine", "jump", "(I)V"⟩, 19), (⟨"ShadeBench$Machine", "performWide", "(I)V"⟩, 19), (⟨"ShadeBench$Machine", "push", "()V"⟩, 19), (⟨"ShadeBench$Machine", "pop", "()V"⟩, 19), (⟨"ShadeBench$Machine", "allot", "(I)V"⟩, 19), (⟨"ShadeBench$Machine", "allotBlock", "(IZ)I"⟩, 19), (⟨"ShadeBench$Heap", "firstFree", "(I)I"⟩, 11), (⟨"ShadeBench$Heap", "own", "(II)V"⟩, 11), (⟨"ShadeBench$Machine", "grow", "()V"⟩, 19), (⟨"ShadeBench$Machine", "blockToFree", "(I)I"⟩, 19), (⟨"ShadeBench$Machine", "keepBlock", "(I)V"⟩, 19), (⟨"ShadeBench$Machine", "giveBack", "()V"⟩, 19)]
theorem lw_r3 : ∀ q ∈ lw_privs_3, lw_okq q := List.forall_mem_cons.mpr ⟨lw_p32, List.forall_mem_cons.mpr ⟨lw_p33, List.forall_mem_cons.mpr ⟨lw_p34, List.forall_mem_cons.mpr ⟨lw_p35, List.forall_mem_cons.mpr ⟨lw_p36, List.forall_mem_cons.mpr ⟨lw_p37, List.forall_mem_cons.mpr ⟨lw_p38, List.forall_mem_cons.mpr ⟨lw_p39, List.forall_mem_cons.mpr ⟨lw_p40, List.forall_mem_cons.mpr ⟨lw_p41, List.forall_mem_cons.mpr ⟨lw_p42, List.forall_mem_cons.mpr ⟨lw_p43, List.forall_mem_cons.mpr ⟨lw_p44, List.forall_mem_cons.mpr ⟨lw_p45, List.forall_mem_cons.mpr ⟨lw_p46, List.forall_mem_cons.mpr ⟨lw_p47, fun _ h => absurd h List.not_mem_nil⟩⟩⟩⟩⟩⟩⟩⟩⟩⟩⟩⟩⟩⟩⟩⟩
theorem lw_p48 : lw_okq (⟨"ShadeBench$Machine", "copyBytes", "()V"⟩, 19) := ⟨⟨by decide +kernel, by decide +kernel⟩, List.mem_of_getElem? (i := 198) (by decide +kernel), List.mem_of_getElem? (i := 907) (by decide +kernel), List.mem_of_getElem? (i := 908) (by decide +kernel)⟩
theorem lw_p49 : lw_okq (⟨"ShadeBench$Machine", "fillBytes", "()V"⟩, 19) := ⟨⟨by decide +kernel, by decide +kernel⟩, List.mem_of_getElem? (i := 198) (by decide +kernel), List.mem_of_getElem? (i := 914) (by decide +kernel), List.mem_of_getElem? (i := 915) (by decide +kernel)⟩
theorem lw_p50 : lw_okq (⟨"ShadeBench$Machine", "readInput", "()V"⟩, 19) := ⟨⟨by decide +kernel, by decide +kernel⟩, List.mem_of_getElem? (i := 198) (by decide +kernel), List.mem_of_getElem? (i := 922) (by decide +kernel), List.mem_of_getElem? (i := 923) (by decide +kernel)⟩
theorem lw_p51 : lw_okq (⟨"ShadeBench$Machine", "putOut", "()V"⟩, 19) := ⟨⟨by decide +kernel, by decide +kernel⟩, List.mem_of_getElem? (i := 198) (by decide +kernel), List.mem_of_getElem? (i := 926) (by decide +kernel), List.mem_of_getElem? (i := 927) (by decide +kernel)⟩
theorem lw_p52 : lw_okq (⟨"ShadeBench$Machine", "markBytes", "()V"⟩, 19) := ⟨⟨by decide +kernel, by decide +kernel⟩, List.mem_of_getElem? (i := 198) (by decide +kernel), List.mem_of_getElem? (i := 930) (by decide +kernel), List.mem_of_getElem? (i := 931) (by decide +kernel)⟩
theorem lw_p53 : lw_okq (⟨"ShadeBench$Machine", "isRange", "(II)Z"⟩, 19) := ⟨⟨by decide +kernel, by decide +kernel⟩, List.mem_of_getElem? (i := 198) (by decide +kernel), List.mem_of_getElem? (i := 934) (by decide +kernel), List.mem_of_getElem? (i := 935) (by decide +kernel)⟩
theorem lw_p54 : lw_okq (⟨"ShadeBench$Machine", "look", "()V"⟩, 19) := ⟨⟨by decide +kernel, by decide +kernel⟩, List.mem_of_getElem? (i := 198) (by decide +kernel), List.mem_of_getElem? (i := 947) (by decide +kernel), List.mem_of_getElem? (i := 948) (by decide +kernel)⟩
theorem lw_p55 : lw_okq (⟨"ShadeBench$Leaks", "spread", "(ILShadeBench$Heap;LShadeBench$Memory;[LShadeBench$Datum;)V"⟩, 3) := ⟨⟨by decide +kernel, by decide +kernel⟩, List.mem_of_getElem? (i := 275) (by decide +kernel), List.mem_of_getElem? (i := 1019) (by decide +kernel), List.mem_of_getElem? (i := 1020) (by decide +kernel)⟩
theorem lw_p56 : lw_okq (⟨"ShadeBench$Leaks", "follow", "(IIILShadeBench$Heap;)V"⟩, 3) := ⟨⟨by decide +kernel, by decide +kernel⟩, List.mem_of_getElem? (i := 275) (by decide +kernel), List.mem_of_getElem? (i := 1023) (by decide +kernel), List.mem_of_getElem? (i := 1024) (by decide +kernel)⟩
theorem lw_p57 : lw_okq (⟨"ShadeBench$Leaks", "followWords", "(IIIILShadeBench$Heap;LShadeBench$Memory;)V"⟩, 3) := ⟨⟨by decide +kernel, by decide +kernel⟩, List.mem_of_getElem? (i := 275) (by decide +kernel), List.mem_of_getElem? (i := 1028) (by decide +kernel), List.mem_of_getElem? (i := 1029) (by decide +kernel)⟩
theorem lw_p58 : lw_okq (⟨"ShadeBenchModel", "tooMuch", "()I"⟩, 75) := ⟨⟨by decide +kernel, by decide +kernel⟩, List.mem_of_getElem? (i := 1046) (by decide +kernel), List.mem_of_getElem? (i := 1282) (by decide +kernel), List.mem_of_getElem? (i := 1283) (by decide +kernel)⟩
theorem lw_p59 : lw_okq (⟨"ShadeBenchModel", "fails", "(II)Z"⟩, 75) := ⟨⟨by decide +kernel, by decide +kernel⟩, List.mem_of_getElem? (i := 1046) (by decide +kernel), List.mem_of_getElem? (i := 1286) (by decide +kernel), List.mem_of_getElem? (i := 1287) (by decide +kernel)⟩
theorem lw_p60 : lw_okq (⟨"ShadeBenchModel", "readLine", "()V"⟩, 75) := ⟨⟨by decide +kernel, by decide +kernel⟩, List.mem_of_getElem? (i := 1046) (by decide +kernel), List.mem_of_getElem? (i := 1290) (by decide +kernel), List.mem_of_getElem? (i := 1291) (by decide +kernel)⟩
theorem lw_p61 : lw_okq (⟨"ShadeBenchModel", "next", "()V"⟩, 75) := ⟨⟨by decide +kernel, by decide +kernel⟩, List.mem_of_getElem? (i := 1046) (by decide +kernel), List.mem_of_getElem? (i := 1294) (by decide +kernel), List.mem_of_getElem? (i := 1295) (by decide +kernel)⟩
theorem lw_p62 : lw_okq (⟨"ShadeBenchModel", "sign", "(I)I"⟩, 75) := ⟨⟨by decide +kernel, by decide +kernel⟩, List.mem_of_getElem? (i := 1046) (by decide +kernel), List.mem_of_getElem? (i := 1298) (by decide +kernel), List.mem_of_getElem? (i := 1299) (by decide +kernel)⟩
theorem lw_p63 : lw_okq (⟨"ShadeBenchModel", "nextNumber", "(Z)V"⟩, 75) := ⟨⟨by decide +kernel, by decide +kernel⟩, List.mem_of_getElem? (i := 1046) (by decide +kernel), List.mem_of_getElem? (i := 1311) (by decide +kernel), List.mem_of_getElem? (i := 1312) (by decide +kernel)⟩
def lw_privs_4 : List (MethodName × Nat) := [(⟨"ShadeBench$Machine", "copyBytes", "()V"⟩, 19), (⟨"ShadeBench$Machine", "fillBytes", "()V"⟩, 19), (⟨"ShadeBench$Machine", "readInput", "()V"⟩, 19), (⟨"ShadeBench$Machine", "putOut", "()V"⟩, 19), (⟨"ShadeBench$Machine", "markBytes", "()V"⟩, 19), (⟨"ShadeBench$Machine", "isRange", "(II)Z"⟩, 19), (⟨"ShadeBench$Machine", "look", "()V"⟩, 19), (⟨"ShadeBench$Leaks", "spread", "(ILShadeBench$Heap;LShadeBench$Memory;[LShadeBench$Datum;)V"⟩, 3), (⟨"ShadeBench$Leaks", "follow", "(IIILShadeBench$Heap;)V"⟩, 3), (⟨"ShadeBench$Leaks", "followWords", "(IIIILShadeBench$Heap;LShadeBench$Memory;)V"⟩, 3), (⟨"ShadeBenchModel", "tooMuch", "()I"⟩, 75), (⟨"ShadeBenchModel", "fails", "(II)Z"⟩, 75), (⟨"ShadeBenchModel", "readLine", "()V"⟩, 75), (⟨"ShadeBenchModel", "next", "()V"⟩, 75), (⟨"ShadeBenchModel", "sign", "(I)I"⟩, 75), (⟨"ShadeBenchModel", "nextNumber", "(Z)V"⟩, 75)]
theorem lw_r4 : ∀ q ∈ lw_privs_4, lw_okq q := List.forall_mem_cons.mpr ⟨lw_p48, List.forall_mem_cons.mpr ⟨lw_p49, List.forall_mem_cons.mpr ⟨lw_p50, List.forall_mem_cons.mpr ⟨lw_p51, List.forall_mem_cons.mpr ⟨lw_p52, List.forall_mem_cons.mpr ⟨lw_p53, List.forall_mem_cons.mpr ⟨lw_p54, List.forall_mem_cons.mpr ⟨lw_p55, List.forall_mem_cons.mpr ⟨lw_p56, List.forall_mem_cons.mpr ⟨lw_p57, List.forall_mem_cons.mpr ⟨lw_p58, List.forall_mem_cons.mpr ⟨lw_p59, List.forall_mem_cons.mpr ⟨lw_p60, List.forall_mem_cons.mpr ⟨lw_p61, List.forall_mem_cons.mpr ⟨lw_p62, List.forall_mem_cons.mpr ⟨lw_p63, fun _ h => absurd h List.not_mem_nil⟩⟩⟩⟩⟩⟩⟩⟩⟩⟩⟩⟩⟩⟩⟩⟩
theorem lw_p64 : lw_okq (⟨"ShadeBenchModel", "named", "()I"⟩, 75) := ⟨⟨by decide +kernel, by decide +kernel⟩, List.mem_of_getElem? (i := 1046) (by decide +kernel), List.mem_of_getElem? (i := 1319) (by decide +kernel), List.mem_of_getElem? (i := 1320) (by decide +kernel)⟩
theorem lw_p65 : lw_okq (⟨"ShadeBenchModel", "wrong", "()Z"⟩, 75) := ⟨⟨by decide +kernel, by decide +kernel⟩, List.mem_of_getElem? (i := 1046) (by decide +kernel), List.mem_of_getElem? (i := 1323) (by decide +kernel), List.mem_of_getElem? (i := 1324) (by decide +kernel)⟩
theorem lw_p66 : lw_okq (⟨"ShadeBenchModel", "instruction", "()I"⟩, 75) := ⟨⟨by decide +kernel, by decide +kernel⟩, List.mem_of_getElem? (i := 1046) (by decide +kernel), List.mem_of_getElem? (i := 1327) (by decide +kernel), List.mem_of_getElem? (i := 1328) (by decide +kernel)⟩
theorem lw_p67 : lw_okq (⟨"ShadeBenchModel", "labelOf", "(II)I"⟩, 75) := ⟨⟨by decide +kernel, by decide +kernel⟩, List.mem_of_getElem? (i := 1046) (by decide +kernel), List.mem_of_getElem? (i := 1388) (by decide +kernel), List.mem_of_getElem? (i := 1389) (by decide +kernel)⟩
theorem lw_p68 : lw_okq (⟨"ShadeBenchModel", "isSame", "(IIII)Z"⟩, 75) := ⟨⟨by decide +kernel, by decide +kernel⟩, List.mem_of_getElem? (i := 1046) (by decide +kernel), List.mem_of_getElem? (i := 1392) (by decide +kernel), List.mem_of_getElem? (i := 1393) (by decide +kernel)⟩
theorem lw_p69 : lw_okq (⟨"ShadeBenchModel", "readOrder", "(I)V"⟩, 75) := ⟨⟨by decide +kernel, by decide +kernel⟩, List.mem_of_getElem? (i := 1046) (by decide +kernel), List.mem_of_getElem? (i := 1396) (by decide +kernel), List.mem_of_getElem? (i := 1397) (by decide +kernel)⟩
theorem lw_p70 : lw_okq (⟨"ShadeBenchModel", "readOperand", "(II)V"⟩, 75) := ⟨⟨by decide +kernel, by decide +kernel⟩, List.mem_of_getElem? (i := 1046) (by decide +kernel), List.mem_of_getElem? (i := 1403) (by decide +kernel), List.mem_of_getElem? (i := 1404) (by decide +kernel)⟩
theorem lw_p71 : lw_okq (⟨"ShadeBenchModel", "start", "(III)V"⟩, 75) := ⟨⟨by decide +kernel, by decide +kernel⟩, List.mem_of_getElem? (i := 1046) (by decide +kernel), List.mem_of_getElem? (i := 1407) (by decide +kernel), List.mem_of_getElem? (i := 1408) (by decide +kernel)⟩
theorem lw_p72 : lw_okq (⟨"ShadeBenchModel", "drawn", "()I"⟩, 75) := ⟨⟨by decide +kernel, by decide +kernel⟩, List.mem_of_getElem? (i := 1046) (by decide +kernel), List.mem_of_getElem? (i := 1411) (by decide +kernel), List.mem_of_getElem? (i := 1412) (by decide +kernel)⟩
theorem lw_p73 : lw_okq (⟨"ShadeBenchModel", "spend", "(I)I"⟩, 75) := ⟨⟨by decide +kernel, by decide +kernel⟩, List.mem_of_getElem? (i := 1046) (by decide +kernel), List.mem_of_getElem? (i := 1445) (by decide +kernel), List.mem_of_getElem? (i := 1446) (by decide +kernel)⟩
theorem lw_p74 : lw_okq (⟨"ShadeBenchModel", "go", "(I)I"⟩, 75) := ⟨⟨by decide +kernel, by decide +kernel⟩, List.mem_of_getElem? (i := 1046) (by decide +kernel), List.mem_of_getElem? (i := 1450) (by decide +kernel), List.mem_of_getElem? (i := 1451) (by decide +kernel)⟩
theorem lw_p75 : lw_okq (⟨"ShadeBenchModel", "step", "()V"⟩, 75) := ⟨⟨by decide +kernel, by decide +kernel⟩, List.mem_of_getElem? (i := 1046) (by decide +kernel), List.mem_of_getElem? (i := 1454) (by decide +kernel), List.mem_of_getElem? (i := 1455) (by decide +kernel)⟩
theorem lw_p76 : lw_okq (⟨"ShadeBenchModel", "single", "(II)V"⟩, 75) := ⟨⟨by decide +kernel, by decide +kernel⟩, List.mem_of_getElem? (i := 1046) (by decide +kernel), List.mem_of_getElem? (i := 1458) (by decide +kernel), List.mem_of_getElem? (i := 1459) (by decide +kernel)⟩
theorem lw_p77 : lw_okq (⟨"ShadeBenchModel", "value", "(I)I"⟩, 75) := ⟨⟨by decide +kernel, by decide +kernel⟩, List.mem_of_getElem? (i := 1046) (by decide +kernel), List.mem_of_getElem? (i := 1462) (by decide +kernel), List.mem_of_getElem? (i := 1463) (by decide +kernel)⟩
theorem lw_p78 : lw_okq (⟨"ShadeBenchModel", "shade", "(I)I"⟩, 75) := ⟨⟨by decide +kernel, by decide +kernel⟩, List.mem_of_getElem? (i := 1046) (by decide +kernel), List.mem_of_getElem? (i := 1466) (by decide +kernel), List.mem_of_getElem? (i := 1467) (by decide +kernel)⟩
theorem lw_p79 : lw_okq (⟨"ShadeBenchModel", "origin", "(I)I"⟩, 75) := ⟨⟨by decide +kernel, by decide +kernel⟩, List.mem_of_getElem? (i := 1046) (by decide +kernel), List.mem_of_getElem? (i := 1470) (by decide +kernel), List.mem_of_getElem? (i := 1471) (by decide +kernel)⟩
def lw_privs_5 : List (MethodName × Nat) := [(⟨"ShadeBenchModel", "named", "()I"⟩, 75), (⟨"ShadeBenchModel", "wrong", "()Z"⟩, 75), (⟨"ShadeBenchModel", "instruction", "()I"⟩, 75), (⟨"ShadeBenchModel", "labelOf", "(II)I"⟩, 75), (⟨"ShadeBenchModel", "isSame", "(IIII)Z"⟩, 75), (⟨"ShadeBenchModel", "readOrder", "(I)V"⟩, 75), (⟨"ShadeBenchModel", "readOperand", "(II)V"⟩, 75), (⟨"ShadeBenchModel", "start", "(III)V"⟩, 75), (⟨"ShadeBenchModel", "drawn", "()I"⟩, 75), (⟨"ShadeBenchModel", "spend", "(I)I"⟩, 75), (⟨"ShadeBenchModel", "go", "(I)I"⟩, 75), (⟨"ShadeBenchModel", "step", "()V"⟩, 75), (⟨"ShadeBenchModel", "single", "(II)V"⟩, 75), (⟨"ShadeBenchModel", "value", "(I)I"⟩, 75), (⟨"ShadeBenchModel", "shade", "(I)I"⟩, 75), (⟨"ShadeBenchModel", "origin", "(I)I"⟩, 75)]
theorem lw_r5 : ∀ q ∈ lw_privs_5, lw_okq q := List.forall_mem_cons.mpr ⟨lw_p64, List.forall_mem_cons.mpr ⟨lw_p65, List.forall_mem_cons.mpr ⟨lw_p66, List.forall_mem_cons.mpr ⟨lw_p67, List.forall_mem_cons.mpr ⟨lw_p68, List.forall_mem_cons.mpr ⟨lw_p69, List.forall_mem_cons.mpr ⟨lw_p70, List.forall_mem_cons.mpr ⟨lw_p71, List.forall_mem_cons.mpr ⟨lw_p72, List.forall_mem_cons.mpr ⟨lw_p73, List.forall_mem_cons.mpr ⟨lw_p74, List.forall_mem_cons.mpr ⟨lw_p75, List.forall_mem_cons.mpr ⟨lw_p76, List.forall_mem_cons.mpr ⟨lw_p77, List.forall_mem_cons.mpr ⟨lw_p78, List.forall_mem_cons.mpr ⟨lw_p79, fun _ h => absurd h List.not_mem_nil⟩⟩⟩⟩⟩⟩⟩⟩⟩⟩⟩⟩⟩⟩⟩⟩
theorem lw_p80 : lw_okq (⟨"ShadeBenchModel", "give", "(IIII)V"⟩, 75) := ⟨⟨by decide +kernel, by decide +kernel⟩, List.mem_of_getElem? (i := 1046) (by decide +kernel), List.mem_of_getElem? (i := 1474) (by decide +kernel), List.mem_of_getElem? (i := 1475) (by decide +kernel)⟩
theorem lw_p81 : lw_okq (⟨"ShadeBenchModel", "trap", "(I)V"⟩, 75) := ⟨⟨by decide +kernel, by decide +kernel⟩, List.mem_of_getElem? (i := 1046) (by decide +kernel), List.mem_of_getElem? (i := 1478) (by decide +kernel), List.mem_of_getElem? (i := 1479) (by decide +kernel)⟩
theorem lw_p82 : lw_okq (⟨"ShadeBenchModel", "unset", "(II)V"⟩, 75) := ⟨⟨by decide +kernel, by decide +kernel⟩, List.mem_of_getElem? (i := 1046) (by decide +kernel), List.mem_of_getElem? (i := 1482) (by decide +kernel), List.mem_of_getElem? (i := 1483) (by decide +kernel)⟩
theorem lw_p83 : lw_okq (⟨"ShadeBenchModel", "shadeOf", "(IIIII)I"⟩, 75) := ⟨⟨by decide +kernel, by decide +kernel⟩, List.mem_of_getElem? (i := 1046) (by decide +kernel), List.mem_of_getElem? (i := 1486) (by decide +kernel), List.mem_of_getElem? (i := 1487) (by decide +kernel)⟩
theorem lw_p84 : lw_okq (⟨"ShadeBenchModel", "equalShade", "(IIII)I"⟩, 75) := ⟨⟨by decide +kernel, by decide +kernel⟩, List.mem_of_getElem? (i := 1046) (by decide +kernel), List.mem_of_getElem? (i := 1499) (by decide +kernel), List.mem_of_getElem? (i := 1500) (by decide +kernel)⟩
theorem lw_p85 : lw_okq (⟨"ShadeBenchModel", "lessShade", "(IIIIZ)I"⟩, 75) := ⟨⟨by decide +kernel, by decide +kernel⟩, List.mem_of_getElem? (i := 1046) (by decide +kernel), List.mem_of_getElem? (i := 1503) (by decide +kernel), List.mem_of_getElem? (i := 1504) (by decide +kernel)⟩
theorem lw_p86 : lw_okq (⟨"ShadeBenchModel", "reckon", "(II)V"⟩, 75) := ⟨⟨by decide +kernel, by decide +kernel⟩, List.mem_of_getElem? (i := 1046) (by decide +kernel), List.mem_of_getElem? (i := 1511) (by decide +kernel), List.mem_of_getElem? (i := 1512) (by decide +kernel)⟩
theorem lw_p87 : lw_okq (⟨"ShadeBenchModel", "told", "(II)V"⟩, 75) := ⟨⟨by decide +kernel, by decide +kernel⟩, List.mem_of_getElem? (i := 1046) (by decide +kernel), List.mem_of_getElem? (i := 1515) (by decide +kernel), List.mem_of_getElem? (i := 1516) (by decide +kernel)⟩
theorem lw_p88 : lw_okq (⟨"ShadeBenchModel", "made", "(III)I"⟩, 75) := ⟨⟨by decide +kernel, by decide +kernel⟩, List.mem_of_getElem? (i := 1046) (by decide +kernel), List.mem_of_getElem? (i := 1519) (by decide +kernel), List.mem_of_getElem? (i := 1520) (by decide +kernel)⟩
theorem lw_p89 : lw_okq (⟨"ShadeBenchModel", "reach", "(II)V"⟩, 75) := ⟨⟨by decide +kernel, by decide +kernel⟩, List.mem_of_getElem? (i := 1046) (by decide +kernel), List.mem_of_getElem? (i := 1526) (by decide +kernel), List.mem_of_getElem? (i := 1527) (by decide +kernel)⟩
theorem lw_p90 : lw_okq (⟨"ShadeBenchModel", "load", "(IIIZ)V"⟩, 75) := ⟨⟨by decide +kernel, by decide +kernel⟩, List.mem_of_getElem? (i := 1046) (by decide +kernel), List.mem_of_getElem? (i := 1530) (by decide +kernel), List.mem_of_getElem? (i := 1531) (by decide +kernel)⟩
theorem lw_p91 : lw_okq (⟨"ShadeBenchModel", "areThere", "(II)Z"⟩, 75) := ⟨⟨by decide +kernel, by decide +kernel⟩, List.mem_of_getElem? (i := 1046) (by decide +kernel), List.mem_of_getElem? (i := 1534) (by decide +kernel), List.mem_of_getElem? (i := 1535) (by decide +kernel)⟩
theorem lw_p92 : lw_okq (⟨"ShadeBenchModel", "isThere", "(I)Z"⟩, 75) := ⟨⟨by decide +kernel, by decide +kernel⟩, List.mem_of_getElem? (i := 1046) (by decide +kernel), List.mem_of_getElem? (i := 1538) (by decide +kernel), List.mem_of_getElem? (i := 1539) (by decide +kernel)⟩
theorem lw_p93 : lw_okq (⟨"ShadeBenchModel", "blockAt", "(I)I"⟩, 75) := ⟨⟨by decide +kernel, by decide +kernel⟩, List.mem_of_getElem? (i := 1046) (by decide +kernel), List.mem_of_getElem? (i := 1542) (by decide +kernel), List.mem_of_getElem? (i := 1543) (by decide +kernel)⟩
theorem lw_p94 : lw_okq (⟨"ShadeBenchModel", "store", "(IIIII)V"⟩, 75) := ⟨⟨by decide +kernel, by decide +kernel⟩, List.mem_of_getElem? (i := 1046) (by decide +kernel), List.mem_of_getElem? (i := 1549) (by decide +kernel), List.mem_of_getElem? (i := 1550) (by decide +kernel)⟩
theorem lw_p95 : lw_okq (⟨"ShadeBenchModel", "branch", "(II)V"⟩, 75) := ⟨⟨by decide +kernel, by decide +kernel⟩, List.mem_of_getElem? (i := 1046) (by decide +kernel), List.mem_of_getElem? (i := 1553) (by decide +kernel), List.mem_of_getElem? (i := 1554) (by decide +kernel)⟩
def lw_privs_6 : List (MethodName × Nat) := [(⟨"ShadeBenchModel", "give", "(IIII)V"⟩, 75), (⟨"ShadeBenchModel", "trap", "(I)V"⟩, 75), (⟨"ShadeBenchModel", "unset", "(II)V"⟩, 75), (⟨"ShadeBenchModel", "shadeOf", "(IIIII)I"⟩, 75), (⟨"ShadeBenchModel", "equalShade", "(IIII)I"⟩, 75), (⟨"ShadeBenchModel", "lessShade", "(IIIIZ)I"⟩, 75), (⟨"ShadeBenchModel", "reckon", "(II)V"⟩, 75), (⟨"ShadeBenchModel", "told", "(II)V"⟩, 75), (⟨"ShadeBenchModel", "made", "(III)I"⟩, 75), (⟨"ShadeBenchModel", "reach", "(II)V"⟩, 75), (⟨"ShadeBenchModel", "load", "(IIIZ)V"⟩, 75), (⟨"ShadeBenchModel", "areThere", "(II)Z"⟩, 75), (⟨"ShadeBenchModel", "isThere", "(I)Z"⟩, 75), (⟨"ShadeBenchModel", "blockAt", "(I)I"⟩, 75), (⟨"ShadeBenchModel", "store", "(IIIII)V"⟩, 75), (⟨"ShadeBenchModel", "branch", "(II)V"⟩, 75)]
theorem lw_r6 : ∀ q ∈ lw_privs_6, lw_okq q := List.forall_mem_cons.mpr ⟨lw_p80, List.forall_mem_cons.mpr ⟨lw_p81, List.forall_mem_cons.mpr ⟨lw_p82, List.forall_mem_cons.mpr ⟨lw_p83, List.forall_mem_cons.mpr ⟨lw_p84, List.forall_mem_cons.mpr ⟨lw_p85, List.forall_mem_cons.mpr ⟨lw_p86, List.forall_mem_cons.mpr ⟨lw_p87, List.forall_mem_cons.mpr ⟨lw_p88, List.forall_mem_cons.mpr ⟨lw_p89, List.forall_mem_cons.mpr ⟨lw_p90, List.forall_mem_cons.mpr ⟨lw_p91, List.forall_mem_cons.mpr ⟨lw_p92, List.forall_mem_cons.mpr ⟨lw_p93, List.forall_mem_cons.mpr ⟨lw_p94, List.forall_mem_cons.mpr ⟨lw_p95, fun _ h => absurd h List.not_mem_nil⟩⟩⟩⟩⟩⟩⟩⟩⟩⟩⟩⟩⟩⟩⟩⟩
theorem lw_p96 : lw_okq (⟨"ShadeBenchModel", "act", "(II)V"⟩, 75) := ⟨⟨by decide +kernel, by decide +kernel⟩, List.mem_of_getElem? (i := 1046) (by decide +kernel), List.mem_of_getElem? (i := 1557) (by decide +kernel), List.mem_of_getElem? (i := 1558) (by decide +kernel)⟩
theorem lw_p97 : lw_okq (⟨"ShadeBenchModel", "call", "(I)V"⟩, 75) := ⟨⟨by decide +kernel, by decide +kernel⟩, List.mem_of_getElem? (i := 1046) (by decide +kernel), List.mem_of_getElem? (i := 1561) (by decide +kernel), List.mem_of_getElem? (i := 1562) (by decide +kernel)⟩
theorem lw_p98 : lw_okq (⟨"ShadeBenchModel", "push", "(I)V"⟩, 75) := ⟨⟨by decide +kernel, by decide +kernel⟩, List.mem_of_getElem? (i := 1046) (by decide +kernel), List.mem_of_getElem? (i := 1565) (by decide +kernel), List.mem_of_getElem? (i := 1566) (by decide +kernel)⟩
theorem lw_p99 : lw_okq (⟨"ShadeBenchModel", "pop", "(I)V"⟩, 75) := ⟨⟨by decide +kernel, by decide +kernel⟩, List.mem_of_getElem? (i := 1046) (by decide +kernel), List.mem_of_getElem? (i := 1569) (by decide +kernel), List.mem_of_getElem? (i := 1570) (by decide +kernel)⟩
theorem lw_p100 : lw_okq (⟨"ShadeBenchModel", "newBlock", "(IZ)V"⟩, 75) := ⟨⟨by decide +kernel, by decide +kernel⟩, List.mem_of_getElem? (i := 1046) (by decide +kernel), List.mem_of_getElem? (i := 1573) (by decide +kernel), List.mem_of_getElem? (i := 1574) (by decide +kernel)⟩
theorem lw_p101 : lw_okq (⟨"ShadeBenchModel", "blockOf", "(I)I"⟩, 75) := ⟨⟨by decide +kernel, by decide +kernel⟩, List.mem_of_getElem? (i := 1046) (by decide +kernel), List.mem_of_getElem? (i := 1577) (by decide +kernel), List.mem_of_getElem? (i := 1578) (by decide +kernel)⟩
theorem lw_p102 : lw_okq (⟨"ShadeBenchModel", "grow", "(I)V"⟩, 75) := ⟨⟨by decide +kernel, by decide +kernel⟩, List.mem_of_getElem? (i := 1046) (by decide +kernel), List.mem_of_getElem? (i := 1581) (by decide +kernel), List.mem_of_getElem? (i := 1582) (by decide +kernel)⟩
theorem lw_p103 : lw_okq (⟨"ShadeBenchModel", "inUse", "(I)I"⟩, 75) := ⟨⟨by decide +kernel, by decide +kernel⟩, List.mem_of_getElem? (i := 1046) (by decide +kernel), List.mem_of_getElem? (i := 1585) (by decide +kernel), List.mem_of_getElem? (i := 1586) (by decide +kernel)⟩
theorem lw_p104 : lw_okq (⟨"ShadeBenchModel", "freed", "(I)V"⟩, 75) := ⟨⟨by decide +kernel, by decide +kernel⟩, List.mem_of_getElem? (i := 1046) (by decide +kernel), List.mem_of_getElem? (i := 1589) (by decide +kernel), List.mem_of_getElem? (i := 1590) (by decide +kernel)⟩
theorem lw_p105 : lw_okq (⟨"ShadeBenchModel", "free", "(I)V"⟩, 75) := ⟨⟨by decide +kernel, by decide +kernel⟩, List.mem_of_getElem? (i := 1046) (by decide +kernel), List.mem_of_getElem? (i := 1593) (by decide +kernel), List.mem_of_getElem? (i := 1594) (by decide +kernel)⟩
theorem lw_p106 : lw_okq (⟨"ShadeBenchModel", "copy", "(I)V"⟩, 75) := ⟨⟨by decide +kernel, by decide +kernel⟩, List.mem_of_getElem? (i := 1046) (by decide +kernel), List.mem_of_getElem? (i := 1597) (by decide +kernel), List.mem_of_getElem? (i := 1598) (by decide +kernel)⟩
theorem lw_p107 : lw_okq (⟨"ShadeBenchModel", "move", "(III)V"⟩, 75) := ⟨⟨by decide +kernel, by decide +kernel⟩, List.mem_of_getElem? (i := 1046) (by decide +kernel), List.mem_of_getElem? (i := 1601) (by decide +kernel), List.mem_of_getElem? (i := 1602) (by decide +kernel)⟩
theorem lw_p108 : lw_okq (⟨"ShadeBenchModel", "fill", "(I)V"⟩, 75) := ⟨⟨by decide +kernel, by decide +kernel⟩, List.mem_of_getElem? (i := 1046) (by decide +kernel), List.mem_of_getElem? (i := 1605) (by decide +kernel), List.mem_of_getElem? (i := 1606) (by decide +kernel)⟩
theorem lw_p109 : lw_okq (⟨"ShadeBenchModel", "marked", "(I)V"⟩, 75) := ⟨⟨by decide +kernel, by decide +kernel⟩, List.mem_of_getElem? (i := 1046) (by decide +kernel), List.mem_of_getElem? (i := 1609) (by decide +kernel), List.mem_of_getElem? (i := 1610) (by decide +kernel)⟩
theorem lw_p110 : lw_okq (⟨"ShadeBenchModel", "look", "(I)V"⟩, 75) := ⟨⟨by decide +kernel, by decide +kernel⟩, List.mem_of_getElem? (i := 1046) (by decide +kernel), List.mem_of_getElem? (i := 1616) (by decide +kernel), List.mem_of_getElem? (i := 1617) (by decide +kernel)⟩
theorem lw_p111 : lw_okq (⟨"ShadeBenchModel", "findLost", "()V"⟩, 75) := ⟨⟨by decide +kernel, by decide +kernel⟩, List.mem_of_getElem? (i := 1046) (by decide +kernel), List.mem_of_getElem? (i := 1644) (by decide +kernel), List.mem_of_getElem? (i := 1645) (by decide +kernel)⟩
def lw_privs_7 : List (MethodName × Nat) := [(⟨"ShadeBenchModel", "act", "(II)V"⟩, 75), (⟨"ShadeBenchModel", "call", "(I)V"⟩, 75), (⟨"ShadeBenchModel", "push", "(I)V"⟩, 75), (⟨"ShadeBenchModel", "pop", "(I)V"⟩, 75), (⟨"ShadeBenchModel", "newBlock", "(IZ)V"⟩, 75), (⟨"ShadeBenchModel", "blockOf", "(I)I"⟩, 75), (⟨"ShadeBenchModel", "grow", "(I)V"⟩, 75), (⟨"ShadeBenchModel", "inUse", "(I)I"⟩, 75), (⟨"ShadeBenchModel", "freed", "(I)V"⟩, 75), (⟨"ShadeBenchModel", "free", "(I)V"⟩, 75), (⟨"ShadeBenchModel", "copy", "(I)V"⟩, 75), (⟨"ShadeBenchModel", "move", "(III)V"⟩, 75), (⟨"ShadeBenchModel", "fill", "(I)V"⟩, 75), (⟨"ShadeBenchModel", "marked", "(I)V"⟩, 75), (⟨"ShadeBenchModel", "look", "(I)V"⟩, 75), (⟨"ShadeBenchModel", "findLost", "()V"⟩, 75)]
theorem lw_r7 : ∀ q ∈ lw_privs_7, lw_okq q := List.forall_mem_cons.mpr ⟨lw_p96, List.forall_mem_cons.mpr ⟨lw_p97, List.forall_mem_cons.mpr ⟨lw_p98, List.forall_mem_cons.mpr ⟨lw_p99, List.forall_mem_cons.mpr ⟨lw_p100, List.forall_mem_cons.mpr ⟨lw_p101, List.forall_mem_cons.mpr ⟨lw_p102, List.forall_mem_cons.mpr ⟨lw_p103, List.forall_mem_cons.mpr ⟨lw_p104, List.forall_mem_cons.mpr ⟨lw_p105, List.forall_mem_cons.mpr ⟨lw_p106, List.forall_mem_cons.mpr ⟨lw_p107, List.forall_mem_cons.mpr ⟨lw_p108, List.forall_mem_cons.mpr ⟨lw_p109, List.forall_mem_cons.mpr ⟨lw_p110, List.forall_mem_cons.mpr ⟨lw_p111, fun _ h => absurd h List.not_mem_nil⟩⟩⟩⟩⟩⟩⟩⟩⟩⟩⟩⟩⟩⟩⟩⟩
theorem lw_p112 : lw_okq (⟨"ShadeBenchModel", "leadsFromRoots", "(IZ)Z"⟩, 75) := ⟨⟨by decide +kernel, by decide +kernel⟩, List.mem_of_getElem? (i := 1046) (by decide +kernel), List.mem_of_getElem? (i := 1648) (by decide +kernel), List.mem_of_getElem? (i := 1649) (by decide +kernel)⟩
theorem lw_p113 : lw_okq (⟨"ShadeBenchModel", "leadsFromRange", "(IIIZ)Z"⟩, 75) := ⟨⟨by decide +kernel, by decide +kernel⟩, List.mem_of_getElem? (i := 1046) (by decide +kernel), List.mem_of_getElem? (i := 1652) (by decide +kernel), List.mem_of_getElem? (i := 1653) (by decide +kernel)⟩
theorem lw_p114 : lw_okq (⟨"ShadeBenchModel", "isPointer", "(I)Z"⟩, 75) := ⟨⟨by decide +kernel, by decide +kernel⟩, List.mem_of_getElem? (i := 1046) (by decide +kernel), List.mem_of_getElem? (i := 1656) (by decide +kernel), List.mem_of_getElem? (i := 1657) (by decide +kernel)⟩
theorem lw_p115 : lw_okq (⟨"ShadeBenchModel", "word", "(I)I"⟩, 75) := ⟨⟨by decide +kernel, by decide +kernel⟩, List.mem_of_getElem? (i := 1046) (by decide +kernel), List.mem_of_getElem? (i := 1660) (by decide +kernel), List.mem_of_getElem? (i := 1661) (by decide +kernel)⟩
theorem lw_p116 : lw_okq (⟨"ShadeBenchModel", "leads", "(IIZ)Z"⟩, 75) := ⟨⟨by decide +kernel, by decide +kernel⟩, List.mem_of_getElem? (i := 1046) (by decide +kernel), List.mem_of_getElem? (i := 1664) (by decide +kernel), List.mem_of_getElem? (i := 1665) (by decide +kernel)⟩
theorem lw_p117 : lw_okq (⟨"ShadeBenchModel", "leadsFromBlock", "(IIZ)Z"⟩, 75) := ⟨⟨by decide +kernel, by decide +kernel⟩, List.mem_of_getElem? (i := 1046) (by decide +kernel), List.mem_of_getElem? (i := 1668) (by decide +kernel), List.mem_of_getElem? (i := 1669) (by decide +kernel)⟩
theorem lw_p118 : lw_okq (⟨"ShadeBenchModel", "reached", "(II)Z"⟩, 75) := ⟨⟨by decide +kernel, by decide +kernel⟩, List.mem_of_getElem? (i := 1046) (by decide +kernel), List.mem_of_getElem? (i := 1672) (by decide +kernel), List.mem_of_getElem? (i := 1673) (by decide +kernel)⟩
def lw_privs_8 : List (MethodName × Nat) := [(⟨"ShadeBenchModel", "leadsFromRoots", "(IZ)Z"⟩, 75), (⟨"ShadeBenchModel", "leadsFromRange", "(IIIZ)Z"⟩, 75), (⟨"ShadeBenchModel", "isPointer", "(I)Z"⟩, 75), (⟨"ShadeBenchModel", "word", "(I)I"⟩, 75), (⟨"ShadeBenchModel", "leads", "(IIZ)Z"⟩, 75), (⟨"ShadeBenchModel", "leadsFromBlock", "(IIZ)Z"⟩, 75), (⟨"ShadeBenchModel", "reached", "(II)Z"⟩, 75)]
theorem lw_r8 : ∀ q ∈ lw_privs_8, lw_okq q := List.forall_mem_cons.mpr ⟨lw_p112, List.forall_mem_cons.mpr ⟨lw_p113, List.forall_mem_cons.mpr ⟨lw_p114, List.forall_mem_cons.mpr ⟨lw_p115, List.forall_mem_cons.mpr ⟨lw_p116, List.forall_mem_cons.mpr ⟨lw_p117, List.forall_mem_cons.mpr ⟨lw_p118, fun _ h => absurd h List.not_mem_nil⟩⟩⟩⟩⟩⟩⟩
def lw_privs : List (MethodName × Nat) := lw_privs_1 ++ (lw_privs_2 ++ (lw_privs_3 ++ (lw_privs_4 ++ (lw_privs_5 ++ (lw_privs_6 ++ (lw_privs_7 ++ (lw_privs_8)))))))
def lw_tbl : List Cond := k2_sels lw_privs ++ tables_1
theorem lw_privs_ok : ∀ q ∈ lw_privs, lw_okq q := by
  show ∀ q ∈ lw_privs_1 ++ (lw_privs_2 ++ (lw_privs_3 ++ (lw_privs_4 ++ (lw_privs_5 ++ (lw_privs_6 ++ (lw_privs_7 ++ (lw_privs_8))))))), lw_okq q
  exact List.forall_mem_append.mpr ⟨lw_r1, List.forall_mem_append.mpr ⟨lw_r2, List.forall_mem_append.mpr ⟨lw_r3, List.forall_mem_append.mpr ⟨lw_r4, List.forall_mem_append.mpr ⟨lw_r5, List.forall_mem_append.mpr ⟨lw_r6, List.forall_mem_append.mpr ⟨lw_r7, lw_r8⟩⟩⟩⟩⟩⟩⟩
def RX0 : String := "ShadeBench$Assembler"
def TX0 : u_T := fun k => match k with
  | 0 => ("ShadeBench$Assembler", "scanner", "LShadeBench$Scanner;", true)
  | 1 => ("ShadeBench$Assembler", "names", "[J", true)
  | 2 => ("ShadeBench$Assembler", "labels", "[J", true)
  | 3 => ("ShadeBench$Assembler", "targets", "[I", true)
  | 4 => ("ShadeBench$Assembler", "labelCount", "I", false)
  | 5 => ("ShadeBench$Assembler", "wanted", "[J", true)
  | 6 => ("ShadeBench$Assembler", "wantedPlace", "[I", true)
  | 7 => ("ShadeBench$Assembler", "wantedLine", "[I", true)
  | 8 => ("ShadeBench$Assembler", "line", "I", false)
  | 9 => ("ShadeBench$Assembler", "result", "LShadeBench$Program;", false)
  | 10 => ("ShadeBench$Assembler", "fault", "I", false)
  | 11 => ("ShadeBench$Assembler", "faultPlace", "I", false)
  | _ => ("ShadeBench$Assembler", "faultLine", "I", false)
def tyX0 : Nat → FieldType := fun k => match k with
  | 0 => .object "ShadeBench$Scanner"
  | 1 => .array .long
  | 2 => .array .long
  | 3 => .array .int
  | 4 => .int
  | 5 => .array .long
  | 6 => .array .int
  | 7 => .array .int
  | 8 => .int
  | 9 => .object "ShadeBench$Program"
  | 10 => .int
  | 11 => .int
  | _ => .int
theorem nmX0 : ∀ a, a < 13 → ∀ b, b < 13 → a ≠ b → (TX0 a).2.1 ≠ (TX0 b).2.1 := by decide +kernel
theorem tyX0_ok : ∀ k, k < 13 → parseFieldDescriptor (TX0 k).2.2.1 = some (tyX0 k) := by decide +kernel
abbrev cX0_init : ByteArray := prog_2_method_1_code
def yX0_init : MethodName := ⟨RX0, "<init>", "()V"⟩
abbrev cX0_translate : ByteArray := prog_2_method_2_code
def yX0_translate : MethodName := ⟨RX0, "translate", "([IILShadeBench$Program;)Z"⟩
abbrev cX0_isTooLong : ByteArray := prog_2_method_3_code
def yX0_isTooLong : MethodName := ⟨RX0, "isTooLong", "([II)Z"⟩
abbrev cX0_endOfLine : ByteArray := prog_2_method_4_code
def yX0_endOfLine : MethodName := ⟨RX0, "endOfLine", "([III)I"⟩
abbrev cX0_refuse : ByteArray := prog_2_method_5_code
def yX0_refuse : MethodName := ⟨RX0, "refuse", "(III)V"⟩
abbrev cX0_refusePiece : ByteArray := prog_2_method_6_code
def yX0_refusePiece : MethodName := ⟨RX0, "refusePiece", "()Z"⟩
abbrev cX0_readLine : ByteArray := prog_2_method_7_code
def yX0_readLine : MethodName := ⟨RX0, "readLine", "()Z"⟩
abbrev cX0_readLabel : ByteArray := prog_2_method_8_code
def yX0_readLabel : MethodName := ⟨RX0, "readLabel", "()Z"⟩
abbrev cX0_readInstruction : ByteArray := prog_2_method_9_code
def yX0_readInstruction : MethodName := ⟨RX0, "readInstruction", "(I)Z"⟩
abbrev cX0_readOperand : ByteArray := prog_2_method_10_code
def yX0_readOperand : MethodName := ⟨RX0, "readOperand", "(CII)Z"⟩
abbrev cX0_isLabel : ByteArray := prog_2_method_11_code
def yX0_isLabel : MethodName := ⟨RX0, "isLabel", "()Z"⟩
abbrev cX0_registerOf : ByteArray := prog_2_method_12_code
def yX0_registerOf : MethodName := ⟨RX0, "registerOf", "(J)I"⟩
abbrev cX0_instruction : ByteArray := prog_2_method_13_code
def yX0_instruction : MethodName := ⟨RX0, "instruction", "(J)I"⟩
abbrev cX0_findLabel : ByteArray := prog_2_method_14_code
def yX0_findLabel : MethodName := ⟨RX0, "findLabel", "(J)I"⟩
abbrev cX0_resolveLabels : ByteArray := prog_2_method_15_code
def yX0_resolveLabels : MethodName := ⟨RX0, "resolveLabels", "()Z"⟩
def RX1 : String := "ShadeBench$Datum"
def TX1 : u_T := fun k => match k with
  | 0 => ("ShadeBench$Datum", "bits", "I", false)
  | 1 => ("ShadeBench$Datum", "shade", "I", false)
  | _ => ("ShadeBench$Datum", "origin", "I", false)
def tyX1 : Nat → FieldType := fun k => match k with
  | 0 => .int
  | 1 => .int
  | _ => .int
theorem nmX1 : ∀ a, a < 3 → ∀ b, b < 3 → a ≠ b → (TX1 a).2.1 ≠ (TX1 b).2.1 := by decide +kernel
theorem tyX1_ok : ∀ k, k < 3 → parseFieldDescriptor (TX1 k).2.2.1 = some (tyX1 k) := by decide +kernel
abbrev cX1_init : ByteArray := prog_3_method_1_code
def yX1_init : MethodName := ⟨RX1, "<init>", "()V"⟩
abbrev cX1_put : ByteArray := prog_3_method_2_code
def yX1_put : MethodName := ⟨RX1, "put", "(III)V"⟩
abbrev cX1_putSet : ByteArray := prog_3_method_3_code
def yX1_putSet : MethodName := ⟨RX1, "putSet", "(I)V"⟩
abbrev cX1_take : ByteArray := prog_3_method_4_code
def yX1_take : MethodName := ⟨RX1, "take", "(LShadeBench$Datum;)V"⟩
abbrev cX1_tell : ByteArray := prog_3_method_5_code
def yX1_tell : MethodName := ⟨RX1, "tell", "(I)I"⟩
def RX2 : String := "ShadeBench$Heap"
def TX2 : u_T := fun k => match k with
  | 0 => ("ShadeBench$Heap", "addresses", "[I", true)
  | 1 => ("ShadeBench$Heap", "sizes", "[I", true)
  | 2 => ("ShadeBench$Heap", "conditions", "[I", true)
  | 3 => ("ShadeBench$Heap", "makers", "[I", true)
  | 4 => ("ShadeBench$Heap", "freers", "[I", true)
  | 5 => ("ShadeBench$Heap", "made", "I", false)
  | 6 => ("ShadeBench$Heap", "owners", "[I", true)
  | 7 => ("ShadeBench$Heap", "queue", "[I", true)
  | 8 => ("ShadeBench$Heap", "queueStart", "I", false)
  | 9 => ("ShadeBench$Heap", "queueEnd", "I", false)
  | _ => ("ShadeBench$Heap", "keptBytes", "I", false)
def tyX2 : Nat → FieldType := fun k => match k with
  | 0 => .array .int
  | 1 => .array .int
  | 2 => .array .int
  | 3 => .array .int
  | 4 => .array .int
  | 5 => .int
  | 6 => .array .int
  | 7 => .array .int
  | 8 => .int
  | 9 => .int
  | _ => .int
theorem nmX2 : ∀ a, a < 11 → ∀ b, b < 11 → a ≠ b → (TX2 a).2.1 ≠ (TX2 b).2.1 := by decide +kernel
theorem tyX2_ok : ∀ k, k < 11 → parseFieldDescriptor (TX2 k).2.2.1 = some (tyX2 k) := by decide +kernel
abbrev cX2_init : ByteArray := prog_4_method_1_code
def yX2_init : MethodName := ⟨RX2, "<init>", "()V"⟩
abbrev cX2_clear : ByteArray := prog_4_method_2_code
def yX2_clear : MethodName := ⟨RX2, "clear", "()V"⟩
abbrev cX2_make : ByteArray := prog_4_method_3_code
def yX2_make : MethodName := ⟨RX2, "make", "(II)I"⟩
abbrev cX2_unitsOf : ByteArray := prog_4_method_4_code
def yX2_unitsOf : MethodName := ⟨RX2, "unitsOf", "(I)I"⟩
abbrev cX2_firstFree : ByteArray := prog_4_method_5_code
def yX2_firstFree : MethodName := ⟨RX2, "firstFree", "(I)I"⟩
abbrev cX2_own : ByteArray := prog_4_method_6_code
def yX2_own : MethodName := ⟨RX2, "own", "(II)V"⟩
abbrev cX2_ownerOf : ByteArray := prog_4_method_7_code
def yX2_ownerOf : MethodName := ⟨RX2, "ownerOf", "(I)I"⟩
abbrev cX2_leadsTo : ByteArray := prog_4_method_8_code
def yX2_leadsTo : MethodName := ⟨RX2, "leadsTo", "(I)I"⟩
abbrev cX2_beginsAt : ByteArray := prog_4_method_9_code
def yX2_beginsAt : MethodName := ⟨RX2, "beginsAt", "(I)I"⟩
abbrev cX2_keep : ByteArray := prog_4_method_10_code
def yX2_keep : MethodName := ⟨RX2, "keep", "(II)V"⟩
abbrev cX2_isInUse : ByteArray := prog_4_method_11_code
def yX2_isInUse : MethodName := ⟨RX2, "isInUse", "(I)Z"⟩
abbrev cX2_tell : ByteArray := prog_4_method_12_code
def yX2_tell : MethodName := ⟨RX2, "tell", "(II)I"⟩
def RX3 : String := "ShadeBench$Leaks"
def TX3 : u_T := fun k => match k with
  | 0 => ("ShadeBench$Leaks", "verdicts", "[I", true)
  | 1 => ("ShadeBench$Leaks", "queue", "[I", true)
  | _ => ("ShadeBench$Leaks", "queued", "I", false)
def tyX3 : Nat → FieldType := fun k => match k with
  | 0 => .array .int
  | 1 => .array .int
  | _ => .int
theorem nmX3 : ∀ a, a < 3 → ∀ b, b < 3 → a ≠ b → (TX3 a).2.1 ≠ (TX3 b).2.1 := by decide +kernel
theorem tyX3_ok : ∀ k, k < 3 → parseFieldDescriptor (TX3 k).2.2.1 = some (tyX3 k) := by decide +kernel
abbrev cX3_init : ByteArray := prog_5_method_1_code
def yX3_init : MethodName := ⟨RX3, "<init>", "()V"⟩
abbrev cX3_verdict : ByteArray := prog_5_method_2_code
def yX3_verdict : MethodName := ⟨RX3, "verdict", "(ILShadeBench$Heap;LShadeBench$Memory;[LShadeBench$Datum;)I"⟩
abbrev cX3_spread : ByteArray := prog_5_method_3_code
def yX3_spread : MethodName := ⟨RX3, "spread", "(ILShadeBench$Heap;LShadeBench$Memory;[LShadeBench$Datum;)V"⟩
abbrev cX3_followWords : ByteArray := prog_5_method_4_code
def yX3_followWords : MethodName := ⟨RX3, "followWords", "(IIIILShadeBench$Heap;LShadeBench$Memory;)V"⟩
abbrev cX3_follow : ByteArray := prog_5_method_5_code
def yX3_follow : MethodName := ⟨RX3, "follow", "(IIILShadeBench$Heap;)V"⟩
def RX4 : String := "ShadeBench$Ledger"
def TX4 : u_T := fun k => match k with
  | 0 => ("ShadeBench$Ledger", "kinds", "[I", true)
  | 1 => ("ShadeBench$Ledger", "places", "[I", true)
  | 2 => ("ShadeBench$Ledger", "origins", "[I", true)
  | 3 => ("ShadeBench$Ledger", "counts", "[I", true)
  | 4 => ("ShadeBench$Ledger", "kept", "I", false)
  | 5 => ("ShadeBench$Ledger", "reported", "I", false)
  | 6 => ("ShadeBench$Ledger", "suppressed", "I", false)
  | 7 => ("ShadeBench$Ledger", "quietKinds", "[I", true)
  | 8 => ("ShadeBench$Ledger", "quietFrom", "[I", true)
  | 9 => ("ShadeBench$Ledger", "quietTo", "[I", true)
  | _ => ("ShadeBench$Ledger", "suppressions", "I", false)
def tyX4 : Nat → FieldType := fun k => match k with
  | 0 => .array .int
  | 1 => .array .int
  | 2 => .array .int
  | 3 => .array .int
  | 4 => .int
  | 5 => .int
  | 6 => .int
  | 7 => .array .int
  | 8 => .array .int
  | 9 => .array .int
  | _ => .int
theorem nmX4 : ∀ a, a < 11 → ∀ b, b < 11 → a ≠ b → (TX4 a).2.1 ≠ (TX4 b).2.1 := by decide +kernel
theorem tyX4_ok : ∀ k, k < 11 → parseFieldDescriptor (TX4 k).2.2.1 = some (tyX4 k) := by decide +kernel
abbrev cX4_init : ByteArray := prog_6_method_1_code
def yX4_init : MethodName := ⟨RX4, "<init>", "()V"⟩
abbrev cX4_clear : ByteArray := prog_6_method_2_code
def yX4_clear : MethodName := ⟨RX4, "clear", "()V"⟩
abbrev cX4_dropSuppressions : ByteArray := prog_6_method_3_code
def yX4_dropSuppressions : MethodName := ⟨RX4, "dropSuppressions", "()V"⟩
abbrev cX4_addSuppression : ByteArray := prog_6_method_4_code
def yX4_addSuppression : MethodName := ⟨RX4, "addSuppression", "(III)I"⟩
abbrev cX4_note : ByteArray := prog_6_method_5_code
def yX4_note : MethodName := ⟨RX4, "note", "(III)V"⟩
abbrev cX4_isSuppressed : ByteArray := prog_6_method_6_code
def yX4_isSuppressed : MethodName := ⟨RX4, "isSuppressed", "(II)Z"⟩
abbrev cX4_find : ByteArray := prog_6_method_7_code
def yX4_find : MethodName := ⟨RX4, "find", "(III)I"⟩
abbrev cX4_isQuiet : ByteArray := prog_6_method_8_code
def yX4_isQuiet : MethodName := ⟨RX4, "isQuiet", "()Z"⟩
abbrev cX4_tell : ByteArray := prog_6_method_9_code
def yX4_tell : MethodName := ⟨RX4, "tell", "(II)I"⟩
def RX5 : String := "ShadeBench$Machine"
def TX5 : u_T := fun k => match k with
  | 0 => ("ShadeBench$Machine", "program", "LShadeBench$Program;", false)
  | 1 => ("ShadeBench$Machine", "memory", "LShadeBench$Memory;", true)
  | 2 => ("ShadeBench$Machine", "heap", "LShadeBench$Heap;", true)
  | 3 => ("ShadeBench$Machine", "leaks", "LShadeBench$Leaks;", true)
  | 4 => ("ShadeBench$Machine", "ledger", "LShadeBench$Ledger;", true)
  | 5 => ("ShadeBench$Machine", "registers", "[LShadeBench$Datum;", true)
  | 6 => ("ShadeBench$Machine", "a", "LShadeBench$Datum;", true)
  | 7 => ("ShadeBench$Machine", "b", "LShadeBench$Datum;", true)
  | 8 => ("ShadeBench$Machine", "fine", "Z", false)
  | 9 => ("ShadeBench$Machine", "at", "I", false)
  | 10 => ("ShadeBench$Machine", "next", "I", false)
  | 11 => ("ShadeBench$Machine", "status", "I", false)
  | 12 => ("ShadeBench$Machine", "steps", "I", false)
  | 13 => ("ShadeBench$Machine", "mark", "I", false)
  | 14 => ("ShadeBench$Machine", "inputAt", "I", false)
  | 15 => ("ShadeBench$Machine", "calls", "[I", true)
  | 16 => ("ShadeBench$Machine", "callCount", "I", false)
  | 17 => ("ShadeBench$Machine", "outputs", "[I", true)
  | _ => ("ShadeBench$Machine", "outputCount", "I", false)
def tyX5 : Nat → FieldType := fun k => match k with
  | 0 => .object "ShadeBench$Program"
  | 1 => .object "ShadeBench$Memory"
  | 2 => .object "ShadeBench$Heap"
  | 3 => .object "ShadeBench$Leaks"
  | 4 => .object "ShadeBench$Ledger"
  | 5 => .array (.object "ShadeBench$Datum")
  | 6 => .object "ShadeBench$Datum"
  | 7 => .object "ShadeBench$Datum"
  | 8 => .boolean
  | 9 => .int
  | 10 => .int
  | 11 => .int
  | 12 => .int
  | 13 => .int
  | 14 => .int
  | 15 => .array .int
  | 16 => .int
  | 17 => .array .int
  | _ => .int
theorem nmX5 : ∀ a, a < 19 → ∀ b, b < 19 → a ≠ b → (TX5 a).2.1 ≠ (TX5 b).2.1 := by decide +kernel
theorem tyX5_ok : ∀ k, k < 19 → parseFieldDescriptor (TX5 k).2.2.1 = some (tyX5 k) := by decide +kernel
abbrev cX5_init : ByteArray := prog_7_method_1_code
def yX5_init : MethodName := ⟨RX5, "<init>", "()V"⟩
abbrev cX5_restart : ByteArray := prog_7_method_2_code
def yX5_restart : MethodName := ⟨RX5, "restart", "(LShadeBench$Program;IZ)V"⟩
abbrev cX5_goTo : ByteArray := prog_7_method_3_code
def yX5_goTo : MethodName := ⟨RX5, "goTo", "(I)V"⟩
abbrev cX5_advance : ByteArray := prog_7_method_4_code
def yX5_advance : MethodName := ⟨RX5, "advance", "(I)I"⟩
abbrev cX5_tell : ByteArray := prog_7_method_5_code
def yX5_tell : MethodName := ⟨RX5, "tell", "(I)I"⟩
abbrev cX5_outputAt : ByteArray := prog_7_method_6_code
def yX5_outputAt : MethodName := ⟨RX5, "outputAt", "(I)I"⟩
abbrev cX5_tellBlock : ByteArray := prog_7_method_7_code
def yX5_tellBlock : MethodName := ⟨RX5, "tellBlock", "(II)I"⟩
abbrev cX5_performPlain : ByteArray := prog_7_method_8_code
def yX5_performPlain : MethodName := ⟨RX5, "performPlain", "(I)V"⟩
abbrev cX5_performWide : ByteArray := prog_7_method_9_code
def yX5_performWide : MethodName := ⟨RX5, "performWide", "(I)V"⟩
abbrev cX5_operand : ByteArray := prog_7_method_10_code
def yX5_operand : MethodName := ⟨RX5, "operand", "(I)I"⟩
abbrev cX5_registerOf : ByteArray := prog_7_method_11_code
def yX5_registerOf : MethodName := ⟨RX5, "registerOf", "(I)LShadeBench$Datum;"⟩
abbrev cX5_takeRegister : ByteArray := prog_7_method_12_code
def yX5_takeRegister : MethodName := ⟨RX5, "takeRegister", "(LShadeBench$Datum;I)V"⟩
abbrev cX5_takeEither : ByteArray := prog_7_method_13_code
def yX5_takeEither : MethodName := ⟨RX5, "takeEither", "(LShadeBench$Datum;I)V"⟩
abbrev cX5_give : ByteArray := prog_7_method_14_code
def yX5_give : MethodName := ⟨RX5, "give", "(IIII)V"⟩
abbrev cX5_trap : ByteArray := prog_7_method_15_code
def yX5_trap : MethodName := ⟨RX5, "trap", "(I)V"⟩
abbrev cX5_addToMark : ByteArray := prog_7_method_16_code
def yX5_addToMark : MethodName := ⟨RX5, "addToMark", "(I)V"⟩
abbrev cX5_reportShade : ByteArray := prog_7_method_17_code
def yX5_reportShade : MethodName := ⟨RX5, "reportShade", "(ILShadeBench$Datum;)V"⟩
abbrev cX5_isValid : ByteArray := prog_7_method_18_code
def yX5_isValid : MethodName := ⟨RX5, "isValid", "(II)Z"⟩
abbrev cX5_compute : ByteArray := prog_7_method_19_code
def yX5_compute : MethodName := ⟨RX5, "compute", "(I)V"⟩
abbrev cX5_widthOf : ByteArray := prog_7_method_20_code
def yX5_widthOf : MethodName := ⟨RX5, "widthOf", "(I)I"⟩
abbrev cX5_loadBytes : ByteArray := prog_7_method_21_code
def yX5_loadBytes : MethodName := ⟨RX5, "loadBytes", "(LShadeBench$Datum;II)V"⟩
abbrev cX5_load : ByteArray := prog_7_method_22_code
def yX5_load : MethodName := ⟨RX5, "load", "(I)V"⟩
abbrev cX5_store : ByteArray := prog_7_method_23_code
def yX5_store : MethodName := ⟨RX5, "store", "(I)V"⟩
abbrev cX5_branch : ByteArray := prog_7_method_24_code
def yX5_branch : MethodName := ⟨RX5, "branch", "(I)V"⟩
abbrev cX5_jump : ByteArray := prog_7_method_25_code
def yX5_jump : MethodName := ⟨RX5, "jump", "(I)V"⟩
abbrev cX5_push : ByteArray := prog_7_method_26_code
def yX5_push : MethodName := ⟨RX5, "push", "()V"⟩
abbrev cX5_pop : ByteArray := prog_7_method_27_code
def yX5_pop : MethodName := ⟨RX5, "pop", "()V"⟩
abbrev cX5_allot : ByteArray := prog_7_method_28_code
def yX5_allot : MethodName := ⟨RX5, "allot", "(I)V"⟩
abbrev cX5_allotBlock : ByteArray := prog_7_method_29_code
def yX5_allotBlock : MethodName := ⟨RX5, "allotBlock", "(IZ)I"⟩
abbrev cX5_giveBack : ByteArray := prog_7_method_30_code
def yX5_giveBack : MethodName := ⟨RX5, "giveBack", "()V"⟩
abbrev cX5_blockToFree : ByteArray := prog_7_method_31_code
def yX5_blockToFree : MethodName := ⟨RX5, "blockToFree", "(I)I"⟩
abbrev cX5_keepBlock : ByteArray := prog_7_method_32_code
def yX5_keepBlock : MethodName := ⟨RX5, "keepBlock", "(I)V"⟩
abbrev cX5_grow : ByteArray := prog_7_method_33_code
def yX5_grow : MethodName := ⟨RX5, "grow", "()V"⟩
abbrev cX5_isCount : ByteArray := prog_7_method_34_code
def yX5_isCount : MethodName := ⟨RX5, "isCount", "(I)Z"⟩
abbrev cX5_copyBytes : ByteArray := prog_7_method_35_code
def yX5_copyBytes : MethodName := ⟨RX5, "copyBytes", "()V"⟩
abbrev cX5_fillBytes : ByteArray := prog_7_method_36_code
def yX5_fillBytes : MethodName := ⟨RX5, "fillBytes", "()V"⟩
abbrev cX5_readInput : ByteArray := prog_7_method_37_code
def yX5_readInput : MethodName := ⟨RX5, "readInput", "()V"⟩
abbrev cX5_putOut : ByteArray := prog_7_method_38_code
def yX5_putOut : MethodName := ⟨RX5, "putOut", "()V"⟩
abbrev cX5_isRange : ByteArray := prog_7_method_39_code
def yX5_isRange : MethodName := ⟨RX5, "isRange", "(II)Z"⟩
abbrev cX5_markBytes : ByteArray := prog_7_method_40_code
def yX5_markBytes : MethodName := ⟨RX5, "markBytes", "()V"⟩
abbrev cX5_look : ByteArray := prog_7_method_41_code
def yX5_look : MethodName := ⟨RX5, "look", "()V"⟩
def RX6 : String := "ShadeBench$Memory"
def TX6 : u_T := fun k => match k with
  | 0 => ("ShadeBench$Memory", "bits", "[I", true)
  | 1 => ("ShadeBench$Memory", "shades", "[I", true)
  | 2 => ("ShadeBench$Memory", "origins", "[I", true)
  | 3 => ("ShadeBench$Memory", "open", "[Z", true)
  | 4 => ("ShadeBench$Memory", "seed", "I", false)
  | _ => ("ShadeBench$Memory", "stackMarked", "Z", false)
def tyX6 : Nat → FieldType := fun k => match k with
  | 0 => .array .int
  | 1 => .array .int
  | 2 => .array .int
  | 3 => .array .boolean
  | 4 => .int
  | _ => .boolean
theorem nmX6 : ∀ a, a < 6 → ∀ b, b < 6 → a ≠ b → (TX6 a).2.1 ≠ (TX6 b).2.1 := by decide +kernel
theorem tyX6_ok : ∀ k, k < 6 → parseFieldDescriptor (TX6 k).2.2.1 = some (tyX6 k) := by decide +kernel
abbrev cX6_init : ByteArray := prog_8_method_1_code
def yX6_init : MethodName := ⟨RX6, "<init>", "()V"⟩
abbrev cX6_clear : ByteArray := prog_8_method_2_code
def yX6_clear : MethodName := ⟨RX6, "clear", "(I)V"⟩
abbrev cX6_nextFilling : ByteArray := prog_8_method_3_code
def yX6_nextFilling : MethodName := ⟨RX6, "nextFilling", "()I"⟩
abbrev cX6_isByte : ByteArray := prog_8_method_4_code
def yX6_isByte : MethodName := ⟨RX6, "isByte", "(I)Z"⟩
abbrev cX6_holds : ByteArray := prog_8_method_5_code
def yX6_holds : MethodName := ⟨RX6, "holds", "(II)Z"⟩
abbrev cX6_tell : ByteArray := prog_8_method_6_code
def yX6_tell : MethodName := ⟨RX6, "tell", "(II)I"⟩
abbrev cX6_putByte : ByteArray := prog_8_method_7_code
def yX6_putByte : MethodName := ⟨RX6, "putByte", "(IIII)V"⟩
abbrev cX6_unset : ByteArray := prog_8_method_8_code
def yX6_unset : MethodName := ⟨RX6, "unset", "(III)V"⟩
abbrev cX6_close : ByteArray := prog_8_method_9_code
def yX6_close : MethodName := ⟨RX6, "close", "(II)V"⟩
abbrev cX6_setAsTheyAre : ByteArray := prog_8_method_10_code
def yX6_setAsTheyAre : MethodName := ⟨RX6, "setAsTheyAre", "(II)V"⟩
abbrev cX6_setToZero : ByteArray := prog_8_method_11_code
def yX6_setToZero : MethodName := ⟨RX6, "setToZero", "(II)V"⟩
abbrev cX6_noteMark : ByteArray := prog_8_method_12_code
def yX6_noteMark : MethodName := ⟨RX6, "noteMark", "(II)V"⟩
abbrev cX6_moveStack : ByteArray := prog_8_method_13_code
def yX6_moveStack : MethodName := ⟨RX6, "moveStack", "(III)V"⟩
abbrev cX6_firstClosed : ByteArray := prog_8_method_14_code
def yX6_firstClosed : MethodName := ⟨RX6, "firstClosed", "(II)I"⟩
abbrev cX6_firstDoubtful : ByteArray := prog_8_method_15_code
def yX6_firstDoubtful : MethodName := ⟨RX6, "firstDoubtful", "(II)I"⟩
abbrev cX6_readInto : ByteArray := prog_8_method_16_code
def yX6_readInto : MethodName := ⟨RX6, "readInto", "(LShadeBench$Datum;II)V"⟩
abbrev cX6_write : ByteArray := prog_8_method_17_code
def yX6_write : MethodName := ⟨RX6, "write", "(LShadeBench$Datum;II)V"⟩
abbrev cX6_repeat : ByteArray := prog_8_method_18_code
def yX6_repeat : MethodName := ⟨RX6, "repeat", "(LShadeBench$Datum;II)V"⟩
abbrev cX6_move : ByteArray := prog_8_method_19_code
def yX6_move : MethodName := ⟨RX6, "move", "(III)V"⟩
abbrev cX6_isSetWord : ByteArray := prog_8_method_20_code
def yX6_isSetWord : MethodName := ⟨RX6, "isSetWord", "(I)Z"⟩
abbrev cX6_wordAt : ByteArray := prog_8_method_21_code
def yX6_wordAt : MethodName := ⟨RX6, "wordAt", "(I)I"⟩
def RX7 : String := "ShadeBench$Op"
def TX7 : u_T := fun k => match k with
  | _ => ("", "", "", false)
def tyX7 : Nat → FieldType := fun k => match k with
  | _ => .int
theorem nmX7 : ∀ a, a < 0 → ∀ b, b < 0 → a ≠ b → (TX7 a).2.1 ≠ (TX7 b).2.1 := by decide +kernel
theorem tyX7_ok : ∀ k, k < 0 → parseFieldDescriptor (TX7 k).2.2.1 = some (tyX7 k) := by decide +kernel
abbrev cX7_shapeOf : ByteArray := prog_9_method_2_code
def yX7_shapeOf : MethodName := ⟨RX7, "shapeOf", "(I)Ljava/lang/String;"⟩
abbrev cX7_shapeOfOther : ByteArray := prog_9_method_3_code
def yX7_shapeOfOther : MethodName := ⟨RX7, "shapeOfOther", "(I)Ljava/lang/String;"⟩
def RX8 : String := "ShadeBench$Program"
def TX8 : u_T := fun k => match k with
  | 0 => ("ShadeBench$Program", "ops", "[I", true)
  | 1 => ("ShadeBench$Program", "operands", "[I", true)
  | 2 => ("ShadeBench$Program", "plain", "[Z", true)
  | 3 => ("ShadeBench$Program", "count", "I", false)
  | 4 => ("ShadeBench$Program", "inputs", "[I", true)
  | _ => ("ShadeBench$Program", "inputCount", "I", false)
def tyX8 : Nat → FieldType := fun k => match k with
  | 0 => .array .int
  | 1 => .array .int
  | 2 => .array .boolean
  | 3 => .int
  | 4 => .array .int
  | _ => .int
theorem nmX8 : ∀ a, a < 6 → ∀ b, b < 6 → a ≠ b → (TX8 a).2.1 ≠ (TX8 b).2.1 := by decide +kernel
theorem tyX8_ok : ∀ k, k < 6 → parseFieldDescriptor (TX8 k).2.2.1 = some (tyX8 k) := by decide +kernel
abbrev cX8_init : ByteArray := prog_10_method_1_code
def yX8_init : MethodName := ⟨RX8, "<init>", "()V"⟩
abbrev cX8_clear : ByteArray := prog_10_method_2_code
def yX8_clear : MethodName := ⟨RX8, "clear", "()V"⟩
abbrev cX8_setOperand : ByteArray := prog_10_method_3_code
def yX8_setOperand : MethodName := ⟨RX8, "setOperand", "(III)V"⟩
abbrev cX8_addInput : ByteArray := prog_10_method_4_code
def yX8_addInput : MethodName := ⟨RX8, "addInput", "(I)I"⟩
def RX9 : String := "ShadeBench$Rules"
def TX9 : u_T := fun k => match k with
  | _ => ("", "", "", false)
def tyX9 : Nat → FieldType := fun k => match k with
  | _ => .int
theorem nmX9 : ∀ a, a < 0 → ∀ b, b < 0 → a ≠ b → (TX9 a).2.1 ≠ (TX9 b).2.1 := by decide +kernel
theorem tyX9_ok : ∀ k, k < 0 → parseFieldDescriptor (TX9 k).2.2.1 = some (tyX9 k) := by decide +kernel
abbrev cX9_value : ByteArray := prog_11_method_2_code
def yX9_value : MethodName := ⟨RX9, "value", "(III)I"⟩
abbrev cX9_moved : ByteArray := prog_11_method_3_code
def yX9_moved : MethodName := ⟨RX9, "moved", "(III)I"⟩
abbrev cX9_shade : ByteArray := prog_11_method_4_code
def yX9_shade : MethodName := ⟨RX9, "shade", "(ILShadeBench$Datum;LShadeBench$Datum;Z)I"⟩
abbrev cX9_shadeOfEqual : ByteArray := prog_11_method_5_code
def yX9_shadeOfEqual : MethodName := ⟨RX9, "shadeOfEqual", "(LShadeBench$Datum;LShadeBench$Datum;Z)I"⟩
abbrev cX9_shadeOfBelow : ByteArray := prog_11_method_6_code
def yX9_shadeOfBelow : MethodName := ⟨RX9, "shadeOfBelow", "(LShadeBench$Datum;LShadeBench$Datum;IZ)I"⟩
abbrev cX9_origin : ByteArray := prog_11_method_7_code
def yX9_origin : MethodName := ⟨RX9, "origin", "(LShadeBench$Datum;LShadeBench$Datum;)I"⟩
abbrev cX9_isBelow : ByteArray := prog_11_method_8_code
def yX9_isBelow : MethodName := ⟨RX9, "isBelow", "(II)Z"⟩
abbrev cX9_isSetZero : ByteArray := prog_11_method_9_code
def yX9_isSetZero : MethodName := ⟨RX9, "isSetZero", "(LShadeBench$Datum;)Z"⟩
abbrev cX9_least : ByteArray := prog_11_method_10_code
def yX9_least : MethodName := ⟨RX9, "least", "(LShadeBench$Datum;)I"⟩
abbrev cX9_most : ByteArray := prog_11_method_11_code
def yX9_most : MethodName := ⟨RX9, "most", "(LShadeBench$Datum;)I"⟩
abbrev cX9_left : ByteArray := prog_11_method_12_code
def yX9_left : MethodName := ⟨RX9, "left", "(I)I"⟩
abbrev cX9_any : ByteArray := prog_11_method_13_code
def yX9_any : MethodName := ⟨RX9, "any", "(I)I"⟩
def RX10 : String := "ShadeBench$Scanner"
def TX10 : u_T := fun k => match k with
  | 0 => ("ShadeBench$Scanner", "text", "[I", false)
  | 1 => ("ShadeBench$Scanner", "at", "I", false)
  | 2 => ("ShadeBench$Scanner", "lineEnd", "I", false)
  | 3 => ("ShadeBench$Scanner", "kind", "I", false)
  | 4 => ("ShadeBench$Scanner", "start", "I", false)
  | 5 => ("ShadeBench$Scanner", "word", "J", false)
  | _ => ("ShadeBench$Scanner", "number", "I", false)
def tyX10 : Nat → FieldType := fun k => match k with
  | 0 => .array .int
  | 1 => .int
  | 2 => .int
  | 3 => .int
  | 4 => .int
  | 5 => .long
  | _ => .int
theorem nmX10 : ∀ a, a < 7 → ∀ b, b < 7 → a ≠ b → (TX10 a).2.1 ≠ (TX10 b).2.1 := by decide +kernel
theorem tyX10_ok : ∀ k, k < 7 → parseFieldDescriptor (TX10 k).2.2.1 = some (tyX10 k) := by decide +kernel
abbrev cX10_init : ByteArray := prog_12_method_1_code
def yX10_init : MethodName := ⟨RX10, "<init>", "()V"⟩
abbrev cX10_openLine : ByteArray := prog_12_method_2_code
def yX10_openLine : MethodName := ⟨RX10, "openLine", "([III)V"⟩
abbrev cX10_readPiece : ByteArray := prog_12_method_3_code
def yX10_readPiece : MethodName := ⟨RX10, "readPiece", "()V"⟩
abbrev cX10_byteAt : ByteArray := prog_12_method_4_code
def yX10_byteAt : MethodName := ⟨RX10, "byteAt", "(I)I"⟩
abbrev cX10_readWord : ByteArray := prog_12_method_5_code
def yX10_readWord : MethodName := ⟨RX10, "readWord", "()V"⟩
abbrev cX10_readNumber : ByteArray := prog_12_method_6_code
def yX10_readNumber : MethodName := ⟨RX10, "readNumber", "(I)V"⟩
abbrev cX10_readHex : ByteArray := prog_12_method_7_code
def yX10_readHex : MethodName := ⟨RX10, "readHex", "()Z"⟩
abbrev cX10_readDecimal : ByteArray := prog_12_method_8_code
def yX10_readDecimal : MethodName := ⟨RX10, "readDecimal", "(Z)Z"⟩
abbrev cX10_hexDigit : ByteArray := prog_12_method_9_code
def yX10_hexDigit : MethodName := ⟨RX10, "hexDigit", "(I)I"⟩
abbrev cX10_isLetter : ByteArray := prog_12_method_10_code
def yX10_isLetter : MethodName := ⟨RX10, "isLetter", "(I)Z"⟩
abbrev cX10_isDigit : ByteArray := prog_12_method_11_code
def yX10_isDigit : MethodName := ⟨RX10, "isDigit", "(I)Z"⟩
def RX11 : String := "ShadeBench"
def TX11 : u_T := fun k => match k with
  | 0 => ("ShadeBench", "tape", "[I", true)
  | 1 => ("ShadeBench", "tapeLength", "I", false)
  | 2 => ("ShadeBench", "assembler", "LShadeBench$Assembler;", true)
  | 3 => ("ShadeBench", "program", "LShadeBench$Program;", false)
  | 4 => ("ShadeBench", "spare", "LShadeBench$Program;", false)
  | 5 => ("ShadeBench", "loaded", "Z", false)
  | 6 => ("ShadeBench", "machine", "LShadeBench$Machine;", true)
  | 7 => ("ShadeBench", "shadow", "LShadeBench$Machine;", true)
  | _ => ("ShadeBench", "stepsLeft", "I", false)
def tyX11 : Nat → FieldType := fun k => match k with
  | 0 => .array .int
  | 1 => .int
  | 2 => .object "ShadeBench$Assembler"
  | 3 => .object "ShadeBench$Program"
  | 4 => .object "ShadeBench$Program"
  | 5 => .boolean
  | 6 => .object "ShadeBench$Machine"
  | 7 => .object "ShadeBench$Machine"
  | _ => .int
theorem nmX11 : ∀ a, a < 9 → ∀ b, b < 9 → a ≠ b → (TX11 a).2.1 ≠ (TX11 b).2.1 := by decide +kernel
theorem tyX11_ok : ∀ k, k < 9 → parseFieldDescriptor (TX11 k).2.2.1 = some (tyX11 k) := by decide +kernel
abbrev cX11_init : ByteArray := prog_1_method_1_code
def yX11_init : MethodName := ⟨RX11, "<init>", "()V"⟩
abbrev cX11_feed : ByteArray := prog_1_method_2_code
def yX11_feed : MethodName := ⟨RX11, "feed", "(IIIII)I"⟩
abbrev cX11_layOnTape : ByteArray := prog_1_method_3_code
def yX11_layOnTape : MethodName := ⟨RX11, "layOnTape", "(I)V"⟩
abbrev cX11_end : ByteArray := prog_1_method_4_code
def yX11_end : MethodName := ⟨RX11, "end", "(I)I"⟩
abbrev cX11_assemble : ByteArray := prog_1_method_5_code
def yX11_assemble : MethodName := ⟨RX11, "assemble", "()I"⟩
abbrev cX11_fault : ByteArray := prog_1_method_6_code
def yX11_fault : MethodName := ⟨RX11, "fault", "(I)I"⟩
abbrev cX11_begin : ByteArray := prog_1_method_7_code
def yX11_begin : MethodName := ⟨RX11, "begin", "(II)Z"⟩
abbrev cX11_input : ByteArray := prog_1_method_8_code
def yX11_input : MethodName := ⟨RX11, "input", "(I)I"⟩
abbrev cX11_suppress : ByteArray := prog_1_method_9_code
def yX11_suppress : MethodName := ⟨RX11, "suppress", "(III)I"⟩
abbrev cX11_run : ByteArray := prog_1_method_10_code
def yX11_run : MethodName := ⟨RX11, "run", "(I)I"⟩
abbrev cX11_state : ByteArray := prog_1_method_11_code
def yX11_state : MethodName := ⟨RX11, "state", "(I)I"⟩
abbrev cX11_register : ByteArray := prog_1_method_12_code
def yX11_register : MethodName := ⟨RX11, "register", "(II)I"⟩
abbrev cX11_memory : ByteArray := prog_1_method_13_code
def yX11_memory : MethodName := ⟨RX11, "memory", "(II)I"⟩
abbrev cX11_report : ByteArray := prog_1_method_14_code
def yX11_report : MethodName := ⟨RX11, "report", "(II)I"⟩
abbrev cX11_output : ByteArray := prog_1_method_15_code
def yX11_output : MethodName := ⟨RX11, "output", "(I)I"⟩
abbrev cX11_block : ByteArray := prog_1_method_16_code
def yX11_block : MethodName := ⟨RX11, "block", "(II)I"⟩
abbrev cX11_twin : ByteArray := prog_1_method_17_code
def yX11_twin : MethodName := ⟨RX11, "twin", "(I)I"⟩
def RX12 : String := "ShadeBenchModel"
def TX12 : u_T := fun k => match k with
  | 0 => ("ShadeBenchModel", "tape", "[B", true)
  | 1 => ("ShadeBenchModel", "taped", "I", false)
  | 2 => ("ShadeBenchModel", "text", "[B", true)
  | 3 => ("ShadeBenchModel", "size", "I", false)
  | 4 => ("ShadeBenchModel", "op", "[I", true)
  | 5 => ("ShadeBenchModel", "isReg", "[Z", true)
  | 6 => ("ShadeBenchModel", "operand", "[I", true)
  | 7 => ("ShadeBenchModel", "labelAt", "[I", true)
  | 8 => ("ShadeBenchModel", "labelSize", "[I", true)
  | 9 => ("ShadeBenchModel", "labelTo", "[I", true)
  | 10 => ("ShadeBenchModel", "useAt", "[I", true)
  | 11 => ("ShadeBenchModel", "useSize", "[I", true)
  | 12 => ("ShadeBenchModel", "useLine", "[I", true)
  | 13 => ("ShadeBenchModel", "useOrder", "[I", true)
  | 14 => ("ShadeBenchModel", "bank", "I", false)
  | 15 => ("ShadeBenchModel", "orders", "I", false)
  | 16 => ("ShadeBenchModel", "standing", "I", false)
  | 17 => ("ShadeBenchModel", "labels", "I", false)
  | 18 => ("ShadeBenchModel", "uses", "I", false)
  | 19 => ("ShadeBenchModel", "hasProgram", "Z", false)
  | 20 => ("ShadeBenchModel", "faultKind", "I", false)
  | 21 => ("ShadeBenchModel", "faultPlace", "I", false)
  | 22 => ("ShadeBenchModel", "faultLine", "I", false)
  | 23 => ("ShadeBenchModel", "line", "I", false)
  | 24 => ("ShadeBenchModel", "token", "I", false)
  | 25 => ("ShadeBenchModel", "at", "I", false)
  | 26 => ("ShadeBenchModel", "end", "I", false)
  | 27 => ("ShadeBenchModel", "number", "I", false)
  | 28 => ("ShadeBenchModel", "z", "I", false)
  | 29 => ("ShadeBenchModel", "mode", "I", false)
  | 30 => ("ShadeBenchModel", "regV", "[I", true)
  | 31 => ("ShadeBenchModel", "regS", "[I", true)
  | 32 => ("ShadeBenchModel", "regO", "[I", true)
  | 33 => ("ShadeBenchModel", "memV", "[I", true)
  | 34 => ("ShadeBenchModel", "memS", "[I", true)
  | 35 => ("ShadeBenchModel", "memO", "[I", true)
  | 36 => ("ShadeBenchModel", "isOpen", "[Z", true)
  | 37 => ("ShadeBenchModel", "pc", "[I", true)
  | 38 => ("ShadeBenchModel", "ended", "[I", true)
  | 39 => ("ShadeBenchModel", "steps", "[I", true)
  | 40 => ("ShadeBenchModel", "mark", "[I", true)
  | 41 => ("ShadeBenchModel", "seed", "[I", true)
  | 42 => ("ShadeBenchModel", "kept", "[I", true)
  | 43 => ("ShadeBenchModel", "keptMany", "[I", true)
  | 44 => ("ShadeBenchModel", "inputAt", "[I", true)
  | 45 => ("ShadeBenchModel", "bAt", "[I", true)
  | 46 => ("ShadeBenchModel", "bSize", "[I", true)
  | 47 => ("ShadeBenchModel", "bState", "[I", true)
  | 48 => ("ShadeBenchModel", "bMade", "[I", true)
  | 49 => ("ShadeBenchModel", "bFreed", "[I", true)
  | 50 => ("ShadeBenchModel", "bTurn", "[I", true)
  | 51 => ("ShadeBenchModel", "blocks", "[I", true)
  | 52 => ("ShadeBenchModel", "turns", "[I", true)
  | 53 => ("ShadeBenchModel", "input", "[I", true)
  | 54 => ("ShadeBenchModel", "output", "[I", true)
  | 55 => ("ShadeBenchModel", "inputs", "I", false)
  | 56 => ("ShadeBenchModel", "outputs", "I", false)
  | 57 => ("ShadeBenchModel", "rKind", "[I", true)
  | 58 => ("ShadeBenchModel", "rOrder", "[I", true)
  | 59 => ("ShadeBenchModel", "rOrigin", "[I", true)
  | 60 => ("ShadeBenchModel", "rCount", "[I", true)
  | 61 => ("ShadeBenchModel", "reports", "I", false)
  | 62 => ("ShadeBenchModel", "reported", "I", false)
  | 63 => ("ShadeBenchModel", "suppressed", "I", false)
  | 64 => ("ShadeBenchModel", "isQuiet", "Z", false)
  | 65 => ("ShadeBenchModel", "sKind", "[I", true)
  | 66 => ("ShadeBenchModel", "sFrom", "[I", true)
  | 67 => ("ShadeBenchModel", "sTo", "[I", true)
  | 68 => ("ShadeBenchModel", "suppressions", "I", false)
  | 69 => ("ShadeBenchModel", "its", "I", false)
  | 70 => ("ShadeBenchModel", "someV", "[I", true)
  | 71 => ("ShadeBenchModel", "someS", "[I", true)
  | 72 => ("ShadeBenchModel", "someO", "[I", true)
  | 73 => ("ShadeBenchModel", "spent", "I", false)
  | _ => ("ShadeBenchModel", "lost", "[I", true)
def tyX12 : Nat → FieldType := fun k => match k with
  | 0 => .array .byte
  | 1 => .int
  | 2 => .array .byte
  | 3 => .int
  | 4 => .array .int
  | 5 => .array .boolean
  | 6 => .array .int
  | 7 => .array .int
  | 8 => .array .int
  | 9 => .array .int
  | 10 => .array .int
  | 11 => .array .int
  | 12 => .array .int
  | 13 => .array .int
  | 14 => .int
  | 15 => .int
  | 16 => .int
  | 17 => .int
  | 18 => .int
  | 19 => .boolean
  | 20 => .int
  | 21 => .int
  | 22 => .int
  | 23 => .int
  | 24 => .int
  | 25 => .int
  | 26 => .int
  | 27 => .int
  | 28 => .int
  | 29 => .int
  | 30 => .array .int
  | 31 => .array .int
  | 32 => .array .int
  | 33 => .array .int
  | 34 => .array .int
  | 35 => .array .int
  | 36 => .array .boolean
  | 37 => .array .int
  | 38 => .array .int
  | 39 => .array .int
  | 40 => .array .int
  | 41 => .array .int
  | 42 => .array .int
  | 43 => .array .int
  | 44 => .array .int
  | 45 => .array .int
  | 46 => .array .int
  | 47 => .array .int
  | 48 => .array .int
  | 49 => .array .int
  | 50 => .array .int
  | 51 => .array .int
  | 52 => .array .int
  | 53 => .array .int
  | 54 => .array .int
  | 55 => .int
  | 56 => .int
  | 57 => .array .int
  | 58 => .array .int
  | 59 => .array .int
  | 60 => .array .int
  | 61 => .int
  | 62 => .int
  | 63 => .int
  | 64 => .boolean
  | 65 => .array .int
  | 66 => .array .int
  | 67 => .array .int
  | 68 => .int
  | 69 => .int
  | 70 => .array .int
  | 71 => .array .int
  | 72 => .array .int
  | 73 => .int
  | _ => .array .int
theorem nmX12 : ∀ a, a < 75 → ∀ b, b < 75 → a ≠ b → (TX12 a).2.1 ≠ (TX12 b).2.1 := by decide +kernel
theorem tyX12_ok : ∀ k, k < 75 → parseFieldDescriptor (TX12 k).2.2.1 = some (tyX12 k) := by decide +kernel
abbrev cX12_init : ByteArray := prog_14_method_1_code
def yX12_init : MethodName := ⟨RX12, "<init>", "()V"⟩
abbrev cX12_name : ByteArray := prog_14_method_2_code
def yX12_name : MethodName := ⟨RX12, "name", "(I)J"⟩
abbrev cX12_lateName : ByteArray := prog_14_method_3_code
def yX12_lateName : MethodName := ⟨RX12, "lateName", "(I)J"⟩
abbrev cX12_form : ByteArray := prog_14_method_4_code
def yX12_form : MethodName := ⟨RX12, "form", "(I)I"⟩
abbrev cX12_sign : ByteArray := prog_14_method_5_code
def yX12_sign : MethodName := ⟨RX12, "sign", "(I)I"⟩
abbrev cX12_fails : ByteArray := prog_14_method_6_code
def yX12_fails : MethodName := ⟨RX12, "fails", "(II)Z"⟩
abbrev cX12_isLetter : ByteArray := prog_14_method_7_code
def yX12_isLetter : MethodName := ⟨RX12, "isLetter", "(I)Z"⟩
abbrev cX12_isDigit : ByteArray := prog_14_method_8_code
def yX12_isDigit : MethodName := ⟨RX12, "isDigit", "(I)Z"⟩
abbrev cX12_isWordSign : ByteArray := prog_14_method_9_code
def yX12_isWordSign : MethodName := ⟨RX12, "isWordSign", "(I)Z"⟩
abbrev cX12_next : ByteArray := prog_14_method_10_code
def yX12_next : MethodName := ⟨RX12, "next", "()V"⟩
abbrev cX12_nextNumber : ByteArray := prog_14_method_11_code
def yX12_nextNumber : MethodName := ⟨RX12, "nextNumber", "(Z)V"⟩
abbrev cX12_wrong : ByteArray := prog_14_method_12_code
def yX12_wrong : MethodName := ⟨RX12, "wrong", "()Z"⟩
abbrev cX12_instruction : ByteArray := prog_14_method_13_code
def yX12_instruction : MethodName := ⟨RX12, "instruction", "()I"⟩
abbrev cX12_named : ByteArray := prog_14_method_14_code
def yX12_named : MethodName := ⟨RX12, "named", "()I"⟩
abbrev cX12_isSame : ByteArray := prog_14_method_15_code
def yX12_isSame : MethodName := ⟨RX12, "isSame", "(IIII)Z"⟩
abbrev cX12_labelOf : ByteArray := prog_14_method_16_code
def yX12_labelOf : MethodName := ⟨RX12, "labelOf", "(II)I"⟩
abbrev cX12_readLine : ByteArray := prog_14_method_17_code
def yX12_readLine : MethodName := ⟨RX12, "readLine", "()V"⟩
abbrev cX12_readOrder : ByteArray := prog_14_method_18_code
def yX12_readOrder : MethodName := ⟨RX12, "readOrder", "(I)V"⟩
abbrev cX12_readOperand : ByteArray := prog_14_method_19_code
def yX12_readOperand : MethodName := ⟨RX12, "readOperand", "(II)V"⟩
abbrev cX12_tooMuch : ByteArray := prog_14_method_20_code
def yX12_tooMuch : MethodName := ⟨RX12, "tooMuch", "()I"⟩
abbrev cX12_assemble : ByteArray := prog_14_method_21_code
def yX12_assemble : MethodName := ⟨RX12, "assemble", "()I"⟩
abbrev cX12_fault : ByteArray := prog_14_method_22_code
def yX12_fault : MethodName := ⟨RX12, "fault", "(I)I"⟩
abbrev cX12_start : ByteArray := prog_14_method_23_code
def yX12_start : MethodName := ⟨RX12, "start", "(III)V"⟩
abbrev cX12_drawn : ByteArray := prog_14_method_24_code
def yX12_drawn : MethodName := ⟨RX12, "drawn", "()I"⟩
abbrev cX12_unset : ByteArray := prog_14_method_25_code
def yX12_unset : MethodName := ⟨RX12, "unset", "(II)V"⟩
abbrev cX12_told : ByteArray := prog_14_method_26_code
def yX12_told : MethodName := ⟨RX12, "told", "(II)V"⟩
abbrev cX12_trap : ByteArray := prog_14_method_27_code
def yX12_trap : MethodName := ⟨RX12, "trap", "(I)V"⟩
abbrev cX12_value : ByteArray := prog_14_method_28_code
def yX12_value : MethodName := ⟨RX12, "value", "(I)I"⟩
abbrev cX12_shade : ByteArray := prog_14_method_29_code
def yX12_shade : MethodName := ⟨RX12, "shade", "(I)I"⟩
abbrev cX12_origin : ByteArray := prog_14_method_30_code
def yX12_origin : MethodName := ⟨RX12, "origin", "(I)I"⟩
abbrev cX12_originOf : ByteArray := prog_14_method_31_code
def yX12_originOf : MethodName := ⟨RX12, "originOf", "(IIII)I"⟩
abbrev cX12_give : ByteArray := prog_14_method_32_code
def yX12_give : MethodName := ⟨RX12, "give", "(IIII)V"⟩
abbrev cX12_left : ByteArray := prog_14_method_33_code
def yX12_left : MethodName := ⟨RX12, "left", "(I)I"⟩
abbrev cX12_any : ByteArray := prog_14_method_34_code
def yX12_any : MethodName := ⟨RX12, "any", "(I)I"⟩
abbrev cX12_below : ByteArray := prog_14_method_35_code
def yX12_below : MethodName := ⟨RX12, "below", "(II)Z"⟩
abbrev cX12_equalShade : ByteArray := prog_14_method_36_code
def yX12_equalShade : MethodName := ⟨RX12, "equalShade", "(IIII)I"⟩
abbrev cX12_lessShade : ByteArray := prog_14_method_37_code
def yX12_lessShade : MethodName := ⟨RX12, "lessShade", "(IIIIZ)I"⟩
abbrev cX12_shifted : ByteArray := prog_14_method_38_code
def yX12_shifted : MethodName := ⟨RX12, "shifted", "(III)I"⟩
abbrev cX12_made : ByteArray := prog_14_method_39_code
def yX12_made : MethodName := ⟨RX12, "made", "(III)I"⟩
abbrev cX12_shadeOf : ByteArray := prog_14_method_40_code
def yX12_shadeOf : MethodName := ⟨RX12, "shadeOf", "(IIIII)I"⟩
abbrev cX12_reckon : ByteArray := prog_14_method_41_code
def yX12_reckon : MethodName := ⟨RX12, "reckon", "(II)V"⟩
abbrev cX12_single : ByteArray := prog_14_method_42_code
def yX12_single : MethodName := ⟨RX12, "single", "(II)V"⟩
abbrev cX12_isThere : ByteArray := prog_14_method_43_code
def yX12_isThere : MethodName := ⟨RX12, "isThere", "(I)Z"⟩
abbrev cX12_up8 : ByteArray := prog_14_method_44_code
def yX12_up8 : MethodName := ⟨RX12, "up8", "(I)I"⟩
abbrev cX12_blockAt : ByteArray := prog_14_method_45_code
def yX12_blockAt : MethodName := ⟨RX12, "blockAt", "(I)I"⟩
abbrev cX12_areThere : ByteArray := prog_14_method_46_code
def yX12_areThere : MethodName := ⟨RX12, "areThere", "(II)Z"⟩
abbrev cX12_load : ByteArray := prog_14_method_47_code
def yX12_load : MethodName := ⟨RX12, "load", "(IIIZ)V"⟩
abbrev cX12_store : ByteArray := prog_14_method_48_code
def yX12_store : MethodName := ⟨RX12, "store", "(IIIII)V"⟩
abbrev cX12_reach : ByteArray := prog_14_method_49_code
def yX12_reach : MethodName := ⟨RX12, "reach", "(II)V"⟩
abbrev cX12_branch : ByteArray := prog_14_method_50_code
def yX12_branch : MethodName := ⟨RX12, "branch", "(II)V"⟩
abbrev cX12_push : ByteArray := prog_14_method_51_code
def yX12_push : MethodName := ⟨RX12, "push", "(I)V"⟩
abbrev cX12_pop : ByteArray := prog_14_method_52_code
def yX12_pop : MethodName := ⟨RX12, "pop", "(I)V"⟩
abbrev cX12_call : ByteArray := prog_14_method_53_code
def yX12_call : MethodName := ⟨RX12, "call", "(I)V"⟩
abbrev cX12_copy : ByteArray := prog_14_method_54_code
def yX12_copy : MethodName := ⟨RX12, "copy", "(I)V"⟩
abbrev cX12_move : ByteArray := prog_14_method_55_code
def yX12_move : MethodName := ⟨RX12, "move", "(III)V"⟩
abbrev cX12_fill : ByteArray := prog_14_method_56_code
def yX12_fill : MethodName := ⟨RX12, "fill", "(I)V"⟩
abbrev cX12_areIn : ByteArray := prog_14_method_57_code
def yX12_areIn : MethodName := ⟨RX12, "areIn", "(II)Z"⟩
abbrev cX12_marked : ByteArray := prog_14_method_58_code
def yX12_marked : MethodName := ⟨RX12, "marked", "(I)V"⟩
abbrev cX12_look : ByteArray := prog_14_method_59_code
def yX12_look : MethodName := ⟨RX12, "look", "(I)V"⟩
abbrev cX12_blockOf : ByteArray := prog_14_method_60_code
def yX12_blockOf : MethodName := ⟨RX12, "blockOf", "(I)I"⟩
abbrev cX12_newBlock : ByteArray := prog_14_method_61_code
def yX12_newBlock : MethodName := ⟨RX12, "newBlock", "(IZ)V"⟩
abbrev cX12_inUse : ByteArray := prog_14_method_62_code
def yX12_inUse : MethodName := ⟨RX12, "inUse", "(I)I"⟩
abbrev cX12_freed : ByteArray := prog_14_method_63_code
def yX12_freed : MethodName := ⟨RX12, "freed", "(I)V"⟩
abbrev cX12_free : ByteArray := prog_14_method_64_code
def yX12_free : MethodName := ⟨RX12, "free", "(I)V"⟩
abbrev cX12_grow : ByteArray := prog_14_method_65_code
def yX12_grow : MethodName := ⟨RX12, "grow", "(I)V"⟩
abbrev cX12_step : ByteArray := prog_14_method_66_code
def yX12_step : MethodName := ⟨RX12, "step", "()V"⟩
abbrev cX12_act : ByteArray := prog_14_method_67_code
def yX12_act : MethodName := ⟨RX12, "act", "(II)V"⟩
abbrev cX12_spend : ByteArray := prog_14_method_68_code
def yX12_spend : MethodName := ⟨RX12, "spend", "(I)I"⟩
abbrev cX12_go : ByteArray := prog_14_method_69_code
def yX12_go : MethodName := ⟨RX12, "go", "(I)I"⟩
abbrev cX12_isPointer : ByteArray := prog_14_method_70_code
def yX12_isPointer : MethodName := ⟨RX12, "isPointer", "(I)Z"⟩
abbrev cX12_word : ByteArray := prog_14_method_71_code
def yX12_word : MethodName := ⟨RX12, "word", "(I)I"⟩
abbrev cX12_leads : ByteArray := prog_14_method_72_code
def yX12_leads : MethodName := ⟨RX12, "leads", "(IIZ)Z"⟩
abbrev cX12_leadsFromRange : ByteArray := prog_14_method_73_code
def yX12_leadsFromRange : MethodName := ⟨RX12, "leadsFromRange", "(IIIZ)Z"⟩
abbrev cX12_leadsFromRoots : ByteArray := prog_14_method_74_code
def yX12_leadsFromRoots : MethodName := ⟨RX12, "leadsFromRoots", "(IZ)Z"⟩
abbrev cX12_leadsFromBlock : ByteArray := prog_14_method_75_code
def yX12_leadsFromBlock : MethodName := ⟨RX12, "leadsFromBlock", "(IIZ)Z"⟩
abbrev cX12_findLost : ByteArray := prog_14_method_76_code
def yX12_findLost : MethodName := ⟨RX12, "findLost", "()V"⟩
abbrev cX12_reached : ByteArray := prog_14_method_77_code
def yX12_reached : MethodName := ⟨RX12, "reached", "(II)Z"⟩
abbrev cX12_feed : ByteArray := prog_14_method_78_code
def yX12_feed : MethodName := ⟨RX12, "feed", "(IIIII)I"⟩
abbrev cX12_end : ByteArray := prog_14_method_79_code
def yX12_end : MethodName := ⟨RX12, "end", "(I)I"⟩
abbrev cX12_begin : ByteArray := prog_14_method_80_code
def yX12_begin : MethodName := ⟨RX12, "begin", "(II)Z"⟩
abbrev cX12_input : ByteArray := prog_14_method_81_code
def yX12_input : MethodName := ⟨RX12, "input", "(I)I"⟩
abbrev cX12_suppress : ByteArray := prog_14_method_82_code
def yX12_suppress : MethodName := ⟨RX12, "suppress", "(III)I"⟩
abbrev cX12_run : ByteArray := prog_14_method_83_code
def yX12_run : MethodName := ⟨RX12, "run", "(I)I"⟩
abbrev cX12_state : ByteArray := prog_14_method_84_code
def yX12_state : MethodName := ⟨RX12, "state", "(I)I"⟩
abbrev cX12_register : ByteArray := prog_14_method_85_code
def yX12_register : MethodName := ⟨RX12, "register", "(II)I"⟩
abbrev cX12_memory : ByteArray := prog_14_method_86_code
def yX12_memory : MethodName := ⟨RX12, "memory", "(II)I"⟩
abbrev cX12_report : ByteArray := prog_14_method_87_code
def yX12_report : MethodName := ⟨RX12, "report", "(II)I"⟩
abbrev cX12_output : ByteArray := prog_14_method_88_code
def yX12_output : MethodName := ⟨RX12, "output", "(I)I"⟩
abbrev cX12_block : ByteArray := prog_14_method_89_code
def yX12_block : MethodName := ⟨RX12, "block", "(II)I"⟩
abbrev cX12_twin : ByteArray := prog_14_method_90_code
def yX12_twin : MethodName := ⟨RX12, "twin", "(I)I"⟩
def RJ9 : String := "java/lang/Math"
def TJ9 : u_T := fun k => match k with
  | _ => ("", "", "", false)
def tyJ9 : Nat → FieldType := fun k => match k with
  | _ => .int
theorem nmJ9 : ∀ a, a < 0 → ∀ b, b < 0 → a ≠ b → (TJ9 a).2.1 ≠ (TJ9 b).2.1 := by decide +kernel
theorem tyJ9_ok : ∀ k, k < 0 → parseFieldDescriptor (TJ9 k).2.2.1 = some (tyJ9 k) := by decide +kernel
abbrev cJ9_max_7cf53 : ByteArray := prog_15_method_65_code
def yJ9_max_7cf53 : MethodName := ⟨RJ9, "max", "(II)I"⟩
abbrev cJ9_min_7cf53 : ByteArray := prog_15_method_69_code
def yJ9_min_7cf53 : MethodName := ⟨RJ9, "min", "(II)I"⟩
def RJ0 : String := "java/lang/String"
def TJ0 : u_T := fun k => match k with
  | _ => ("", "", "", false)
def tyJ0 : Nat → FieldType := fun k => match k with
  | _ => .int
theorem nmJ0 : ∀ a, a < 0 → ∀ b, b < 0 → a ≠ b → (TJ0 a).2.1 ≠ (TJ0 b).2.1 := by decide +kernel
theorem tyJ0_ok : ∀ k, k < 0 → parseFieldDescriptor (TJ0 k).2.2.1 = some (tyJ0 k) := by decide +kernel
abbrev cJ0_length_8abf5 : ByteArray := prog_16_method_54_code
def yJ0_length_8abf5 : MethodName := ⟨RJ0, "length", "()I"⟩
abbrev cJ0_charAt_5068e : ByteArray := prog_16_method_56_code
def yJ0_charAt_5068e : MethodName := ⟨RJ0, "charAt", "(I)C"⟩
abbrev cJ0_coder_7d493 : ByteArray := prog_16_method_152_code
def yJ0_coder_7d493 : MethodName := ⟨RJ0, "coder", "()B"⟩
abbrev cJ0_isLatin1_aae02 : ByteArray := prog_16_method_154_code
def yJ0_isLatin1_aae02 : MethodName := ⟨RJ0, "isLatin1", "()Z"⟩
abbrev cJ0_checkIndex_df160 : ByteArray := prog_16_method_155_code
def yJ0_checkIndex_df160 : MethodName := ⟨RJ0, "checkIndex", "(II)V"⟩
def RJ1 : String := "java/lang/StringLatin1"
def TJ1 : u_T := fun k => match k with
  | _ => ("", "", "", false)
def tyJ1 : Nat → FieldType := fun k => match k with
  | _ => .int
theorem nmJ1 : ∀ a, a < 0 → ∀ b, b < 0 → a ≠ b → (TJ1 a).2.1 ≠ (TJ1 b).2.1 := by decide +kernel
theorem tyJ1_ok : ∀ k, k < 0 → parseFieldDescriptor (TJ1 k).2.2.1 = some (tyJ1 k) := by decide +kernel
abbrev cJ1_charAt_3b067 : ByteArray := prog_17_method_2_code
def yJ1_charAt_3b067 : MethodName := ⟨RJ1, "charAt", "([BI)C"⟩
def RJ2 : String := "java/lang/StringUTF16"
def TJ2 : u_T := fun k => match k with
  | _ => ("", "", "", false)
def tyJ2 : Nat → FieldType := fun k => match k with
  | _ => .int
theorem nmJ2 : ∀ a, a < 0 → ∀ b, b < 0 → a ≠ b → (TJ2 a).2.1 ≠ (TJ2 b).2.1 := by decide +kernel
theorem tyJ2_ok : ∀ k, k < 0 → parseFieldDescriptor (TJ2 k).2.2.1 = some (tyJ2 k) := by decide +kernel
abbrev cJ2_getChar_3b067 : ByteArray := prog_18_method_5_code
def yJ2_getChar_3b067 : MethodName := ⟨RJ2, "getChar", "([BI)C"⟩
abbrev cJ2_length_9d52b : ByteArray := prog_18_method_6_code
def yJ2_length_9d52b : MethodName := ⟨RJ2, "length", "([B)I"⟩
abbrev cJ2_charAt_3b067 : ByteArray := prog_18_method_83_code
def yJ2_charAt_3b067 : MethodName := ⟨RJ2, "charAt", "([BI)C"⟩
abbrev cJ2_checkIndex_2214a : ByteArray := prog_18_method_91_code
def yJ2_checkIndex_2214a : MethodName := ⟨RJ2, "checkIndex", "(I[B)V"⟩
def RJ10 : String := "java/lang/System"
def TJ10 : u_T := fun k => match k with
  | _ => ("", "", "", false)
def tyJ10 : Nat → FieldType := fun k => match k with
  | _ => .int
theorem nmJ10 : ∀ a, a < 0 → ∀ b, b < 0 → a ≠ b → (TJ10 a).2.1 ≠ (TJ10 b).2.1 := by decide +kernel
theorem tyJ10_ok : ∀ k, k < 0 → parseFieldDescriptor (TJ10 k).2.2.1 = some (tyJ10 k) := by decide +kernel
def RJ3 : String := "jdk/internal/util/Preconditions"
def TJ3 : u_T := fun k => match k with
  | _ => ("", "", "", false)
def tyJ3 : Nat → FieldType := fun k => match k with
  | _ => .int
theorem nmJ3 : ∀ a, a < 0 → ∀ b, b < 0 → a ≠ b → (TJ3 a).2.1 ≠ (TJ3 b).2.1 := by decide +kernel
theorem tyJ3_ok : ∀ k, k < 0 → parseFieldDescriptor (TJ3 k).2.2.1 = some (tyJ3 k) := by decide +kernel
abbrev cJ3_checkIndex_8e157 : ByteArray := prog_20_method_11_code
def yJ3_checkIndex_8e157 : MethodName := ⟨RJ3, "checkIndex", "(IILjava/util/function/BiFunction;)I"⟩
def RL : String := "ShadeBenchLaw"
abbrev cL_law : ByteArray := code
def yL_law : MethodName := ⟨RL, "law", "([I)Z"⟩
abbrev vwCl : List vw_C := [(RX0, TX0, 13), (RX1, TX1, 3), (RX2, TX2, 11), (RX3, TX3, 3), (RX4, TX4, 11), (RX5, TX5, 19), (RX6, TX6, 6), (RX8, TX8, 6), (RX10, TX10, 7), (RX11, TX11, 9), (RX12, TX12, 75)]
